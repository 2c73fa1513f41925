-- The law's own small methods
section Law1
variable {M : jM} {s : jT} {t : Int} {K : Int → jM → Prop} {V : jM → Prop}
theorem l_spoils {k f g : Int} (hk : 0 ≤ k ∧ k ≤ 5) (hf : 0 ≤ f ∧ f ≤ 9) (hg : 0 ≤ g ∧ g ≤ 5) (h : K (sp k g) M) : jCall 79 [jI (k + 10 * f), jI g] M (jqi K) := by
  refine vL_spoils ⟨⟨by omega, by decide⟩, ?_⟩
  have e : (k + 10 * f) % 10 = k := by omega
  rw [e]
  have fin : ∀ v, v = sp k g → jAt 79 58 [none, none, none, none] [jI v] M (jqi K) := fun v hv => vL_spoils_58 (by rw [hv]; exact qi_ h)
  have f1 : 1 = sp k g → jAt 79 57 [none, none, none, none] [] M (jqi K) := fun hv => vL_spoils_57 (fin 1 hv)
  refine jite (fun c => ?_) (fun c => ?_)
  all_goals refine vL_spoils_15 (jite (fun c0 => jite (fun c1 => jite (fun c3 => jite (fun c4 => f1 ?_) (fun c4 => jite (fun c5 => f1 ?_) (fun c5 => fin _ ?_))) (fun c3 => ⟨jr_i (by decide), fin _ ?_⟩)) (fun c1 => fin _ ?_)) (fun c0 => fin _ ?_))
  all_goals (unfold sp; (repeat' split) <;> omega)
theorem l_customs {k f g : Int} (hk : 0 ≤ k ∧ k ≤ 5) (hf : 0 ≤ f ∧ f ≤ 9) (h : K (cu k f g) M) : jCall 80 [jI (k + 10 * f), jI g] M (jqi K) := by
  refine vL_customs ⟨⟨by omega, by decide⟩, ⟨by omega, by decide⟩, ?_⟩
  have e : (k + 10 * f) % 10 = k := by omega
  have e2 : (k + 10 * f) / 10 = f := by omega
  rw [e, e2]
  have last : ∀ a b, jor a b = cu k f g → jAt 80 74 [none, none, none, none, none] [jI b, jI a] M (jqi K) := fun a b hv => vL_customs_74 (by rw [hv]; exact qi_ h)
  have s27 : k = 3 ∨ k = 5 → jAt 80 27 [none, some (jI g), some (jI k), some (jI f), none] [jI (jshl 1 f)] M (jqi K) := by
    intro hk2
    have s41 : ∀ q, q = (f + 1) % 10 → jAt 80 41 [none, some (jI g), some (jI k), none, none] [jI q, jI 1, jI (jshl 1 f)] M (jqi K) := by
      intro q hq
      subst hq
      refine vL_customs_41 (vL_customs_46 (jite (fun c4 => jite (fun c5 => last _ _ ?_) (fun c5 => last _ _ ?_)) (fun c4 => by omega)))
      · obtain rfl : k = 3 := by omega
        unfold cu
        rw [if_pos rfl, jor_0 (jr_or _ _)]
      · obtain rfl : k = 5 := by omega
        unfold cu
        rw [if_neg (by decide), if_neg (by decide), if_pos rfl]
    exact vL_customs_27 (jite (fun c => ⟨jr_i (by omega), s41 _ (by omega)⟩) (fun c => s41 _ (by omega)))
  refine jite (fun c => s27 (Or.inl c)) (fun c => jite (fun c5 => ?_) (fun c5 => s27 (Or.inr (by omega))))
  refine vL_customs_46 (jite (fun c4 => jif1 c5 (last _ _ ?_)) (fun c4 => last _ _ ?_))
  · rw [jor_0 (jr_or _ _), jor_0 (jr_shl _ _)]
    unfold cu
    rw [if_neg c, if_neg c4, if_neg c5]
  · rw [jor_0 (jr_shl _ _)]
    unfold cu
    rw [if_neg c, if_pos (Decidable.not_not.mp c4)]
/-- the law's array v tells the larder s -/
def vR (M : jM) (s : jT) : Prop := M 2 0 0 28 = s 0 5 ∧ M 2 0 0 31 = s 0 6 ∧ ∀ j : Nat, (j : Int) < s 0 5 → M 2 0 0 j = s 1 j + 10 * s 2 j ∧ M 2 0 0 (9 + j) = s 3 j ∧ M 2 0 0 (18 + j) = s 4 j ∧ jand (jshr (M 2 0 0 27) (j : Int)) 1 = s 5 j
/-- the year and the hunger that it counts -/
def vB (M : jM) (y : Int) : Prop := (0 ≤ M 2 0 0 29 ∧ M 2 0 0 29 ≤ y) ∧ 0 ≤ M 2 0 0 30 ∧ M 2 0 0 30 ≤ 9999
theorem vR_j (V : vR M s) {j : Nat} (hj : (j : Int) < s 0 5) : M 2 0 0 (j : Int).toNat = s 1 j + 10 * s 2 j ∧ M 2 0 0 ((9 : Int) + (j : Int)).toNat = s 3 j ∧ M 2 0 0 ((18 : Int) + (j : Int)).toNat = s 4 j ∧ jand (jshr (M 2 0 0 (27 : Int).toNat) (j : Int)) 1 = s 5 j := by
  obtain ⟨a, b, c, d⟩ := V.2.2 j hj
  refine ⟨a, ?_, ?_, d⟩
  · rw [show ((9 : Int) + (j : Int)).toNat = 9 + j by omega]; exact b
  · rw [show ((18 : Int) + (j : Int)).toNat = 18 + j by omega]; exact c
theorem l_known (R : vR M s) (w : wf s) (h : K (kw s) M) : jCall 81 [jR 2 0 0, jI (-1)] M (jqi K) := by
  have w1 := w.1
  have hn := nj_n w
  have h9 := nj_9 w
  have e28 : M 2 0 0 (28 : Int).toNat = s 0 5 := R.1
  have b28 : 0 ≤ (28 : Int) ∧ (28 : Int) < ((64 : Nat) : Int) := ⟨by decide, by decide⟩
  refine vL_known ?_
  refine lp_n (X := fun j => jAt 81 4 [some (jR 2 0 0), some (jI (-1)), some (jI (kb s (-1) j)), some (jI (j : Int))] [] M (jqi K)) (nj s) ?_ ?_
  · refine vL_known_4 ⟨b28, ?_⟩
    rw [e28]
    exact jif1 (by omega) (qi_ h)
  · intro j hj ih
    have hj' := nj_lt hj
    have hq : jr ((j : Int) + 1) := jr_i (by omega)
    obtain ⟨g1, g2, g3, g4⟩ := vR_j R hj'
    have wj' := w.2.2.2 j hj'
    have hb : jand (jshr (-1) (j : Int)) 1 = 1 := by rw [hb_tb (by omega), if_pos (tb_m1 j (by omega))]
    rw [kb, if_pos (tb_m1 j (by omega))] at ih
    refine vL_known_4 ⟨b28, ?_⟩
    rw [e28]
    refine jif0 (by omega) (jif0 (fun q => q hb) ⟨jr_i (by omega), ⟨by omega, by omega⟩, ?_⟩)
    rw [g3]
    refine jite (fun c => vL_known_46 (vL_known_47 ⟨hq, ?_⟩)) (fun c => ⟨⟨by omega, by omega⟩, jr_i (by omega), ⟨by omega, by omega⟩, ?_⟩)
    · rw [kp_0 c] at ih; exact ih
    · rw [g1, g2]
      rw [kp_1 (by omega)] at ih
      exact l_customs wj'.1 wj'.2.1 (vL_known_47 ⟨hq, ih⟩)
theorem bt_all : (List.range 1024).all (fun n => Nat.beq n 0 || (decide (0 ≤ jand (n : Int) ((n : Int) - 1)) && decide (jand (n : Int) ((n : Int) - 1) < (n : Int)) && decide (jpc 10 (jand (n : Int) ((n : Int) - 1)) + 1 = jpc 10 (n : Int)))) = true := by decide +kernel
theorem bt_of {x : Int} (h : cs x) (h0 : ¬ x = 0) : 0 ≤ jand x (x - 1) ∧ jand x (x - 1) < x ∧ jpc 10 (jand x (x - 1)) + 1 = jpc 10 x := by
  obtain ⟨n, rfl⟩ := jnat h.1
  have q := List.all_eq_true.mp bt_all n (List.mem_range.mpr (by have := h.2; omega))
  rcases Bool.or_eq_true_iff.mp q with q | q
  · exact absurd (by rw [Nat.eq_of_beq_eq_true q]; rfl) h0
  · obtain ⟨q, q3⟩ := jand_t q
    obtain ⟨q1, q2⟩ := jand_t q
    exact ⟨of_decide_eq_true q1, of_decide_eq_true q2, of_decide_eq_true q3⟩
theorem l_bits {x : Int} (hx : cs x) (h : K (jpc 10 x) M) : jCall 84 [jI x] M (jqi K) := by
  have L : ∀ (n : Nat) (x a : Int), x < (n : Int) → cs x → 0 ≤ a → a + jpc 10 x ≤ 100 → K (a + jpc 10 x) M → jAt 84 4 [none, some (jI a), some (jI x)] [] M (jqi K) := by
    intro n
    induction n with
    | zero => intro x a hn hx; have := hx.1; omega
    | succ n ih =>
      intro x a hn hx ha hb hk
      have c10 := jc10 x
      refine vL_bits_4 (jite (fun c => qi_ ?_) (fun c => ⟨jr_i (by omega), jr_i (by have := hx.1; have := hx.2; omega), ?_⟩))
      · subst c
        have e : jpc 10 0 = 0 := by decide +kernel
        rw [e, Int.add_zero] at hk
        exact hk
      · obtain ⟨b1, b2, b3⟩ := bt_of hx c
        have hx2 := hx.2
        exact ih _ (a + 1) (by omega) ⟨b1, by omega⟩ (by omega) (by omega) (by rw [show a + 1 + jpc 10 (jand x (x - 1)) = a + jpc 10 x by omega]; exact hk)
  have c10 := jc10 x
  refine vL_bits (L 1024 x 0 (by have := hx.2; omega) hx (Int.le_refl _) (by omega) ?_)
  rw [Int.zero_add]
  exact h
theorem l_say (N : Nat) (hN : M 1 0 0 6 = (N : Int)) (h9 : N < 96) {x : Int} (hx : 0 ≤ x ∧ x ≤ 255) (h : ∀ M', M' 1 0 0 6 = ((N + 1 : Nat) : Int) → M' 1 0 1 N = x → (∀ k i c j, ¬ (k = 1 ∧ i = 0 ∧ c = 0 ∧ j = 6) → ¬ (k = 1 ∧ i = 0 ∧ c = 1 ∧ j = N) → M' k i c j = M k i c j) → K 1 M') : jCall 85 [jR 1 0 0, jI x] M (jqi K) :=
  vL_say (q1_letter N hN h9 hx (fun M' a b c => jif0 (by omega) (vL_say_13 ⟨jz1, qi_ (h M' a b c)⟩)))
-- what is seen of a larder, in one number
def sgc (s : jT) : Nat → Int
  | 0 => 7
  | k + 1 => jwrl (jwrl (31 * sgc s k) + cv s (k : Int))
def sgj (s : jT) (x : Int) (j : Nat) : Nat → Int
  | 0 => x
  | q + 1 => jwrl (jwrl (31 * sgj s x j q) + jv s j (q : Int))
def sgr (s : jT) : Nat → Int
  | 0 => sgc s 6
  | j + 1 => sgj s (sgr s j) j 7
def sg (s : jT) : Int := sgr s (nj s)
theorem l_sight {Z : Int → jM → Prop} (H : sim t M s) (h : Z (sg s) M) : jCall 88 [jR 1 0 0] M (jql Z) := by
  have w := H.2.1
  have w1 := w.1
  have hn := nj_n w
  refine vL_sight ?_
  have L := lp_n (X := fun k => jAt 88 6 [some (jR 1 0 0), some (jL (sgc s k)), none, some (jI (k : Int)), none] [] M (jql Z)) 6 ?_ ?_
  · exact L
  · refine vL_sight_6 (jif1 (by decide) ?_)
    have L2 := lp_n (X := fun j => jAt 88 33 [some (jR 1 0 0), some (jL (sgr s j)), none, some (jI (j : Int)), none] [] M (jql Z)) (nj s) ?_ ?_
    · exact L2
    · exact vL_sight_33 (q1_count H (by decide) (jif1 (by show s 0 5 ≤ _; omega) (ql_ h)))
    · intro j hj ih
      have hj' := nj_lt hj
      refine vL_sight_33 (q1_count H (by decide) (jif0 (by show ¬ s 0 5 ≤ _; omega) ?_))
      have L3 := lp_n (X := fun q => jAt 88 45 [some (jR 1 0 0), some (jL (sgj s (sgr s j) j q)), none, some (jI (j : Int)), some (jI (q : Int))] [] M (jql Z)) 7 ?_ ?_
      · exact L3
      · exact vL_sight_45 (jif1 (by decide) ⟨jr_i (by omega), ih⟩)
      · intro q hq ih2
        exact vL_sight_45 (jif0 (by omega) ⟨trivial, q1_jar H hj' (by omega) ⟨trivial, jr_i (by omega), ih2⟩⟩)
  · intro k hk ih
    exact vL_sight_6 (jif0 (by omega) ⟨trivial, q1_count H (by omega) ⟨trivial, jr_i (by omega), ih⟩⟩)
end Law1

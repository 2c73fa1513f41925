-- Calls, side by side: feast
theorem bc_hi {x : Int} {n : Nat} (h : ∀ i, n ≤ i → i < 32 → tb x i = false) : ∀ d, n + d ≤ 32 → bc x (n + d) = bc x n
  | 0, _ => rfl
  | d + 1, hd => by
    rw [show n + (d + 1) = (n + d) + 1 by omega, bc, hb_tb (by omega), h (n + d) (by omega) (by omega), bc_hi h d (by omega), if_neg (by decide)]
    omega
/-- SHUT ones; the others with FOOD -/
def sh (s : jT) : Int := bs (fun j => !decide (s 5 j = 0)) (nj s)
def oq (s : jT) : Int := jand (fd s) (jxor (sh s) (-1))
def vf (s : jT) (x : Int) : Nat → Int
  | 0 => 0
  | j + 1 => if s 5 j = 0 ∧ 0 < s 4 j then vf s x j + (s 4 j - (if tb x j = true then 0 else 1)) else vf s x j
def okb (s : jT) (x : Int) : Nat → Bool
  | 0 => decide (kb s (jand (((2 ^ nj s : Nat) : Int) - 1) (jxor x (-1))) (nj s) = kw s)
  | j + 1 => okb s x j && (!tb x j || decide (s 5 j = 0))
def fb (s : jT) : Nat → Int
  | 0 => 0
  | k + 1 => if okb s (k : Int) (nj s) = true then max (fb s k) (vf s (k : Int) (nj s)) else fb s k
theorem tb_sh {s : jT} (w : wf s) {j : Nat} (hj : j < 32) : tb (sh s) j = (decide (j < nj s) && !decide (s 5 j = 0)) := tb_bs _ _ (by have := nj_9 w; omega) j hj
theorem tb_oq {s : jT} (w : wf s) {j : Nat} (hj : j < 32) : tb (oq s) j = (decide (j < nj s) && (!decide (s 4 j ≤ 0) && decide (s 5 j = 0))) := by
  unfold oq
  rw [tb_and, tb_not _ hj, tb_fd w hj, tb_sh w hj]
  cases decide (j < nj s) <;> cases decide (s 5 j = 0) <;> simp
theorem cs_oq {s : jT} (w : wf s) : cs (oq s) := cs_and (cs_bs _ (by have := nj_9 w; omega)) _ (jr_xor _ _)
/-- those of the open ones that are not in a set -/
def om (s : jT) (x : Int) : Int := bs (fun j => tb (oq s) j && !tb x j) (nj s)
theorem tb_om {s : jT} (w : wf s) (x : Int) {j : Nat} (hj : j < 32) : tb (om s x) j = (decide (j < nj s) && (tb (oq s) j && !tb x j)) := tb_bs _ _ (by have := nj_9 w; omega) j hj
theorem vf_bc {s : jT} (w : wf s) (x : Int) : ∀ j, j ≤ nj s → vf s x j = fi s (oq s) j - bc (om s x) j
  | 0, _ => rfl
  | j + 1, h => by
    have ih := vf_bc w x j (by omega)
    have h9 := nj_9 w
    rw [vf, fi, bc, hb_tb (by omega), tb_om w x (by omega), tb_oq w (by omega), decide_eq_true (show j < nj s by omega), ih]
    by_cases c : s 5 j = 0 ∧ 0 < s 4 j
    · rw [if_pos c, decide_eq_true c.1, decide_eq_false (show ¬ s 4 j ≤ 0 by omega)]
      cases tb x j <;> simp <;> omega
    · rw [if_neg c]
      by_cases d : s 5 j = 0
      · rw [decide_eq_true (show s 4 j ≤ 0 by omega)]
        simp
      · rw [decide_eq_false d]
        simp
theorem vf_n {s : jT} (w : wf s) (x : Int) : vf s x (nj s) = fi s (oq s) (nj s) - jpc 10 (om s x) := by
  have h9 := nj_9 w
  have c : cs (om s x) := cs_bs _ (by omega)
  rw [vf_bc w x _ (Nat.le_refl _), ← bc_10 c]
  have := bc_hi (x := om s x) (n := nj s) (fun i h1 h2 => by rw [tb_om w x h2, decide_eq_false (by omega)]; rfl) (10 - nj s) (by omega)
  rw [show nj s + (10 - nj s) = 10 by omega] at this
  rw [this]
theorem vf_ge {s : jT} (x : Int) : ∀ j, 0 ≤ vf s x j
  | 0 => Int.le_refl 0
  | j + 1 => by
    have ih := vf_ge (s := s) x j
    rw [vf]
    split
    · rename_i c
      split <;> omega
    · exact ih
theorem okb_iff {s : jT} (x : Int) : ∀ j, okb s x j = true ↔ kb s (jand (((2 ^ nj s : Nat) : Int) - 1) (jxor x (-1))) (nj s) = kw s ∧ ∀ i, i < j → tb x i = true → s 5 i = 0
  | 0 => by
    rw [okb, decide_eq_true_eq]
    exact ⟨fun h => ⟨h, fun i hi => absurd hi (Nat.not_lt_zero i)⟩, fun h => h.1⟩
  | j + 1 => by
    rw [okb, Bool.and_eq_true, okb_iff x j, Bool.or_eq_true, decide_eq_true_eq]
    constructor
    · rintro ⟨⟨a, b⟩, c⟩
      refine ⟨a, fun i hi ht => ?_⟩
      by_cases z : i = j
      · subst z
        rcases c with c | c
        · rw [ht] at c; cases c
        · exact c
      · exact b i (by omega) ht
    · rintro ⟨a, b⟩
      refine ⟨⟨a, fun i hi => b i (by omega)⟩, ?_⟩
      cases q : tb x j
      · exact Or.inl rfl
      · exact Or.inr (b j (by omega) q)
theorem fb_is {s : jT} {B : Int} : ∀ N, 0 ≤ B → (∀ k : Nat, k < N → okb s (k : Int) (nj s) = true → vf s (k : Int) (nj s) ≤ B) → fb s N ≤ B
  | 0, h, _ => h
  | N + 1, h, h2 => by
    have ih := fb_is (s := s) N h (fun k hk => h2 k (by omega))
    rw [fb]
    split
    · rename_i c
      have := h2 N (by omega) c
      omega
    · exact ih
theorem fb_ge {s : jT} {k : Nat} (hv : okb s (k : Int) (nj s) = true) : ∀ N, k < N → vf s (k : Int) (nj s) ≤ fb s N
  | 0, h => absurd h (Nat.not_lt_zero k)
  | N + 1, h => by
    rw [fb]
    by_cases z : k = N
    · subst z
      rw [if_pos hv]; omega
    · have ih := fb_ge hv N (by omega)
      split <;> omega
/-- what the SHUT ones and a set of open ones keep, all of it or not -/
theorem feast_eq {s : jT} (w : wf s) : fb s (2 ^ nj s) = fi s (oq s) (nj s) - jpc 10 (fw s (oq s) (kb s (sh s) (nj s)) (2 ^ nj s)) := by
  have h9 := nj_9 w
  have hp := p2_9 h9
  have csm : ∀ q : Nat, q < 2 ^ nj s → cs (q : Int) := fun q hq => ⟨by omega, by omega⟩
  have tfull : ∀ (x : Int) (j : Nat), j < 32 → tb (jand (((2 ^ nj s : Nat) : Int) - 1) (jxor x (-1))) j = (decide (j < nj s) && !tb x j) := fun x j hj => by rw [tb_and, tb_full (by omega) hj, tb_not x hj]
  -- with the SHUT ones a set keeps all
  have keep : ∀ x : Int, jor (kb s (sh s) (nj s)) (kb s x (nj s)) = kw s ↔ ∀ c, c < 32 → ∀ j, j < nj s → tb (kp s j) c = true → ∃ i, i < nj s ∧ (¬ s 5 i = 0 ∨ tb x i = true) ∧ tb (kp s i) c = true := by
    intro x
    constructor
    · intro h c hc j hj hk
      have q : tb (kw s) c = true := (tb_kb (-1) c hc _ (by omega)).mpr ⟨j, hj, tb_m1 j (by omega), hk⟩
      rw [← h, tb_or, Bool.or_eq_true, tb_kb _ c hc _ (by omega), tb_kb _ c hc _ (by omega)] at q
      rcases q with ⟨i, a, b, d⟩ | ⟨i, a, b, d⟩
      · rw [tb_sh w (by omega), decide_eq_true a, Bool.true_and] at b
        exact ⟨i, a, Or.inl (by simpa using b), d⟩
      · exact ⟨i, a, Or.inr b, d⟩
    · intro h
      refine tb_ext (jr_or _ _) (cs_jr (cs_kw w)) fun c hc => ?_
      rw [Bool.eq_iff_iff, tb_or, Bool.or_eq_true, tb_kb _ c hc _ (by omega), tb_kb _ c hc _ (by omega)]
      unfold kw
      rw [tb_kb _ c hc _ (by omega)]
      constructor
      · rintro (⟨i, a, b, d⟩ | ⟨i, a, b, d⟩) <;> exact ⟨i, a, tb_m1 i (by omega), d⟩
      · rintro ⟨j, a, b, d⟩
        obtain ⟨i, i1, i2, i3⟩ := h c hc j a d
        rcases i2 with i2 | i2
        · exact Or.inl ⟨i, i1, by rw [tb_sh w (by omega), decide_eq_true i1, decide_eq_false i2]; rfl, i3⟩
        · exact Or.inr ⟨i, i1, i2, i3⟩
  have oq_o : ∀ j, j < nj s → 0 < s 4 j → s 5 j = 0 → tb (oq s) j = true := fun j hj h4 h5 => by rw [tb_oq w (by omega), decide_eq_true hj, decide_eq_true h5, decide_eq_false (by omega)]; rfl
  have oq_5 : ∀ j, j < 32 → tb (oq s) j = true → s 5 j = 0 ∧ j < nj s := fun j hj h => by
    rw [tb_oq w hj] at h
    simp only [Bool.and_eq_true, decide_eq_true_eq] at h
    exact ⟨h.2.2, h.1⟩
  rw [fw_gm]
  have g1 := gm_spec (fun k => decide (jand (k : Int) (jxor (oq s) (-1)) = 0) && decide (jor (kb s (sh s) (nj s)) (kb s (k : Int) (nj s)) = kw s)) (oq s) (2 ^ nj s)
  generalize gm (fun k => decide (jand (k : Int) (jxor (oq s) (-1)) = 0) && decide (jor (kb s (sh s) (nj s)) (kb s (k : Int) (nj s)) = kw s)) (oq s) (2 ^ nj s) = r at g1 ⊢
  simp only [Bool.and_eq_true, decide_eq_true_eq] at g1
  obtain ⟨⟨a1, a2⟩, a3⟩ := g1
  obtain ⟨o, ho1, ho2⟩ := bs_nat (fun j => tb (oq s) j) (n := nj s) (by omega)
  have hoq : oq s = (o : Int) := by
    rw [← ho2]
    refine tb_ext (jr_and _ _) (bs_jr _ _) fun i hi => ?_
    rw [tb_bs _ _ (by omega) i hi]
    cases q : tb (oq s) i
    · simp
    · rw [decide_eq_true (oq_5 i hi q).2]; rfl
  have pr : jand r (jxor (oq s) (-1)) = 0 ∧ jor (kb s (sh s) (nj s)) (kb s r (nj s)) = kw s := by
    rcases a3 with z | ⟨q, z1, z2, z3, _⟩
    · rw [z]
      refine ⟨(sub_tb (jr_and _ _)).mpr (fun i hi h => h), (keep _).mpr fun c hc j hj hk => ⟨j, hj, ?_, hk⟩⟩
      by_cases h5 : s 5 j = 0
      · exact Or.inr (oq_o j hj (kp_f hc hk) h5)
      · exact Or.inl h5
    · rw [z2]; exact z3
  have hr : ∃ m : Nat, m < 2 ^ nj s ∧ r = (m : Int) := by
    rcases a3 with z | ⟨m, z1, z2, _⟩
    · exact ⟨o, ho1, z.trans hoq⟩
    · exact ⟨m, z1, z2⟩
  obtain ⟨m, hm, rfl⟩ := hr
  have rsub := (sub_tb (cs_jr (csm m hm))).mp pr.1
  -- each set that may go leaves as many
  have up : ∀ k : Nat, k < 2 ^ nj s → okb s (k : Int) (nj s) = true → vf s (k : Int) (nj s) ≤ fi s (oq s) (nj s) - jpc 10 (m : Int) := by
    intro k hk hv
    rw [okb_iff] at hv
    rw [vf_n w]
    obtain ⟨e, he1, he2⟩ := bs_nat (fun j => tb (oq s) j && !tb (k : Int) j) (n := nj s) (by omega)
    have hom : om s (k : Int) = (e : Int) := he2
    have := a2 e he1 ⟨?_, ?_⟩
    · rw [hom]; omega
    · rw [← hom]
      refine (sub_tb (bs_jr _ _)).mpr fun i hi h => ?_
      have h' : tb (om s (k : Int)) i = true := h
      rw [tb_om w _ hi] at h'
      simp only [Bool.and_eq_true] at h'
      exact h'.2.1
    · rw [← hom]
      refine (keep _).mpr fun c hc j hj hk2 => ?_
      have q : tb (kw s) c = true := (tb_kb (-1) c hc _ (by omega)).mpr ⟨j, hj, tb_m1 j (by omega), hk2⟩
      rw [← hv.1, tb_kb _ c hc _ (by omega)] at q
      obtain ⟨i, i1, i2, i3⟩ := q
      refine ⟨i, i1, ?_, i3⟩
      by_cases h5 : s 5 i = 0
      · right
        rw [tfull _ i (by omega), decide_eq_true i1, Bool.true_and] at i2
        rw [tb_om w _ (by omega), decide_eq_true i1, oq_o i i1 (kp_f hc i3) h5, i2]; rfl
      · exact Or.inl h5
  have hz : 0 ≤ fi s (oq s) (nj s) - jpc 10 (m : Int) := by
    have h0 := vf_ge (s := s) 0 (nj s)
    rw [vf_n w] at h0
    have e0 : om s 0 = oq s := by
      refine tb_ext (bs_jr _ _) (jr_and _ _) fun i hi => ?_
      rw [tb_om w _ hi, tb_0 i hi]
      cases q : tb (oq s) i
      · simp
      · rw [decide_eq_true (oq_5 i hi q).2]; rfl
    rw [e0] at h0
    omega
  -- and one leaves just so many
  obtain ⟨k, hk1, hk2⟩ := bs_nat (fun j => tb (oq s) j && !tb (m : Int) j) (n := nj s) (by omega)
  have hom : om s (m : Int) = (k : Int) := hk2
  have tk : ∀ i, i < 32 → tb (k : Int) i = (decide (i < nj s) && (tb (oq s) i && !tb (m : Int) i)) := fun i hi => by rw [← hom]; exact tb_om w _ hi
  have hok : okb s (k : Int) (nj s) = true := by
    rw [okb_iff]
    refine ⟨?_, fun i hi h => ?_⟩
    · refine tb_ext (cs_jr (cs_kb w _ _ (Nat.le_refl _))) (cs_jr (cs_kw w)) fun c hc => ?_
      rw [Bool.eq_iff_iff, tb_kb _ c hc _ (by omega)]
      constructor
      · rintro ⟨i, a, b, d⟩
        exact (tb_kb (-1) c hc _ (by omega)).mpr ⟨i, a, tb_m1 i (by omega), d⟩
      · intro h
        obtain ⟨j, b1, b2, b3⟩ := (tb_kb (-1) c hc _ (by omega)).mp h
        obtain ⟨i, i1, i2, i3⟩ := (keep _).mp pr.2 c hc j b1 b3
        refine ⟨i, i1, ?_, i3⟩
        rw [tfull _ i (by omega), decide_eq_true i1, Bool.true_and, tk i (by omega), decide_eq_true i1, Bool.true_and]
        rcases i2 with i2 | i2
        · cases q : tb (oq s) i
          · rfl
          · exact absurd (oq_5 i (by omega) q).1 i2
        · rw [i2]; simp
    · rw [tk i (by omega)] at h
      simp only [Bool.and_eq_true] at h
      exact (oq_5 i (by omega) h.2.1).1
  have hkr : om s (k : Int) = (m : Int) := by
    refine tb_ext (bs_jr _ _) (cs_jr (csm m hm)) fun i hi => ?_
    rw [tb_om w _ hi, tk i hi]
    cases q : tb (m : Int) i
    · cases decide (i < nj s) <;> cases tb (oq s) i <;> rfl
    · have q2 := rsub i hi q
      rw [q2, decide_eq_true (oq_5 i hi q2).2]; rfl
  have lo := fb_ge hok (2 ^ nj s) hk1
  rw [vf_n w, hkr] at lo
  have hi := fb_is (s := s) (2 ^ nj s) hz up
  omega
theorem j01 : ∀ a b : Bool, jand (if a = true then 1 else 0) (if b = true then 1 else 0) = if (a && b) = true then 1 else 0 := by decide +kernel
section Feast
variable {M : jM} {s : jT} {t : Int} {K : Int → jM → Prop} {V : jM → Prop}
theorem vf_le {x : Int} : ∀ j, (∀ i, i < j → s 4 i ≤ 20) → vf s x j ≤ 20 * j
  | 0, _ => Int.le_refl 0
  | j + 1, h => by
    have ih := vf_le (x := x) j (fun i hi => h i (by omega))
    have h2 := h j (by omega)
    rw [vf]
    split
    · split <;> omega
    · omega
end Feast

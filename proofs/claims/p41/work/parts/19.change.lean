-- The methods of Shelves that change it, and sets of jars
/-- a set of jars -/
def bs (q : Nat → Bool) : Nat → Int
  | 0 => 0
  | n + 1 => if q n = true then jor (bs q n) (jshl 1 (n : Int)) else bs q n
/-- FOOD of a set -/
def fi (s : jT) (x : Int) : Nat → Int
  | 0 => 0
  | n + 1 => if tb x n = true then fi s x n + s 4 n else fi s x n
theorem bs_jr (q : Nat → Bool) : ∀ n, jr (bs q n)
  | 0 => jr_0
  | n + 1 => by
    rw [bs]
    split
    · exact jr_or _ _
    · exact bs_jr q n
theorem tb_bs (q : Nat → Bool) : ∀ n, n < 31 → ∀ i, i < 32 → tb (bs q n) i = (decide (i < n) && q i)
  | 0, _, i, hi => by rw [bs, tb_0 i hi, decide_eq_false (by omega), Bool.false_and]
  | n + 1, h, i, hi => by
    have ih := tb_bs q n (by omega) i hi
    rw [bs]
    by_cases e : i = n
    · subst e
      rw [decide_eq_true (by omega), Bool.true_and]
      rw [decide_eq_false (by omega), Bool.false_and] at ih
      cases hq : q i
      · rw [if_neg (by decide)]; exact ih
      · rw [if_pos rfl, tb_or, tb_shl1 i (by omega) i hi, ih, decide_eq_true rfl]; rfl
    · have e2 : decide (i < n + 1) = decide (i < n) := by
        by_cases h2 : i < n
        · rw [decide_eq_true h2, decide_eq_true (by omega)]
        · rw [decide_eq_false h2, decide_eq_false (by omega)]
      rw [e2, ← ih]
      split
      · rw [tb_or, tb_shl1 n (by omega) i hi, decide_eq_false e, Bool.or_false]
      · rfl
theorem fi_r {s : jT} (x : Int) : ∀ m : Nat, (∀ j, j < m → 0 ≤ s 4 j ∧ s 4 j ≤ 20) → 0 ≤ fi s x m ∧ fi s x m ≤ 20 * m
  | 0, _ => ⟨Int.le_refl _, Int.le_refl _⟩
  | m + 1, h => by
    have q := fi_r x m (fun j hj => h j (by omega))
    have q2 := h m (by omega)
    rw [fi]
    split <;> omega
theorem fi_g {s : jT} (w : wf s) (x : Int) : 0 ≤ fi s x (nj s) ∧ fi s x (nj s) ≤ 180 := by
  have a := fi_r x (nj s) (wf_4 w)
  have c := nj_9 w
  exact ⟨a.1, by omega⟩
section Shelves2
variable {M : jM} {i : Nat} {s : jT} {K : Int → jM → Prop} {V : jM → Prop}
theorem q0_shutBits (R : cR M i s) (w : wf s) (h : K (bs (fun j => !decide (s 5 j = 0)) (nj s)) M) : jCall 17 [jR 0 i 0] M (jqi K) := by
  have e := (cR_f R).1
  have w1 := w.1
  have hn := nj_n w
  refine vX0_shutBits ?_
  refine lp_n (X := fun j => jAt 17 4 [some (jR 0 i 0), some (jI (bs (fun j => !decide (s 5 j = 0)) j)), some (jI (j : Int))] [] M (jqi K)) (nj s) ?_ ?_
  · exact vX0_shutBits_4 (jif1 (by omega) (qi_ h))
  · intro j hj ih
    have hj' := nj_lt hj
    have hq : jr ((j : Int) + 1) := jr_i (by omega)
    obtain ⟨e1, e2, e3, e4, e5⟩ := cR_j R hj'
    refine vX0_shutBits_4 (jif0 (by omega) ⟨⟨by omega, by omega⟩, ?_⟩)
    rw [e5]
    rw [bs] at ih
    refine jite (fun c => ⟨hq, ?_⟩) (fun c => ⟨hq, ?_⟩)
    · rw [if_neg (by rw [decide_eq_true c]; decide)] at ih; exact ih
    · rw [if_pos (by rw [decide_eq_false c]; rfl)] at ih; exact ih
theorem q0_jarsWithFood (R : cR M i s) (w : wf s) (h : K (bs (fun j => !decide (s 4 j ≤ 0)) (nj s)) M) : jCall 18 [jR 0 i 0] M (jqi K) := by
  have e := (cR_f R).1
  have w1 := w.1
  have hn := nj_n w
  refine vX0_jarsWithFood ?_
  refine lp_n (X := fun j => jAt 18 4 [some (jR 0 i 0), some (jI (bs (fun j => !decide (s 4 j ≤ 0)) j)), some (jI (j : Int))] [] M (jqi K)) (nj s) ?_ ?_
  · exact vX0_jarsWithFood_4 (jif1 (by omega) (qi_ h))
  · intro j hj ih
    have hj' := nj_lt hj
    have hq : jr ((j : Int) + 1) := jr_i (by omega)
    obtain ⟨e1, e2, e3, e4, e5⟩ := cR_j R hj'
    refine vX0_jarsWithFood_4 (jif0 (by omega) ⟨⟨by omega, by omega⟩, ?_⟩)
    rw [e4]
    rw [bs] at ih
    refine jite (fun c => ⟨hq, ?_⟩) (fun c => ⟨hq, ?_⟩)
    · rw [if_neg (by rw [decide_eq_true c]; decide)] at ih; exact ih
    · rw [if_pos (by rw [decide_eq_false c]; rfl)] at ih; exact ih
theorem q0_jarsNotOn (R : cR M i s) (w : wf s) {x : Int} (h : K (bs (fun j => !decide (s 3 j = x)) (nj s)) M) : jCall 19 [jR 0 i 0, jI x] M (jqi K) := by
  have e := (cR_f R).1
  have w1 := w.1
  have hn := nj_n w
  refine vX0_jarsNotOn ?_
  refine lp_n (X := fun j => jAt 19 4 [some (jR 0 i 0), some (jI x), some (jI (bs (fun j => !decide (s 3 j = x)) j)), some (jI (j : Int))] [] M (jqi K)) (nj s) ?_ ?_
  · exact vX0_jarsNotOn_4 (jif1 (by omega) (qi_ h))
  · intro j hj ih
    have hj' := nj_lt hj
    have hq : jr ((j : Int) + 1) := jr_i (by omega)
    obtain ⟨e1, e2, e3, e4, e5⟩ := cR_j R hj'
    refine vX0_jarsNotOn_4 (jif0 (by omega) ⟨⟨by omega, by omega⟩, ?_⟩)
    rw [e3]
    rw [bs] at ih
    refine jite (fun c => ⟨hq, ?_⟩) (fun c => ⟨hq, ?_⟩)
    · rw [if_neg (by rw [decide_eq_true c]; decide)] at ih; exact ih
    · rw [if_pos (by rw [decide_eq_false c]; rfl)] at ih; exact ih
theorem q0_foodIn (R : cR M i s) (w : wf s) {x : Int} (h : K (fi s x (nj s)) M) : jCall 20 [jR 0 i 0, jI x] M (jqi K) := by
  have e := (cR_f R).1
  have w1 := w.1
  have hn := nj_n w
  refine vX0_foodIn ?_
  refine lp_n (X := fun j => jAt 20 4 [some (jR 0 i 0), some (jI x), some (jI (fi s x j)), some (jI (j : Int))] [] M (jqi K)) (nj s) ?_ ?_
  · exact vX0_foodIn_4 (jif1 (by omega) (qi_ h))
  · intro j hj ih
    have hj' := nj_lt hj
    have hq : jr ((j : Int) + 1) := jr_i (by omega)
    obtain ⟨e1, e2, e3, e4, e5⟩ := cR_j R hj'
    have b1 := fi_r (s := s) x j (fun j' hj' => wf_4 w j' (by omega))
    have b2 := wf_4 w j hj
    rw [fi] at ih
    refine vX0_foodIn_4 (jif0 (by omega) (q1_hasBit (by omega) (fun c => ?_) (fun c => ?_)))
    · rw [if_pos c] at ih
      refine jif0 (by decide) ⟨⟨by omega, by omega⟩, ?_⟩
      rw [e4]
      exact ⟨jr_i (by omega), hq, ih⟩
    · rw [if_neg (by rw [c]; decide)] at ih
      exact jif1 rfl ⟨hq, ih⟩
theorem q0_allFood (R : cR M i s) (w : wf s) (h : K (fi s (-1) (nj s)) M) : jCall 21 [jR 0 i 0] M (jqi K) := vX0_allFood (q0_foodIn R w (qi_ h))
theorem q0_lessFood (R : cR M i s) (w : wf s) {j : Nat} (hj : (j : Int) < s 0 5) {x : Int} (hx : 0 ≤ x ∧ x ≤ 1000) (h : ∀ M', cR M' i (su s 4 j (max 0 (s 4 j - x))) → jfm 0 i M M' → V M') : jCall 4 [jR 0 i 0, jI (j : Int), jI x] M (jqv V) := by
  obtain ⟨e1, e2, e3, e4, e5⟩ := cR_j R hj
  have w1 := w.1
  have hb : 0 ≤ (j : Int) ∧ (j : Int) < ((9 : Nat) : Int) := ⟨by omega, by omega⟩
  have w4 := wf_4 w j (lt_nj hj)
  refine vX0_lessFood (q0_hasj R w hj (jif0 (by decide) ⟨hb, ?_⟩))
  rw [e4]
  exact ⟨jr_i (by omega), hb, qv_ (h _ (cR_u R (by decide)) jfm_u)⟩
def lm (s : jT) : jT := pu s 4 (fun j => if s 3 j = 5 then max 0 (s 4 j - 2) else s 4 j) (nj s)
theorem q0_spoilAll (R : cR M i s) (w : wf s) (h : ∀ M', cR M' i (sy s) → jfm 0 i M M' → K (op (sy s) (nj s)) M') : jCall 11 [jR 0 i 0] M (jqi K) := by
  have w1 := w.1
  have hn := nj_n w
  have wy := wf_sy w
  refine vX0_spoilAll ?_
  refine lp_n (X := fun j => ∀ M', cR M' i (pu s 4 (fun j => max 0 (s 4 j - sp (s 1 j) (s 3 j))) j) → jfm 0 i M M' → jAt 11 4 [some (jR 0 i 0), some (jI (op (sy s) j)), some (jI (j : Int))] [] M' (jqi K)) (nj s) ?_ ?_ M (by rw [pu_0]; exact R) jfm_rf
  · intro M' R' F
    have e := (cR_f R').1
    rw [pu_nc s _ (by decide)] at e
    exact vX0_spoilAll_4 (jif1 (by omega) (qi_ (h _ R' F)))
  · intro j hj ih M' R' F
    have e := (cR_f R').1
    rw [pu_nc s _ (by decide)] at e
    have hj' := nj_lt hj
    have hq : jr ((j : Int) + 1) := jr_i (by omega)
    have hb : 0 ≤ (j : Int) ∧ (j : Int) < ((9 : Nat) : Int) := ⟨by omega, by omega⟩
    have hjj : (j : Int) < pu s 4 (fun j => max 0 (s 4 j - sp (s 1 j) (s 3 j))) j 0 5 := by rw [pu_nc s _ (by decide)]; exact hj'
    obtain ⟨e1, e2, e3, e4, e5⟩ := cR_j R' hjj
    rw [pu_nc s _ (by decide)] at e1 e3
    rw [pu_ge s _ _ (Nat.le_refl j)] at e4
    have w4 := wf_4 w j hj
    have q2 := sp_r (s 1 j) (s 3 j)
    refine vX0_spoilAll_4 (jif0 (by omega) ⟨hb, hb, hb, ?_⟩)
    rw [e1, e3]
    refine q0_spoilsOf ?_
    rw [e4]
    refine ⟨jr_i (by omega), hb, ?_⟩
    have R2 := cR_u (c := 4) (j := j) (x := max 0 (s 4 j - sp (s 1 j) (s 3 j))) R' (by decide)
    have F2 := jfm_u2 (c := 4) (j := (j : Int).toNat) (x := max 0 (s 4 j - sp (s 1 j) (s 3 j))) F
    rw [← pu_s s 4 (fun j => max 0 (s 4 j - sp (s 1 j) (s 3 j))) j] at R2
    intro m2
    have hjj2 : (j : Int) < pu s 4 (fun j => max 0 (s 4 j - sp (s 1 j) (s 3 j))) (j + 1) 0 5 := by rw [pu_nc s _ (by decide)]; exact hj'
    obtain ⟨g1, g2, g3, g4, g5⟩ := cR_j R2 hjj2
    have R3 : cR m2 i (pu s 4 (fun j => max 0 (s 4 j - sp (s 1 j) (s 3 j))) (j + 1)) := R2
    have F3 : jfm 0 i M m2 := F2
    have k4 : m2 0 i 4 (j : Int).toNat = sy s 4 j := by
      show jupd M' 0 i 4 (j : Int).toNat (max 0 (s 4 j - sp (s 1 j) (s 3 j))) 0 i 4 (j : Int).toNat = _
      rw [g4, pu_at s 4 _ (Nat.lt_succ_self j)]
      exact (pu_at s 4 (fun j => max 0 (s 4 j - sp (s 1 j) (s 3 j))) hj).symm
    have k5 : m2 0 i 5 (j : Int).toNat = sy s 5 j := by
      show jupd M' 0 i 4 (j : Int).toNat (max 0 (s 4 j - sp (s 1 j) (s 3 j))) 0 i 5 (j : Int).toNat = _
      rw [g5, pu_nc s _ (by decide), sy_k s (by decide)]
    clear_value m2
    have ih2 := ih m2 R3 F3
    rw [op] at ih2
    refine ⟨hb, ?_⟩
    rw [k5]
    have b1 := op_le (s := sy s) j (fun j' hj' => wf_4 wy j' (by rw [nj_sy]; omega))
    have b0 := op_ge (s := sy s) j (fun j' hj' => (wf_4 wy j' (by rw [nj_sy]; omega)).1)
    have b2 := wf_4 wy j (by rw [nj_sy]; exact hj)
    refine jite (fun c => ⟨hq, ?_⟩) (fun c => ⟨hb, ?_⟩)
    · rw [if_neg c] at ih2; exact ih2
    · rw [if_pos (Decidable.not_not.mp c)] at ih2
      rw [k4]
      exact ⟨jr_i (by omega), hq, ih2⟩
end Shelves2

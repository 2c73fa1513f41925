-- The reference's methods that change a row
section Rows2
variable {M : jM} {a : Nat} {s : jT} {K : Int → jM → Prop} {V : jM → Prop}
theorem q2_loses (R : rR M a s) (w : wf s) {j : Nat} (hj : (j : Int) < s 0 5) {x : Int} (hx : 0 ≤ x ∧ x ≤ 1000) (h : ∀ M', rR M' a (su s 4 j (max 0 (s 4 j - x))) → jfm 3 a M M' → V M') : jCall 120 [jR 3 a 0, jI (j : Int), jI x] M (jqv V) := by
  obtain ⟨e1, e2, e3, e4, e5⟩ := rR_j R hj
  have w1 := w.1
  have w4 := wf_4 w j (lt_nj hj)
  refine vX2_loses (q2_of (by omega) 3 (by decide) (q2_of (by omega) 3 (by decide) ⟨h54 (by omega), ?_⟩))
  rw [e4]
  exact ⟨jr_i (by omega), q2_most ⟨h54 (by omega), qv_ (h _ (rR_u R (by decide)) jfm_u)⟩⟩
theorem q2_nextEaten (R : rR M a s) (w : wf s) (h : K (ne s (nj s)) M) : jCall 119 [jR 3 a 0] M (jqi K) := by
  have e := (rR_f R).1
  have w1 := w.1
  have hn := nj_n w
  refine vX2_nextEaten ?_
  refine lp_n (X := fun j => jAt 119 5 [some (jR 3 a 0), some (jI (ne s j)), some (jI (j : Int))] [] M (jqi K)) (nj s) ?_ ?_
  · refine vX2_nextEaten_5 ⟨h54 ⟨by decide, by decide⟩, ?_⟩
    rw [e]
    exact jif1 (by omega) (qi_ h)
  · intro j hj ih
    have hj' := nj_lt hj
    have hq : jr ((j : Int) + 1) := jr_i (by omega)
    obtain ⟨e1, e2, e3, e4, e5⟩ := rR_j R hj'
    rw [ne] at ih
    refine vX2_nextEaten_5 ⟨h54 ⟨by decide, by decide⟩, ?_⟩
    rw [e]
    refine jif0 (by omega) (q2_hasFood R w hj' (fun c => jif0 (by decide) (q2_of (by omega) 4 (by decide) ⟨h54 (by omega), ?_⟩)) (fun c => jif1 rfl ⟨hq, ?_⟩))
    · rw [e5]
      refine jite (fun c2 => ⟨hq, ?_⟩) (fun c2 => ?_)
      · rw [if_neg (fun z => c2 z.1.2)] at ih; exact ih
      · have c2' : s 5 j = 0 := Decidable.not_not.mp c2
        rcases ne_spec s j with ⟨q1, _⟩ | ⟨f, q1, q2, _⟩
        · rw [q1] at ih ⊢
          rw [if_pos ⟨⟨c, c2'⟩, Or.inl (by decide)⟩] at ih
          exact jif1 (by decide) ⟨hq, ih⟩
        · rw [q2] at ih ⊢
          obtain ⟨g1, g2, g3, g4, g5⟩ := rR_j R (j := f) (by omega)
          refine jif0 (by omega) (q2_of (by omega) 2 (by decide) ⟨h54 (by omega), q2_of (by omega) 2 (by decide) ⟨h54 (by omega), ?_⟩⟩)
          rw [e3, g3]
          have ef : (f : Int).toNat = f := rfl
          rw [ef] at ih
          refine jite (fun c3 => ⟨hq, ?_⟩) (fun c3 => ⟨hq, ?_⟩)
          · rw [if_neg (fun z => by rcases z.2 with z | z <;> omega)] at ih; exact ih
          · rw [if_pos ⟨⟨c, c2'⟩, Or.inr (by omega)⟩] at ih; exact ih
    · rw [if_neg (fun z => by have := z.1.1; omega)] at ih; exact ih
theorem q2_year (R : rR M a s) (w : wf s) (hy : 0 ≤ s 0 8 ∧ s 0 8 ≤ 5000) (h : ∀ M', rR M' a (ye s) → jfm 3 a M M' → V M') : jCall 121 [jR 3 a 0] M (jqv V) := by
  obtain ⟨e5, e6, e7, e8⟩ := rR_f R
  have hz : 0 ≤ (0 : Int) ∧ (0 : Int) < ((54 : Nat) : Int) := ⟨by decide, by decide⟩
  have h1 : 0 ≤ (1 : Int) ∧ (1 : Int) < ((54 : Nat) : Int) := ⟨by decide, by decide⟩
  have h2 : 0 ≤ (2 : Int) ∧ (2 : Int) < ((54 : Nat) : Int) := ⟨by decide, by decide⟩
  have h3 : 0 ≤ (3 : Int) ∧ (3 : Int) < ((54 : Nat) : Int) := ⟨by decide, by decide⟩
  refine vX2_year ⟨h1, ?_⟩
  rw [e8]
  refine ⟨jr_i (by omega), h1, ?_⟩
  intro m1
  have R1 : rR m1 a (su s 0 8 (s 0 8 + 1)) := rR_v (q := 1) R (Or.inr (Or.inr ⟨rfl, rfl⟩))
  have F1 : jfm 3 a M m1 := jfm_u
  clear_value m1
  have wa : wf (su s 0 8 (s 0 8 + 1)) := wf_v w (Or.inr (Or.inr rfl))
  have ha6 : su s 0 8 (s 0 8 + 1) 0 6 = s 0 6 := su_nj s _ (by decide)
  have hye : ye s = it ea (s 0 6).toNat (sy (su s 0 8 (s 0 8 + 1))) := rfl
  generalize su s 0 8 (s 0 8 + 1) = A at R1 wa ha6 hye
  have w1 := wa.1
  have w2 := wa.2.1
  have hn := nj_n wa
  refine lp_n (X := fun j => ∀ M', rR M' a (pu A 4 (fun j => max 0 (A 4 j - sp (A 1 j) (A 3 j))) j) → jfm 3 a M M' → jAt 121 9 [some (jR 3 a 0), some (jI (j : Int)), none] [] M' (jqv V)) (nj A) ?_ ?_ m1 (by rw [pu_0]; exact R1) F1
  · intro M' R' F
    have R2 : rR M' a (sy A) := R'
    have wT := wf_sy wa
    have hT6 : (sy A) 0 6 = s 0 6 := (sy_k A (by decide)).trans ha6
    have e := (rR_f R').1
    rw [pu_nc A _ (by decide)] at e
    refine vX2_year_9 ⟨hz, ?_⟩
    rw [e]
    refine jif1 (by omega) ?_
    generalize sy A = T at R2 wT hT6 hye
    refine lp_n (X := fun k => ∀ M', rR M' a (it ea k T) → jfm 3 a M M' → jAt 121 46 [some (jR 3 a 0), some (jI (k : Int)), none] [] M' (jqv V)) (s 0 6).toNat ?_ ?_ M' R2 F
    · intro M3 R3 F3
      have g6 := (rR_f R3).2.1
      rw [it_k _ T (by decide) (by decide), hT6] at g6
      refine vX2_year_46 ⟨h3, ?_⟩
      rw [g6]
      exact jif1 (by omega) (qv_ (h M3 (by rw [hye]; exact R3) F3))
    · intro k hk ih M3 R3 F3
      have wk := wf_it k wT
      rw [ha6] at w2
      obtain ⟨g5, g6, g7, g8⟩ := rR_f R3
      rw [it_k _ T (by decide) (by decide), hT6] at g6
      have hq : jr ((k : Int) + 1) := jr_i (by omega)
      have w7 := wk.2.2.1
      have hea : it ea (k + 1) T = ea (it ea k T) := it_s ea k T
      rw [hea] at ih
      refine vX2_year_46 ⟨h3, ?_⟩
      rw [g6]
      refine jif0 (by omega) (q2_nextEaten R3 wk ?_)
      generalize it ea k T = U at ih wk R3 g7 w7
      rcases ne_spec U (nj U) with ⟨q1, _⟩ | ⟨f, q1, q2, _⟩
      · rw [q1]
        refine jif1 (by decide) ⟨h2, ?_⟩
        rw [g7]
        refine jite (fun c => ⟨hq, ih M3 ?_ F3⟩) (fun c => ⟨h2, jr_i (by omega), h2, ?_⟩)
        · unfold ea
          rw [q1, if_pos (by decide), if_neg (by omega)]; exact R3
        · intro m4
          refine ⟨hq, ih m4 ?_ (jfm_u2 F3)⟩
          unfold ea
          rw [q1, if_pos (by decide), if_pos (by omega)]
          exact rR_v R3 (Or.inr (Or.inl ⟨rfl, rfl⟩))
      · rw [q2]
        have hU := nj_n wk
        refine jif0 (by omega) (q2_loses R3 wk (by omega) ⟨by decide, by decide⟩ (fun M4 R4 F4 => ⟨hq, ih M4 ?_ (jfm_tr F3 F4)⟩))
        unfold ea
        rw [q2, if_neg (by omega)]
        exact R4
  · intro j hj ih M' R' F
    have hj' := nj_lt hj
    have e := (rR_f R').1
    rw [pu_nc A _ (by decide)] at e
    have hq : jr ((j : Int) + 1) := jr_i (by omega)
    have hjj : (j : Int) < pu A 4 (fun j => max 0 (A 4 j - sp (A 1 j) (A 3 j))) j 0 5 := by rw [pu_nc A _ (by decide)]; exact hj'
    obtain ⟨e1, e2, e3, e4, e5⟩ := rR_j R' hjj
    rw [pu_nc A _ (by decide)] at e1 e3
    have q2 := sp_r (A 1 j) (A 3 j)
    have w' : wf (pu A 4 (fun j => max 0 (A 4 j - sp (A 1 j) (A 3 j))) j) := wf_pu wa j (fun j' h' => by
      have := wf_4 wa j' (by omega)
      have := sp_r (A 1 j') (A 3 j')
      exact Or.inr (Or.inr (Or.inr (Or.inl ⟨rfl, by omega, by omega⟩))))
    refine vX2_year_9 ⟨hz, ?_⟩
    rw [e]
    refine jif0 (by omega) (q2_of (by omega) 0 (by decide) ⟨h54 (by omega), q2_of (by omega) 2 (by decide) ⟨h54 (by omega), ?_⟩⟩)
    rw [e1, e3]
    refine q2_spoilsBy (q2_loses R' w' hjj ⟨q2.1, by omega⟩ (fun M2 R2 F2 => ⟨hq, ih M2 ?_ (jfm_tr F F2)⟩))
    rw [pu_s]
    rw [pu_ge A _ _ (Nat.le_refl j)] at R2
    exact R2
theorem q2_yearsOn (R : rR M a s) (w : wf s) (hy : 0 ≤ s 0 8 ∧ s 0 8 ≤ 2000) {n : Nat} (hn : n ≤ 60) (h : ∀ M', rR M' a (it ye n s) → jfm 3 a M M' → V M') : jCall 122 [jR 3 a 0, jI (n : Int)] M (jqv V) := by
  refine vX2_yearsOn ?_
  refine lp_n (X := fun j => ∀ M', rR M' a (it ye j s) → jfm 3 a M M' → jAt 122 2 [some (jR 3 a 0), some (jI (n : Int)), some (jI (j : Int))] [] M' (jqv V)) n ?_ ?_ M R jfm_rf
  · intro M' R' F
    exact vX2_yearsOn_2 (jif1 (by omega) (qv_ (h M' R' F)))
  · intro j hj ih M' R' F
    refine vX2_yearsOn_2 (jif0 (by omega) (q2_year R' (wf_yn j w) (by rw [yn_8]; omega) (fun M2 R2 F2 => ⟨jr_i (by omega), ih M2 ?_ (jfm_tr F F2)⟩)))
    rw [it_s]; exact R2
theorem q2_copies {b : Nat} (hb : b ≠ a) (R : rR M b s) (w : wf s) (h : ∀ M', rR M' a s → jfm 3 a M M' → V M') : jCall 107 [jR 3 b 0, jR 3 a 0] M (jqv V) := by
  have w1 := w.1
  refine vX2_copies ?_
  refine lp_n (X := fun j => ∀ M' : jM, (∀ q, q < j → M' 3 a 0 q = M 3 b 0 q) → jfm 3 a M M' → jAt 107 2 [some (jR 3 b 0), some (jR 3 a 0), some (jI (j : Int))] [] M' (jqv V)) 54 ?_ ?_ M (fun _ h => absurd h (Nat.not_lt_zero _)) jfm_rf
  · intro M' I F
    refine vX2_copies_2 (jif1 (by omega) (qv_ (h M' ⟨⟨?_, ?_, ?_, ?_⟩, fun c j h1 h2 => ?_⟩ F)))
    · rw [I 0 (by decide)]; exact R.1.1
    · rw [I 3 (by decide)]; exact R.1.2.1
    · rw [I 2 (by decide)]; exact R.1.2.2.1
    · rw [I 1 (by decide)]; exact R.1.2.2.2
    · rw [I _ (by omega)]; exact R.2 c j h1 h2
  · intro j hj ih M' I F
    have hbd : 0 ≤ (j : Int) ∧ (j : Int) < ((54 : Nat) : Int) := ⟨by omega, by omega⟩
    refine vX2_copies_2 (jif0 (by omega) ⟨hbd, hbd, ?_⟩)
    intro m1
    refine ⟨jr_i (by omega), ih m1 (fun q hq => ?_) (jfm_u2 F)⟩
    have ej : (j : Int).toNat = j := rfl
    by_cases z : q = j
    · subst z
      exact (jupd_at _ _ _ _ _ _).trans (F _ _ _ _ (fun z => hb z.2))
    · exact (jupd_ne M' _ (by omega)).trans (I q (by omega))
theorem q2_takes (R : rR M 0 s) (w : wf s) (hy : 0 ≤ s 0 8 ∧ s 0 8 ≤ 2000) {n : Nat} (hn : n ≤ 60) (h : ∀ M', rR M' 1 (it ye n s) → jfm 3 1 M M' → V M') : jCall 144 [jR 2 0 0, jI (n : Int)] M (jqv V) :=
  vX2_takes (q2_copies (by decide) R w (fun M1 R1 F1 => q2_yearsOn R1 w hy hn (fun M2 R2 F2 => qv_ (h M2 R2 (jfm_tr F1 F2)))))
theorem q2_areMice (R : rR M a s) (w : wf s) (h : ∀ M', rR M' a (lm s) → jfm 3 a M M' → V M') : jCall 174 [jR 3 a 0] M (jqv V) := by
  have w1 := w.1
  have hn := nj_n w
  have hz : 0 ≤ (0 : Int) ∧ (0 : Int) < ((54 : Nat) : Int) := ⟨by decide, by decide⟩
  refine vX2_areMice ?_
  refine lp_n (X := fun j => ∀ M', rR M' a (pu s 4 (fun j => if s 3 j = 5 then max 0 (s 4 j - 2) else s 4 j) j) → jfm 3 a M M' → jAt 174 2 [some (jR 3 a 0), some (jI (j : Int))] [] M' (jqv V)) (nj s) ?_ ?_ M (by rw [pu_0]; exact R) jfm_rf
  · intro M' R' F
    have e := (rR_f R').1
    rw [pu_nc s _ (by decide)] at e
    refine vX2_areMice_2 ⟨hz, ?_⟩
    rw [e]
    exact jif1 (by omega) (qv_ (h _ R' F))
  · intro j hj ih M' R' F
    have e := (rR_f R').1
    rw [pu_nc s _ (by decide)] at e
    have hj' := nj_lt hj
    have hq : jr ((j : Int) + 1) := jr_i (by omega)
    have hjj : (j : Int) < pu s 4 (fun j => if s 3 j = 5 then max 0 (s 4 j - 2) else s 4 j) j 0 5 := by rw [pu_nc s _ (by decide)]; exact hj'
    obtain ⟨e1, e2, e3, e4, e5⟩ := rR_j R' hjj
    refine vX2_areMice_2 ⟨hz, ?_⟩
    rw [e]
    refine jif0 (by omega) (q2_of (by omega) 2 (by decide) ⟨h54 (by omega), ?_⟩)
    rw [e3, pu_nc s _ (by decide)]
    refine jite (fun c => ⟨hq, ih _ ?_ F⟩) (fun c => ?_)
    · rw [pu_k _ _ _ _ (by rw [if_neg c])]; exact R'
    · have c' : s 3 j = 5 := Decidable.not_not.mp c
      have w' : wf (pu s 4 (fun j => if s 3 j = 5 then max 0 (s 4 j - 2) else s 4 j) j) := wf_pu w j (fun j' h' => by
        have := wf_4 w j' (by omega)
        refine Or.inr (Or.inr (Or.inr (Or.inl ⟨rfl, ?_⟩)))
        split <;> omega)
      refine q2_loses R' w' hjj ⟨by decide, by decide⟩ (fun M2 R2 F2 => ⟨hq, ih _ ?_ (jfm_tr F F2)⟩)
      rw [pu_s, if_pos c']
      rw [pu_ge s _ _ (Nat.le_refl j)] at R2
      exact R2
theorem q2_addsF (R : rR M a s) (hf : s 0 5 = 9) {x1 x2 x3 x4 : Int} (h : K 0 M) : jCall 130 [jR 3 a 0, jI x1, jI x2, jI x3, jI x4] M (jqi K) := by
  have e := (rR_f R).1
  have hz : 0 ≤ (0 : Int) ∧ (0 : Int) < ((54 : Nat) : Int) := ⟨by decide, by decide⟩
  refine vX2_adds ⟨hz, ?_⟩
  rw [e]
  exact jif0 (fun z => z hf) ⟨jz0, qi_ h⟩
theorem q2_adds (R : rR M a s) (w : wf s) (hf : s 0 5 < 9) {x1 x2 x3 x4 : Int} (h : ∀ M', rR M' a (ad s x1 x2 x3 x4) → jfm 3 a M M' → K 1 M') : jCall 130 [jR 3 a 0, jI x1, jI x2, jI x3, jI x4] M (jqi K) := by
  have w1 := w.1
  have hn := nj_n w
  have e := (rR_f R).1
  have hz : 0 ≤ (0 : Int) ∧ (0 : Int) < ((54 : Nat) : Int) := ⟨by decide, by decide⟩
  refine vX2_adds ⟨hz, ?_⟩
  rw [e, ← hn]
  refine jif1 (by omega) ⟨hz, q2_of (by omega) 0 (by decide) ⟨h54 (by omega), ?_⟩⟩
  intro m1
  refine q2_of (by omega) 1 (by decide) ⟨h54 (by omega), ?_⟩
  intro m2
  refine q2_of (by omega) 2 (by decide) ⟨h54 (by omega), ?_⟩
  intro m3
  refine q2_of (by omega) 3 (by decide) ⟨h54 (by omega), ?_⟩
  intro m4
  refine q2_of (by omega) 4 (by decide) ⟨h54 (by omega), ?_⟩
  intro m5
  have R5 : rR m5 a (su (su (su (su (su s 1 (nj s) x1) 2 (nj s) x2) 3 (nj s) x3) 4 (nj s) x4) 5 (nj s) 0) := rR_u (rR_u (rR_u (rR_u (rR_u R (by decide)) (by decide)) (by decide)) (by decide)) (by decide)
  have F5 : jfm 3 a M m5 := jfm_u2 (jfm_u2 (jfm_u2 (jfm_u2 jfm_u)))
  have d0 : ∀ c : Nat, c < 5 → ∀ M' : jM, ∀ x : Int, jupd M' 3 a 0 ((4 + 5 * nj s + c : Nat) : Int).toNat x 3 a 0 (4 + 5 * nj s + c) = x := fun c _ M' x => jupd_at _ _ _ _ _ _
  have d5 : m5 3 a 0 (4 + 5 * nj s + 4) = 0 := d0 4 (by decide) m4 0
  have hn4 : ∀ (c c' : Nat), c < 5 → c' < 5 → c ≠ c' → ∀ (M' : jM) (x : Int), jupd M' 3 a 0 ((4 + 5 * nj s + c' : Nat) : Int).toNat x 3 a 0 (4 + 5 * nj s + c) = M' 3 a 0 (4 + 5 * nj s + c) := fun c c' _ _ h M' x => jupd_j M' 3 a 0 _ x (by show 4 + 5 * nj s + c ≠ 4 + 5 * nj s + c'; omega)
  have d4 : m5 3 a 0 (4 + 5 * nj s + 3) = x4 := (hn4 3 4 (by decide) (by decide) (by decide) m4 0).trans (d0 3 (by decide) m3 x4)
  have d3 : m5 3 a 0 (4 + 5 * nj s + 2) = x3 := (hn4 2 4 (by decide) (by decide) (by decide) m4 0).trans ((hn4 2 3 (by decide) (by decide) (by decide) m3 x4).trans (d0 2 (by decide) m2 x3))
  have d2 : m5 3 a 0 (4 + 5 * nj s + 1) = x2 := (hn4 1 4 (by decide) (by decide) (by decide) m4 0).trans ((hn4 1 3 (by decide) (by decide) (by decide) m3 x4).trans ((hn4 1 2 (by decide) (by decide) (by decide) m2 x3).trans (d0 1 (by decide) m1 x2)))
  have d1 : m5 3 a 0 (4 + 5 * nj s + 0) = x1 := (hn4 0 4 (by decide) (by decide) (by decide) m4 0).trans ((hn4 0 3 (by decide) (by decide) (by decide) m3 x4).trans ((hn4 0 2 (by decide) (by decide) (by decide) m2 x3).trans ((hn4 0 1 (by decide) (by decide) (by decide) m1 x2).trans (d0 0 (by decide) M x1))))
  clear_value m5
  clear m1 m2 m3 m4 d0 hn4
  have g := rR_f R5
  simp only [su_nc _ _ (show (0 : Nat) ≠ 5 by decide), su_nc _ _ (show (0 : Nat) ≠ 4 by decide), su_nc _ _ (show (0 : Nat) ≠ 3 by decide), su_nc _ _ (show (0 : Nat) ≠ 2 by decide), su_nc _ _ (show (0 : Nat) ≠ 1 by decide)] at g
  obtain ⟨g5, g6, g7, g8⟩ := g
  refine ⟨hz, ?_⟩
  rw [g5]
  refine ⟨jr_i (by omega), hz, ?_⟩
  intro m6
  refine ⟨jz1, qi_ (h m6 ⟨⟨?_, ?_, ?_, ?_⟩, fun c j h1 h2 => ?_⟩ (jfm_u2 F5))⟩
  · rw [ad_n]; exact jupd_at _ _ _ _ _ _
  · rw [ad_f _ _ _ _ _ (by decide)]; exact (jupd_j _ _ _ _ _ _ (by decide)).trans g6
  · rw [ad_f _ _ _ _ _ (by decide)]; exact (jupd_j _ _ _ _ _ _ (by decide)).trans g7
  · rw [ad_f _ _ _ _ _ (by decide)]; exact (jupd_j _ _ _ _ _ _ (by decide)).trans g8
  · rw [ad_n] at h2
    refine (jupd_j _ _ _ _ _ _ (by show 4 + 5 * j + c ≠ 0; omega)).trans ?_
    by_cases z : j = nj s
    · subst z
      rcases (show c = 0 ∨ c = 1 ∨ c = 2 ∨ c = 3 ∨ c = 4 by omega) with rfl | rfl | rfl | rfl | rfl
      · rw [d1, ad_1]
      · rw [d2, ad_2]
      · rw [d3, ad_3]
      · rw [d4, ad_4]
      · rw [d5, ad_5]
    · rw [ad_o _ _ _ _ _ (by omega) z]
      have q := R5.2 c j h1 (by rw [su_nc _ _ (by decide), su_nc _ _ (by decide), su_nc _ _ (by decide), su_nc _ _ (by decide), su_nc _ _ (by decide)]; omega)
      rw [su_nj _ _ z, su_nj _ _ z, su_nj _ _ z, su_nj _ _ z, su_nj _ _ z] at q
      exact q
end Rows2

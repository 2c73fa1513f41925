-- Calls, side by side: first; which jars keep what
section First
variable {M : jM} {s : jT} {t : Int} {K : Int → jM → Prop} {V : jM → Prop}
/-- HUNGRY: the first year behind which HUNGER is more -/
theorem p_first2 (H : sim t M s) (ht : t < 1000) : pP t 55 150 [jI 2] M := by
  obtain ⟨R, R', w, y⟩ := H.1
  have w7 := w.2.2.1
  have h2 : 0 ≤ (2 : Int) ∧ (2 : Int) < ((54 : Nat) : Int) := ⟨by decide, by decide⟩
  have G : ∀ (m : Nat) (a : Int), (∀ n, n < m → ¬ s 0 7 < it ye (n + 1) s 0 7) → (m < 60 ∧ s 0 7 < it ye (m + 1) s 0 7 ∧ a = ((m + 1 : Nat) : Int) ∨ m = 60 ∧ a = -9) → pP t 55 150 [jI 2] M := by
    intro m a hm ha
    have L : ∀ M1, jth M M1 → jCall 150 (jR 2 0 0 :: [jI 2]) M1 (jqi (en t a)) := by
      intro M1 T
      refine vX2_first (q2_isIn (fun _ _ => jif1 (by decide) (jif0 (by decide) (vX2_hungry (q2_copies (by decide) (th_R R' T) w (fun M2 R2 F2 => ?_))))) (fun z => absurd ⟨by decide, by decide⟩ z))
      refine lp_n (X := fun n => ∀ M', rR M' 1 (it ye n s) → jth M M' → jAt 148 13 [some (jR 2 0 0), some (jI (((n + 1 : Nat)) : Int))] [] M' _) m ?_ ?_ M2 R2 (jth_tr T (jth_r F2 (Or.inl rfl)))
      · intro M' R3 T3
        rcases ha with ⟨h0, h1, rfl⟩ | ⟨h1, rfl⟩
        · refine vX2_hungry_13 (jif0 (by omega) (q2_year R3 (wf_yn _ w) (y_n y (by omega)) (fun M4 R4 F4 => ⟨h2, h2, ?_⟩)))
          rw [← it_s ye] at R4
          have T4 := jth_tr T3 (jth_r F4 (Or.inl rfl))
          rw [(rR_f R4).2.2.1, (rR_f (th_R R' T4)).2.2.1]
          exact jif0 (by omega) (qi_ (qi_ (fin_t H ht T4)))
        · subst h1
          exact vX2_hungry_13 (jif1 (by decide) (qi_ (qi_ (fin_t H ht T3))))
      · intro n hn ih M' R3 T3
        have q := hm n hn
        refine vX2_hungry_13 (jif0 (by omega) (q2_year R3 (wf_yn _ w) (y_n y (by omega)) (fun M4 R4 F4 => ⟨h2, h2, ?_⟩)))
        rw [← it_s ye] at R4
        have T4 := jth_tr T3 (jth_r F4 (Or.inl rfl))
        rw [(rR_f R4).2.2.1, (rR_f (th_R R' T4)).2.2.1]
        exact jif1 (by omega) ⟨jr_i (by omega), ih M4 R4 T4⟩
    refine vX1_first (jif0 (by decide) (jif0 (by decide) (jif1 rfl (vX1_yearOfHunger (q0_become (by decide) R w (fun M2 R2 F2 => ?_))))))
    refine lp_n (X := fun n => ∀ M', cR M' 2 (it ye n s) → jth M M' → jAt 62 13 [some (jR 1 0 0), some (jI (((n + 1 : Nat)) : Int))] [] M' _) m ?_ ?_ M2 R2 (jth_c F2 (Or.inl rfl))
    · intro M' R3 T3
      rcases ha with ⟨h0, h1, rfl⟩ | ⟨h1, rfl⟩
      · refine vX1_yearOfHunger_13 (jif0 (by omega) (q0_passYear R3 (wf_yn _ w) (y_n y (by omega)) (fun M4 R4 F4 => ?_)))
        rw [← it_s ye] at R4
        have T4 := jth_tr T3 (jth_c F4 (Or.inl rfl))
        exact q1_moreHunger (th_C R T4) R4 w (wf_yn _ w) (jif0 (by omega) (qi_ (qi_ (L M4 T4))))
      · subst h1
        exact vX1_yearOfHunger_13 (jif1 (by decide) (qi_ (qi_ (L M' T3))))
    · intro n hn ih M' R3 T3
      have q := hm n hn
      refine vX1_yearOfHunger_13 (jif0 (by omega) (q0_passYear R3 (wf_yn _ w) (y_n y (by omega)) (fun M4 R4 F4 => ?_)))
      rw [← it_s ye] at R4
      have T4 := jth_tr T3 (jth_c F4 (Or.inl rfl))
      exact q1_moreHunger (th_C R T4) R4 w (wf_yn _ w) (jif1 (by omega) ⟨jr_i (by omega), ih M4 R4 T4⟩)
  rcases fst_or (P := fun n => s 0 7 < it ye (n + 1) s 0 7) (fun n => Decidable.em _) 60 with h | ⟨m, h1, h2, h3⟩
  · exact G 60 (-9) h (Or.inr ⟨rfl, rfl⟩)
  · exact G m _ h3 (Or.inl ⟨h1, h2, rfl⟩)
/-- BARE: behind how many years there is no FOOD -/
theorem p_first3 (H : sim t M s) (ht : t < 1000) : pP t 55 150 [jI 3] M := by
  obtain ⟨R, R', w, y⟩ := H.1
  have G : ∀ (m : Nat) (a : Int), (∀ n, n < m → ¬ fi (it ye n s) (-1) (nj (it ye n s)) = 0) → (m ≤ 60 ∧ fi (it ye m s) (-1) (nj (it ye m s)) = 0 ∧ a = (m : Int) ∨ m = 61 ∧ a = -9) → pP t 55 150 [jI 3] M := by
    intro m a hm ha
    have L : ∀ M1, jth M M1 → jCall 150 (jR 2 0 0 :: [jI 3]) M1 (jqi (en t a)) := by
      intro M1 T
      refine vX2_first (q2_isIn (fun _ _ => jif1 (by decide) (jif1 (by decide) (jif0 (by decide) (vX2_bare (q2_copies (by decide) (th_R R' T) w (fun M2 R2 F2 => ?_)))))) (fun z => absurd ⟨by decide, by decide⟩ z))
      refine lp_n (X := fun n => ∀ M', rR M' 1 (it ye n s) → jth M M' → jAt 149 13 [some (jR 2 0 0), some (jI (n : Int))] [] M' _) m ?_ ?_ M2 R2 (jth_tr T (jth_r F2 (Or.inl rfl)))
      · intro M' R3 T3
        rcases ha with ⟨h0, h1, rfl⟩ | ⟨h1, rfl⟩
        · exact vX2_bare_13 (jif0 (by omega) (q2_allFood R3 (wf_yn _ w) (jif0 (by omega) (qi_ (qi_ (fin_t H ht T3))))))
        · subst h1
          exact vX2_bare_13 (jif1 (by decide) (qi_ (qi_ (fin_t H ht T3))))
      · intro n hn ih M' R3 T3
        refine vX2_bare_13 (jif0 (by omega) (q2_allFood R3 (wf_yn _ w) (jif1 (hm n hn) (q2_year R3 (wf_yn _ w) (y_n y (by omega)) (fun M4 R4 F4 => ⟨jr_i (by omega), ih M4 ?_ (jth_tr T3 (jth_r F4 (Or.inl rfl)))⟩)))))
        rw [it_s]; exact R4
    refine vX1_first (jif0 (by decide) (jif0 (by decide) (jif0 (by decide) (jif1 rfl (vX1_yearWithoutFood (q0_become (by decide) R w (fun M2 R2 F2 => ?_)))))))
    refine lp_n (X := fun n => ∀ M', cR M' 2 (it ye n s) → jth M M' → jAt 63 13 [some (jR 1 0 0), some (jI (n : Int))] [] M' _) m ?_ ?_ M2 R2 (jth_c F2 (Or.inl rfl))
    · intro M' R3 T3
      rcases ha with ⟨h0, h1, rfl⟩ | ⟨h1, rfl⟩
      · exact vX1_yearWithoutFood_13 (jif0 (by omega) (q0_allFood R3 (wf_yn _ w) (jif0 (by omega) (qi_ (qi_ (L M' T3))))))
      · subst h1
        exact vX1_yearWithoutFood_13 (jif1 (by decide) (qi_ (qi_ (L M' T3))))
    · intro n hn ih M' R3 T3
      refine vX1_yearWithoutFood_13 (jif0 (by omega) (q0_allFood R3 (wf_yn _ w) (jif1 (hm n hn) (q0_passYear R3 (wf_yn _ w) (y_n y (by omega)) (fun M4 R4 F4 => ⟨jr_i (by omega), ih M4 ?_ (jth_tr T3 (jth_c F4 (Or.inl rfl)))⟩)))))
      rw [it_s]; exact R4
  rcases fst_or (P := fun n => fi (it ye n s) (-1) (nj (it ye n s)) = 0) (fun n => Decidable.em _) 61 with h | ⟨m, h1, h2, h3⟩
  · exact G 61 (-9) h (Or.inr ⟨rfl, rfl⟩)
  · exact G m _ h3 (Or.inl ⟨by omega, h2, rfl⟩)
theorem p_first01 (H : sim t M s) (ht : t < 1000) {x1 : Int} (hx : x1 = 0 ∨ x1 = 1) : pP t 55 150 [jI x1] M := by
  obtain ⟨R, R', w, y⟩ := H.1
  rcases fst_or (P := fun n => ¬ gn s (n + 1) = 0) (fun n => Decidable.em _) 60 with h | ⟨q, h1, h2, h3⟩
  · have hm : ∀ n, 1 ≤ n → n < 61 → gn s n = 0 := fun n a b => by
      have := h (n - 1) (by omega)
      rw [show n - 1 + 1 = n by omega] at this
      exact Decidable.not_not.mp this
    have L := q2_first H ht hx hm (a := -9) (Or.inr ⟨rfl, rfl⟩)
    rcases hx with rfl | rfl
    · exact vX1_first (jif1 rfl (q1_yearOf R w y hm (Or.inr ⟨rfl, rfl⟩) (fun M' R2 T => jif0 (by decide) (qi_ (L M' T)))))
    · exact vX1_first (jif0 (by decide) (jif1 rfl (q1_yearOf R w y hm (Or.inr ⟨rfl, rfl⟩) (fun M' R2 T => qi_ (L M' T)))))
  · have hm : ∀ n, 1 ≤ n → n < q + 1 → gn s n = 0 := fun n a b => by
      have := h3 (n - 1) (by omega)
      rw [show n - 1 + 1 = n by omega] at this
      exact Decidable.not_not.mp this
    obtain ⟨c, c1, c2, c3⟩ := cs_bit (cs_gn w (q + 1)) h2
    have L := q2_first H ht hx hm (Or.inl ⟨c, by omega, by omega, c1, c2, c3, rfl⟩)
    have e : min (q + 1) 60 = q + 1 := by omega
    rcases hx with rfl | rfl
    · rw [if_pos rfl] at L
      refine vX1_first (jif1 rfl (q1_yearOf R w y hm (Or.inl ⟨by omega, by omega, h2, rfl⟩) (fun M' R2 T => jif1 (by omega) ?_)))
      rw [e] at R2
      exact vX1_leastForgotten (q1_forgotten (th_C R T) R2 w (q1_least c1 c2 c3 (qi_ (L M' T))))
    · rw [if_neg (by decide)] at L
      exact vX1_first (jif0 (by decide) (jif1 rfl (q1_yearOf R w y hm (Or.inl ⟨by omega, by omega, h2, rfl⟩) (fun M' R2 T => qi_ (L M' T)))))
theorem p_first (H : sim t M s) (ht : t < 1000) (x1 : Int) : pP t 55 150 [jI x1] M := by
  by_cases h01 : x1 = 0 ∨ x1 = 1
  · exact p_first01 H ht h01
  by_cases h2 : x1 = 2
  · subst h2; exact p_first2 H ht
  by_cases h3 : x1 = 3
  · subst h3; exact p_first3 H ht
  have L : jCall 150 (jR 2 0 0 :: [jI x1]) (rfC M 2) (jqi (en t (-((2 : Nat) : Int)))) := vX2_first (q2_isIn (fun _ _ => by omega) (fun _ => jif0 (by decide) (fin_r (k := 2) H ht ⟨by decide, by decide⟩)))
  exact vX1_first (jif0 (by omega) (jif0 (by omega) (jif0 h2 (jif0 h3 (q1_refuse (k := 2) H ⟨by decide, by decide⟩ (qi_ L))))))
-- which jars keep what
theorem p_only (H : sim t M s) (ht : t < 1000) : pP t 68 157 [] M := by
  obtain ⟨R, R', w, y⟩ := H.1
  have w1 := w.1
  have hn := nj_n w
  have hz : 0 ≤ (0 : Int) ∧ (0 : Int) < ((54 : Nat) : Int) := ⟨by decide, by decide⟩
  have e := (cR_f R).1
  have e' := (rR_f R').1
  have L : jCall 157 (jR 2 0 0 :: []) M (jqi (en t (bs (fun j => !decide (al s j = 0)) (nj s)))) := by
    refine vX2_only ?_
    refine lp_n (X := fun j => jAt 157 4 [some (jR 2 0 0), some (jI (bs (fun j => !decide (al s j = 0)) j)), some (jI (j : Int))] [] M _) (nj s) ?_ ?_
    · refine vX2_only_4 ⟨hz, ?_⟩
      rw [e']
      exact jif1 (by omega) (qi_ (fin_t H ht jth_rf))
    · intro j hj ih
      have hj' := nj_lt hj
      have hq : jr ((j : Int) + 1) := jr_i (by omega)
      have c0 := bs_jr (fun j => !decide (al s j = 0)) j
      rw [bs] at ih
      refine vX2_only_4 ⟨hz, ?_⟩
      rw [e']
      refine jif0 (by omega) (q2_alone R' w hj' (jite (fun c => ⟨hq, ?_⟩) (fun c => ⟨hq, ?_⟩)))
      · rw [if_neg (by rw [decide_eq_true c]; decide)] at ih; rw [jor_0 c0]; exact ih
      · rw [if_pos (by rw [decide_eq_false c]; rfl)] at ih; exact ih
  refine vX1_only ?_
  refine lp_n (X := fun j => jAt 68 4 [some (jR 1 0 0), some (jI (bs (fun j => !decide (al s j = 0)) j)), some (jI (j : Int))] [] M _) (nj s) ?_ ?_
  · exact vX1_only_4 (jif1 (by omega) (qi_ L))
  · intro j hj ih
    have hj' := nj_lt hj
    have hq : jr ((j : Int) + 1) := jr_i (by omega)
    rw [bs] at ih
    refine vX1_only_4 (jif0 (by omega) (q0_keptAlone R w hj' (jite (fun c => ⟨hq, ?_⟩) (fun c => ⟨hq, ?_⟩))))
    · rw [if_neg (by rw [decide_eq_true (show al s j = 0 from c)]; decide)] at ih; exact ih
    · rw [if_pos (by rw [decide_eq_false (show ¬ al s j = 0 from c)]; rfl)] at ih; exact ih
theorem kp_0 {j : Nat} (h : s 4 j ≤ 0) : kp s j = 0 := by unfold kp; rw [if_pos h]
theorem kp_1 {j : Nat} (h : 0 < s 4 j) : kp s j = kd s j := by unfold kp; rw [if_neg (by omega)]
theorem p_keepers (H : sim t M s) (ht : t < 1000) (x1 : Int) : pP t 69 158 [jI x1] M := by
  obtain ⟨R, R', w, y⟩ := H.1
  have w1 := w.1
  have hn := nj_n w
  have hz : 0 ≤ (0 : Int) ∧ (0 : Int) < ((54 : Nat) : Int) := ⟨by decide, by decide⟩
  have e := (cR_f R).1
  have e' := (rR_f R').1
  by_cases hc : 0 ≤ x1 ∧ x1 ≤ 9
  · obtain ⟨c, rfl⟩ := jnat hc.1
    have L : jCall 158 (jR 2 0 0 :: [jI (c : Int)]) M (jqi (en t (bs (fun j => tb (kp s j) c) (nj s)))) := by
      refine vX2_keepers (q2_isCustom (fun _ _ => jif1 (by decide) ?_) (fun z => absurd hc z))
      refine lp_n (X := fun j => jAt 158 17 [some (jR 2 0 0), some (jI (c : Int)), some (jI (bs (fun j => tb (kp s j) c) j)), some (jI (j : Int))] [] M _) (nj s) ?_ ?_
      · refine vX2_keepers_17 ⟨hz, ?_⟩
        rw [e']
        exact jif1 (by omega) (qi_ (fin_t H ht jth_rf))
      · intro j hj ih
        have hj' := nj_lt hj
        have hq : jr ((j : Int) + 1) := jr_i (by omega)
        have c0 := bs_jr (fun j => tb (kp s j) c) j
        rw [bs] at ih
        refine vX2_keepers_17 ⟨hz, ?_⟩
        rw [e']
        refine jif0 (by omega) (q2_hasFood R' w hj' (fun f => jif0 (by decide) (q2_keepsIn R' w hj' (q2_has (by omega) (fun z => jif0 (by decide) ⟨hq, ?_⟩) (fun z => jif1 rfl ⟨hq, ?_⟩)))) (fun f => jif1 rfl ⟨hq, ?_⟩))
        · rw [if_pos (by rw [kp_1 f]; exact z)] at ih; exact ih
        · rw [if_neg (by rw [kp_1 f, z]; decide)] at ih; rw [jor_0 c0]; exact ih
        · rw [if_neg (by rw [kp_0 f, tb_0 c (by omega)]; decide)] at ih; rw [jor_0 c0]; exact ih
    refine vX1_keepers (q1_isCustom (fun _ _ => jif1 (by decide) ?_) (fun z => absurd hc z))
    refine lp_n (X := fun j => jAt 69 17 [some (jR 1 0 0), some (jI (c : Int)), some (jI (bs (fun j => tb (kp s j) c) j)), some (jI (j : Int))] [] M _) (nj s) ?_ ?_
    · exact vX1_keepers_17 (jif1 (by omega) (qi_ L))
    · intro j hj ih
      have hj' := nj_lt hj
      have hq : jr ((j : Int) + 1) := jr_i (by omega)
      rw [bs] at ih
      refine vX1_keepers_17 (jif0 (by omega) (q0_kept R w hj' (q1_hasBit (by omega) (fun z => jif0 (by decide) ⟨hq, ?_⟩) (fun z => jif1 rfl ⟨hq, ?_⟩))))
      · rw [if_pos z] at ih; exact ih
      · rw [if_neg (by rw [z]; decide)] at ih; exact ih
  · have L : jCall 158 (jR 2 0 0 :: [jI x1]) (rfC M 1) (jqi (en t (-((1 : Nat) : Int)))) := vX2_keepers (q2_isCustom (fun a b => absurd ⟨a, b⟩ hc) (fun _ => jif0 (by decide) (fin_r (k := 1) H ht ⟨by decide, by decide⟩)))
    exact vX1_keepers (q1_isCustom (fun a b => absurd ⟨a, b⟩ hc) (fun _ => jif0 (by decide) (q1_refuse (k := 1) H ⟨by decide, by decide⟩ (qi_ L))))
def ag (s : jT) (c : Nat) : Nat → Int
  | 0 => 6
  | j + 1 => if tb (kp s j) c = true then min (ag s c j) (s 3 j) else ag s c j
theorem ag_r (w : wf s) (c : Nat) : ∀ j, j ≤ nj s → 0 ≤ ag s c j ∧ ag s c j ≤ 6
  | 0, _ => ⟨show (0 : Int) ≤ 6 by decide, show (6 : Int) ≤ 6 by decide⟩
  | j + 1, h => by
    have q := ag_r w c j (by omega)
    have q2 := (w.2.2.2 j (nj_lt (by omega))).2.2.1
    rw [ag]
    split <;> omega
def aa (s : jT) (c j : Nat) : Int := if 6 ≤ ag s c j then -9 else ag s c j
theorem p_age (H : sim t M s) (ht : t < 1000) (x1 : Int) : pP t 73 165 [jI x1] M := by
  obtain ⟨R, R', w, y⟩ := H.1
  have w1 := w.1
  have hn := nj_n w
  have hz : 0 ≤ (0 : Int) ∧ (0 : Int) < ((54 : Nat) : Int) := ⟨by decide, by decide⟩
  have e := (cR_f R).1
  have e' := (rR_f R').1
  by_cases hc : 0 ≤ x1 ∧ x1 ≤ 9
  · obtain ⟨c, rfl⟩ := jnat hc.1
    have L : jCall 165 (jR 2 0 0 :: [jI (c : Int)]) M (jqi (en t (aa s c (nj s)))) := by
      refine vX2_age (q2_isCustom (fun _ _ => jif1 (by decide) ?_) (fun z => absurd hc z))
      refine lp_n (X := fun j => jAt 165 18 [some (jR 2 0 0), some (jI (c : Int)), some (jI (aa s c j)), some (jI (j : Int))] [] M _) (nj s) ?_ ?_
      · refine vX2_age_18 ⟨hz, ?_⟩
        rw [e']
        exact jif1 (by omega) (qi_ (fin_t H ht jth_rf))
      · intro j hj ih
        have hj' := nj_lt hj
        have hq : jr ((j : Int) + 1) := jr_i (by omega)
        obtain ⟨g1, g2, g3, g4, g5⟩ := rR_j R' hj'
        have q2 := (w.2.2.2 j hj').2.2.1
        have q := ag_r w c j (by omega)
        refine vX2_age_18 ⟨hz, ?_⟩
        rw [e']
        refine jif0 (by omega) (q2_hasFood R' w hj' (fun f => jif0 (by decide) (q2_keepsIn R' w hj' (q2_has (by omega) (fun z => jif0 (by decide) ?_) (fun z => jif1 rfl ⟨hq, ?_⟩)))) (fun f => jif1 rfl ⟨hq, ?_⟩))
        · have z' : tb (kp s j) c = true := by rw [kp_1 f]; exact z
          by_cases h6 : 6 ≤ ag s c j
          · have e1 : aa s c (j + 1) = s 3 j := by
              unfold aa
              rw [ag, if_pos z', show min (ag s c j) (s 3 j) = s 3 j by omega, if_neg (by omega)]
            have e2 : aa s c j = -9 := by
              unfold aa
              rw [if_pos h6]
            rw [e1] at ih
            rw [e2]
            refine jif1 (by decide) (q2_of (by omega) 2 (by decide) ⟨h54 (by omega), hq, ?_⟩)
            rw [g3]
            exact ih
          · have e2 : aa s c j = ag s c j := by
              unfold aa
              rw [if_neg h6]
            rw [e2]
            refine jif0 (by omega) (q2_of (by omega) 2 (by decide) ⟨h54 (by omega), ?_⟩)
            rw [g3]
            refine jite (fun d => ⟨hq, ?_⟩) (fun d => q2_of (by omega) 2 (by decide) ⟨h54 (by omega), hq, ?_⟩)
            · have e1 : aa s c (j + 1) = ag s c j := by
                unfold aa
                rw [ag, if_pos z', show min (ag s c j) (s 3 j) = ag s c j by omega, if_neg (by omega)]
              rw [e1] at ih
              exact ih
            · have e1 : aa s c (j + 1) = s 3 j := by
                unfold aa
                rw [ag, if_pos z', show min (ag s c j) (s 3 j) = s 3 j by omega, if_neg (by omega)]
              rw [e1] at ih
              rw [g3]
              exact ih
        · have e1 : aa s c (j + 1) = aa s c j := by
            unfold aa
            rw [ag, if_neg (show ¬ tb (kp s j) c = true by rw [kp_1 f, z]; decide)]
          rw [e1] at ih; exact ih
        · have e1 : aa s c (j + 1) = aa s c j := by
            unfold aa
            rw [ag, if_neg (show ¬ tb (kp s j) c = true by rw [kp_0 f, tb_0 c (by omega)]; decide)]
          rw [e1] at ih; exact ih
    refine vX1_age (q1_isCustom (fun _ _ => jif1 (by decide) ?_) (fun z => absurd hc z))
    refine lp_n (X := fun j => jAt 73 18 [some (jR 1 0 0), some (jI (c : Int)), some (jI (ag s c j)), some (jI (j : Int))] [] M _) (nj s) ?_ ?_
    · refine vX1_age_18 (jif1 (by omega) (jite (fun z => qi_ ?_) (fun z => qi_ ?_)))
      · unfold aa at L; rw [if_pos z] at L; exact L
      · unfold aa at L; rw [if_neg z] at L; exact L
    · intro j hj ih
      have hj' := nj_lt hj
      have hq : jr ((j : Int) + 1) := jr_i (by omega)
      obtain ⟨g1, g2, g3, g4, g5⟩ := cR_j R hj'
      rw [ag] at ih
      refine vX1_age_18 (jif0 (by omega) (q0_kept R w hj' (q1_hasBit (by omega) (fun z => jif0 (by decide) ⟨⟨by omega, by omega⟩, hq, ?_⟩) (fun z => jif1 rfl ⟨hq, ?_⟩))))
      · rw [if_pos z] at ih; rw [g3]; exact ih
      · rw [if_neg (by rw [z]; decide)] at ih; exact ih
  · have L : jCall 165 (jR 2 0 0 :: [jI x1]) (rfC M 1) (jqi (en t (-((1 : Nat) : Int)))) := vX2_age (q2_isCustom (fun a b => absurd ⟨a, b⟩ hc) (fun _ => jif0 (by decide) (fin_r (k := 1) H ht ⟨by decide, by decide⟩)))
    exact vX1_age (q1_isCustom (fun a b => absurd ⟨a, b⟩ hc) (fun _ => jif0 (by decide) (q1_refuse (k := 1) H ⟨by decide, by decide⟩ (qi_ L))))
end First

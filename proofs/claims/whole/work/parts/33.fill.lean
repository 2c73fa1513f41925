-- Calls, side by side: folkFor, fill
section Fill
variable {M : jM} {s : jT} {t : Int} {K : Int → jM → Prop} {V : jM → Prop}
theorem q2_folkForN {k : Nat} (H : sim t M s) (ht : t < 1000) (hk : 1 ≤ k ∧ k ≤ 6) {x1 x2 : Int} : jAt 154 18 [some (jR 2 0 0), some (jI x1), some (jI x2), none, none] [jI (-(k : Int))] (rfC M k) (jqi (en t (-(k : Int)))) :=
  vX2_folkFor_18 (jif0 (by omega) (fin_r H ht hk))
theorem p_folkFor (H : sim t M s) (ht : t < 1000) (x1 x2 : Int) : pP t 66 154 [jI x1, jI x2] M := by
  obtain ⟨R, R', w, y⟩ := H.1
  have w1 := w.1
  have h3 : 0 ≤ (3 : Int) ∧ (3 : Int) < ((54 : Nat) : Int) := ⟨by decide, by decide⟩
  by_cases hc : 0 ≤ x1 ∧ x1 ≤ 9
  · by_cases h4 : 0 ≤ x2
    · by_cases h6 : x2 ≤ 30
      · obtain ⟨c, rfl⟩ := jnat hc.1
        obtain ⟨n, rfl⟩ := jnat h4
        have wv : ∀ v : Int, 0 ≤ v → v ≤ 20 → wf (su s 0 6 v) := fun v a b => wf_v w (by omega)
        have yv : ∀ v : Int, 0 ≤ su s 0 6 v 0 8 ∧ su s 0 6 v 0 8 ≤ 2000 := fun v => by rw [su_nj s v (by decide)]; exact y_in y
        have G : ∀ (m : Nat) (a : Int), (∀ j, j < m → ¬ tb (kw (fs s n (20 - (j : Int)))) c = true) → (m ≤ 20 ∧ tb (kw (fs s n (20 - (m : Int)))) c = true ∧ a = 20 - (m : Int) ∨ m = 21 ∧ a = -9) → pP t 66 154 [jI (c : Int), jI (n : Int)] M := by
          intro m a hm ha
          have L : ∀ M1, jth M M1 → jCall 154 (jR 2 0 0 :: [jI (c : Int), jI (n : Int)]) M1 (jqi (en t a)) := by
            intro M1 T
            refine vX2_folkFor (q2_isCustom (fun _ _ => jif0 (by decide) (q2_wrongBy (fun c => by omega) (fun _ c => by omega) (fun _ _ => vX2_folkFor_18 (jif1 rfl ?_)))) (fun z => absurd hc z))
            refine lp_n (X := fun j => ∀ M', jth M M' → jAt 154 33 [some (jR 2 0 0), some (jI (c : Int)), some (jI (n : Int)), none, some (jI (20 - (j : Int)))] [] M' (jqi (en t a))) m ?_ ?_ M1 T
            · intro M' T'
              rcases ha with ⟨h0, h1, rfl⟩ | ⟨h1, rfl⟩
              · refine vX2_folkFor_33 (jif0 (by omega) (q2_copies (by decide) (th_R R' T') w (fun M2 R2 F2 => ⟨h3, ?_⟩)))
                intro m3
                have R3 : rR m3 1 (su s 0 6 (20 - (m : Int))) := rR_v (q := 3) R2 (Or.inl ⟨rfl, rfl⟩)
                have T3 : jth M m3 := jth_tr T' (jth_r (jfm_u2 F2) (Or.inl rfl))
                clear_value m3
                refine q2_yearsOn R3 (wv _ (by omega) (by omega)) (yv _) (by omega) (fun M4 R4 F4 => q2_knownIn R4 (wf_yn n (wv _ (by omega) (by omega))) (q2_has (by omega) (fun _ => jif0 (by decide) (qi_ (fin_t H ht (jth_tr T3 (jth_r F4 (Or.inl rfl)))))) (fun z => ?_)))
                have h1' : tb (kw (it ye n (su s 0 6 (20 - (m : Int))))) c = true := h1
                rw [h1'] at z; cases z
              · subst h1
                exact vX2_folkFor_33 (jif1 (by decide) (qi_ (fin_t H ht T')))
            · intro j hj ih M' T'
              have hj20 : j ≤ 20 := by omega
              refine vX2_folkFor_33 (jif0 (by omega) (q2_copies (by decide) (th_R R' T') w (fun M2 R2 F2 => ⟨h3, ?_⟩)))
              intro m3
              have R3 : rR m3 1 (su s 0 6 (20 - (j : Int))) := rR_v (q := 3) R2 (Or.inl ⟨rfl, rfl⟩)
              have T3 : jth M m3 := jth_tr T' (jth_r (jfm_u2 F2) (Or.inl rfl))
              clear_value m3
              refine q2_yearsOn R3 (wv _ (by omega) (by omega)) (yv _) (by omega) (fun M4 R4 F4 => q2_knownIn R4 (wf_yn n (wv _ (by omega) (by omega))) (q2_has (by omega) (fun z => absurd z (hm j hj)) (fun _ => jif1 rfl ⟨jr_i (by omega), ?_⟩)))
              rw [show (20 : Int) - (j : Int) + -1 = 20 - ((j + 1 : Nat) : Int) by omega]
              exact ih M4 (jth_tr T3 (jth_r F4 (Or.inl rfl)))
          refine vX1_folkFor (q1_isCustom (fun _ _ => jif1 (by decide) (jif1 h4 (jif1 h6 ?_))) (fun z => absurd hc z))
          refine lp_n (X := fun j => ∀ M', jth M M' → jAt 66 40 [some (jR 1 0 0), some (jI (c : Int)), some (jI (n : Int)), some (jI (20 - (j : Int)))] [] M' (jqi fun y M1 => jCall 154 (jR 2 0 0 :: [jI (c : Int), jI (n : Int)]) M1 (jqi (en t y)))) m ?_ ?_ M jth_rf
          · intro M' T'
            rcases ha with ⟨h0, h1, rfl⟩ | ⟨h1, rfl⟩
            · refine vX1_folkFor_40 (jif0 (by omega) (q0_become (by decide) (th_C R T') w (fun M2 R2 F2 => ?_)))
              intro m3
              have R3 : cR m3 2 (su s 0 6 (20 - (m : Int))) := cR_v R2 (by decide)
              have T3 : jth M m3 := jth_tr T' (jth_c (jfm_u2 F2) (Or.inl rfl))
              clear_value m3
              refine q0_pass R3 (wv _ (by omega) (by omega)) (yv _) (by omega) (fun M4 R4 F4 => q0_knownBits R4 (wf_yn n (wv _ (by omega) (by omega))) (q1_hasBit (by omega) (fun _ => jif0 (by decide) (qi_ (L M4 (jth_tr T3 (jth_c F4 (Or.inl rfl)))))) (fun z => ?_)))
              have h1' : tb (kw (it ye n (su s 0 6 (20 - (m : Int))))) c = true := h1
              rw [h1'] at z; cases z
            · subst h1
              exact vX1_folkFor_40 (jif1 (by decide) (qi_ (L M' T')))
          · intro j hj ih M' T'
            have hj20 : j ≤ 20 := by omega
            refine vX1_folkFor_40 (jif0 (by omega) (q0_become (by decide) (th_C R T') w (fun M2 R2 F2 => ?_)))
            intro m3
            have R3 : cR m3 2 (su s 0 6 (20 - (j : Int))) := cR_v R2 (by decide)
            have T3 : jth M m3 := jth_tr T' (jth_c (jfm_u2 F2) (Or.inl rfl))
            clear_value m3
            refine q0_pass R3 (wv _ (by omega) (by omega)) (yv _) (by omega) (fun M4 R4 F4 => q0_knownBits R4 (wf_yn n (wv _ (by omega) (by omega))) (q1_hasBit (by omega) (fun z => absurd z (hm j hj)) (fun _ => jif1 rfl ⟨jr_i (by omega), ?_⟩)))
            rw [show (20 : Int) - (j : Int) + -1 = 20 - ((j + 1 : Nat) : Int) by omega]
            exact ih M4 (jth_tr T3 (jth_c F4 (Or.inl rfl)))
        rcases fst_or (P := fun j => tb (kw (fs s n (20 - (j : Int)))) c = true) (fun n => Decidable.em _) 21 with h | ⟨m, h1, h2, h3⟩
        · exact G 21 (-9) h (Or.inr ⟨rfl, rfl⟩)
        · exact G m _ h3 (Or.inl ⟨by omega, h2, rfl⟩)
      · have L : jCall 154 (jR 2 0 0 :: [jI x1, jI x2]) (rfC M 6) (jqi (en t (-((6 : Nat) : Int)))) := vX2_folkFor (q2_isCustom (fun _ _ => jif0 (by decide) (q2_wrongBy (fun c => by omega) (fun _ _ => q2_folkForN (k := 6) H ht ⟨by decide, by decide⟩) (fun _ c => by omega))) (fun z => absurd hc z))
        exact vX1_folkFor (q1_isCustom (fun _ _ => jif1 (by decide) (jif1 h4 (jif0 h6 (q1_refuse (k := 6) H ⟨by decide, by decide⟩ (qi_ L))))) (fun z => absurd hc z))
    · have L : jCall 154 (jR 2 0 0 :: [jI x1, jI x2]) (rfC M 4) (jqi (en t (-((4 : Nat) : Int)))) := vX2_folkFor (q2_isCustom (fun _ _ => jif0 (by decide) (q2_wrongBy (fun c => q2_folkForN (k := 4) H ht ⟨by decide, by decide⟩) (fun c _ => by omega) (fun c _ => by omega))) (fun z => absurd hc z))
      exact vX1_folkFor (q1_isCustom (fun _ _ => jif1 (by decide) (jif0 h4 (q1_refuse (k := 4) H ⟨by decide, by decide⟩ (qi_ L)))) (fun z => absurd hc z))
  · have L : jCall 154 (jR 2 0 0 :: [jI x1, jI x2]) (rfC M 1) (jqi (en t (-((1 : Nat) : Int)))) := vX2_folkFor (q2_isCustom (fun a b => absurd ⟨a, b⟩ hc) (fun _ => jif1 rfl (q2_folkForN (k := 1) H ht ⟨by decide, by decide⟩)))
    exact vX1_folkFor (q1_isCustom (fun a b => absurd ⟨a, b⟩ hc) (fun _ => jif0 (by decide) (q1_refuse (k := 1) H ⟨by decide, by decide⟩ (qi_ L))))
theorem q2_fillN {k : Nat} (H : sim t M s) (ht : t < 1000) (hk : 1 ≤ k ∧ k ≤ 6) {x1 x2 x3 x4 : Int} : jAt 168 57 [some (jR 2 0 0), some (jI x1), some (jI x2), some (jI x3), some (jI x4), none, none, none, none] [jI (-(k : Int))] (rfC M k) (jqi (en t (-(k : Int)))) :=
  vX2_fill_57 (jif0 (by omega) (fin_r H ht hk))
theorem p_fill (H : sim t M s) (ht : t < 1000) (x1 x2 x3 x4 : Int) : pP t 67 168 [jI x1, jI x2, jI x3, jI x4] M := by
  obtain ⟨R, R', w, y⟩ := H.1
  have w1 := w.1
  by_cases hs : 0 ≤ x2 ∧ x2 ≤ 5
  · by_cases h4 : 0 ≤ x1 ∧ 0 ≤ x3
    · by_cases h6 : x1 ≤ 9 ∧ x3 ≤ 30
      · by_cases hw : x4 = 0 ∨ x4 = 1
        · obtain ⟨n, rfl⟩ := jnat h4.2
          have hn' : n ≤ 60 := by omega
          by_cases hf : s 0 5 < 9
          · have wk : ∀ k : Nat, k < 6 → wf (ad s (k : Int) x1 x2 9) := fun k hk => wf_ad w hf (by omega) (by omega) hs (by decide)
            have yk : ∀ k : Nat, 0 ≤ ad s (k : Int) x1 x2 9 0 8 ∧ ad s (k : Int) x1 x2 9 0 8 ≤ 2000 := fun k => by rw [ad_f _ _ _ _ _ (by decide)]; exact y_in y
            have x6 : 0 ≤ (xf s n x1 x2 6).1 ∧ 0 ≤ (xf s n x1 x2 6).2 := xf_1 s n x1 x2 5
            have G : ∀ a, a = (if x4 = 0 then (xf s n x1 x2 6).1 else (xf s n x1 x2 6).2) → pP t 67 168 [jI x1, jI x2, jI (n : Int), jI x4] M := by
              intro a ha
              have L : ∀ M1, jth M M1 → jCall 168 (jR 2 0 0 :: [jI x1, jI x2, jI (n : Int), jI x4]) M1 (jqi (en t a)) := by
                intro M1 T
                refine vX2_fill (q2_isShelf (fun _ _ => jif1 (by decide) (jif0 (by omega) (jif1 h4.2 (jif0 (by omega) (jif1 h6.2 (q2_isIn (fun _ _ => jif0 (by decide) (vX2_fill_57 (jif1 rfl ?_))) (fun z => absurd ⟨by omega, by omega⟩ z))))))) (fun z => absurd hs z))
                refine lp_n (X := fun k => ∀ M', jth M M' → jAt 168 81 [some (jR 2 0 0), some (jI x1), some (jI x2), some (jI (n : Int)), some (jI x4), none, some (jI (xf s n x1 x2 k).1), some (jI (max (-1) (xf s n x1 x2 k).2)), some (jI (k : Int))] [] M' (jqi (en t a))) 6 ?_ ?_ M1 T
                · intro M' T'
                  refine vX2_fill_81 (jif1 (by decide) (jite (fun z => qi_ ?_) (fun z => qi_ ?_)))
                  · rw [if_neg z] at ha
                    rw [show max (-1) (xf s n x1 x2 6).2 = (xf s n x1 x2 6).2 by omega, ← ha]; exact fin_t H ht T'
                  · rw [if_pos (Decidable.not_not.mp z)] at ha
                    rw [← ha]; exact fin_t H ht T'
                · intro k hk ih M' T'
                  have hq : jr ((k : Int) + 1) := jr_i (by omega)
                  have wn := wf_yn n (wk k hk)
                  have or := xf_or s n x1 x2 k
                  have ck := (jc10 (kw (fl s n (k : Int) x1 x2))).1
                  rw [xf] at ih
                  refine vX2_fill_81 (jif0 (by omega) (q2_copies (by decide) (th_R R' T') w (fun M2 R2 F2 => q2_adds R2 w hf (fun M3 R3 F3 => jif1 (by decide) (q2_yearsOn R3 (wk k hk) (yk k) hn' (fun M4 R4 F4 => ?_))))))
                  have T4 := jth_tr T' (jth_r (jfm_tr F2 (jfm_tr F3 F4)) (Or.inl rfl))
                  refine q2_knownCount R4 wn (jite (fun d => q2_knownCount R4 wn ⟨hq, ?_⟩) (fun d => ⟨hq, ?_⟩))
                  · have cd : (xf s n x1 x2 k).2 < kc (fl s n (k : Int) x1 x2) := by
                      show (xf s n x1 x2 k).2 < jpc 10 _
                      rcases or with q | q
                      · rw [q]; show (-9 : Int) < _; omega
                      · have : max (-1) (xf s n x1 x2 k).2 < jpc 10 (kw (fl s n (k : Int) x1 x2)) := d
                        omega
                    rw [if_pos cd] at ih
                    have e9 : max (-1) (kc (fl s n (k : Int) x1 x2)) = kc (fl s n (k : Int) x1 x2) := by show max (-1) (jpc 10 _) = jpc 10 _; omega
                    have ih2 := ih M4 T4
                    dsimp only at ih2
                    rw [e9] at ih2
                    exact ih2
                  · have cd : ¬ (xf s n x1 x2 k).2 < kc (fl s n (k : Int) x1 x2) := by
                      show ¬ (xf s n x1 x2 k).2 < jpc 10 _
                      have d' : ¬ max (-1) (xf s n x1 x2 k).2 < jpc 10 (kw (fl s n (k : Int) x1 x2)) := d
                      omega
                    rw [if_neg cd] at ih; exact ih M4 T4
              refine vX1_fill (q1_isShelf (fun _ _ => jif1 (by decide) (jif0 (by omega) (jif1 h4.2 (jif0 (by omega) (jif1 h6.2 (q1_isNeither (fun z => absurd hw z) (fun _ => jif1 rfl (q0_isFull R (fun z => by omega) (fun _ => jif1 rfl ?_))))))))) (fun z => absurd hs z))
              refine lp_n (X := fun k => ∀ M', jth M M' → jAt 67 86 [some (jR 1 0 0), some (jI x1), some (jI x2), some (jI (n : Int)), some (jI x4), some (jI (xf s n x1 x2 k).1), some (jI (xf s n x1 x2 k).2), some (jI (k : Int))] [] M' (jqi fun y M1 => jCall 168 (jR 2 0 0 :: [jI x1, jI x2, jI (n : Int), jI x4]) M1 (jqi (en t y)))) 6 ?_ ?_ M jth_rf
              · intro M' T'
                refine vX1_fill_86 (jif1 (by decide) (jite (fun z => qi_ ?_) (fun z => qi_ ?_)))
                · rw [if_neg z] at ha; rw [← ha]; exact L M' T'
                · rw [if_pos (Decidable.not_not.mp z)] at ha; rw [← ha]; exact L M' T'
              · intro k hk ih M' T'
                have hq : jr ((k : Int) + 1) := jr_i (by omega)
                have wn := wf_yn n (wk k hk)
                rw [xf] at ih
                refine vX1_fill_86 (jif0 (by omega) (q0_become (by decide) (th_C R T') w (fun M2 R2 F2 => q0_add R2 w hf (fun M3 R3 F3 => q0_pass R3 (wk k hk) (yk k) hn' (fun M4 R4 F4 => ?_)))))
                have T4 := jth_tr T' (jth_c (jfm_tr F2 (jfm_tr F3 F4)) (Or.inl rfl))
                refine q0_knownCount R4 wn (jite (fun d => ⟨hq, ?_⟩) (fun d => q0_knownCount R4 wn ⟨hq, ?_⟩))
                · have d' : kc (fl s n (k : Int) x1 x2) ≤ (xf s n x1 x2 k).2 := d
                  rw [if_neg (by omega)] at ih; exact ih M4 T4
                · have d' : ¬ kc (fl s n (k : Int) x1 x2) ≤ (xf s n x1 x2 k).2 := d
                  rw [if_pos (by omega)] at ih; exact ih M4 T4
            exact G _ rfl
          · have hf' : s 0 5 = 9 := by omega
            have L : jCall 168 (jR 2 0 0 :: [jI x1, jI x2, jI (n : Int), jI x4]) M (jqi (en t (-9))) := by
              refine vX2_fill (q2_isShelf (fun _ _ => jif1 (by decide) (jif0 (by omega) (jif1 h4.2 (jif0 (by omega) (jif1 h6.2 (q2_isIn (fun _ _ => jif0 (by decide) (vX2_fill_57 (jif1 rfl ?_))) (fun z => absurd ⟨by omega, by omega⟩ z))))))) (fun z => absurd hs z))
              exact vX2_fill_81 (jif0 (by decide) (q2_copies (by decide) R' w (fun M2 R2 F2 => q2_addsF R2 hf' (jif0 (by decide) (qi_ (fin_t H ht (jth_r F2 (Or.inl rfl))))))))
            exact vX1_fill (q1_isShelf (fun _ _ => jif1 (by decide) (jif0 (by omega) (jif1 h4.2 (jif0 (by omega) (jif1 h6.2 (q1_isNeither (fun z => absurd hw z) (fun _ => jif1 rfl (q0_isFull R (fun z => jif0 (by decide) (qi_ L)) (fun z => absurd z hf))))))))) (fun z => absurd hs z))
        · have L : jCall 168 (jR 2 0 0 :: [jI x1, jI x2, jI x3, jI x4]) (rfC M 2) (jqi (en t (-((2 : Nat) : Int)))) := vX2_fill (q2_isShelf (fun _ _ => jif1 (by decide) (jif0 (by omega) (jif1 h4.2 (jif0 (by omega) (jif1 h6.2 (q2_isIn (fun _ _ => by omega) (fun _ => jif1 rfl (q2_fillN (k := 2) H ht ⟨by decide, by decide⟩)))))))) (fun z => absurd hs z))
          exact vX1_fill (q1_isShelf (fun _ _ => jif1 (by decide) (jif0 (by omega) (jif1 h4.2 (jif0 (by omega) (jif1 h6.2 (q1_isNeither (fun _ => jif0 (by decide) (q1_refuse (k := 2) H ⟨by decide, by decide⟩ (qi_ L))) (fun z => absurd z hw))))))) (fun z => absurd hs z))
      · have L : jCall 168 (jR 2 0 0 :: [jI x1, jI x2, jI x3, jI x4]) (rfC M 6) (jqi (en t (-((6 : Nat) : Int)))) := vX2_fill (q2_isShelf (fun _ _ => jif1 (by decide) (jif0 (by omega) (jif1 h4.2 (jite (fun _ => q2_fillN (k := 6) H ht ⟨by decide, by decide⟩) (fun c => jif0 (by omega) (q2_fillN (k := 6) H ht ⟨by decide, by decide⟩)))))) (fun z => absurd hs z))
        exact vX1_fill (q1_isShelf (fun _ _ => jif1 (by decide) (jif0 (by omega) (jif1 h4.2 (jite (fun _ => q1_refuse (k := 6) H ⟨by decide, by decide⟩ (qi_ L)) (fun c => jif0 (by omega) (q1_refuse (k := 6) H ⟨by decide, by decide⟩ (qi_ L))))))) (fun z => absurd hs z))
    · have L : jCall 168 (jR 2 0 0 :: [jI x1, jI x2, jI x3, jI x4]) (rfC M 4) (jqi (en t (-((4 : Nat) : Int)))) := vX2_fill (q2_isShelf (fun _ _ => jif1 (by decide) (jite (fun _ => q2_fillN (k := 4) H ht ⟨by decide, by decide⟩) (fun c => jif0 (by omega) (q2_fillN (k := 4) H ht ⟨by decide, by decide⟩)))) (fun z => absurd hs z))
      exact vX1_fill (q1_isShelf (fun _ _ => jif1 (by decide) (jite (fun _ => q1_refuse (k := 4) H ⟨by decide, by decide⟩ (qi_ L)) (fun c => jif0 (by omega) (q1_refuse (k := 4) H ⟨by decide, by decide⟩ (qi_ L))))) (fun z => absurd hs z))
  · have L : jCall 168 (jR 2 0 0 :: [jI x1, jI x2, jI x3, jI x4]) (rfC M 1) (jqi (en t (-((1 : Nat) : Int)))) := vX2_fill (q2_isShelf (fun a b => absurd ⟨a, b⟩ hs) (fun _ => jif0 (by decide) (q2_fillN (k := 1) H ht ⟨by decide, by decide⟩)))
    exact vX1_fill (q1_isShelf (fun a b => absurd ⟨a, b⟩ hs) (fun _ => jif0 (by decide) (q1_refuse (k := 1) H ⟨by decide, by decide⟩ (qi_ L))))
end Fill

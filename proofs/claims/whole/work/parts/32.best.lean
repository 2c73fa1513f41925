-- Calls, side by side: shutBest, move, folkFor, fill
/-- how many are KNOWN -/
def kc (s : jT) : Int := jpc 10 (kw s)
/-- SHUT just so, n years on -/
def sj (s : jT) (x : Int) : jT := pu s 5 (fun j => if tb x j = true then 1 else 0) (nj s)
def xb (s : jT) (n : Nat) (q : Int) : Nat → Int × Int
  | 0 => (-9, -9)
  | k + 1 => if it ye n (sj s (k : Int)) 0 7 - s 0 7 ≤ q ∧ (xb s n q k).2 < kc (it ye n (sj s (k : Int))) then ((k : Int), kc (it ye n (sj s (k : Int)))) else xb s n q k
theorem xb_or (s : jT) (n : Nat) (q : Int) : ∀ k, xb s n q k = (-9, -9) ∨ 0 ≤ (xb s n q k).1 ∧ 0 ≤ (xb s n q k).2
  | 0 => Or.inl rfl
  | k + 1 => by
    rw [xb]
    split
    · exact Or.inr ⟨show (0 : Int) ≤ (k : Int) by omega, (jc10 _).1⟩
    · exact xb_or s n q k
theorem wf_sj {s : jT} (w : wf s) (x : Int) : wf (sj s x) := wf_pu w _ (fun j _ => by
  refine Or.inr (Or.inr (Or.inr (Or.inr ⟨rfl, ?_⟩)))
  split <;> simp)
theorem nj_sj (s : jT) (x : Int) : nj (sj s x) = nj s := nj_pu (by decide)
theorem sj_8 (s : jT) (x : Int) : sj s x 0 8 = s 0 8 := pu_nc s _ (by decide)
def mv (s : jT) (n c : Nat) : jT := it ye n (su s 3 (c / 6) ((c % 6 : Nat) : Int))
def xm (s : jT) (n : Nat) : Nat → Int × Int
  | 0 => (-9, kc (it ye n s))
  | c + 1 => if (xm s n c).2 < kc (mv s n c) then ((10 * (c / 6) + c % 6 : Nat), kc (mv s n c)) else xm s n c
def fs (s : jT) (n : Nat) (v : Int) : jT := it ye n (su s 0 6 v)
def fl (s : jT) (n : Nat) (k f sh : Int) : jT := it ye n (ad s k f sh 9)
def xf (s : jT) (n : Nat) (f sh : Int) : Nat → Int × Int
  | 0 => (-9, -9)
  | k + 1 => if (xf s n f sh k).2 < kc (fl s n (k : Int) f sh) then ((k : Int), kc (fl s n (k : Int) f sh)) else xf s n f sh k
theorem xf_or (s : jT) (n : Nat) (f sh : Int) : ∀ k, xf s n f sh k = (-9, -9) ∨ 0 ≤ (xf s n f sh k).1 ∧ 0 ≤ (xf s n f sh k).2
  | 0 => Or.inl rfl
  | k + 1 => by
    rw [xf]
    split
    · exact Or.inr ⟨show (0 : Int) ≤ (k : Int) by omega, (jc10 _).1⟩
    · exact xf_or s n f sh k
theorem xf_1 (s : jT) (n : Nat) (f sh : Int) : ∀ k, 0 ≤ (xf s n f sh (k + 1)).1 ∧ 0 ≤ (xf s n f sh (k + 1)).2
  | 0 => by
    rw [xf]
    rw [if_pos (show (xf s n f sh 0).2 < kc (fl s n ((0 : Nat) : Int) f sh) by have := (jc10 (kw (fl s n ((0 : Nat) : Int) f sh))).1; show (-9 : Int) < jpc 10 _; omega)]
    exact ⟨show (0 : Int) ≤ ((0 : Nat) : Int) by omega, (jc10 _).1⟩
  | k + 1 => by
    rw [xf]
    split
    · exact ⟨show (0 : Int) ≤ ((k + 1 : Nat) : Int) by omega, (jc10 _).1⟩
    · exact xf_1 s n f sh k
section Best
variable {M : jM} {s : jT} {t : Int} {K : Int → jM → Prop} {V : jM → Prop}
theorem q2_knownCount {a : Nat} (R : rR M a s) (w : wf s) {Z : Int → jM → Prop} (h : Z (kc s) M) : jCall 118 [jR 3 a 0] M (jqi fun y1 M1 => jCall 113 [jI y1] M1 (jqi Z)) := q2_knownIn R w (q2_bits (cs_kw w) h)
theorem q2_shutBestN {k : Nat} (H : sim t M s) (ht : t < 1000) (hk : 1 ≤ k ∧ k ≤ 6) {x1 x2 x3 : Int} : jAt 152 45 [some (jR 2 0 0), some (jI x1), some (jI x2), some (jI x3), none, none, none, none, none] [jI (-(k : Int))] (rfC M k) (jqi (en t (-(k : Int)))) :=
  vX2_shutBest_45 (jif0 (by omega) (fin_r H ht hk))
theorem p_shutBest (H : sim t M s) (ht : t < 1000) (x1 x2 x3 : Int) : pP t 64 152 [jI x1, jI x2, jI x3] M := by
  obtain ⟨R, R', w, y⟩ := H.1
  have w1 := w.1
  have w7 := w.2.2.1
  have hn := nj_n w
  have h9 := nj_9 w
  have hp := p2_9 h9
  have hz : 0 ≤ (0 : Int) ∧ (0 : Int) < ((54 : Nat) : Int) := ⟨by decide, by decide⟩
  have h2 : 0 ≤ (2 : Int) ∧ (2 : Int) < ((54 : Nat) : Int) := ⟨by decide, by decide⟩
  by_cases h4 : 0 ≤ x1 ∧ 0 ≤ x2
  · by_cases h6 : x1 ≤ 30 ∧ x2 ≤ 99
    · by_cases hw : x3 = 0 ∨ x3 = 1
      · obtain ⟨n, rfl⟩ := jnat h4.1
        have hp1 : jshl 1 (s 0 5) = ((2 ^ nj s : Nat) : Int) := by rw [← hn]; exact pw_2 _ (by omega)
        have G : ∀ a, a = (if x3 = 0 then (xb s n x2 (2 ^ nj s)).1 else (xb s n x2 (2 ^ nj s)).2) → pP t 64 152 [jI (n : Int), jI x2, jI x3] M := by
          intro a ha
          have L : ∀ M1, jth M M1 → jCall 152 (jR 2 0 0 :: [jI (n : Int), jI x2, jI x3]) M1 (jqi (en t a)) := by
            intro M1 T
            refine vX2_shutBest (jif0 (by omega) (jif1 h4.2 (jif0 (by omega) (jif1 h6.2 (q2_isIn (fun _ _ => jif0 (by decide) (vX2_shutBest_45 (jif1 rfl ?_))) (fun z => absurd ⟨by omega, by omega⟩ z))))))
            refine lp_n (X := fun k => ∀ M', jth M M' → jAt 152 69 [some (jR 2 0 0), some (jI (n : Int)), some (jI x2), some (jI x3), none, some (jI (xb s n x2 k).1), some (jI (max (-1) (xb s n x2 k).2)), some (jI (k : Int)), none] [] M' (jqi (en t a))) (2 ^ nj s) ?_ ?_ M1 T
            · intro M' T'
              have e' := (rR_f (th_R R' T')).1
              refine vX2_shutBest_69 ⟨hz, ?_⟩
              rw [e', hp1]
              refine jif1 (Int.le_refl _) ?_
              rcases xb_or s n x2 (2 ^ nj s) with q | ⟨q1, q2⟩
              · rw [q] at ha ⊢
                have ha' : a = -9 := by rw [ha]; split <;> rfl
                exact jif1 (by decide) (qi_ (by rw [ha']; exact fin_t H ht T'))
              · refine jif0 (by omega) (jite (fun z => qi_ ?_) (fun z => qi_ ?_))
                · rw [if_neg z] at ha
                  rw [show max (-1) (xb s n x2 (2 ^ nj s)).2 = (xb s n x2 (2 ^ nj s)).2 by omega, ← ha]; exact fin_t H ht T'
                · rw [if_pos (Decidable.not_not.mp z)] at ha
                  rw [← ha]; exact fin_t H ht T'
            · intro k hk ih M' T'
              have e' := (rR_f (th_R R' T')).1
              have hq : jr ((k : Int) + 1) := jr_i (by omega)
              refine vX2_shutBest_69 ⟨hz, ?_⟩
              rw [e', hp1]
              refine jif0 (by omega) (q2_copies (by decide) (th_R R' T') w (fun M2 R2 F2 => ?_))
              refine lp_n (X := fun j => ∀ M3, rR M3 1 (pu s 5 (fun j => if tb (k : Int) j = true then 1 else 0) j) → jth M M3 → jAt 152 96 [some (jR 2 0 0), some (jI (n : Int)), some (jI x2), some (jI x3), none, some (jI (xb s n x2 k).1), some (jI (max (-1) (xb s n x2 k).2)), some (jI (k : Int)), some (jI (j : Int))] [] M3 (jqi (en t a))) (nj s) ?_ ?_ M2 (by rw [pu_0]; exact R2) (jth_tr T' (jth_r F2 (Or.inl rfl)))
              · intro M3 R3 T3
                have e3 := (rR_f (th_R R' T3)).1
                have R4 : rR M3 1 (sj s (k : Int)) := R3
                have wk := wf_sj w (k : Int)
                have wn := wf_yn n wk
                have w7n := wn.2.2.1
                refine vX2_shutBest_96 ⟨hz, ?_⟩
                rw [e3]
                refine jif1 (by omega) (q2_yearsOn R4 wk (by rw [sj_8]; exact y_in y) (by omega) (fun M5 R5 F5 => ⟨h2, h2, ?_⟩))
                have T5 := jth_tr T3 (jth_r F5 (Or.inl rfl))
                rw [(rR_f R5).2.2.1, (rR_f (th_R R' T5)).2.2.1]
                rw [xb] at ih
                have ck := (jc10 (kw (it ye n (sj s (k : Int))))).1
                have or := xb_or s n x2 k
                refine ⟨jr_i (by omega), jite (fun c => ⟨hq, ?_⟩) (fun c => q2_knownCount R5 wn (jite (fun d => q2_knownCount R5 wn ⟨hq, ?_⟩) (fun d => ⟨hq, ?_⟩)))⟩
                · rw [if_neg (fun z => by have := z.1; omega)] at ih; exact ih M5 T5
                · have cd : (xb s n x2 k).2 < kc (it ye n (sj s (k : Int))) := by
                    show (xb s n x2 k).2 < jpc 10 _
                    rcases or with q | q
                    · rw [q]; show (-9 : Int) < _; omega
                    · have : max (-1) (xb s n x2 k).2 < jpc 10 (kw (it ye n (sj s (k : Int)))) := d
                      omega
                  rw [if_pos ⟨by omega, cd⟩] at ih
                  have e9 : max (-1) (kc (it ye n (sj s (k : Int)))) = kc (it ye n (sj s (k : Int))) := by show max (-1) (jpc 10 _) = jpc 10 _; omega
                  have ih2 := ih M5 T5
                  dsimp only at ih2
                  rw [e9] at ih2
                  exact ih2
                · have cd : ¬ (xb s n x2 k).2 < kc (it ye n (sj s (k : Int))) := by
                    show ¬ (xb s n x2 k).2 < jpc 10 _
                    have d' : ¬ max (-1) (xb s n x2 k).2 < jpc 10 (kw (it ye n (sj s (k : Int)))) := d
                    omega
                  rw [if_neg (fun z => cd z.2)] at ih; exact ih M5 T5
              · intro j hj ih2 M3 R3 T3
                have hj' := nj_lt hj
                have e3 := (rR_f (th_R R' T3)).1
                refine vX2_shutBest_96 ⟨hz, ?_⟩
                rw [e3]
                refine jif0 (by omega) (q2_of (by omega) 4 (by decide) ⟨h54 (by omega), ?_⟩)
                rw [hb_tb (by omega)]
                intro m7
                refine ⟨jr_i (by omega), ih2 m7 ?_ (jth_tr T3 (jth_r jfm_u (Or.inl rfl)))⟩
                rw [pu_s]
                exact rR_u R3 (by decide)
          refine vX1_shutBest (jif0 (by omega) (jif1 h4.2 (jif0 (by omega) (jif1 h6.2 (q1_isNeither (fun z => absurd hw z) (fun _ => jif1 rfl ?_))))))
          refine lp_n (X := fun k => ∀ M', jth M M' → jAt 64 59 [some (jR 1 0 0), some (jI (n : Int)), some (jI x2), some (jI x3), some (jI (xb s n x2 k).1), some (jI (xb s n x2 k).2), some (jI (k : Int))] [] M' (jqi fun y M1 => jCall 152 (jR 2 0 0 :: [jI (n : Int), jI x2, jI x3]) M1 (jqi (en t y)))) (2 ^ nj s) ?_ ?_ M jth_rf
          · intro M' T'
            have e' := (cR_f (th_C R T')).1
            refine vX1_shutBest_59 ?_
            rw [e', hp1]
            refine jif1 (Int.le_refl _) (jite (fun z => qi_ ?_) (fun z => qi_ ?_))
            · rw [if_neg z] at ha; rw [← ha]; exact L M' T'
            · rw [if_pos (Decidable.not_not.mp z)] at ha; rw [← ha]; exact L M' T'
          · intro k hk ih M' T'
            have e' := (cR_f (th_C R T')).1
            have hq : jr ((k : Int) + 1) := jr_i (by omega)
            have wk := wf_sj w (k : Int)
            have wn := wf_yn n wk
            rw [xb] at ih
            refine vX1_shutBest_59 ?_
            rw [e', hp1]
            refine jif0 (by omega) (q0_become (by decide) (th_C R T') w (fun M2 R2 F2 => q0_shutJust R2 w (fun M3 R3 F3 => q0_pass (s := sj s (k : Int)) R3 wk (by rw [sj_8]; exact y_in y) (by omega) (fun M4 R4 F4 => ?_))))
            have T4 := jth_tr T' (jth_c (jfm_tr F2 (jfm_tr F3 F4)) (Or.inl rfl))
            refine q1_moreHunger (th_C R T4) R4 w wn (jite (fun c => ⟨hq, ?_⟩) (fun c => q0_knownCount R4 wn (jite (fun d => ⟨hq, ?_⟩) (fun d => q0_knownCount R4 wn ⟨hq, ?_⟩))))
            · rw [if_neg (fun z => by have z1 := z.1; have c' : x2 < it ye n (sj s (k : Int)) 0 7 - s 0 7 := c; omega)] at ih; exact ih M4 T4
            · have d' : kc (it ye n (sj s (k : Int))) ≤ (xb s n x2 k).2 := d
              rw [if_neg (fun z => by have := z.2; omega)] at ih; exact ih M4 T4
            · have c' : ¬ x2 < it ye n (sj s (k : Int)) 0 7 - s 0 7 := c
              have d' : ¬ kc (it ye n (sj s (k : Int))) ≤ (xb s n x2 k).2 := d
              rw [if_pos ⟨by omega, by omega⟩] at ih; exact ih M4 T4
        exact G _ rfl
      · have L : jCall 152 (jR 2 0 0 :: [jI x1, jI x2, jI x3]) (rfC M 2) (jqi (en t (-((2 : Nat) : Int)))) := vX2_shutBest (jif0 (by omega) (jif1 h4.2 (jif0 (by omega) (jif1 h6.2 (q2_isIn (fun _ _ => by omega) (fun _ => jif1 rfl (q2_shutBestN (k := 2) H ht ⟨by decide, by decide⟩)))))))
        exact vX1_shutBest (jif0 (by omega) (jif1 h4.2 (jif0 (by omega) (jif1 h6.2 (q1_isNeither (fun _ => jif0 (by decide) (q1_refuse (k := 2) H ⟨by decide, by decide⟩ (qi_ L))) (fun z => absurd z hw))))))
    · have L : jCall 152 (jR 2 0 0 :: [jI x1, jI x2, jI x3]) (rfC M 6) (jqi (en t (-((6 : Nat) : Int)))) := vX2_shutBest (jif0 (by omega) (jif1 h4.2 (jite (fun _ => q2_shutBestN (k := 6) H ht ⟨by decide, by decide⟩) (fun c => jif0 (by omega) (q2_shutBestN (k := 6) H ht ⟨by decide, by decide⟩)))))
      exact vX1_shutBest (jif0 (by omega) (jif1 h4.2 (jite (fun _ => q1_refuse (k := 6) H ⟨by decide, by decide⟩ (qi_ L)) (fun c => jif0 (by omega) (q1_refuse (k := 6) H ⟨by decide, by decide⟩ (qi_ L))))))
  · have L : jCall 152 (jR 2 0 0 :: [jI x1, jI x2, jI x3]) (rfC M 4) (jqi (en t (-((4 : Nat) : Int)))) := vX2_shutBest (jite (fun _ => q2_shutBestN (k := 4) H ht ⟨by decide, by decide⟩) (fun c => jif0 (by omega) (q2_shutBestN (k := 4) H ht ⟨by decide, by decide⟩)))
    exact vX1_shutBest (jite (fun _ => q1_refuse (k := 4) H ⟨by decide, by decide⟩ (qi_ L)) (fun c => jif0 (by omega) (q1_refuse (k := 4) H ⟨by decide, by decide⟩ (qi_ L))))
theorem p_move (H : sim t M s) (ht : t < 1000) (x1 : Int) : pP t 65 153 [jI x1] M := by
  obtain ⟨R, R', w, y⟩ := H.1
  have w1 := w.1
  have hn := nj_n w
  have h9 := nj_9 w
  have hz : 0 ≤ (0 : Int) ∧ (0 : Int) < ((54 : Nat) : Int) := ⟨by decide, by decide⟩
  by_cases h4 : 0 ≤ x1
  · by_cases h6 : x1 ≤ 30
    · obtain ⟨n, rfl⟩ := jnat h4
      have hn' : n ≤ 60 := by omega
      have wn := wf_yn n w
      have wm : ∀ c, wf (su s 3 (c / 6) ((c % 6 : Nat) : Int)) := fun c => wf_u w (by omega)
      have ym : ∀ c, 0 ≤ su s 3 (c / 6) ((c % 6 : Nat) : Int) 0 8 ∧ su s 3 (c / 6) ((c % 6 : Nat) : Int) 0 8 ≤ 2000 := fun c => by rw [su_nc s _ (by decide)]; exact y_in y
      have G : ∀ a, a = (xm s n (6 * nj s)).1 → pP t 65 153 [jI (n : Int)] M := by
        intro a ha
        have L : ∀ M1, jth M M1 → jCall 153 (jR 2 0 0 :: [jI (n : Int)]) M1 (jqi (en t a)) := by
          intro M1 T
          refine vX2_move (q2_wrongBy (fun c => by omega) (fun _ c => by omega) (fun _ _ => jif1 rfl (q2_takes (th_R R' T) w (y_in y) hn' (fun M2 R2 F2 => q2_knownCount R2 wn ?_))))
          refine lp_n (X := fun c => ∀ M', jth M M' → jAt 153 41 [some (jR 2 0 0), some (jI (n : Int)), none, some (jI (xm s n c).2), some (jI (xm s n c).1), some (jI (c : Int))] [] M' (jqi (en t a))) (6 * nj s) ?_ ?_ M2 (jth_tr T (jth_r F2 (Or.inl rfl)))
          · intro M' T'
            refine vX2_move_41 ⟨hz, ?_⟩
            rw [(rR_f (th_R R' T')).1]
            exact ⟨jr_i (by omega), jif1 (by omega) (qi_ (by rw [← ha]; exact fin_t H ht T'))⟩
          · intro c hc ih M' T'
            have e1 : (c : Int) / 6 = ((c / 6 : Nat) : Int) := by omega
            have e2 : (c : Int) % 6 = ((c % 6 : Nat) : Int) := by omega
            have hq : jr ((c : Int) + 1) := jr_i (by omega)
            have hps : jpos (c : Int) 6 := ⟨by omega, by decide⟩
            have wc := wf_yn n (wm c)
            rw [xm] at ih
            refine vX2_move_41 ⟨hz, ?_⟩
            rw [(rR_f (th_R R' T')).1]
            refine ⟨jr_i (by omega), jif0 (by omega) (q2_copies (by decide) (th_R R' T') w (fun M3 R3 F3 => ⟨hps, ?_⟩))⟩
            rw [e1]
            refine q2_of (by omega) 2 (by decide) ⟨hps, h54 (by omega), ?_⟩
            rw [e2]
            intro m4
            have R4 : rR m4 1 (su s 3 (c / 6) ((c % 6 : Nat) : Int)) := rR_u R3 (by decide)
            have T4 : jth M m4 := jth_tr T' (jth_r (jfm_u2 F3) (Or.inl rfl))
            clear_value m4
            refine q2_yearsOn R4 (wm c) (ym c) hn' (fun M5 R5 F5 => q2_knownCount R5 wc (jite (fun d => ⟨hps, ?_⟩) (fun d => ⟨hq, ?_⟩)))
            · have T5 := jth_tr T4 (jth_r F5 (Or.inl rfl))
              have d' : (xm s n c).2 < kc (mv s n c) := d
              rw [if_pos d'] at ih
              refine ⟨jr_i (by omega), hps, jr_i (by omega), q2_knownCount R5 wc ⟨hq, ?_⟩⟩
              have e3 : (10 : Int) * ((c / 6 : Nat) : Int) + ((c % 6 : Nat) : Int) = ((10 * (c / 6) + c % 6 : Nat) : Int) := by omega
              rw [e3]
              exact ih M5 T5
            · have d' : ¬ (xm s n c).2 < kc (mv s n c) := d
              rw [if_neg d'] at ih
              exact ih M5 (jth_tr T4 (jth_r F5 (Or.inl rfl)))
        refine vX1_move (jif1 h4 (jif1 h6 (q1_thinkAhead R w y hn' (fun M1 R1 F1 => q0_knownCount R1 wn ?_))))
        refine lp_n (X := fun j => ∀ M', jth M M' → jAt 65 43 [some (jR 1 0 0), some (jI (n : Int)), some (jI (xm s n (6 * j)).2), some (jI (xm s n (6 * j)).1), some (jI (j : Int)), none] [] M' (jqi fun y M1 => jCall 153 (jR 2 0 0 :: [jI (n : Int)]) M1 (jqi (en t y)))) (nj s) ?_ ?_ M1 (jth_c F1 (Or.inl rfl))
        · intro M' T'
          refine vX1_move_43 ?_
          rw [(cR_f (th_C R T')).1]
          exact jif1 (by omega) (qi_ (by rw [← ha]; exact L M' T'))
        · intro j hj ih M' T'
          have hj' := nj_lt hj
          have hb : 0 ≤ (j : Int) ∧ (j : Int) < ((9 : Nat) : Int) := ⟨by omega, by omega⟩
          refine vX1_move_43 ?_
          rw [(cR_f (th_C R T')).1]
          refine jif0 (by omega) ?_
          refine lp_n (X := fun k => ∀ M', jth M M' → jAt 65 58 [some (jR 1 0 0), some (jI (n : Int)), some (jI (xm s n (6 * j + k)).2), some (jI (xm s n (6 * j + k)).1), some (jI (j : Int)), some (jI (k : Int))] [] M' (jqi fun y M1 => jCall 153 (jR 2 0 0 :: [jI (n : Int)]) M1 (jqi (en t y)))) 6 ?_ ?_ M' T'
          · intro M3 T3
            exact vX1_move_58 (jif1 (by decide) ⟨jr_i (by omega), ih M3 T3⟩)
          · intro k hk ih2 M3 T3
            have e1 : (6 * j + k) / 6 = j := by omega
            have e2 : (6 * j + k) % 6 = k := by omega
            have hq : jr ((k : Int) + 1) := jr_i (by omega)
            have wc := wf_yn n (wm (6 * j + k))
            have ex : xm s n (6 * j + (k + 1)) = if (xm s n (6 * j + k)).2 < kc (mv s n (6 * j + k)) then (((10 * ((6 * j + k) / 6) + (6 * j + k) % 6 : Nat) : Int), kc (mv s n (6 * j + k))) else xm s n (6 * j + k) := rfl
            rw [ex] at ih2
            refine vX1_move_58 (jif0 (by omega) (q0_become (by decide) (th_C R T3) w (fun M4 R4 F4 => ⟨hb, ?_⟩)))
            intro m5
            have R5 : cR m5 2 (su s 3 ((6 * j + k) / 6) (((6 * j + k) % 6 : Nat) : Int)) := by rw [e1, e2]; exact cR_u R4 (by decide)
            have T5 : jth M m5 := jth_tr T3 (jth_c (jfm_u2 F4) (Or.inl rfl))
            clear_value m5
            refine q0_pass R5 (wm _) (ym _) hn' (fun M6 R6 F6 => ?_)
            have T6 := jth_tr T5 (jth_c F6 (Or.inl rfl))
            refine q0_knownCount R6 wc (jite (fun d => ⟨hq, ?_⟩) (fun d => q0_knownCount R6 wc ⟨jr_i (by omega), jr_i (by omega), hq, ?_⟩))
            · have d' : kc (mv s n (6 * j + k)) ≤ (xm s n (6 * j + k)).2 := d
              rw [if_neg (by omega)] at ih2
              exact ih2 M6 T6
            · have d' : ¬ kc (mv s n (6 * j + k)) ≤ (xm s n (6 * j + k)).2 := d
              rw [if_pos (by omega)] at ih2
              have e3 : (10 : Int) * (j : Int) + (k : Int) = ((10 * ((6 * j + k) / 6) + (6 * j + k) % 6 : Nat) : Int) := by rw [e1, e2]; omega
              rw [e3]
              exact ih2 M6 T6
      exact G _ rfl
    · have L : jCall 153 (jR 2 0 0 :: [jI x1]) (rfC M 6) (jqi (en t (-((6 : Nat) : Int)))) := vX2_move (q2_wrongBy (fun c => by omega) (fun _ _ => jif0 (by decide) (fin_r (k := 6) H ht ⟨by decide, by decide⟩)) (fun _ c => by omega))
      exact vX1_move (jif1 h4 (jif0 h6 (q1_refuse (k := 6) H ⟨by decide, by decide⟩ (qi_ L))))
  · have L : jCall 153 (jR 2 0 0 :: [jI x1]) (rfC M 4) (jqi (en t (-((4 : Nat) : Int)))) := vX2_move (q2_wrongBy (fun c => jif0 (by decide) (fin_r (k := 4) H ht ⟨by decide, by decide⟩)) (fun c _ => by omega) (fun c _ => by omega))
    exact vX1_move (jif0 h4 (q1_refuse (k := 4) H ⟨by decide, by decide⟩ (qi_ L)))
end Best

-- Calls, side by side: what is done
section Pairs1
variable {M : jM} {s : jT} {t : Int} {K : Int → jM → Prop} {V : jM → Prop}
theorem yr_u {n : Int} {c j : Nat} {x : Int} (h : ¬ (c = 0 ∧ j = 8)) (y : yr n s) : yr n (su s c j x) := by
  unfold yr at y ⊢
  rw [su_ne s x (by omega)]; exact y
theorem fin_s {m1 m2 : jM} (H : sim t M s) (ht : t < 1000) {s' : jT} (R : cR m1 0 s') (F1 : jfm 0 0 M m1) (R' : rR m2 0 s') (F2 : jfm 3 0 m1 m2) (w : wf s') (y : yr 999 s') {a : Int} : en t a a m2 :=
  ⟨rfl, s', sim_e H ht (cR_fr R F2 (by omega)) R' w y (fun k i c j _ h0 h3 => (F2 k i c j h3).trans (F1 k i c j h0))⟩
theorem fin_t {m2 : jM} (H : sim t M s) (ht : t < 1000) (h : jth M m2) {a : Int} : en t a a m2 := ⟨rfl, s, sim_t H ht h⟩
theorem q1_thinkAhead (R : cR M 0 s) (w : wf s) (y : yr 999 s) {n : Nat} (hn : n ≤ 60) (h : ∀ M', cR M' 2 (it ye n s) → jfm 0 2 M M' → V M') : jCall 57 [jR 1 0 0, jI (n : Int)] M (jqv V) :=
  vX1_thinkAhead (q0_become (by decide) R w (fun M1 R1 F1 => q0_pass R1 w ⟨y.1, by have := y.2; omega⟩ hn (fun M2 R2 F2 => qv_ (h M2 R2 (jfm_tr F1 F2)))))
theorem q1_moreHunger {A : jT} (R : cR M 0 s) (R2 : cR M 2 A) (w : wf s) (w2 : wf A) (h : K (A 0 7 - s 0 7) M) : jCall 58 [jR 1 0 0] M (jqi K) := by
  have e := (cR_f R).2.2.1
  have e2 := (cR_f R2).2.2.1
  have w3 := w.2.2.1
  have w4 := w2.2.2.1
  refine vX1_moreHunger ?_
  rw [e, e2]
  exact ⟨jr_i (by omega), qi_ h⟩
theorem p_known (H : sim t M s) (ht : t < 1000) : pP t 45 134 [] M := by
  obtain ⟨R, R', w, y⟩ := H.1
  exact vX1_known (q0_knownBits R w (qi_ (vX2_known (q2_knownIn R' w (qi_ (fin_t H ht jth_rf))))))
theorem p_moves (H : sim t M s) (ht : t < 1000) (x1 x2 : Int) : pP t 46 137 [jI x1, jI x2] M := by
  obtain ⟨R, R', w, y⟩ := H.1
  have w1 := w.1
  by_cases hc : (0 ≤ x1 ∧ x1 < s 0 5) ∧ (0 ≤ x2 ∧ x2 ≤ 5)
  · obtain ⟨j, rfl⟩ := jnat hc.1.1
    obtain ⟨e1, e2, e3, e4, e5⟩ := cR_j R hc.1.2
    obtain ⟨g1, g2, g3, g4, g5⟩ := rR_j R' hc.1.2
    have hb : 0 ≤ (j : Int) ∧ (j : Int) < ((9 : Nat) : Int) := ⟨by omega, by omega⟩
    refine vX1_moves (q0_hasj R w hc.1.2 (jif0 (by decide) (q1_isShelf (fun _ _ => jif1 (by decide) ⟨hb, hb, ?_⟩) (fun z => absurd hc.2 z))))
    intro m1
    rw [e3]
    have F1 : jfm 0 0 M m1 := jfm_u
    have R1 : cR m1 0 (su s 3 j x2) := cR_u R (by decide)
    clear_value m1
    have R2 : rR m1 0 s := rR_fr R' F1 (by omega)
    obtain ⟨g1, g2, g3, g4, g5⟩ := rR_j R2 hc.1.2
    refine qi_ (vX2_moves (q2_isJar R2 w (fun _ _ => jif0 (by decide) (q2_isShelf (fun _ _ => jif1 (by decide) (q2_of (by omega) 2 (by decide) ⟨h54 (by omega), q2_of (by omega) 2 (by decide) ⟨h54 (by omega), ?_⟩⟩)) (fun z => absurd hc.2 z))) (fun z => absurd hc.1 z)))
    intro m2
    rw [g3]
    exact qi_ (fin_s H ht R1 F1 (rR_u R2 (by decide)) jfm_u (wf_u w (by omega)) (yr_u (by omega) y))
  · have L : jCall 137 (jR 2 0 0 :: [jI x1, jI x2]) (rfC M 1) (jqi (en t (-((1 : Nat) : Int)))) :=
      vX2_moves (q2_isJar (rR_rf R') w (fun a b => jif0 (by decide) (q2_isShelf (fun c d => absurd ⟨⟨a, b⟩, c, d⟩ hc) (fun _ => jif0 (by decide) (fin_r (k := 1) H ht ⟨by decide, by decide⟩)))) (fun _ => jif1 rfl (fin_r (k := 1) H ht ⟨by decide, by decide⟩)))
    exact vX1_moves (q0_has R w (fun a b => jif0 (by decide) (q1_isShelf (fun c d => absurd ⟨⟨a, b⟩, c, d⟩ hc) (fun _ => jif0 (by decide) (q1_refuse (k := 1) H ⟨by decide, by decide⟩ (qi_ L))))) (fun _ => jif1 rfl (q1_refuse (k := 1) H ⟨by decide, by decide⟩ (qi_ L))))
theorem p_shuts (H : sim t M s) (ht : t < 1000) (x1 : Int) : pP t 47 138 [jI x1] M := by
  obtain ⟨R, R', w, y⟩ := H.1
  have w1 := w.1
  by_cases hc : 0 ≤ x1 ∧ x1 < s 0 5
  · obtain ⟨j, rfl⟩ := jnat hc.1
    obtain ⟨e1, e2, e3, e4, e5⟩ := cR_j R hc.2
    have hb : 0 ≤ (j : Int) ∧ (j : Int) < ((9 : Nat) : Int) := ⟨by omega, by omega⟩
    have L : ∀ (m1 : jM) (v : Int), v = 0 ∨ v = 1 → jxor (s 5 j) 1 = v → cR m1 0 (su s 5 j v) → jfm 0 0 M m1 → jCall 138 (jR 2 0 0 :: [jI (j : Int)]) m1 (jqi (en t v)) := by
      intro m1 v hv hx R1 F1
      have R2 : rR m1 0 s := rR_fr R' F1 (by omega)
      obtain ⟨g1, g2, g3, g4, g5⟩ := rR_j R2 hc.2
      refine vX2_shuts (q2_isJar R2 w (fun _ _ => jif1 (by decide) (q2_of (by omega) 4 (by decide) ⟨h54 (by omega), h54 (by omega), ?_⟩)) (fun z => absurd hc z))
      rw [g5, hx]
      intro m2
      have R3 : rR m2 0 (su s 5 j v) := rR_u R2 (by decide)
      have F3 : jfm 3 0 m1 m2 := jfm_u
      clear_value m2
      obtain ⟨g1, g2, g3, g4, g5⟩ := rR_j R3 (j := j) (by rw [su_nc s v (by decide)]; exact hc.2)
      refine q2_of (by omega) 4 (by decide) ⟨h54 (by omega), ?_⟩
      rw [g5, su_at]
      exact qi_ (fin_s H ht R1 F1 R3 F3 (wf_u w (by omega)) (yr_u (by omega) y))
    refine vX1_shuts (q0_hasj R w hc.2 (jif1 (by decide) ⟨hb, ?_⟩))
    rw [e5]
    rcases (w.2.2.2 j hc.2).2.2.2.2 with h5 | h5
    · refine jif0 (by rw [h5]; decide) ⟨⟨hb, jz1⟩, ?_⟩
      intro m1
      have F1 : jfm 0 0 M m1 := jfm_u
      have R1 : cR m1 0 (su s 5 j 1) := cR_u R (by decide)
      clear_value m1
      obtain ⟨g1, g2, g3, g4, g5⟩ := cR_j R1 (j := j) (by rw [su_nc s _ (by decide)]; exact hc.2)
      refine ⟨hb, ?_⟩
      rw [g5, su_at]
      exact jif0 (by decide) (qi_ (L m1 1 jz1 (by rw [h5]; decide +kernel) R1 F1))
    · refine jif1 (by rw [h5]; decide) ⟨⟨hb, jz0⟩, ?_⟩
      intro m1
      have F1 : jfm 0 0 M m1 := jfm_u
      have R1 : cR m1 0 (su s 5 j 0) := cR_u R (by decide)
      clear_value m1
      obtain ⟨g1, g2, g3, g4, g5⟩ := cR_j R1 (j := j) (by rw [su_nc s _ (by decide)]; exact hc.2)
      refine ⟨hb, ?_⟩
      rw [g5, su_at]
      exact jif1 (by decide) (qi_ (L m1 0 jz0 (by rw [h5]; decide +kernel) R1 F1))
  · have L : jCall 138 (jR 2 0 0 :: [jI x1]) (rfC M 1) (jqi (en t (-((1 : Nat) : Int)))) :=
      vX2_shuts (q2_isJar (rR_rf R') w (fun a b => absurd ⟨a, b⟩ hc) (fun _ => jif0 (by decide) (fin_r (k := 1) H ht ⟨by decide, by decide⟩)))
    exact vX1_shuts (q0_has R w (fun a b => absurd ⟨a, b⟩ hc) (fun _ => jif0 (by decide) (q1_refuse (k := 1) H ⟨by decide, by decide⟩ (qi_ L))))
theorem p_folk (H : sim t M s) (ht : t < 1000) (x1 : Int) : pP t 49 141 [jI x1] M := by
  obtain ⟨R, R', w, y⟩ := H.1
  have h3 : 0 ≤ (3 : Int) ∧ (3 : Int) < ((54 : Nat) : Int) := ⟨by decide, by decide⟩
  by_cases h4 : 0 ≤ x1
  · by_cases h6 : x1 ≤ 20
    · refine vX1_folk (jif1 h4 (jif1 h6 ?_))
      intro m1
      rw [(cR_f R).2.1]
      have F1 : jfm 0 0 M m1 := jfm_u
      have R1 : cR m1 0 (su s 0 6 x1) := cR_v R (by decide)
      clear_value m1
      have R2 : rR m1 0 s := rR_fr R' F1 (by omega)
      refine qi_ (vX2_folk (q2_wrongBy (fun c => by omega) (fun _ c => by omega) (fun _ _ => jif1 rfl ⟨h3, h3, ?_⟩)))
      intro m2
      rw [(rR_f R2).2.1]
      exact qi_ (fin_s H ht R1 F1 (rR_v (q := 3) R2 (Or.inl ⟨rfl, rfl⟩)) jfm_u (wf_v w (by omega)) (yr_u (by omega) y))
    · have L : jCall 141 (jR 2 0 0 :: [jI x1]) (rfC M 6) (jqi (en t (-((6 : Nat) : Int)))) :=
        vX2_folk (q2_wrongBy (fun c => by omega) (fun _ c => jif0 (by decide) (fin_r (k := 6) H ht ⟨by decide, by decide⟩)) (fun _ c => by omega))
      exact vX1_folk (jif1 h4 (jif0 h6 (q1_refuse (k := 6) H ⟨by decide, by decide⟩ (qi_ L))))
  · have L : jCall 141 (jR 2 0 0 :: [jI x1]) (rfC M 4) (jqi (en t (-((4 : Nat) : Int)))) :=
      vX2_folk (q2_wrongBy (fun c => jif0 (by decide) (fin_r (k := 4) H ht ⟨by decide, by decide⟩)) (fun c _ => by omega) (fun c _ => by omega))
    exact vX1_folk (jif0 h4 (q1_refuse (k := 4) H ⟨by decide, by decide⟩ (qi_ L)))
theorem q2_eatsN {k : Nat} (H : sim t M s) (ht : t < 1000) (hk : 1 ≤ k ∧ k ≤ 6) {x1 x2 : Int} : jAt 140 19 [some (jR 2 0 0), some (jI x1), some (jI x2), none] [jI (-(k : Int))] (rfC M k) (jqi (en t (-(k : Int)))) :=
  vX2_eats_19 (jif1 (by omega) (vX2_eats_41 (jif0 (by omega) (fin_r H ht hk))))
theorem p_eats (H : sim t M s) (ht : t < 1000) (x1 x2 : Int) : pP t 48 140 [jI x1, jI x2] M := by
  obtain ⟨R, R', w, y⟩ := H.1
  have w1 := w.1
  by_cases hc : 0 ≤ x1 ∧ x1 < s 0 5
  · obtain ⟨j, rfl⟩ := jnat hc.1
    obtain ⟨e1, e2, e3, e4, e5⟩ := cR_j R hc.2
    have hb : 0 ≤ (j : Int) ∧ (j : Int) < ((9 : Nat) : Int) := ⟨by omega, by omega⟩
    have wj' := w.2.2.2 j hc.2
    have h4' := wj'.2.2.2.1
    have h5' := wj'.2.2.2.2
    by_cases h4 : 0 ≤ x2
    · by_cases h6 : x2 ≤ 20
      · by_cases h3 : s 5 j = 0
        · refine vX1_eats (q0_hasj R w hc.2 (jif1 (by decide) (jif1 h4 (jif1 h6 ⟨hb, ?_⟩))))
          rw [e5]
          refine jif1 h3 (q0_lessFood R w hc.2 (by omega) (fun m1 R1 F1 => ⟨hb, ?_⟩))
          obtain ⟨g1, g2, g3, g4, g5⟩ := cR_j R1 (j := j) (by rw [su_nc s _ (by decide)]; exact hc.2)
          rw [g4, su_at]
          have R2 : rR m1 0 s := rR_fr R' F1 (by omega)
          obtain ⟨k1, k2, k3, k4, k5⟩ := rR_j R2 hc.2
          refine qi_ (vX2_eats (q2_isJar R2 w (fun _ _ => jif0 (by decide) (q2_wrongBy (fun c => by omega) (fun _ c => by omega) (fun _ _ => vX2_eats_19 (jif0 (by decide) (q2_of (by omega) 4 (by decide) ⟨h54 (by omega), ?_⟩))))) (fun z => absurd hc z)))
          rw [k5]
          refine jif1 (by omega) (vX2_eats_41 (jif1 rfl (q2_loses R2 w hc.2 (by omega) (fun m2 R3 F2 => q2_of (by omega) 3 (by decide) ⟨h54 (by omega), ?_⟩))))
          obtain ⟨d1, d2, d3, d4, d5⟩ := rR_j R3 (j := j) (by rw [su_nc s _ (by decide)]; exact hc.2)
          rw [d4, su_at]
          exact qi_ (fin_s H ht R1 F1 R3 F2 (wf_u w (by omega)) (yr_u (by omega) y))
        · have R2 : rR (rfC M 3) 0 s := rR_rf R'
          obtain ⟨k1, k2, k3, k4, k5⟩ := rR_j R2 hc.2
          have L : jCall 140 (jR 2 0 0 :: [jI (j : Int), jI x2]) (rfC M 3) (jqi (en t (-((3 : Nat) : Int)))) := by
            refine vX2_eats (q2_isJar R2 w (fun _ _ => jif0 (by decide) (q2_wrongBy (fun c => by omega) (fun _ c => by omega) (fun _ _ => vX2_eats_19 (jif0 (by decide) (q2_of (by omega) 4 (by decide) ⟨h54 (by omega), ?_⟩))))) (fun z => absurd hc z))
            rw [k5]
            exact jif0 (by omega) (vX2_eats_41 (jif0 (by decide) (fin_r (k := 3) H ht ⟨by decide, by decide⟩)))
          refine vX1_eats (q0_hasj R w hc.2 (jif1 (by decide) (jif1 h4 (jif1 h6 ⟨hb, ?_⟩))))
          rw [e5]
          exact jif0 h3 (q1_refuse (k := 3) H ⟨by decide, by decide⟩ (qi_ L))
      · have L : jCall 140 (jR 2 0 0 :: [jI (j : Int), jI x2]) (rfC M 6) (jqi (en t (-((6 : Nat) : Int)))) :=
          vX2_eats (q2_isJar (rR_rf R') w (fun _ _ => jif0 (by decide) (q2_wrongBy (fun c => by omega) (fun _ c => q2_eatsN (k := 6) H ht ⟨by decide, by decide⟩) (fun _ c => by omega))) (fun z => absurd hc z))
        exact vX1_eats (q0_hasj R w hc.2 (jif1 (by decide) (jif1 h4 (jif0 h6 (q1_refuse (k := 6) H ⟨by decide, by decide⟩ (qi_ L))))))
    · have L : jCall 140 (jR 2 0 0 :: [jI (j : Int), jI x2]) (rfC M 4) (jqi (en t (-((4 : Nat) : Int)))) :=
        vX2_eats (q2_isJar (rR_rf R') w (fun _ _ => jif0 (by decide) (q2_wrongBy (fun c => q2_eatsN (k := 4) H ht ⟨by decide, by decide⟩) (fun c _ => by omega) (fun c _ => by omega))) (fun z => absurd hc z))
      exact vX1_eats (q0_hasj R w hc.2 (jif1 (by decide) (jif0 h4 (q1_refuse (k := 4) H ⟨by decide, by decide⟩ (qi_ L)))))
  · have L : jCall 140 (jR 2 0 0 :: [jI x1, jI x2]) (rfC M 1) (jqi (en t (-((1 : Nat) : Int)))) :=
      vX2_eats (q2_isJar (rR_rf R') w (fun a b => absurd ⟨a, b⟩ hc) (fun _ => jif1 rfl (q2_eatsN (k := 1) H ht ⟨by decide, by decide⟩)))
    exact vX1_eats (q0_has R w (fun a b => absurd ⟨a, b⟩ hc) (fun _ => jif0 (by decide) (q1_refuse (k := 1) H ⟨by decide, by decide⟩ (qi_ L))))
theorem q2_turnN {k : Nat} (H : sim t M s) (ht : t < 1000) (hk : 1 ≤ k ∧ k ≤ 6) {x1 x2 x3 : Int} : jAt 142 33 [some (jR 2 0 0), some (jI x1), some (jI x2), some (jI x3), none, none] [jI (-(k : Int))] (rfC M k) (jqi (en t (-(k : Int)))) :=
  vX2_turn_33 (jif0 (by omega) (fin_r H ht hk))
theorem p_turn (H : sim t M s) (ht : t < 1000) (x1 x2 x3 : Int) : pP t 50 142 [jI x1, jI x2, jI x3] M := by
  obtain ⟨R, R', w, y⟩ := H.1
  have w1 := w.1
  by_cases hc : 0 ≤ x1 ∧ x1 < s 0 5
  · obtain ⟨j, rfl⟩ := jnat hc.1
    obtain ⟨e1, e2, e3, e4, e5⟩ := cR_j R hc.2
    have hb : 0 ≤ (j : Int) ∧ (j : Int) < ((9 : Nat) : Int) := ⟨by omega, by omega⟩
    have wj' := w.2.2.2 j hc.2
    have h1' := wj'.1
    have h2' := wj'.2.1
    by_cases h2 : 0 ≤ x2 ∧ x2 ≤ 5
    · by_cases h4 : 0 ≤ x3
      · by_cases h6 : x3 ≤ 9
        · refine vX1_turn (q0_hasj R w hc.2 (jif1 (by decide) (jif0 (by omega) (jif1 (by omega) (jif1 h4 (jif1 h6 ⟨hb, ?_⟩))))))
          rw [e1, e2]
          refine ⟨jr_i (by omega), hb, jr_i (by omega), hb, ?_⟩
          intro m1
          refine ⟨hb, ?_⟩
          intro m2
          have F1 : jfm 0 0 M m2 := jfm_u2 jfm_u
          have R1 : cR m2 0 (su (su s 1 j x2) 2 j x3) := cR_u (cR_u R (by decide)) (by decide)
          clear_value m2
          have R2 : rR m2 0 s := rR_fr R' F1 (by omega)
          obtain ⟨k1, k2, k3, k4, k5⟩ := rR_j R2 hc.2
          refine qi_ (vX2_turn (q2_isJar R2 w (fun _ _ => jif1 (by decide) (q2_isIn (fun _ _ => jif1 (by decide) (q2_wrongBy (fun c => by omega) (fun _ c => by omega) (fun _ _ => vX2_turn_33 (jif1 rfl (q2_of (by omega) 0 (by decide) ⟨h54 (by omega), ?_⟩))))) (fun z => absurd h2 z))) (fun z => absurd hc z)))
          rw [k1]
          refine ⟨jr_i (by omega), q2_of (by omega) 1 (by decide) ⟨h54 (by omega), ?_⟩⟩
          rw [k2]
          refine ⟨jr_i (by omega), q2_of (by omega) 0 (by decide) ⟨h54 (by omega), ?_⟩⟩
          intro m3
          refine q2_of (by omega) 1 (by decide) ⟨h54 (by omega), ?_⟩
          intro m4
          exact qi_ (fin_s H ht R1 F1 (rR_u (rR_u R2 (by decide)) (by decide)) (jfm_u2 jfm_u) (wf_u (wf_u w (by omega)) (by omega)) (yr_u (by omega) (yr_u (by omega) y)))
        · have L : jCall 142 (jR 2 0 0 :: [jI (j : Int), jI x2, jI x3]) (rfC M 6) (jqi (en t (-((6 : Nat) : Int)))) :=
            vX2_turn (q2_isJar (rR_rf R') w (fun _ _ => jif1 (by decide) (q2_isIn (fun _ _ => jif1 (by decide) (q2_wrongBy (fun c => by omega) (fun _ c => q2_turnN (k := 6) H ht ⟨by decide, by decide⟩) (fun _ c => by omega))) (fun z => absurd h2 z))) (fun z => absurd hc z))
          exact vX1_turn (q0_hasj R w hc.2 (jif1 (by decide) (jif0 (by omega) (jif1 (by omega) (jif1 h4 (jif0 h6 (q1_refuse (k := 6) H ⟨by decide, by decide⟩ (qi_ L))))))))
      · have L : jCall 142 (jR 2 0 0 :: [jI (j : Int), jI x2, jI x3]) (rfC M 4) (jqi (en t (-((4 : Nat) : Int)))) :=
          vX2_turn (q2_isJar (rR_rf R') w (fun _ _ => jif1 (by decide) (q2_isIn (fun _ _ => jif1 (by decide) (q2_wrongBy (fun c => q2_turnN (k := 4) H ht ⟨by decide, by decide⟩) (fun c _ => by omega) (fun c _ => by omega))) (fun z => absurd h2 z))) (fun z => absurd hc z))
        exact vX1_turn (q0_hasj R w hc.2 (jif1 (by decide) (jif0 (by omega) (jif1 (by omega) (jif0 h4 (q1_refuse (k := 4) H ⟨by decide, by decide⟩ (qi_ L)))))))
    · have L : jCall 142 (jR 2 0 0 :: [jI (j : Int), jI x2, jI x3]) (rfC M 2) (jqi (en t (-((2 : Nat) : Int)))) :=
        vX2_turn (q2_isJar (rR_rf R') w (fun _ _ => jif1 (by decide) (q2_isIn (fun a b => absurd ⟨a, b⟩ h2) (fun _ => jif0 (by decide) (q2_turnN (k := 2) H ht ⟨by decide, by decide⟩)))) (fun z => absurd hc z))
      refine vX1_turn (q0_hasj R w hc.2 (jif1 (by decide) (jite (fun _ => q1_refuse (k := 2) H ⟨by decide, by decide⟩ (qi_ L)) (fun c => jif0 (by omega) (q1_refuse (k := 2) H ⟨by decide, by decide⟩ (qi_ L))))))
  · have L : jCall 142 (jR 2 0 0 :: [jI x1, jI x2, jI x3]) (rfC M 1) (jqi (en t (-((1 : Nat) : Int)))) :=
      vX2_turn (q2_isJar (rR_rf R') w (fun a b => absurd ⟨a, b⟩ hc) (fun _ => jif0 (by decide) (q2_turnN (k := 1) H ht ⟨by decide, by decide⟩)))
    exact vX1_turn (q0_has R w (fun a b => absurd ⟨a, b⟩ hc) (fun _ => jif0 (by decide) (q1_refuse (k := 1) H ⟨by decide, by decide⟩ (qi_ L))))
theorem p_years (H : sim t M s) (ht : t < 1000) (x1 : Int) : pP t 51 143 [jI x1] M := by
  obtain ⟨R, R', w, y⟩ := H.1
  have y1 := y.1
  have y2 := y.2
  have h1 : 0 ≤ (1 : Int) ∧ (1 : Int) < ((54 : Nat) : Int) := ⟨by decide, by decide⟩
  by_cases h4 : 1 ≤ x1
  · by_cases h6 : x1 ≤ 60 ∧ s 0 8 + x1 ≤ 999
    · obtain ⟨n, rfl⟩ := jnat (show 0 ≤ x1 by omega)
      have wn := wf_yn n w
      refine vX1_years (jif1 h4 (jif0 (by omega) ?_))
      rw [(cR_f R).2.2.2]
      refine ⟨jr_i (by omega), jif1 h6.2 (q0_pass R w ⟨y1, by omega⟩ (by omega) (fun m1 R1 F1 => q0_knownCount R1 wn (qi_ ?_)))⟩
      have R2 : rR m1 0 s := rR_fr R' F1 (by omega)
      refine vX2_years (jif1 h4 (jif0 (by omega) ⟨h1, ?_⟩))
      rw [(rR_f R2).2.2.2]
      exact ⟨jr_i (by omega), jif1 h6.2 (q2_yearsOn R2 w ⟨y1, by omega⟩ (by omega) (fun m2 R3 F2 => q2_knownIn R3 wn (q2_bits (cs_kw wn) (qi_ (fin_s H ht R1 F1 R3 F2 wn (by unfold yr; rw [yn_8]; omega))))))⟩
    · have R2 : rR (rfC M 6) 0 s := rR_rf R'
      have L : jCall 143 (jR 2 0 0 :: [jI x1]) (rfC M 6) (jqi (en t (-((6 : Nat) : Int)))) := by
        refine vX2_years (jif1 h4 (jite (fun _ => fin_r (k := 6) H ht ⟨by decide, by decide⟩) (fun c => ⟨h1, ?_⟩)))
        rw [(rR_f R2).2.2.2]
        exact ⟨jr_i (by omega), jif0 (by omega) (fin_r (k := 6) H ht ⟨by decide, by decide⟩)⟩
      refine vX1_years (jif1 h4 (jite (fun _ => q1_refuse (k := 6) H ⟨by decide, by decide⟩ (qi_ L)) (fun c => ?_)))
      rw [(cR_f R).2.2.2]
      exact ⟨jr_i (by omega), jif0 (by omega) (q1_refuse (k := 6) H ⟨by decide, by decide⟩ (qi_ L))⟩
  · have L : jCall 143 (jR 2 0 0 :: [jI x1]) (rfC M 4) (jqi (en t (-((4 : Nat) : Int)))) := vX2_years (jif0 h4 (fin_r (k := 4) H ht ⟨by decide, by decide⟩))
    exact vX1_years (jif0 h4 (q1_refuse (k := 4) H ⟨by decide, by decide⟩ (qi_ L)))
end Pairs1

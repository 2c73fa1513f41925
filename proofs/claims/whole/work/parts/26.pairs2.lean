-- Calls, side by side: what is, letters, the ROW, the image
section Pairs2
variable {M : jM} {s : jT} {t : Int} {K : Int → jM → Prop} {V : jM → Prop}
theorem sm_e {c : Int} (hc : c = 0 ∨ c = 1) {j : Nat} (hj : j < 31) : jshl c (j : Int) = if c = 0 then 0 else jshl 1 (j : Int) := by
  rcases hc with rfl | rfl
  · have : ∀ j : Nat, j < 31 → jshl 0 (j : Int) = 0 := by decide +kernel
    rw [this j hj]; rfl
  · rfl
theorem q2_shutBits (R : rR M 0 s) (w : wf s) (h : K (bs (fun j => !decide (s 5 j = 0)) (nj s)) M) : jAt 185 89 [some (jR 2 0 0), none, some (jI 0), some (jI 0)] [] M (jqi K) := by
  have e := (rR_f R).1
  have w1 := w.1
  have hn := nj_n w
  have hz : 0 ≤ (0 : Int) ∧ (0 : Int) < ((54 : Nat) : Int) := ⟨by decide, by decide⟩
  refine lp_n (X := fun j => jAt 185 89 [some (jR 2 0 0), none, some (jI (bs (fun j => !decide (s 5 j = 0)) j)), some (jI (j : Int))] [] M (jqi K)) (nj s) ?_ ?_
  · refine vX2_count_89 ⟨hz, ?_⟩
    rw [e]
    exact jif1 (by omega) (qi_ h)
  · intro j hj ih
    have hj' := nj_lt hj
    obtain ⟨e1, e2, e3, e4, e5⟩ := rR_j R hj'
    have h5 := (w.2.2.2 j hj').2.2.2.2
    have c0 := bs_jr (fun j => !decide (s 5 j = 0)) j
    rw [bs] at ih
    refine vX2_count_89 ⟨hz, ?_⟩
    rw [e]
    refine jif0 (by omega) (q2_of (by omega) 4 (by decide) ⟨h54 (by omega), jr_i (by omega), ?_⟩)
    rw [e5, sm_e h5 (by omega)]
    by_cases z : s 5 j = 0
    · rw [if_neg (by rw [decide_eq_true z]; decide)] at ih
      rw [if_pos z, jor_0 c0]; exact ih
    · rw [if_pos (by rw [decide_eq_false z]; rfl)] at ih
      rw [if_neg z]; exact ih
theorem p_count (H : sim t M s) (ht : t < 1000) (x1 : Int) : pP t 98 185 [jI x1] M := by
  obtain ⟨R, R', w, y⟩ := H.1
  obtain ⟨e5, e6, e7, e8⟩ := cR_f R
  obtain ⟨g5, g6, g7, g8⟩ := rR_f R'
  obtain ⟨sl, sr, sf, _⟩ := H.2.1
  have d : ∀ {a : Int}, en t a a M := fin_t H ht jth_rf
  have hN : ∀ {q : Int}, ¬ (11 ≤ x1 ∧ x1 ≤ 16) → (jqi (fun y M1 => jCall 185 (jR 2 0 0 :: [jI x1]) M1 (jqi (en t y))) (some (jI q)) M ↔ jCall 185 (jR 2 0 0 :: [jI x1]) M (jqi (en t q))) := fun {q} _ => ⟨fun ⟨z, e1, e2⟩ => (by cases e1; exact e2), fun z => qi_ z⟩
  by_cases h0 : x1 = 0
  · subst h0
    refine vX1_count (jif1 rfl (qi_ ?_))
    rw [e5]
    refine vX2_count (q2_isIn (fun c _ => absurd c (by decide)) (fun _ => jif1 rfl (jif1 rfl ⟨h54 (by decide), ?_⟩)))
    rw [g5]; exact qi_ d
  by_cases h1 : x1 = 1
  · subst h1
    refine vX1_count (jif0 (by decide) (jif1 rfl (qi_ ?_)))
    rw [e8]
    refine vX2_count (q2_isIn (fun c _ => absurd c (by decide)) (fun _ => jif1 rfl (jif0 (by decide) (jif1 rfl ⟨h54 (by decide), ?_⟩))))
    rw [g8]; exact qi_ d
  by_cases h2 : x1 = 2
  · subst h2
    refine vX1_count (jif0 (by decide) (jif0 (by decide) (jif1 rfl (qi_ ?_))))
    rw [e7]
    refine vX2_count (q2_isIn (fun c _ => absurd c (by decide)) (fun _ => jif1 rfl (jif0 (by decide) (jif0 (by decide) (jif1 rfl ⟨h54 (by decide), ?_⟩)))))
    rw [g7]; exact qi_ d
  by_cases h3 : x1 = 3
  · subst h3
    refine vX1_count (jif0 (by decide) (jif0 (by decide) (jif0 (by decide) (jif1 rfl (qi_ ?_)))))
    rw [e6]
    refine vX2_count (q2_isIn (fun c _ => absurd c (by decide)) (fun _ => jif1 rfl (jif0 (by decide) (jif0 (by decide) (jif0 (by decide) (jif1 rfl ⟨h54 (by decide), ?_⟩))))))
    rw [g6]; exact qi_ d
  by_cases h4 : x1 = 4
  · subst h4
    exact vX1_count (jif0 (by decide) (jif0 (by decide) (jif0 (by decide) (jif0 (by decide) (jif1 rfl (q0_allFood R w (qi_ (vX2_count (q2_isIn (fun c _ => absurd c (by decide)) (fun _ => jif1 rfl (jif0 (by decide) (jif0 (by decide) (jif0 (by decide) (jif0 (by decide) (jif1 rfl (q2_allFood R' w (qi_ d)))))))))))))))))
  by_cases h5 : x1 = 5
  · subst h5
    exact vX1_count (jif0 (by decide) (jif0 (by decide) (jif0 (by decide) (jif0 (by decide) (jif0 (by decide) (jif1 rfl (q0_shutBits R w (qi_ (vX2_count (q2_isIn (fun c _ => absurd c (by decide)) (fun _ => jif1 rfl (jif0 (by decide) (jif0 (by decide) (jif0 (by decide) (jif0 (by decide) (jif0 (by decide) (jif1 rfl (q2_shutBits R' w d))))))))))))))))))
  by_cases h6 : x1 = 6
  · subst h6
    refine vX1_count (jif0 (by decide) (jif0 (by decide) (jif0 (by decide) (jif0 (by decide) (jif0 (by decide) (jif0 (by decide) (jif1 rfl (qi_ (vX2_count (q2_isIn (fun c _ => absurd c (by decide)) (fun _ => jif1 rfl (jif0 (by decide) (jif0 (by decide) (jif0 (by decide) (jif0 (by decide) (jif0 (by decide) (jif0 (by decide) (jif1 rfl (qi_ ?_)))))))))))))))))))
    rw [sr.2.1]; exact d
  by_cases h7 : x1 = 7
  · subst h7
    refine vX1_count (jif0 (by decide) (jif0 (by decide) (jif0 (by decide) (jif0 (by decide) (jif0 (by decide) (jif0 (by decide) (jif0 (by decide) (jif1 rfl (qi_ (vX2_count (q2_isIn (fun c _ => absurd c (by decide)) (fun _ => jif1 rfl (jif0 (by decide) (jif0 (by decide) (jif0 (by decide) (jif0 (by decide) (jif0 (by decide) (jif0 (by decide) (jif0 (by decide) (jif1 rfl (qi_ ?_)))))))))))))))))))))
    rw [sl.2.1]; exact d
  by_cases hc : 11 ≤ x1 ∧ x1 ≤ 16
  · obtain ⟨n, hn⟩ := jnat (show 0 ≤ x1 - 10 by omega)
    have hb : 0 ≤ (n : Int) ∧ (n : Int) < ((7 : Nat) : Int) := ⟨by omega, by omega⟩
    refine vX1_count (jif0 h0 (jif0 h1 (jif0 h2 (jif0 h3 (jif0 h4 (jif0 h5 (jif0 h6 (jif0 h7 (jif0 (by omega) (jif0 (by omega) ?_))))))))))
    rw [hn]
    refine ⟨jr_i (by omega), hb, qi_ (vX2_count (q2_isIn (fun _ _ => jif0 (by decide) ?_) (fun z => absurd hc z)))⟩
    rw [hn]
    refine ⟨jr_i (by omega), hb, ?_⟩
    have q : M 2 0 3 (n : Int).toNat = M 1 0 3 (n : Int).toNat := (sf n (by omega)).1
    rw [q]; exact qi_ d
  · have L : jCall 185 (jR 2 0 0 :: [jI x1]) M (jqi (en t (-9))) := vX2_count (q2_isIn (fun a b => absurd ⟨a, b⟩ hc) (fun _ => jif1 rfl (jif0 h0 (jif0 h1 (jif0 h2 (jif0 h3 (jif0 h4 (jif0 h5 (jif0 h6 (jif0 h7 (qi_ d)))))))))))
    exact vX1_count (jif0 h0 (jif0 h1 (jif0 h2 (jif0 h3 (jif0 h4 (jif0 h5 (jif0 h6 (jif0 h7 (jite (fun _ => qi_ L) (fun c => jif1 (by omega) (qi_ L)))))))))))
theorem p_jar (H : sim t M s) (ht : t < 1000) (x1 x2 : Int) : pP t 44 133 [jI x1, jI x2] M := by
  obtain ⟨R, R', w, y⟩ := H.1
  have w1 := w.1
  have d : ∀ {a : Int}, en t a a M := fin_t H ht jth_rf
  by_cases hc : 0 ≤ x1 ∧ x1 < s 0 5
  · obtain ⟨j, rfl⟩ := jnat hc.1
    obtain ⟨e1, e2, e3, e4, e5⟩ := cR_j R hc.2
    obtain ⟨g1, g2, g3, g4, g5⟩ := rR_j R' hc.2
    have hb : 0 ≤ (j : Int) ∧ (j : Int) < ((9 : Nat) : Int) := ⟨by omega, by omega⟩
    have wj' := w.2.2.2 j hc.2
    by_cases h0 : x2 = 0
    · subst h0
      refine vX1_jar (q0_hasj R w hc.2 (jif1 (by decide) (jif1 rfl ⟨hb, ?_⟩)))
      rw [e1]
      refine qi_ (vX2_jar (q2_isJar R' w (fun _ _ => jif1 (by decide) (q2_isIn (fun _ _ => jif0 (by decide) (q2_of (by omega) 0 (by decide) ⟨h54 (by omega), ?_⟩)) (fun z => absurd ⟨by decide, by decide⟩ z))) (fun z => absurd hc z)))
      rw [g1]; exact qi_ d
    by_cases h1 : x2 = 1
    · subst h1
      refine vX1_jar (q0_hasj R w hc.2 (jif1 (by decide) (jif0 (by decide) (jif1 rfl ⟨hb, ?_⟩))))
      rw [e2]
      refine qi_ (vX2_jar (q2_isJar R' w (fun _ _ => jif1 (by decide) (q2_isIn (fun _ _ => jif0 (by decide) (q2_of (by omega) 1 (by decide) ⟨h54 (by omega), ?_⟩)) (fun z => absurd ⟨by decide, by decide⟩ z))) (fun z => absurd hc z)))
      rw [g2]; exact qi_ d
    by_cases h2 : x2 = 2
    · subst h2
      refine vX1_jar (q0_hasj R w hc.2 (jif1 (by decide) (jif0 (by decide) (jif0 (by decide) (jif1 rfl ⟨hb, ?_⟩)))))
      rw [e3]
      refine qi_ (vX2_jar (q2_isJar R' w (fun _ _ => jif1 (by decide) (q2_isIn (fun _ _ => jif0 (by decide) (q2_of (by omega) 2 (by decide) ⟨h54 (by omega), ?_⟩)) (fun z => absurd ⟨by decide, by decide⟩ z))) (fun z => absurd hc z)))
      rw [g3]; exact qi_ d
    by_cases h3 : x2 = 3
    · subst h3
      refine vX1_jar (q0_hasj R w hc.2 (jif1 (by decide) (jif0 (by decide) (jif0 (by decide) (jif0 (by decide) (jif1 rfl ⟨hb, ?_⟩))))))
      rw [e4]
      refine qi_ (vX2_jar (q2_isJar R' w (fun _ _ => jif1 (by decide) (q2_isIn (fun _ _ => jif0 (by decide) (q2_of (by omega) 3 (by decide) ⟨h54 (by omega), ?_⟩)) (fun z => absurd ⟨by decide, by decide⟩ z))) (fun z => absurd hc z)))
      rw [g4]; exact qi_ d
    by_cases h4 : x2 = 4
    · subst h4
      have L : jCall 133 (jR 2 0 0 :: [jI (j : Int), jI 4]) M (jqi (en t (s 5 j))) := by
        refine vX2_jar (q2_isJar R' w (fun _ _ => jif1 (by decide) (q2_isIn (fun _ _ => jif0 (by decide) (q2_of (by omega) 4 (by decide) ⟨h54 (by omega), ?_⟩)) (fun z => absurd ⟨by decide, by decide⟩ z))) (fun z => absurd hc z))
        rw [g5]; exact qi_ d
      refine vX1_jar (q0_hasj R w hc.2 (jif1 (by decide) (jif0 (by decide) (jif0 (by decide) (jif0 (by decide) (jif0 (by decide) (jif1 rfl ⟨hb, ?_⟩)))))))
      rw [e5]
      rcases wj'.2.2.2.2 with z | z
      · rw [z] at L ⊢; exact jif1 rfl (qi_ L)
      · rw [z] at L ⊢; exact jif0 (by decide) (qi_ L)
    by_cases h5 : x2 = 5
    · subst h5
      refine vX1_jar (q0_hasj R w hc.2 (jif1 (by decide) (jif0 (by decide) (jif0 (by decide) (jif0 (by decide) (jif0 (by decide) (jif0 (by decide) (jif1 rfl (q0_spoils R w hc.2 (qi_ ?_))))))))))
      refine vX2_jar (q2_isJar R' w (fun _ _ => jif1 (by decide) (q2_isIn (fun _ c => absurd c (by decide)) (fun _ => jif1 rfl (jif0 (by decide) (q2_of (by omega) 0 (by decide) ⟨h54 (by omega), q2_of (by omega) 2 (by decide) ⟨h54 (by omega), ?_⟩⟩))))) (fun z => absurd hc z))
      rw [g1, g3]
      exact q2_spoilsBy (qi_ d)
    by_cases h6 : x2 = 6
    · subst h6
      refine vX1_jar (q0_hasj R w hc.2 (jif1 (by decide) (jif0 (by decide) (jif0 (by decide) (jif0 (by decide) (jif0 (by decide) (jif0 (by decide) (jif0 (by decide) (jif1 rfl (q0_kept R w hc.2 (qi_ ?_)))))))))))
      unfold kp
      refine vX2_jar (q2_isJar R' w (fun _ _ => jif1 (by decide) (q2_isIn (fun _ c => absurd c (by decide)) (fun _ => jif1 rfl (jif1 (by decide) (jif0 (by decide) (q2_hasFood R' w hc.2 (fun c => jif0 (by decide) (q2_keepsIn R' w hc.2 (qi_ ?_))) (fun c => jif1 rfl (qi_ ?_)))))))) (fun z => absurd hc z))
      · rw [if_neg (by omega)]; exact d
      · rw [if_pos c]; exact d
    · have L : jCall 133 (jR 2 0 0 :: [jI (j : Int), jI x2]) (rfC M 2) (jqi (en t (-((2 : Nat) : Int)))) :=
        vX2_jar (q2_isJar (rR_rf R') w (fun _ _ => jif1 (by decide) (q2_isIn (fun _ _ => by omega) (fun _ => jif1 rfl (jif1 h5 (jif1 h6 (fin_r (k := 2) H ht ⟨by decide, by decide⟩)))))) (fun z => absurd hc z))
      exact vX1_jar (q0_hasj R w hc.2 (jif1 (by decide) (jif0 h0 (jif0 h1 (jif0 h2 (jif0 h3 (jif0 h4 (jif0 h5 (jif0 h6 (q1_refuse (k := 2) H ⟨by decide, by decide⟩ (qi_ L)))))))))))
  · have L : jCall 133 (jR 2 0 0 :: [jI x1, jI x2]) (rfC M 1) (jqi (en t (-((1 : Nat) : Int)))) :=
      vX2_jar (q2_isJar (rR_rf R') w (fun a b => absurd ⟨a, b⟩ hc) (fun _ => jif0 (by decide) (fin_r (k := 1) H ht ⟨by decide, by decide⟩)))
    exact vX1_jar (q0_has R w (fun a b => absurd ⟨a, b⟩ hc) (fun _ => jif0 (by decide) (q1_refuse (k := 1) H ⟨by decide, by decide⟩ (qi_ L))))
/-- kinds 1 and 2 alone have changed -/
theorem sim_o {M' : jM} {t : Int} (H : sim t M s) (ht : t < 1000) (h : ∀ k i c j, ¬ (k = 1 ∨ k = 2) → M' k i c j = M k i c j) (h2 : slet M') (h3 : srow M') (h4 : ∀ k j, M' k 0 3 j = M k 0 3 j) (h5 : M' 1 0 0 2 = M 1 0 0 2 ∧ M' 2 0 0 4 = M 2 0 0 4) : sim (t + 1) M' s := by
  have h1 := H.2.2
  obtain ⟨⟨a, b, c, d⟩, ⟨e, f, g, i⟩, _⟩ := H
  exact ⟨⟨cR_e a (fun _ _ => h _ _ _ _ (by omega)), rR_e b (fun _ _ => h _ _ _ _ (by omega)), c, d⟩, ⟨h2, h3, sref_s (sref_e g (fun _ => h4 _ _) (fun _ => h4 _ _)), simg_e i h5.1 h5.2 (fun _ _ => h _ _ _ _ (by omega)) (fun _ _ => h _ _ _ _ (by omega))⟩, by omega, by omega⟩
theorem p_letter (H : sim t M s) (ht : t < 1000) (x1 : Int) : pP t 27 124 [jI x1] M := by
  obtain ⟨sl, sr, sf, sg⟩ := H.2.1
  have sl1 := sl.1
  have sl2 := sl.2.1
  have q6 : ∀ k : Nat, rfC M k 2 0 0 8 = M 2 0 0 8 := fun k => jupd_ne _ _ (by omega)
  by_cases h4 : 0 ≤ x1
  · by_cases h6 : x1 ≤ 255 ∧ M 1 0 0 6 < 96
    · obtain ⟨n, hn⟩ := jnat sl1.1
      have hb : 0 ≤ M 1 0 0 6 ∧ M 1 0 0 6 < ((96 : Nat) : Int) := ⟨by omega, by omega⟩
      refine vX1_letter (jif1 h4 (jif0 (by omega) (jif1 h6.2 ⟨hb, ?_⟩)))
      intro m1
      have d1 : m1 1 0 0 6 = M 1 0 0 6 := jupd_ne M _ (by omega)
      rw [d1]
      refine ⟨jr_i (by omega), ?_⟩
      intro m2
      have d2 : m2 1 0 0 6 = M 1 0 0 6 + 1 := jupd_at _ _ _ _ _ _
      have d3 : m2 2 0 0 8 = M 1 0 0 6 := ((jupd_ne m1 _ (by omega)).trans (jupd_ne M _ (by omega))).trans sl2
      rw [d2]
      refine qi_ (vX2_letter (jif1 h4 (jif0 (by omega) (jif1 (by rw [d3]; omega) ⟨by rw [d3]; exact hb, ?_⟩))))
      intro m3
      have d4 : m3 2 0 0 8 = M 1 0 0 6 := (jupd_ne m2 _ (by omega)).trans d3
      rw [d4]
      refine ⟨jr_i (by omega), ?_⟩
      intro m4
      have d5 : m4 2 0 0 8 = M 1 0 0 6 + 1 := jupd_at _ _ _ _ _ _
      have d6 : m4 1 0 0 6 = M 1 0 0 6 + 1 := ((jupd_ne m3 _ (by omega)).trans (jupd_ne m2 _ (by omega))).trans d2
      rw [d5]
      have hN : (M 1 0 0 6).toNat = n := by rw [hn]; rfl
      refine qi_ ⟨rfl, s, sim_o H ht (fun k i c j z => (((jupd_ne m3 _ (by omega)).trans (jupd_ne m2 _ (by omega))).trans (jupd_ne m1 _ (by omega))).trans (jupd_ne M _ (by omega))) ⟨by rw [d6]; omega, by rw [d5, d6], fun j hj => ?_⟩ (srow_e sr ?_ ?_ (fun j => ?_) (fun j => ?_)) (fun k j => ?_) ⟨?_, ?_⟩⟩
      · rw [d6] at hj
        have c1 : m4 2 0 1 j = m3 2 0 1 j := jupd_ne m3 _ (by omega)
        have c2 : m4 1 0 1 j = m1 1 0 1 j := ((jupd_ne m3 _ (by omega)).trans (jupd_ne m2 _ (by omega))).trans (jupd_ne m1 _ (by omega))
        rw [c1, c2]
        by_cases z : j = n
        · subst z
          have c3 : m3 2 0 1 j = x1 := by
            show jupd m2 2 0 1 (m2 2 0 0 8).toNat x1 2 0 1 j = x1
            rw [d3, hN, jupd_at]
          have c4 : m1 1 0 1 j = x1 := by
            show jupd M 1 0 1 (M 1 0 0 6).toNat x1 1 0 1 j = x1
            rw [hN, jupd_at]
          rw [c3, c4]; exact ⟨rfl, h4, h6.1⟩
        · have c3 : m3 2 0 1 j = M 2 0 1 j := by
            refine (jupd_ne m2 _ ?_).trans ((jupd_ne m1 _ (by omega)).trans (jupd_ne M _ (by omega)))
            rw [d3, hN]; omega
          have c4 : m1 1 0 1 j = M 1 0 1 j := by
            refine jupd_ne M _ ?_
            rw [hN]; omega
          rw [c3, c4]; exact sl.2.2 j (by omega)
      all_goals exact (((jupd_ne m3 _ (by omega)).trans (jupd_ne m2 _ (by omega))).trans (jupd_ne m1 _ (by omega))).trans (jupd_ne M _ (by omega))
    · have L : jCall 124 (jR 2 0 0 :: [jI x1]) (rfC M 6) (jqi (en t (-((6 : Nat) : Int)))) := by
        refine vX2_letter (jif1 h4 (jite (fun _ => fin_r (k := 6) H ht ⟨by decide, by decide⟩) (fun c => ?_)))
        rw [q6 6, sl2]
        exact jif0 (by omega) (fin_r (k := 6) H ht ⟨by decide, by decide⟩)
      exact vX1_letter (jif1 h4 (jite (fun _ => q1_refuse (k := 6) H ⟨by decide, by decide⟩ (qi_ L)) (fun c => jif0 (by omega) (q1_refuse (k := 6) H ⟨by decide, by decide⟩ (qi_ L)))))
  · have L : jCall 124 (jR 2 0 0 :: [jI x1]) (rfC M 4) (jqi (en t (-((4 : Nat) : Int)))) := vX2_letter (jif0 h4 (fin_r (k := 4) H ht ⟨by decide, by decide⟩))
    exact vX1_letter (jif0 h4 (q1_refuse (k := 4) H ⟨by decide, by decide⟩ (qi_ L)))
theorem p_row (H : sim t M s) (ht : t < 1000) (x1 : Int) : pP t 86 178 [jI x1] M := by
  obtain ⟨sl, sr, sf, sg⟩ := H.2.1
  have sl1 := sr.1
  have sl2 := sr.2.1
  have q6 : ∀ k : Nat, rfC M k 2 0 0 9 = M 2 0 0 9 := fun k => jupd_ne _ _ (by omega)
  by_cases h4 : 0 ≤ x1
  · by_cases h6 : x1 ≤ 99 ∧ M 1 0 0 8 < 16
    · obtain ⟨n, hn⟩ := jnat sl1.1
      have hb : 0 ≤ M 1 0 0 8 ∧ M 1 0 0 8 < ((16 : Nat) : Int) := ⟨by omega, by omega⟩
      refine vX1_row (jif1 h4 (jif0 (by omega) (jif1 h6.2 ⟨hb, ?_⟩)))
      intro m1
      have d1 : m1 1 0 0 8 = M 1 0 0 8 := jupd_ne M _ (by omega)
      rw [d1]
      refine ⟨jr_i (by omega), ?_⟩
      intro m2
      have d2 : m2 1 0 0 8 = M 1 0 0 8 + 1 := jupd_at _ _ _ _ _ _
      have d3 : m2 2 0 0 9 = M 1 0 0 8 := ((jupd_ne m1 _ (by omega)).trans (jupd_ne M _ (by omega))).trans sl2
      rw [d2]
      refine qi_ (vX2_row (q2_wrongBy (fun c => by omega) (fun _ c => by omega) (fun _ _ => jif0 (by decide) (jif1 (by rw [d3]; omega) (vX2_row_24 (jif1 rfl ⟨by rw [d3]; exact hb, ?_⟩))))))
      intro m3
      have d4 : m3 2 0 0 9 = M 1 0 0 8 := (jupd_ne m2 _ (by omega)).trans d3
      rw [d4]
      refine ⟨jr_i (by omega), ?_⟩
      intro m4
      have d5 : m4 2 0 0 9 = M 1 0 0 8 + 1 := jupd_at _ _ _ _ _ _
      have d6 : m4 1 0 0 8 = M 1 0 0 8 + 1 := ((jupd_ne m3 _ (by omega)).trans (jupd_ne m2 _ (by omega))).trans d2
      rw [d5]
      have hN : (M 1 0 0 8).toNat = n := by rw [hn]; rfl
      refine qi_ ⟨rfl, s, sim_o H ht (fun k i c j z => (((jupd_ne m3 _ (by omega)).trans (jupd_ne m2 _ (by omega))).trans (jupd_ne m1 _ (by omega))).trans (jupd_ne M _ (by omega))) (slet_e sl ?_ ?_ (fun j => ?_) (fun j => ?_)) ⟨by rw [d6]; omega, by rw [d5, d6], fun j hj => ?_⟩ (fun k j => ?_) ⟨?_, ?_⟩⟩
      case refine_5 =>
        rw [d6] at hj
        have c1 : m4 2 0 2 j = m3 2 0 2 j := jupd_ne m3 _ (by omega)
        have c2 : m4 1 0 2 j = m1 1 0 2 j := ((jupd_ne m3 _ (by omega)).trans (jupd_ne m2 _ (by omega))).trans (jupd_ne m1 _ (by omega))
        rw [c1, c2]
        by_cases z : j = n
        · subst z
          have c3 : m3 2 0 2 j = x1 := by
            show jupd m2 2 0 2 (m2 2 0 0 9).toNat x1 2 0 2 j = x1
            rw [d3, hN, jupd_at]
          have c4 : m1 1 0 2 j = x1 := by
            show jupd M 1 0 2 (M 1 0 0 8).toNat x1 1 0 2 j = x1
            rw [hN, jupd_at]
          rw [c3, c4]; exact ⟨rfl, h4, h6.1⟩
        · have c3 : m3 2 0 2 j = M 2 0 2 j := by
            refine (jupd_ne m2 _ ?_).trans ((jupd_ne m1 _ (by omega)).trans (jupd_ne M _ (by omega)))
            rw [d3, hN]; omega
          have c4 : m1 1 0 2 j = M 1 0 2 j := by
            refine jupd_ne M _ ?_
            rw [hN]; omega
          rw [c3, c4]; exact sr.2.2 j (by omega)
      all_goals exact (((jupd_ne m3 _ (by omega)).trans (jupd_ne m2 _ (by omega))).trans (jupd_ne m1 _ (by omega))).trans (jupd_ne M _ (by omega))
    · have L : jCall 178 (jR 2 0 0 :: [jI x1]) (rfC M 6) (jqi (en t (-((6 : Nat) : Int)))) := by
        refine vX2_row (q2_wrongBy (fun c => by omega) (fun _ c => jif1 (by decide) (vX2_row_24 (jif0 (by decide) (fin_r (k := 6) H ht ⟨by decide, by decide⟩)))) (fun _ c => jif0 (by decide) ?_))
        rw [q6 6, sl2]
        exact jif0 (by omega) (vX2_row_24 (jif0 (by decide) (fin_r (k := 6) H ht ⟨by decide, by decide⟩)))
      exact vX1_row (jif1 h4 (jite (fun _ => q1_refuse (k := 6) H ⟨by decide, by decide⟩ (qi_ L)) (fun c => jif0 (by omega) (q1_refuse (k := 6) H ⟨by decide, by decide⟩ (qi_ L)))))
  · have L : jCall 178 (jR 2 0 0 :: [jI x1]) (rfC M 4) (jqi (en t (-((4 : Nat) : Int)))) := vX2_row (q2_wrongBy (fun c => jif1 (by decide) (vX2_row_24 (jif0 (by decide) (fin_r (k := 4) H ht ⟨by decide, by decide⟩)))) (fun c _ => by omega) (fun c _ => by omega))
    exact vX1_row (jif0 h4 (q1_refuse (k := 4) H ⟨by decide, by decide⟩ (qi_ L)))
theorem p_clear (H : sim t M s) (ht : t < 1000) : pP t 88 180 [] M := by
  obtain ⟨sl, sr, sf, sg⟩ := H.2.1
  refine vX1_clear ?_
  intro m1
  refine qi_ (vX2_clear ?_)
  intro m2
  have d1 : m1 2 0 0 9 = M 1 0 0 8 := (jupd_ne M _ (by omega)).trans sr.2.1
  have d2 : m2 1 0 0 8 = 0 := (jupd_ne m1 _ (by omega)).trans (jupd_at _ _ _ _ _ _)
  have d3 : m2 2 0 0 9 = 0 := jupd_at _ _ _ _ _ _
  rw [d1]
  refine qi_ ⟨rfl, s, sim_o H ht (fun k i c j z => (jupd_ne m1 _ (by omega)).trans (jupd_ne M _ (by omega))) (slet_e sl ?_ ?_ (fun j => ?_) (fun j => ?_)) ⟨by rw [d2]; omega, by rw [d2, d3], fun j hj => by rw [d2] at hj; omega⟩ (fun k j => ?_) ⟨?_, ?_⟩⟩
  all_goals exact (jupd_ne m1 _ (by omega)).trans (jupd_ne M _ (by omega))
end Pairs2

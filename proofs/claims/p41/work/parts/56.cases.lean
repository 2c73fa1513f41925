-- The law's cases, one after the other
section Cases
variable {M : jM} {s : jT} {t : Int} {K : Int → jM → Prop} {Q : jRt} {x3 n : Int} {j : Nat}
theorem q1_c1 (H : sim t M s) (h : K (s 0 8) M) : jCall 73 [jR 1 0 0, jI 1] M (jqi K) := q1_count H (by decide) h
theorem q1_c2 (H : sim t M s) (h : K (s 0 7) M) : jCall 73 [jR 1 0 0, jI 2] M (jqi K) := q1_count H (by decide) h
theorem q1_c4 (H : sim t M s) (h : K (fi s (-1) (nj s)) M) : jCall 73 [jR 1 0 0, jI 4] M (jqi K) := q1_count H (by decide) h
theorem q1_c5 (H : sim t M s) (h : K (sh s) M) : jCall 73 [jR 1 0 0, jI 5] M (jqi K) := q1_count H (by decide) h
theorem q1_j2 (H : sim t M s) (hj : (j : Int) < s 0 5) (h : K (s 3 j) M) : jCall 40 [jR 1 0 0, jI (j : Int), jI 2] M (jqi K) := q1_jar H hj (by decide) h
theorem q1_j3 (H : sim t M s) (hj : (j : Int) < s 0 5) (h : K (s 4 j) M) : jCall 40 [jR 1 0 0, jI (j : Int), jI 3] M (jqi K) := q1_jar H hj (by decide) h
theorem q1_j4 (H : sim t M s) (hj : (j : Int) < s 0 5) (h : K (s 5 j) M) : jCall 40 [jR 1 0 0, jI (j : Int), jI 4] M (jqi K) := q1_jar H hj (by decide) h
theorem q1_j5 (H : sim t M s) (hj : (j : Int) < s 0 5) (h : K (sp (s 1 j) (s 3 j)) M) : jCall 40 [jR 1 0 0, jI (j : Int), jI 5] M (jqi K) := q1_jar H hj (by decide) h
theorem q1_j6 (H : sim t M s) (hj : (j : Int) < s 0 5) (h : K (kp s j) M) : jCall 40 [jR 1 0 0, jI (j : Int), jI 6] M (jqi K) := q1_jar H hj (by decide) h
theorem q1_leak0 (H : sim t M s) (h : K (lk s 6) M) : jCall 64 [jR 1 0 0, jI 0] M (jqi K) := q1_leak H (Or.inl rfl) h
theorem q1_leak1 (H : sim t M s) (h : K (lw s (lk s 6)) M) : jCall 64 [jR 1 0 0, jI 1] M (jqi K) := q1_leak H (Or.inr rfl) h
theorem lcm0 (x : Int) : (if x < x then (1 : Int) else if x = x then 0 else -1) = 0 := by rw [if_neg (Int.lt_irrefl _), if_pos rfl]
theorem b28 : 0 ≤ (28 : Int) ∧ (28 : Int) < ((64 : Nat) : Int) := ⟨by decide, by decide⟩
/-- what holds of the larder at the n-th turn -/
def li (n : Int) (M : jM) (s : jT) : Prop := ∃ t, sim t M s ∧ 0 ≤ t ∧ t ≤ 100 * n ∧ 0 ≤ s 0 8 ∧ s 0 8 ≤ 4 + 4 * n ∧ M 2 0 0 28 = s 0 5
theorem li_s {M' : jM} {s' : jT} (hn : 0 ≤ n) (ht : 0 ≤ t ∧ t ≤ 100 * n) (H : sim (t + 50) M' s') (y : 0 ≤ s' 0 8 ∧ s' 0 8 ≤ 4 + 4 * n + 4) (e : M' 2 0 0 28 = s' 0 5) : li (n + 1) M' s' := ⟨t + 50, H, by omega, by omega, y.1, by omega, e⟩
theorem lc_years (H : sim t M s) (hn : 0 ≤ n ∧ n ≤ 26) (ht : 0 ≤ t ∧ t ≤ 100 * n) (y : 0 ≤ s 0 8 ∧ s 0 8 ≤ 4 + 4 * n) (e28 : M 2 0 0 28 = s 0 5) (nx : ∀ M' s', li (n + 1) M' s' → jAt 89 1072 [some (jR 4 0 0), some (jR 1 0 0), some (jR 2 0 0), some (jI x3), none, none, none, none, none, none, none, none, none, none, none, none, none, none, none, none, none, none] [] M' Q) {x4 : Int} (hj : s 0 5 = 0 ∨ (j : Int) < s 0 5) : jAt 89 280 [some (jR 4 0 0), some (jR 1 0 0), some (jR 2 0 0), some (jI x3), some (jI x4), some (jL (sg s)), none, some (jI (kw s)), some (jI (fi s (-1) (nj s))), some (jI (s 0 7)), none, none, none, some (jI (j : Int)), none, none, none, none, none, none, none, none] [] M Q := by
  have w := H.2.1
  have w1 := w.1
  have yr9 : yr 999 s := ⟨by omega, by omega⟩
  have c3 : 0 ≤ jand (jshr x4 7) 3 ∧ jand (jshr x4 7) 3 ≤ 3 := ja_r _ 3 (by decide)
  obtain ⟨m, hm⟩ := jnat (show 0 ≤ 1 + jand (jshr x4 7) 3 by omega)
  have wn := wf_yn m w
  have h7 := w.2.2.1
  have h7' := wn.2.2.1
  refine vL_law_280 ⟨jr_i (by omega), ?_⟩
  rw [hm]
  refine q1_c1 H (q1_knownThen H yr9 (by omega) (fun M2 T2 => q1_hungerThen (sim_t H T2) yr9 (by omega) (fun M3 T3 => ⟨b28, ?_⟩)))
  have H3 := sim_t (sim_t H T2) T3
  have g28 : M3 2 0 0 (28 : Int).toNat = s 0 5 := (T3 2 0 0 28 (by unfold jex; omega)).trans ((T2 2 0 0 28 (by unfold jex; omega)).trans e28)
  -- behind the asking
  have go : ∀ v18 v19 v20 : Int, (¬ v19 = 0 → (j : Int) < s 0 5 ∧ s 5 j = 1 ∧ v18 = s 4 j ∧ v20 = sp (s 1 j) (s 3 j)) → jAt 89 377 [some (jR 4 0 0), some (jR 1 0 0), some (jR 2 0 0), some (jI x3), none, some (jL (sg s)), none, some (jI (kw s)), some (jI (fi s (-1) (nj s))), some (jI (s 0 7)), none, none, none, some (jI (j : Int)), some (jI (m : Int)), some (jI (s 0 8)), some (jI (kw (it ye m s))), some (jI (it ye m s 0 7 - s 0 7)), some (jI v18), some (jI v19), none, none] [jI v20] M3 Q := by
    intro v18 v19 v20 hv
    refine vL_law_377 (q1_years H3 (by omega) (by omega) y.1 (by omega) (fun M5 H5 F5 => ⟨jr_i (by omega), jif1 (by omega) ?_⟩))
    have fl : fi (it ye m s) (-1) (nj (it ye m s)) ≤ fi s (-1) (nj s) := by
      rw [nj_yn]
      exact fi_le (nj s) (fun j hj => yn_4 m w hj) (fun j hj => (wf_4 w j hj).1) (fun _ _ z => z)
    have y8 := yn_8 m s
    have f28 : M5 2 0 0 28 = it ye m s 0 5 := by
      rw [yn_k m s (by decide) (by omega) (by omega)]
      exact (F5 _ _ _ _ (by omega)).trans g28
    have nx5 : jAt 89 1072 [some (jR 4 0 0), some (jR 1 0 0), some (jR 2 0 0), some (jI x3), none, none, none, none, none, none, none, none, none, none, none, none, none, none, none, none, none, none] [] M5 Q := nx M5 _ (li_s hn.1 ht (sim_w H5 (by omega) (by omega)) ⟨by omega, by omega⟩ f28)
    refine q1_known H5 (l_bits (cs_kw wn) (jif0 (fun q => q rfl) (q1_known H5 (jif0 (fun q => q rfl) (jif0 (fun q => q (kw_yn w m)) (q1_c4 H5 (jif0 (by omega) (q1_c2 H5 ⟨jr_i (by omega), jif0 (fun q => q (by omega)) (q1_c1 H5 ⟨jr_i (by omega), jif1 (by omega) ?_⟩)⟩))))))))
    refine vL_law_487 ⟨jr_i (by omega), jif0 (by omega) (jite (fun _ => nx5) (fun c => ?_))⟩
    obtain ⟨a1, a2, rfl, rfl⟩ := hv c
    have n5 : it ye m s 0 5 = s 0 5 := yn_k m s (by decide) (by omega) (by omega)
    refine q1_j3 H5 (by omega) ?_
    rw [yn_5 m w (lt_nj a1) (by rw [a2]; decide)]
    have r := sp_r (s 1 j) (s 3 j)
    have r4 := wf_4 w j (lt_nj a1)
    generalize sp (s 1 j) (s 3 j) = p at r ⊢
    have rm : 0 ≤ (m : Int) * p ∧ (m : Int) * p ≤ 8 := by
      rcases (show p = 0 ∨ p = 1 ∨ p = 2 by omega) with rfl | rfl | rfl <;> omega
    generalize (m : Int) * p = r8 at rm ⊢
    exact ⟨jr_i (by omega), jr_i (by omega), jite (fun c => ⟨jr_i (by omega), jr_i (by omega), vL_law_533 (jif1 (by omega) nx5)⟩) (fun c => vL_law_533 (jif1 (by omega) nx5))⟩
  have no : ∀ v18 : Int, jAt 89 356 [some (jR 4 0 0), some (jR 1 0 0), some (jR 2 0 0), some (jI x3), none, some (jL (sg s)), none, some (jI (kw s)), some (jI (fi s (-1) (nj s))), some (jI (s 0 7)), none, none, none, some (jI (j : Int)), some (jI (m : Int)), some (jI (s 0 8)), some (jI (kw (it ye m s))), some (jI (it ye m s 0 7 - s 0 7)), some (jI v18), none, none, none] [] M3 Q := by
    intro v18
    refine vL_law_356 (vL_law_357 ⟨b28, ?_⟩)
    rw [g28]
    refine jite (fun c => q1_j5 H3 (by omega) (go _ _ _ (fun z => absurd rfl z))) (fun c => go _ _ _ (fun z => absurd rfl z))
  rw [g28]
  refine jite (fun c => q1_j3 H3 (by omega) (vL_law_332 ⟨b28, ?_⟩)) (fun c => vL_law_332 ⟨b28, ?_⟩)
  · rw [g28]
    refine jif0 (by omega) (q1_j4 H3 (by omega) (jite (fun _ => no _) (fun c5 => vL_law_357 ⟨b28, ?_⟩)))
    rw [g28]
    exact jif1 c (q1_j5 H3 (by omega) (go _ _ _ (fun _ => ⟨by omega, Decidable.not_not.mp c5, rfl, rfl⟩)))
  · rw [g28]
    exact jif1 (by omega) (no _)
theorem lc_eats (H : sim t M s) (hn : 0 ≤ n ∧ n ≤ 26) (ht : 0 ≤ t ∧ t ≤ 100 * n) (y : 0 ≤ s 0 8 ∧ s 0 8 ≤ 4 + 4 * n) (e28 : M 2 0 0 28 = s 0 5) (nx : ∀ M' s', li (n + 1) M' s' → jAt 89 1072 [some (jR 4 0 0), some (jR 1 0 0), some (jR 2 0 0), some (jI x3), none, none, none, none, none, none, none, none, none, none, none, none, none, none, none, none, none, none] [] M' Q) {x4 : Int} (hj : s 0 5 = 0 ∨ (j : Int) < s 0 5) : jAt 89 538 [some (jR 4 0 0), some (jR 1 0 0), some (jR 2 0 0), some (jI x3), some (jI x4), some (jL (sg s)), none, none, some (jI (fi s (-1) (nj s))), none, none, none, none, some (jI (j : Int)), none, none, none, none, none, none, none, none] [] M Q := by
  have w := H.2.1
  have w1 := w.1
  have h9 := nj_9 w
  have g28 : M 2 0 0 (28 : Int).toNat = s 0 5 := e28
  refine vL_law_538 ⟨b28, ?_⟩
  rw [g28]
  refine jite (fun c => nx M s (li_s hn.1 ht (sim_w H (by omega) (by omega)) ⟨by omega, by omega⟩ e28)) (fun c => ?_)
  have hj' : (j : Int) < s 0 5 := by omega
  have wj' := w.2.2.2 j hj'
  have w4 := wj'.2.2.2.1
  have f4 := fi_g w (-1)
  have c31 : 0 ≤ jand (jshr x4 7) 31 ∧ jand (jshr x4 7) 31 ≤ 31 := ja_r _ 31 (by decide)
  have hx : 0 ≤ jand (jshr x4 7) 31 % 21 ∧ jand (jshr x4 7) 31 % 21 ≤ 20 := by omega
  have p1 : jpos (jand (jshr x4 7) 31) 21 := ⟨c31.1, by decide⟩
  refine q1_j3 H hj' (q1_j4 H hj' ?_)
  rcases wj'.2.2.2.2 with h5 | h5
  · rw [h5]
    refine jif1 (by decide) (vL_law_570 ⟨p1, q1_eats H hj' hx (fun _ M' H' F' => jif1 rfl ?_) (fun z => absurd h5 z)⟩)
    generalize jand (jshr x4 7) 31 % 21 = x at hx H' ⊢
    have ev : ∀ v, v = max 0 (s 4 j - x) → jAt 89 638 [some (jR 4 0 0), some (jR 1 0 0), some (jR 2 0 0), some (jI x3), none, none, none, none, some (jI (fi s (-1) (nj s))), none, none, none, none, some (jI (j : Int)), some (jI (s 4 j)), none, none, some (jI (max 0 (s 4 j - x))), none, none, none, none] [jI v, jI (max 0 (s 4 j - x))] M' Q := by
      intro v hv
      have hs : fi (su s 4 j (max 0 (s 4 j - x))) (-1) (nj (su s 4 j (max 0 (s 4 j - x)))) = fi s (-1) (nj s) - s 4 j + max 0 (s 4 j - x) := by
        rw [nj_su (by omega)]
        exact fi_su (nj s) (by omega) (lt_nj hj')
      refine vL_law_638 (jif0 (fun q => q hv.symm) (q1_j3 H' (by rw [su_nc s _ (by decide)]; exact hj') (jif0 (fun q => q (su_at _ _ _ _)) (q1_c4 H' ⟨jr_i (by omega), jr_i (by omega), jif1 hs (vL_law_671 (nx M' _ (li_s hn.1 ht (sim_w H' (by omega) (by omega)) ?_ ?_)))⟩))))
      · rw [su_nc s _ (by decide)]; omega
      · rw [su_nc s _ (by decide)]; exact (F' _ _ _ _ (by omega)).trans e28
    exact jite (fun c => ⟨jr_i (by omega), ev _ (by omega)⟩) (fun c => ev _ (by omega))
  · rw [h5]
    refine jif0 (by decide) (vL_law_570 ⟨p1, q1_eats H hj' hx (fun z => by omega) (fun _ => jif0 (by decide) (jif0 (by decide) ?_))⟩)
    have H' := sim_r (k := 3) H (by omega)
    refine l_sight H' (jif1 (lcm0 _) (vL_law_671 (nx _ s (li_s hn.1 ht (sim_w H' (by omega) (by omega)) ⟨by omega, by omega⟩ ?_))))
    exact (jupd_ne M _ (by omega)).trans e28
theorem lc_moves (H : sim t M s) (hn : 0 ≤ n ∧ n ≤ 26) (ht : 0 ≤ t ∧ t ≤ 100 * n) (y : 0 ≤ s 0 8 ∧ s 0 8 ≤ 4 + 4 * n) (e28 : M 2 0 0 28 = s 0 5) (nx : ∀ M' s', li (n + 1) M' s' → jAt 89 1072 [some (jR 4 0 0), some (jR 1 0 0), some (jR 2 0 0), some (jI x3), none, none, none, none, none, none, none, none, none, none, none, none, none, none, none, none, none, none] [] M' Q) {x4 : Int} (hj : s 0 5 = 0 ∨ (j : Int) < s 0 5) : jAt 89 674 [some (jR 4 0 0), some (jR 1 0 0), some (jR 2 0 0), some (jI x3), some (jI x4), none, none, none, some (jI (fi s (-1) (nj s))), none, none, none, none, some (jI (j : Int)), none, none, none, none, none, none, none, none] [] M Q := by
  have w := H.2.1
  have w1 := w.1
  have g28 : M 2 0 0 (28 : Int).toNat = s 0 5 := e28
  refine vL_law_674 ⟨b28, ?_⟩
  rw [g28]
  refine jite (fun c => nx M s (li_s hn.1 ht (sim_w H (by omega) (by omega)) ⟨by omega, by omega⟩ e28)) (fun c => ?_)
  have hj' : (j : Int) < s 0 5 := by omega
  have c7 : 0 ≤ jand (jshr x4 7) 7 ∧ jand (jshr x4 7) 7 ≤ 7 := ja_r _ 7 (by decide)
  have hx : 0 ≤ jand (jshr x4 7) 7 % 6 ∧ jand (jshr x4 7) 7 % 6 ≤ 5 := by omega
  refine ⟨⟨c7.1, by decide⟩, q1_j2 H hj' (q1_moves H hj' hx (fun M' H' F' => jif0 (fun q => q rfl) ?_))⟩
  refine q1_j2 H' (by rw [su_nc s _ (by decide)]; exact hj') (jif0 (fun q => q (su_at _ _ _ _)) (q1_c4 H' (jif1 ?_ (nx M' _ (li_s hn.1 ht (sim_w H' (by omega) (by omega)) ?_ ?_)))))
  · rw [nj_su (by omega)]
    exact fi_eq (nj s) (fun k _ => su_nc s _ (by decide))
  · rw [su_nc s _ (by decide)]; omega
  · rw [su_nc s _ (by decide)]; exact (F' _ _ _ _ (by omega)).trans e28
theorem lc_shuts (H : sim t M s) (hn : 0 ≤ n ∧ n ≤ 26) (ht : 0 ≤ t ∧ t ≤ 100 * n) (y : 0 ≤ s 0 8 ∧ s 0 8 ≤ 4 + 4 * n) (e28 : M 2 0 0 28 = s 0 5) (nx : ∀ M' s', li (n + 1) M' s' → jAt 89 1072 [some (jR 4 0 0), some (jR 1 0 0), some (jR 2 0 0), some (jI x3), none, none, none, none, none, none, none, none, none, none, none, none, none, none, none, none, none, none] [] M' Q) (hj : s 0 5 = 0 ∨ (j : Int) < s 0 5) : jAt 89 1001 [some (jR 4 0 0), some (jR 1 0 0), some (jR 2 0 0), some (jI x3), none, none, none, some (jI (kw s)), none, none, none, none, none, some (jI (j : Int)), none, none, none, none, none, none, none, none] [] M Q := by
  have w := H.2.1
  have w1 := w.1
  have h9 := nj_9 w
  have g28 : M 2 0 0 (28 : Int).toNat = s 0 5 := e28
  refine vL_law_1001 ⟨b28, ?_⟩
  rw [g28]
  refine jite (fun c => nx M s (li_s hn.1 ht (sim_w H (by omega) (by omega)) ⟨by omega, by omega⟩ e28)) (fun c => ?_)
  have hj' : (j : Int) < s 0 5 := by omega
  refine q1_j4 H hj' (q1_shuts H hj' (fun M' v hv H' F' => ⟨jr_i (by omega), jif0 (fun q => q (by omega)) ?_⟩))
  have w' := H'.2.1
  have n5 : su s 5 j v 0 5 = s 0 5 := su_nc s _ (by decide)
  have a5 : su s 5 j v 5 j = v := su_at _ _ _ _
  refine q1_j4 H' (by rw [n5]; exact hj') ?_
  rw [a5]
  refine ⟨jr_i (by omega), jif0 (fun q => q (by omega)) (q1_c5 H' ⟨jr_i (by omega), jif0 (fun q => q ?_) (q1_known H' (jif1 ?_ (nx M' _ (li_s hn.1 ht (sim_w H' (by omega) (by omega)) ?_ ?_))))⟩)⟩
  · rw [hb_tb (by omega), tb_sh w' (by omega), decide_eq_true (show j < nj (su s 5 j v) by rw [nj_su (by omega)]; exact lt_nj hj'), a5, Bool.true_and]
    rcases hv with ⟨h1, rfl⟩ | ⟨h1, rfl⟩ <;> rw [h1] <;> rfl
  · exact kw_c n5 (fun c q h1 h2 _ => su_nc s _ (by omega))
  · rw [su_nc s _ (by decide)]; omega
  · rw [n5]; exact (F' _ _ _ _ (by omega)).trans e28
theorem lc_asks (H : sim t M s) (hn : 0 ≤ n ∧ n ≤ 26) (ht : 0 ≤ t ∧ t ≤ 100 * n) (y : 0 ≤ s 0 8 ∧ s 0 8 ≤ 4 + 4 * n) (e28 : M 2 0 0 28 = s 0 5) (nx : ∀ M' s', li (n + 1) M' s' → jAt 89 1072 [some (jR 4 0 0), some (jR 1 0 0), some (jR 2 0 0), some (jI x3), none, none, none, none, none, none, none, none, none, none, none, none, none, none, none, none, none, none] [] M' Q) {x4 : Int} : jAt 89 817 [some (jR 4 0 0), some (jR 1 0 0), some (jR 2 0 0), some (jI x3), some (jI x4), some (jL (sg s)), none, none, none, none, none, none, none, none, none, none, none, none, none, none, none, none] [] M Q := by
  have w := H.2.1
  have w1 := w.1
  have yr9 : yr 999 s := ⟨by omega, by omega⟩
  have rl := lk_r s 6
  have rf := fea_r w
  have rt := lt_r w x4 0 2
  refine vL_law_817 (q1_jarNo H (by omega) ?_)
  have H1 := sim_r (k := 1) H (by omega)
  refine q1_firstNo H1 ⟨jr_i (by decide), ?_⟩
  have H2 := sim_r (k := 2) H1 (by omega)
  refine q1_move4 H2 ⟨jr_i (by decide), ?_⟩
  have H3 := sim_r (k := 4) H2 (by omega)
  refine q1_move6 H3 ⟨jr_i (by decide), ?_⟩
  have H4 := sim_r (k := 6) H3 (by omega)
  refine q1_row6 H4 ⟨jr_i (by decide), ?_⟩
  have H5 := sim_r (k := 6) H4 (by omega)
  refine q1_ageNo H5 ⟨jr_i (by decide), ?_⟩
  have H6 := sim_r (k := 1) H5 (by omega)
  have f28 : rfC (rfC (rfC (rfC (rfC (rfC M 1) 2) 4) 6) 6) 1 2 0 0 28 = s 0 5 := (jupd_ne _ _ (by omega)).trans ((jupd_ne _ _ (by omega)).trans ((jupd_ne _ _ (by omega)).trans ((jupd_ne _ _ (by omega)).trans ((jupd_ne _ _ (by omega)).trans ((jupd_ne _ _ (by omega)).trans e28)))))
  generalize rfC (rfC (rfC (rfC (rfC (rfC M 1) 2) 4) 6) 6) 1 = M6 at H6 f28 ⊢
  refine q1_leak0 H6 (q1_feast H6 ⟨jr_i (by omega), q1_lots (n := 2) H6 yr9 (by decide) (by decide) (fun M7 T7 => ⟨jr_i (by omega), jif0 (fun q => q (by decide)) ?_⟩)⟩)
  have H7 := sim_t H6 T7
  exact l_sight H7 (jif0 (fun q => q (lcm0 _)) (jif1 (by omega) (nx M7 s (li_s hn.1 ht (sim_w H7 (by omega) (by omega)) ⟨by omega, by omega⟩ ((T7 _ _ _ _ (by unfold jex; omega)).trans f28)))))
theorem lc_keeps (H : sim t M s) (hn : 0 ≤ n ∧ n ≤ 26) (ht : 0 ≤ t ∧ t ≤ 100 * n) (y : 0 ≤ s 0 8 ∧ s 0 8 ≤ 4 + 4 * n) (e28 : M 2 0 0 28 = s 0 5) (nx : ∀ M' s', li (n + 1) M' s' → jAt 89 1072 [some (jR 4 0 0), some (jR 1 0 0), some (jR 2 0 0), some (jI x3), none, none, none, none, none, none, none, none, none, none, none, none, none, none, none, none, none, none] [] M' Q) {x4 : Int} : jAt 89 905 [some (jR 4 0 0), some (jR 1 0 0), some (jR 2 0 0), some (jI x3), some (jI x4), none, none, some (jI (kw s)), none, none, none, none, none, none, none, none, none, none, none, none, none, none] [] M Q := by
  have w := H.2.1
  have yr9 : yr 999 s := ⟨by omega, by omega⟩
  have c15 : 0 ≤ jand (jshr x4 7) 15 ∧ jand (jshr x4 7) 15 ≤ 15 := ja_r _ 15 (by decide)
  have nx0 : ∀ M', jth M M' → jAt 89 1072 [some (jR 4 0 0), some (jR 1 0 0), some (jR 2 0 0), some (jI x3), none, none, none, none, none, none, none, none, none, none, none, none, none, none, none, none, none, none] [] M' Q := fun M' T => nx M' s (li_s hn.1 ht (sim_w (sim_t H T) (by omega) (by omega)) ⟨by omega, by omega⟩ ((T _ _ _ _ (by unfold jex; omega)).trans e28))
  refine vL_law_905 ⟨⟨c15.1, by decide⟩, ?_⟩
  obtain ⟨c, hc⟩ := jnat (show 0 ≤ jand (jshr x4 7) 15 % 10 by omega)
  have hc9 : c ≤ 9 := by omega
  rw [hc]
  refine q1_keepers H hc9 (q1_age H hc9 ?_)
  rw [hb_tb (by omega)]
  cases hk : tb (kw s) c
  · rw [if_neg (by decide)]
    refine jif1 (by decide) (vL_law_950 (jif1 (ke_0 w hc9 hk) (vL_law_964 (jif0 (fun q => q rfl) ?_))))
    rw [aa_0 w hc9 hk]
    exact jif1 (by decide) (vL_law_979 (jif0 (fun q => q rfl) (jif1 rfl (nx0 M jth_rf))))
  · rw [if_pos rfl]
    have a := aa_1 w hc9 hk
    refine jif0 (fun q => q rfl) (vL_law_950 (jif0 (ke_1 w hc9 hk) (vL_law_964 (jif0 (fun q => q rfl) ?_))))
    exact jif0 (by omega) (vL_law_979 (jif0 (fun q => q rfl) (jif0 (by decide) (q1_folkFor0 H yr9 hc9 hk (fun M' T => jif1 rfl (nx0 M' T))))))
end Cases

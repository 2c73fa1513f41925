-- The law's case of the image; its loop
section Loop
variable {M : jM} {s : jT} {t : Int} {K : Int → jM → Prop} {Q : jRt} {x3 n : Int} {j : Nat}
/-- the image of s0 stands, whatever is now -/
def imq (s0 : jT) (T : Int) (M : jM) : Prop := ∃ s, sim T M s ∧ s 0 5 = s0 0 5 ∧ cR M 1 s0 ∧ M 1 0 0 2 = 1 ∧ M 2 0 0 28 = s0 0 5
theorem imq_n {s0 s' : jT} {T : Int} {M' : jM} (hT : T < 1000000) (H : sim T M' s') (n5 : s' 0 5 = s0 0 5) (F : jfm 0 0 M M') (R : cR M 1 s0) (g : M 1 0 0 2 = 1) (e : M 2 0 0 28 = s0 0 5) : imq s0 (T + 1) M' :=
  ⟨s', sim_w H (by omega) (by omega), n5, cR_fr R F (by omega), (F _ _ _ _ (by omega)).trans g, (F _ _ _ _ (by omega)).trans e⟩
theorem imq_r {s0 : jT} {T : Int} {k : Nat} (hT : T < 1000000) (H : sim T M s) (n5 : s 0 5 = s0 0 5) (R : cR M 1 s0) (g : M 1 0 0 2 = 1) (e : M 2 0 0 28 = s0 0 5) : imq s0 (T + 1) (rfC M k) :=
  ⟨s, sim_r H hT, n5, cR_e R (fun _ _ => jupd_ne _ _ (by omega)), (jupd_ne _ _ (by omega)).trans g, (jupd_ne _ _ (by omega)).trans e⟩
theorem i_moves {s0 : jT} {T : Int} (hT : T < 1000000) (I : imq s0 T M) (h : ∀ M' y, -10 ≤ y → y ≤ 1000 → imq s0 (T + 1) M' → K y M') : jCall 42 [jR 1 0 0, jI (j : Int), jI 5] M (jqi K) := by
  obtain ⟨s, H, n5, R, g, e⟩ := I
  by_cases hj : (j : Int) < s 0 5
  · have w := H.2.1.2.2.2 j hj
    have w3 := w.2.2.1
    exact q1_moves H hj (by decide) (fun M' H' F' => h M' _ (by omega) (by omega) (imq_n hT H' (by rw [su_nc s _ (by decide)]; exact n5) F' R g e))
  · exact q1_movesNo H (by omega) (h _ _ (by decide) (by decide) (imq_r hT H n5 R g e))
theorem i_shuts {s0 : jT} {T : Int} (hT : T < 1000000) (I : imq s0 T M) (h : ∀ M' y, -10 ≤ y → y ≤ 1000 → imq s0 (T + 1) M' → K y M') : jCall 43 [jR 1 0 0, jI (j : Int)] M (jqi K) := by
  obtain ⟨s, H, n5, R, g, e⟩ := I
  by_cases hj : (j : Int) < s 0 5
  · exact q1_shuts H hj (fun M' v hv H' F' => h M' _ (by omega) (by omega) (imq_n hT H' (by rw [su_nc s _ (by decide)]; exact n5) F' R g e))
  · exact q1_shutsNo H (by omega) (h _ _ (by decide) (by decide) (imq_r hT H n5 R g e))
theorem i_eats {s0 : jT} {T : Int} (hT : T < 1000000) (I : imq s0 T M) (h : ∀ M' y, -10 ≤ y → y ≤ 1000 → imq s0 (T + 1) M' → K y M') : jCall 44 [jR 1 0 0, jI (j : Int), jI 3] M (jqi K) := by
  obtain ⟨s, H, n5, R, g, e⟩ := I
  by_cases hj : (j : Int) < s 0 5
  · have w := H.2.1.2.2.2 j hj
    have w4 := w.2.2.2.1
    exact q1_eats H hj (by decide) (fun _ M' H' F' => h M' _ (by omega) (by omega) (imq_n hT H' (by rw [su_nc s _ (by decide)]; exact n5) F' R g e)) (fun _ => h _ _ (by decide) (by decide) (imq_r hT H n5 R g e))
  · exact q1_eatsNo H (by omega) (h _ _ (by decide) (by decide) (imq_r hT H n5 R g e))
theorem i_folk {s0 : jT} {T : Int} (hT : T < 1000000) (I : imq s0 T M) (h : ∀ M' y, -10 ≤ y → y ≤ 1000 → imq s0 (T + 1) M' → K y M') : jCall 45 [jR 1 0 0, jI 9] M (jqi K) := by
  obtain ⟨s, H, n5, R, g, e⟩ := I
  have w6 := H.2.1.2.1
  exact q1_folk H (by decide) (fun M' H' F' => h M' _ (by omega) (by omega) (imq_n hT H' (by rw [su_nj s _ (by decide)]; exact n5) F' R g e))
theorem i_turn {s0 : jT} {T : Int} (hT : T < 1000000) (I : imq s0 T M) (h : ∀ M' y, -10 ≤ y → y ≤ 1000 → imq s0 (T + 1) M' → K y M') : jCall 46 [jR 1 0 0, jI (j : Int), jI 3, jI 9] M (jqi K) := by
  obtain ⟨s, H, n5, R, g, e⟩ := I
  by_cases hj : (j : Int) < s 0 5
  · have w := H.2.1.2.2.2 j hj
    have w1 := w.1
    have w2 := w.2.1
    exact q1_turn H hj (by decide) (by decide) (fun M' H' F' => h M' _ (by omega) (by omega) (imq_n hT H' (by rw [su_nc _ _ (by decide), su_nc s _ (by decide)]; exact n5) F' R g e))
  · exact q1_turnNo H (by omega) (h _ _ (by decide) (by decide) (imq_r hT H n5 R g e))
theorem lc_image (H : sim t M s) (hn : 0 ≤ n ∧ n ≤ 26) (ht : 0 ≤ t ∧ t ≤ 100 * n) (y : 0 ≤ s 0 8 ∧ s 0 8 ≤ 4 + 4 * n) (e28 : M 2 0 0 28 = s 0 5) (nx : ∀ M' s', li (n + 1) M' s' → jAt 89 1072 [some (jR 4 0 0), some (jR 1 0 0), some (jR 2 0 0), some (jI x3), none, none, none, none, none, none, none, none, none, none, none, none, none, none, none, none, none, none] [] M' Q) : jAt 89 743 [some (jR 4 0 0), some (jR 1 0 0), some (jR 2 0 0), some (jI x3), none, some (jL (sg s)), none, none, none, none, none, none, none, some (jI (j : Int)), none, none, none, none, none, none, none, none] [] M Q := by
  have w := H.2.1
  refine vL_law_743 (q1_image H (fun M1 H1 R1 g1 G1 => ?_))
  have f28 : M1 2 0 0 28 = s 0 5 := (G1 _ _ _).trans e28
  refine q1_years (n := 4) H1 (by decide) (by decide) y.1 (by omega) (fun M2 H2 F2 => ?_)
  have c2 := jc10 (kw (it ye 4 s))
  have I2 : imq s (t + 1) M2 := imq_n (by omega) H2 (yn_k 4 s (by decide) (by omega) (by omega)) F2 R1 g1 f28
  generalize jpc 10 (kw (it ye 4 s)) = y2 at c2 ⊢
  refine i_moves (by omega) I2 (fun M3 y3 a3 b3 I3 => ⟨jr_i (by omega), i_shuts (by omega) I3 (fun M4 y4 a4 b4 I4 => ⟨jr_i (by omega), i_eats (by omega) I4 (fun M5 y5 a5 b5 I5 => ⟨jr_i (by omega), i_folk (by omega) I5 (fun M6 y6 a6 b6 I6 => ⟨jr_i (by omega), i_turn (by omega) I6 (fun M7 y7 a7 b7 I7 => ⟨jr_i (by omega), ?_⟩)⟩)⟩)⟩)⟩)
  obtain ⟨s7, H7, n7, R7, g7, e7⟩ := I7
  refine q1_on H7 g7 R7 w (fun M8 H8 F8 => jif0 (fun q => q rfl) (l_sight H8 (jif1 (lcm0 _) (nx M8 s (li_s hn.1 ht (sim_w H8 (by omega) (by omega)) ⟨by omega, by omega⟩ ((F8 _ _ _ _ (by omega)).trans e7))))))
/-- the case is chosen -/
theorem lc_case (H : sim t M s) (hn : 0 ≤ n ∧ n ≤ 26) (ht : 0 ≤ t ∧ t ≤ 100 * n) (y : 0 ≤ s 0 8 ∧ s 0 8 ≤ 4 + 4 * n) (e28 : M 2 0 0 28 = s 0 5) (nx : ∀ M' s', li (n + 1) M' s' → jAt 89 1072 [some (jR 4 0 0), some (jR 1 0 0), some (jR 2 0 0), some (jI x3), none, none, none, none, none, none, none, none, none, none, none, none, none, none, none, none, none, none] [] M' Q) {x4 : Int} : jAt 89 206 [some (jR 4 0 0), some (jR 1 0 0), some (jR 2 0 0), some (jI x3), some (jI x4), some (jL (sg s)), none, some (jI (kw s)), some (jI (fi s (-1) (nj s))), some (jI (s 0 7)), none, none, none, none, none, none, none, none, none, none, none, none] [] M Q := by
  have w := H.2.1
  have w1 := w.1
  have g28 : M 2 0 0 (28 : Int).toNat = s 0 5 := e28
  have c15 : 0 ≤ jand (jshr x4 3) 15 ∧ jand (jshr x4 3) 15 ≤ 15 := ja_r _ 15 (by decide)
  have c7 : 0 ≤ jand x4 7 ∧ jand x4 7 ≤ 7 := ja_r _ 7 (by decide)
  have go : ∀ j : Nat, (s 0 5 = 0 ∨ (j : Int) < s 0 5) → jAt 89 229 [some (jR 4 0 0), some (jR 1 0 0), some (jR 2 0 0), some (jI x3), some (jI x4), some (jL (sg s)), none, some (jI (kw s)), some (jI (fi s (-1) (nj s))), some (jI (s 0 7)), none, none, none, none, none, none, none, none, none, none, none, none] [jI (j : Int)] M Q := by
    intro j hj
    exact vL_law_229 (jite (fun _ => lc_years H hn ht y e28 nx hj) (fun _ => jite (fun _ => lc_years H hn ht y e28 nx hj) (fun _ => jite (fun _ => lc_eats H hn ht y e28 nx hj) (fun _ => jite (fun _ => lc_moves H hn ht y e28 nx hj) (fun _ => jite (fun _ => lc_image H hn ht y e28 nx) (fun _ => jite (fun _ => lc_asks H hn ht y e28 nx) (fun _ => jite (fun _ => lc_keeps H hn ht y e28 nx) (fun _ => lc_shuts H hn ht y e28 nx hj))))))))
  refine vL_law_206 ⟨b28, ?_⟩
  rw [g28]
  refine jite (fun c => ⟨b28, ⟨c15.1, by omega⟩, ?_⟩) (fun c => go 0 (Or.inl (Decidable.not_not.mp c)))
  have h1 := Int.emod_nonneg (jand (jshr x4 3) 15) c
  have h2 := Int.emod_lt_of_pos (jand (jshr x4 3) 15) (show 0 < s 0 5 by omega)
  obtain ⟨j, hj⟩ := jnat h1
  rw [hj]
  exact go j (Or.inr (by omega))
/-- a turn of the law's loop -/
theorem lc_turn (I : li n M s) (hn : 0 ≤ n ∧ n ≤ 26) (nx : ∀ M' s', li (n + 1) M' s' → jAt 89 1072 [some (jR 4 0 0), some (jR 1 0 0), some (jR 2 0 0), some (jI x3), none, none, none, none, none, none, none, none, none, none, none, none, none, none, none, none, none, none] [] M' Q) {x4 : Int} : jAt 89 47 [some (jR 4 0 0), some (jR 1 0 0), some (jR 2 0 0), some (jI x3), some (jI x4), none, none, none, none, none, none, none, none, none, none, none, none, none, none, none, none, none] [] M Q := by
  obtain ⟨t, H, t0, t1, y0, y1, e28⟩ := I
  have w := H.2.1
  have w1 := w.1
  have hN := nj_n w
  have h9 := nj_9 w
  have rf := fea_r w
  have g28 : M 2 0 0 (28 : Int).toNat = s 0 5 := e28
  refine vL_law_47 (l_sight H (vL_law_53 (q1_known H (q1_c4 H (vL_law_66 (q1_c2 H (vL_law_79 (q1_fewest H ?_))))))))
  have ck : ∀ x k, k ≤ nj s → jr (kb s x k) := fun x k hk => cs_jr (cs_kb w x k hk)
  have oc := only_few w
  have fk := few_kw w
  generalize fw s (fd s) 0 (2 ^ nj s) = F at oc fk ⊢
  have L := lp_n (X := fun j => jAt 89 88 [some (jR 4 0 0), some (jR 1 0 0), some (jR 2 0 0), some (jI x3), some (jI x4), some (jL (sg s)), none, some (jI (kw s)), some (jI (fi s (-1) (nj s))), some (jI (s 0 7)), some (jI (kb s (-1) j)), some (jI (kb s F j)), some (jI F), some (jI (j : Int)), none, none, none, none, none, none, none, none] [] M Q) (nj s) ?_ ?_
  · exact L
  · refine vL_law_88 ⟨b28, ?_⟩
    rw [g28, fk]
    refine jif1 (by omega) (vL_law_156 (jif0 (fun q => q rfl) (jif0 (fun q => q rfl) (q1_only H (jif0 (fun q => q oc) (q1_feast H (jif0 (by omega) (q1_leak1 H (l_bits (cs_kw w) (jif1 (lw_le w _) ?_))))))))))
    exact lc_case H hn ⟨t0, t1⟩ ⟨y0, y1⟩ e28 nx
  · intro j hj ih
    have hj' := nj_lt hj
    have hq : jr ((j : Int) + 1) := jr_i (by omega)
    rw [kb, if_pos (tb_m1 j (by omega))] at ih
    have go : ∀ v, v = kp s j → jAt 89 119 [some (jR 4 0 0), some (jR 1 0 0), some (jR 2 0 0), some (jI x3), some (jI x4), some (jL (sg s)), none, some (jI (kw s)), some (jI (fi s (-1) (nj s))), some (jI (s 0 7)), some (jI (kb s (-1) j)), some (jI (kb s F j)), some (jI F), some (jI (j : Int)), none, none, none, none, none, none, none, none] [jI v] M Q := by
      intro v hv
      subst hv
      refine vL_law_119 ?_
      rw [hb_tb (by omega)]
      rw [kb] at ih
      cases hb : tb F j
      · rw [if_neg (by rw [hb]; decide)] at ih
        rw [if_neg (by decide)]
        refine jif1 (by decide) (vL_law_147 ⟨hq, ?_⟩)
        rw [jor_0 (ck F j (by omega))]
        exact ih
      · rw [if_pos hb] at ih
        rw [if_pos rfl]
        exact jif0 (fun q => q rfl) (vL_law_147 ⟨hq, ih⟩)
    refine vL_law_88 ⟨b28, ?_⟩
    rw [g28]
    exact jif0 (by omega) (q1_j3 H hj' (jite (fun c => go 0 (kp_0 c).symm) (fun c => q1_j6 H hj' (go _ rfl))))
/-- the law, from where its objects are made -/
theorem l_law (H : sim 0 M s) (h5 : s 0 5 = 0) (h6 : s 0 6 = 3) (h8 : s 0 8 = 0) (hL : M 1 0 0 6 = 0) (hQ : ∀ M', Q (some (jI 1)) M') : jAt 89 13 [some (jR 4 0 0), some (jR 1 0 0), some (jR 2 0 0), none, none, none, none, none, none, none, none, none, none, none, none, none, none, none, none, none, none, none] [] M Q := by
  refine vL_law_13 (l_larder H h5 h6 h8 hL (fun M1 s1 H1 y0 y4 e28 => jif1 (by decide) ?_))
  have fin : ∀ M', jAt 89 1078 [none, none, none, none, none, none, none, none, none, none, none, none, none, none, none, none, none, none, none, none, none, none] [] M' Q := fun M' => vL_law_1078 ⟨jz1, hQ M'⟩
  have L := lp_n (X := fun i => ∀ M' s', li (i : Int) M' s' → jAt 89 28 [some (jR 4 0 0), some (jR 1 0 0), some (jR 2 0 0), some (jI (10 + (i : Int))), none, none, none, none, none, none, none, none, none, none, none, none, none, none, none, none, none, none] [] M' Q) 26 ?_ ?_ M1 s1 ⟨0, H1, by decide, by decide, y0, by omega, e28⟩
  · exact L
  · intro M' s' I
    exact vL_law_28 (fun n1 h1 => jite (fun _ => fin M') (fun _ => jif1 (by decide) (fin M')))
  · intro i hi ih M' s' I
    refine vL_law_28 (fun n1 h1 => jite (fun _ => fin M') (fun _ => jif0 (by omega) ⟨by omega, fun n2 h2 => ?_⟩))
    refine lc_turn I (by omega) (fun M2 s2 I2 => vL_law_1072 ⟨jr_i (by omega), ?_⟩)
    have q := ih M2 s2 I2
    rw [show (10 : Int) + ((i + 1 : Nat) : Int) = 10 + (i : Int) + 1 by omega] at q
    exact q
end Loop

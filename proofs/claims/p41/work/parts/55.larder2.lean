-- The law's own larder, walked
section Larder2
variable {M : jM} {s : jT} {t : Int} {K : Int → jM → Prop}
/-- what holds between two jars -/
def lin (t : Int) (M : jM) (s : jT) (j : Nat) : Prop := sim t M s ∧ s 0 5 = (j : Int) ∧ s 0 8 = 0 ∧ vR M s ∧ vB M 0 ∧ vZ M j ∧ M 1 0 0 6 = 0
theorem l_lend {s : jT} {j : Nat} (I : lin t M s j) {n : Nat} (hn : n ≤ 4) (h : ∀ M' s', sim t M' s' → 0 ≤ s' 0 8 → s' 0 8 ≤ 4 → M' 2 0 0 28 = s' 0 5 → K 1 M') : jAt 87 354 [some (jR 1 0 0), some (jR 2 0 0), none, none, none, some (jI 1), none, none, none, none] [jI (n : Int)] M (jqi K) := by
  obtain ⟨H, h5, h8, V, B, Z, L⟩ := I
  have w := H.2.1
  have fin : ∀ M' s', sim t M' s' → 0 ≤ s' 0 8 → s' 0 8 ≤ 4 → M' 2 0 0 28 = s' 0 5 → jAt 87 389 [none, none, none, none, none, none, none, none, none, none] [] M' (jqi K) := fun M' s' a b c d => vL_larder_389 (vL_larder_394 ⟨jz1, qi_ (h M' s' a b c d)⟩)
  refine vL_larder_354 (l_years V w (by decide) B (by omega) (fun M2 V2 B2 F2 => jif0 (by decide) (jite (fun c => ?_) (fun c => ?_))))
  · obtain rfl : n = 0 := by omega
    exact fin M2 s (sim_f H F2) (by omega) (by omega) V2.1
  · refine q1_years (sim_f H F2) (by omega) (by omega) (by omega) (by omega) (fun M3 H3 F3 => ?_)
    have V3 : vR M3 (it ye n s) := vR_f V2 (fun _ => F3 _ _ _ _ (by omega))
    have wn := wf_yn n w
    refine l_known V3 wn (l_bits (cs_kw wn) (jif0 (fun q => q rfl) (fin M3 _ H3 ?_ ?_ V3.1)))
    · rw [yn_8]; omega
    · rw [yn_8]; omega
/-- one jar more -/
theorem l_ljar {j : Nat} {q : Int} (hJ : ((jand (jshr q 6) 15) % 10) ≤ 9) (hj : (j : Int) < (jand (jshr q 6) 15) % 10) (I : lin t M s j) (ih : ∀ M' s', lin t M' s' (j + 1) → jAt 87 85 [some (jR 1 0 0), some (jR 2 0 0), some (jR 4 0 0), some (jI 0), some (jI q), some (jI 1), some (jI ((j + 1 : Nat) : Int)), none, none, none] [] M' (jqi K)) : jAt 87 85 [some (jR 1 0 0), some (jR 2 0 0), some (jR 4 0 0), some (jI 0), some (jI q), some (jI 1), some (jI (j : Int)), none, none, none] [] M (jqi K) := by
  obtain ⟨H, h5, h8, V, B, Z, L⟩ := I
  have w := H.2.1
  have a15 : 0 ≤ jand (jshr q 6) 15 ∧ jand (jshr q 6) 15 ≤ 15 := ja_r _ 15 (by decide)
  have b27 : 0 ≤ (27 : Int) ∧ (27 : Int) < ((64 : Nat) : Int) := ⟨by decide, by decide⟩
  have b28 : 0 ≤ (28 : Int) ∧ (28 : Int) < ((64 : Nat) : Int) := ⟨by decide, by decide⟩
  have hj9 : j < 9 := by omega
  have bj : 0 ≤ (j : Int) ∧ (j : Int) < ((64 : Nat) : Int) := ⟨by omega, by omega⟩
  have bj9 : 0 ≤ (9 : Int) + (j : Int) ∧ (9 : Int) + (j : Int) < ((64 : Nat) : Int) := ⟨by omega, by omega⟩
  have bj18 : 0 ≤ (18 : Int) + (j : Int) ∧ (18 : Int) + (j : Int) < ((64 : Nat) : Int) := ⟨by omega, by omega⟩
  have e9 : ((9 : Int) + (j : Int)).toNat = 9 + j := by omega
  have e18 : ((18 : Int) + (j : Int)).toNat = 18 + j := by omega
  have ej : (j : Int).toNat = j := rfl
  refine vL_larder_85 ⟨⟨a15.1, by decide⟩, jif0 (by omega) ⟨jr_i (by decide), jr_i (by omega), by omega, fun n hn => ?_⟩⟩
  have c1 : 0 ≤ jand n 7 ∧ jand n 7 ≤ 7 := ja_r _ 7 (by decide)
  have c2 : 0 ≤ jand (jshr n 3) 15 ∧ jand (jshr n 3) 15 ≤ 15 := ja_r _ 15 (by decide)
  have c3 : 0 ≤ jand (jshr n 7) 7 ∧ jand (jshr n 7) 7 ≤ 7 := ja_r _ 7 (by decide)
  have c4 : 0 ≤ jand (jshr n 10) 31 ∧ jand (jshr n 10) 31 ≤ 31 := ja_r _ 31 (by decide)
  have p1 : jpos (jand n 7) 6 := ⟨c1.1, by decide⟩
  have p2 : jpos (jand (jshr n 3) 15) 10 := ⟨c2.1, by decide⟩
  have p3 : jpos (jand (jshr n 7) 7) 6 := ⟨c3.1, by decide⟩
  have p4 : jpos (jand (jshr n 10) 31) 21 := ⟨c4.1, by decide⟩
  have hk : 0 ≤ jand n 7 % 6 ∧ jand n 7 % 6 ≤ 5 := by omega
  have hf : 0 ≤ jand (jshr n 3) 15 % 10 ∧ jand (jshr n 3) 15 % 10 ≤ 9 := by omega
  have hg : 0 ≤ jand (jshr n 7) 7 % 6 ∧ jand (jshr n 7) 7 % 6 ≤ 5 := by omega
  have hd : 0 ≤ jand (jshr n 10) 31 % 21 ∧ jand (jshr n 10) 31 % 21 ≤ 20 := by omega
  refine ⟨p1, p2, ?_⟩
  generalize jand n 7 % 6 = k at hk ⊢
  generalize jand (jshr n 3) 15 % 10 = f at hf ⊢
  refine ⟨jr_i (by omega), jr_i (by omega), bj, ?_⟩
  rw [ej, e9, e18]
  intro m2
  refine ⟨jr_i (by omega), p3, bj9, ?_⟩
  generalize jand (jshr n 7) 7 % 6 = g at hg ⊢
  intro m3
  refine ⟨jr_i (by omega), p4, bj18, ?_⟩
  generalize jand (jshr n 10) 31 % 21 = d at hd ⊢
  intro m4
  have e28 : m4 2 0 0 (28 : Int).toNat = (j : Int) := (jupd_j m3 _ _ _ _ _ (show 28 ≠ 18 + j by omega)).trans ((jupd_j m2 _ _ _ _ _ (show 28 ≠ 9 + j by omega)).trans ((jupd_j M _ _ _ _ _ (show 28 ≠ j by omega)).trans (V.1.trans h5)))
  rw [e28]
  refine ⟨b28, jr_i (by omega), b28, ?_⟩
  intro m5
  have a28 : m5 2 0 0 28 = (j : Int) + 1 := jupd_at _ _ _ _ _ _
  have a18 : m5 2 0 0 (18 + j) = d := (jupd_j m4 _ _ _ _ _ (show 18 + j ≠ 28 by omega)).trans (jupd_at _ _ _ _ _ _)
  have a9 : m5 2 0 0 (9 + j) = g := (jupd_j m4 _ _ _ _ _ (show 9 + j ≠ 28 by omega)).trans ((jupd_j m3 _ _ _ _ _ (show 9 + j ≠ 18 + j by omega)).trans (jupd_at _ _ _ _ _ _))
  have a0 : m5 2 0 0 j = k + 10 * f := (jupd_j m4 _ _ _ _ _ (show j ≠ 28 by omega)).trans ((jupd_j m3 _ _ _ _ _ (show j ≠ 18 + j by omega)).trans ((jupd_j m2 _ _ _ _ _ (show j ≠ 9 + j by omega)).trans (jupd_at _ _ _ _ _ _)))
  have aO : ∀ q, q ≠ j → q ≠ 9 + j → q ≠ 18 + j → q ≠ 28 → m5 2 0 0 q = M 2 0 0 q := fun q z1 z2 z3 z4 => (jupd_j m4 _ _ _ _ _ z4).trans ((jupd_j m3 _ _ _ _ _ z3).trans ((jupd_j m2 _ _ _ _ _ z2).trans (jupd_j M _ _ _ _ _ z1)))
  have F5 : ∀ k i c j, ¬ k = 2 → m5 k i c j = M k i c j := fun k i c q z => (jupd_ne m4 _ (fun e => z e.1)).trans ((jupd_ne m3 _ (fun e => z e.1)).trans ((jupd_ne m2 _ (fun e => z e.1)).trans (jupd_ne M _ (fun e => z e.1))))
  clear_value m5
  clear_value m4
  clear_value m3
  clear_value m2
  have H5 : sim t m5 s := sim_f H F5
  have V5 : vR m5 (ad s k f g d) := vR_ad V h5 hj9 Z a0 a9 a18 a28 aO
  have B5 : vB m5 0 := by
    unfold vB
    rw [aO 29 (by omega) (by omega) (by omega) (by decide), aO 30 (by omega) (by omega) (by omega) (by decide)]
    exact B
  have T0 : ltr m5 m5 0 (ltx k f g d) := ⟨(F5 _ _ _ _ (by decide)).trans L, fun p hp => absurd hp (Nat.not_lt_zero p), fun _ _ _ _ _ _ => rfl⟩
  have q1 := (ltx_k (f := f) (g := g) (d := d) hk).2
  refine l_sayC T0 (by decide) (by decide) rfl (fun M6 T6 => jif0 (by decide) ⟨⟨hk.1, (show k < 6 by omega)⟩, l_sayC T6 (by decide) q1 rfl (fun M7 T7 => jif0 (by decide) ⟨jr_i (by omega), l_sayC T7 (by decide) (by omega) rfl (fun M8 T8 => jif0 (by decide) ⟨jr_i (by omega), bj9, ?_⟩)⟩)⟩)
  rw [show M8 2 0 0 (9 + j) = g from (T8.2.2 _ _ _ _ (by omega) (by omega)).trans a9]
  refine ⟨jr_i (by omega), l_sayC T8 (by decide) (by omega) rfl (fun M9 T9 => jif0 (by decide) ⟨jr_i (by omega), bj18, ?_⟩)⟩
  rw [show M9 2 0 0 (18 + j) = d from (T9.2.2 _ _ _ _ (by omega) (by omega)).trans a18]
  refine l_twoC T9 (by decide) hd rfl rfl (fun M10 T10 => jif0 (by decide) (l_sayC T10 (by decide) (by decide) rfl (fun M11 T11 => jif0 (by decide) ?_)))
  have T11 : ltr m5 M11 7 (ltx k f g d) := T11
  have hn : nj s = j := by unfold nj; omega
  have w5 : s 0 5 < 9 := by omega
  refine q1_larder1 (ltr_s T11 H5) ⟨by omega, by omega⟩ (ltx_tx hk hf hg hd T11) (ltx_gd hk hf hg hd) rfl (ltx_tk hg hd w5) (fun M12 H12 L12 F12 => jif0 (fun q => q rfl) ?_)
  rw [ltx_te hk] at H12
  have G12 : ∀ q, M12 2 0 0 q = m5 2 0 0 q := fun q => (F12 _ _ _).trans (T11.2.2 _ _ _ _ (by omega) (by omega))
  have V12 : vR M12 (ad s k f g d) := vR_f V5 G12
  have B12 : vB M12 0 := vB_f B5 G12
  have Z12 : vZ M12 j := fun i h1 h2 => by rw [G12, aO 27 (by omega) (by omega) (by omega) (by decide)]; exact Z i h1 h2
  have n1 : ad s k f g d 0 5 = ((j + 1 : Nat) : Int) := by rw [ad_n]; omega
  have n8 : ad s k f g d 0 8 = 0 := by rw [ad_f s _ _ _ _ (by decide)]; exact h8
  have n5 : ad s k f g d 5 j = 0 := by have q := ad_5 s k f g d; rw [hn] at q; exact q
  generalize ad s k f g d = S at H12 V12 n1 n8 n5
  refine vL_larder_281 ?_
  rw [j11]
  refine jite (fun c => vL_larder_325 ⟨jr_i (by omega), ih M12 S ⟨H12, n1, n8, V12, B12, fun i h1 h2 => Z12 i (by omega) h2, L12⟩⟩) (fun c => ⟨b27, b27, ?_⟩)
  intro m13
  have e27 : m13 2 0 0 27 = jor (M12 2 0 0 27) (jshl 1 (j : Int)) := jupd_at _ _ _ _ _ _
  have F13 : ∀ q, q ≠ 27 → m13 2 0 0 q = M12 2 0 0 q := fun q z => jupd_j _ _ _ _ _ _ z
  have G13 : ∀ k i c j, ¬ k = 2 → m13 k i c j = M12 k i c j := fun k i c q z => jupd_ne _ _ (fun e => z e.1)
  clear_value m13
  refine q1_shuts (j := j) (sim_f H12 G13) (by omega) (fun M14 v hv H14 F14 => ?_)
  have hv1 : v = 1 := by omega
  subst hv1
  refine jif0 (fun q => q rfl) (vL_larder_322 ?_)
  rw [j11]
  refine vL_larder_325 ⟨jr_i (by omega), ih M14 (su S 5 j 1) ⟨H14, by rw [su_nc S _ (by decide)]; exact n1, by rw [su_nc S _ (by decide)]; exact n8, ?_, ?_, ?_, ?_⟩⟩
  · exact vR_f (vR_sh V12 (by omega) hj9 e27 F13) (fun _ => F14 _ _ _ _ (by omega))
  · refine vB_f (M := m13) ?_ (fun _ => F14 _ _ _ _ (by omega))
    unfold vB
    rw [F13 29 (by decide), F13 30 (by decide)]
    exact B12
  · intro i h1 h2
    rw [F14 _ _ _ _ (by omega)]
    exact vZ_sh hj9 Z12 e27 i h1 h2
  · exact (F14 _ _ _ _ (by omega)).trans ((G13 _ _ _ _ (by decide)).trans L12)
theorem l_larder (H : sim t M s) (h5 : s 0 5 = 0) (h6 : s 0 6 = 3) (h8 : s 0 8 = 0) (hL : M 1 0 0 6 = 0) (h : ∀ M' s', sim t M' s' → 0 ≤ s' 0 8 → s' 0 8 ≤ 4 → M' 2 0 0 28 = s' 0 5 → K 1 M') : jCall 87 [jR 1 0 0, jR 2 0 0, jR 4 0 0, jI 0] M (jqi K) := by
  have b27 : 0 ≤ (27 : Int) ∧ (27 : Int) < ((64 : Nat) : Int) := ⟨by decide, by decide⟩
  have b28 : 0 ≤ (28 : Int) ∧ (28 : Int) < ((64 : Nat) : Int) := ⟨by decide, by decide⟩
  have b29 : 0 ≤ (29 : Int) ∧ (29 : Int) < ((64 : Nat) : Int) := ⟨by decide, by decide⟩
  have b30 : 0 ≤ (30 : Int) ∧ (30 : Int) < ((64 : Nat) : Int) := ⟨by decide, by decide⟩
  have b31 : 0 ≤ (31 : Int) ∧ (31 : Int) < ((64 : Nat) : Int) := ⟨by decide, by decide⟩
  refine vL_larder ⟨by decide, fun q hq => ⟨b27, ?_⟩⟩
  intro m2
  refine ⟨b28, ?_⟩
  intro m3
  refine ⟨b29, ?_⟩
  intro m4
  refine ⟨b30, ?_⟩
  intro m5
  have a30 : m5 2 0 0 30 = 0 := jupd_at _ _ _ _ _ _
  have a29 : m5 2 0 0 29 = 0 := (jupd_j m4 _ _ _ _ _ (by decide)).trans (jupd_at _ _ _ _ _ _)
  have a28 : m5 2 0 0 28 = 0 := (jupd_j m4 _ _ _ _ _ (by decide)).trans ((jupd_j m3 _ _ _ _ _ (by decide)).trans (jupd_at _ _ _ _ _ _))
  have a27 : m5 2 0 0 27 = 0 := (jupd_j m4 _ _ _ _ _ (by decide)).trans ((jupd_j m3 _ _ _ _ _ (by decide)).trans ((jupd_j m2 _ _ _ _ _ (by decide)).trans (jupd_at _ _ _ _ _ _)))
  have F5 : ∀ k i c j, ¬ k = 2 → m5 k i c j = M k i c j := fun k i c q z => (jupd_ne m4 _ (fun e => z e.1)).trans ((jupd_ne m3 _ (fun e => z e.1)).trans ((jupd_ne m2 _ (fun e => z e.1)).trans (jupd_ne M _ (fun e => z e.1))))
  clear_value m5
  clear_value m4
  clear_value m3
  clear_value m2
  have H5 := sim_f H F5
  have c3 : 0 ≤ jand (jshr q 1) 3 ∧ jand (jshr q 1) 3 ≤ 3 := ja_r _ 3 (by decide)
  have c31 : 0 ≤ jand (jshr q 1) 31 ∧ jand (jshr q 1) 31 ≤ 31 := ja_r _ 31 (by decide)
  have a15 : 0 ≤ jand (jshr q 6) 15 ∧ jand (jshr q 6) 15 ≤ 15 := ja_r _ 15 (by decide)
  have n3 : 0 ≤ jand (jshr q 11) 3 ∧ jand (jshr q 11) 3 ≤ 3 := ja_r _ 3 (by decide)
  obtain ⟨J, hJ⟩ := jnat (show 0 ≤ jand (jshr q 6) 15 % 10 by omega)
  have loop : ∀ M' s', lin t M' s' 0 → jAt 87 85 [some (jR 1 0 0), some (jR 2 0 0), some (jR 4 0 0), some (jI 0), some (jI q), some (jI 1), some (jI 0), none, none, none] [] M' (jqi K) := by
    refine lp_n (X := fun j => ∀ M' s', lin t M' s' j → jAt 87 85 [some (jR 1 0 0), some (jR 2 0 0), some (jR 4 0 0), some (jI 0), some (jI q), some (jI 1), some (jI (j : Int)), none, none, none] [] M' (jqi K)) J ?_ ?_
    · intro M' s' I
      refine vL_larder_85 ⟨⟨a15.1, by decide⟩, jif1 (by omega) (jite (fun c => ⟨jr_i (by omega), ?_⟩) (fun c => ?_))⟩
      · obtain ⟨n, hn⟩ := jnat (show 0 ≤ 1 + jand (jshr q 11) 3 by omega)
        rw [hn]
        exact l_lend I (by omega) h
      · exact l_lend (n := 0) I (by omega) h
    · intro j hj ih M' s' I
      exact l_ljar (by omega) (by omega) I ih
  have fin : ∀ v, 0 ≤ v ∧ v ≤ 20 → jAt 87 59 [some (jR 1 0 0), some (jR 2 0 0), some (jR 4 0 0), some (jI 0), some (jI q), some (jI 1), none, none, none, none] [jI v, jI 31, jR 2 0 0] m5 (jqi K) := by
    intro v hv
    refine vL_larder_59 ⟨b31, ?_⟩
    intro m6
    have a31 : m6 2 0 0 (31 : Int).toNat = v := jupd_at _ _ _ _ _ _
    have f27 : m6 2 0 0 27 = 0 := (jupd_j m5 _ _ _ _ _ (by decide)).trans a27
    have f28 : m6 2 0 0 28 = 0 := (jupd_j m5 _ _ _ _ _ (by decide)).trans a28
    have f29 : m6 2 0 0 29 = 0 := (jupd_j m5 _ _ _ _ _ (by decide)).trans a29
    have f30 : m6 2 0 0 30 = 0 := (jupd_j m5 _ _ _ _ _ (by decide)).trans a30
    have F6 : ∀ k i c j, ¬ k = 2 → m6 k i c j = m5 k i c j := fun k i c j z => jupd_ne m5 _ (fun e => z e.1)
    clear_value m6
    refine ⟨b31, ?_⟩
    rw [a31]
    refine q1_folk (sim_f H5 F6) hv (fun M7 H7 F7 => ?_)
    rw [h6]
    refine jif0 (fun z => z rfl) (vL_larder_79 ?_)
    rw [j11]
    have G : ∀ j, M7 2 0 0 j = m6 2 0 0 j := fun j => F7 _ _ _ _ (by omega)
    refine loop M7 (su s 0 6 v) ⟨H7, by rw [su_nj s _ (by decide)]; exact h5, by rw [su_nj s _ (by decide)]; exact h8, ⟨?_, ?_, fun j hj => ?_⟩, ⟨⟨?_, ?_⟩, ?_, ?_⟩, fun i h1 h2 => ?_, ?_⟩
    · rw [G, f28, su_nj s _ (by decide), h5]
    · rw [G, su_at]; exact a31
    · rw [su_nj s _ (by decide), h5] at hj; omega
    · rw [G, f29]; exact Int.le_refl _
    · rw [G, f29]; exact Int.le_refl _
    · rw [G, f30]; exact Int.le_refl _
    · rw [G, f30]; decide
    · rw [G, f27]; exact tb_0 i h2
    · exact (F7 _ _ _ _ (by omega)).trans ((F6 _ _ _ _ (by decide)).trans ((F5 _ _ _ _ (by decide)).trans hL))
  exact jite (fun c => fin _ (by omega)) (fun c => ⟨⟨c31.1, by decide⟩, fin _ (by omega)⟩)
end Larder2

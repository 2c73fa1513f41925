-- The law's own year: its array tells the larder a year on
/-- but for FOOD in the law's array nothing has changed -/
def yf (M M' : jM) : Prop := (∀ k i c j, ¬ k = 2 → M' k i c j = M k i c j) ∧ ∀ q, 27 ≤ q → M' 2 0 0 q = M 2 0 0 q
theorem yf_rf {M : jM} : yf M M := ⟨fun _ _ _ _ _ => rfl, fun _ _ => rfl⟩
theorem yf_tr {M M' M'' : jM} (h : yf M M') (h' : yf M' M'') : yf M M'' := ⟨fun k i c j z => (h'.1 k i c j z).trans (h.1 k i c j z), fun q z => (h'.2 q z).trans (h.2 q z)⟩
theorem yf_u {M : jM} {j : Nat} {x : Int} (hj : j < 9) : yf M (jupd M 2 0 0 (18 + j) x) := ⟨fun _ _ _ _ z => jupd_ne M x (fun e => z e.1), fun _ _ => jupd_j _ _ _ _ _ _ (by omega)⟩
theorem vR_u {M : jM} {s : jT} {j : Nat} {x : Int} (V : vR M s) (h9 : s 0 5 ≤ 9) (hj : j < 9) : vR (jupd M 2 0 0 (18 + j) x) (su s 4 j x) := by
  refine ⟨?_, ?_, fun j' hj' => ?_⟩
  · rw [jupd_j _ _ _ _ _ _ (by omega), su_nc s x (by decide)]; exact V.1
  · rw [jupd_j _ _ _ _ _ _ (by omega), su_nc s x (by decide)]; exact V.2.1
  · rw [su_nc s x (by decide)] at hj'
    obtain ⟨a, b, c, d⟩ := V.2.2 j' hj'
    refine ⟨?_, ?_, ?_, ?_⟩
    · rw [jupd_j _ _ _ _ _ _ (by omega), su_nc s x (by decide), su_nc s x (by decide)]; exact a
    · rw [jupd_j _ _ _ _ _ _ (by omega), su_nc s x (by decide)]; exact b
    · by_cases e : j' = j
      · subst e; rw [jupd_at, su_at]
      · rw [jupd_j _ _ _ _ _ _ (by omega), su_nj s x e]; exact c
    · rw [jupd_j _ _ _ _ _ _ (by omega), su_nc s x (by decide)]; exact d
theorem vR_o {M : jM} {s : jT} (V : vR M s) {q : Nat} {x : Int} (hq : q = 29 ∨ q = 30) (h9 : s 0 5 ≤ 9) : vR (jupd M 2 0 0 q x) s := by
  refine ⟨?_, ?_, fun j' hj' => ?_⟩
  · rw [jupd_j _ _ _ _ _ _ (by omega)]; exact V.1
  · rw [jupd_j _ _ _ _ _ _ (by omega)]; exact V.2.1
  · obtain ⟨a, b, c, d⟩ := V.2.2 j' hj'
    refine ⟨?_, ?_, ?_, ?_⟩
    · rw [jupd_j _ _ _ _ _ _ (by omega)]; exact a
    · rw [jupd_j _ _ _ _ _ _ (by omega)]; exact b
    · rw [jupd_j _ _ _ _ _ _ (by omega)]; exact c
    · rw [jupd_j _ _ _ _ _ _ (by omega)]; exact d
theorem vR_e {M : jM} {s s' : jT} (V : vR M s) (h : ∀ c j, ¬ (c = 0 ∧ (j = 7 ∨ j = 8)) → s' c j = s c j) : vR M s' := by
  refine ⟨by rw [h _ _ (by omega)]; exact V.1, by rw [h _ _ (by omega)]; exact V.2.1, fun j hj => ?_⟩
  rw [h _ _ (by omega)] at hj
  rw [h 1 j (by omega), h 2 j (by omega), h 3 j (by omega), h 4 j (by omega), h 5 j (by omega)]
  exact V.2.2 j hj
theorem op_at {s : jT} {j : Nat} (h5 : s 5 j = 0) : ∀ m : Nat, (∀ j, j < m → 0 ≤ s 4 j) → j < m → s 4 j ≤ op s m
  | 0, _, h => by omega
  | m + 1, h0, h => by
    have q := op_ge m (fun j hj => h0 j (by omega))
    have q2 := h0 m (by omega)
    rw [op]
    by_cases e : j = m
    · subst e; rw [if_pos h5]; omega
    · have ih := op_at h5 m (fun j hj => h0 j (by omega)) (by omega)
      split <;> omega
section Year
variable {M : jM} {s : jT} {t : Int} {K : Int → jM → Prop}
theorem l_spoilAll {S : jT} {Z : jRt} (wS : wf S) (VS : vR M S) (hZ : ∀ M', vR M' (sy S) → yf M M' → jAt 82 66 [some (jR 2 0 0), some (jI (S 0 6)), some (jI 5), none, none, none] [] M' Z) : jAt 82 10 [some (jR 2 0 0), some (jI 0), none, none, none, none] [] M Z := by
  have hN := nj_n wS
  have h9 := nj_9 wS
  have w1 := wS.1
  have b28 : 0 ≤ (28 : Int) ∧ (28 : Int) < ((64 : Nat) : Int) := ⟨by decide, by decide⟩
  have b31 : 0 ≤ (31 : Int) ∧ (31 : Int) < ((64 : Nat) : Int) := ⟨by decide, by decide⟩
  refine lp_n (X := fun j => ∀ M', vR M' (pu S 4 (fun j => max 0 (S 4 j - sp (S 1 j) (S 3 j))) j) → yf M M' → jAt 82 10 [some (jR 2 0 0), some (jI (j : Int)), none, none, none, none] [] M' Z) (nj S) ?_ ?_ M (by rw [pu_0]; exact VS) yf_rf
  · intro M' V' F'
    have e28 : M' 2 0 0 (28 : Int).toNat = S 0 5 := V'.1.trans (pu_nc S _ (by decide))
    have e31 : M' 2 0 0 (31 : Int).toNat = S 0 6 := V'.2.1.trans (pu_nc S _ (by decide))
    refine vL_year_10 ⟨b28, ?_⟩
    rw [e28]
    refine jif1 (by omega) ⟨b31, ?_⟩
    rw [e31]
    exact hZ M' V' F'
  · intro j hj ih M' V' F'
    have hj' := nj_lt hj
    have e28 : M' 2 0 0 (28 : Int).toNat = S 0 5 := V'.1.trans (pu_nc S _ (by decide))
    obtain ⟨g1, g2, g3, g4⟩ := vR_j V' (j := j) (by rw [pu_nc S _ (by decide)]; exact hj')
    rw [pu_nc S _ (by decide), pu_nc S _ (by decide)] at g1
    rw [pu_nc S _ (by decide)] at g2
    rw [pu_ge S 4 _ (Nat.le_refl j)] at g3
    have wj' := wS.2.2.2 j hj'
    have w4 := wj'.2.2.2.1
    have r := sp_r (S 1 j) (S 3 j)
    have e18 : ((18 : Int) + (j : Int)).toNat = 18 + j := by omega
    refine vL_year_10 ⟨b28, ?_⟩
    rw [e28]
    refine jif0 (by omega) ⟨jr_i (by omega), ⟨by omega, by omega⟩, ⟨by omega, by omega⟩, jr_i (by omega), ⟨by omega, by omega⟩, ?_⟩
    rw [g1, g2]
    refine l_spoils wj'.1 wj'.2.1 wj'.2.2.1 ?_
    rw [g3]
    have fin : ∀ v, v = max 0 (S 4 j - sp (S 1 j) (S 3 j)) → jAt 82 52 [some (jR 2 0 0), some (jI (j : Int)), none, none, none, none] [jI v, jI ((18 : Int) + (j : Int)), jR 2 0 0] M' Z := by
      intro v hv
      refine vL_year_52 ⟨⟨by omega, by omega⟩, ?_⟩
      rw [e18]
      intro m2
      have V2 : vR m2 (pu S 4 (fun j => max 0 (S 4 j - sp (S 1 j) (S 3 j))) (j + 1)) := by
        rw [pu_s]
        subst hv
        exact vR_u V' (by rw [pu_nc S _ (by decide)]; omega) (by omega)
      have F2 : yf M m2 := yf_tr F' (yf_u (by omega))
      clear_value m2
      exact ⟨jr_i (by omega), ih m2 V2 F2⟩
    exact ⟨jr_i (by omega), jr_i (by omega), jite (fun c => fin _ (by omega)) (fun c => fin _ (by omega))⟩
theorem l_eatAll {U : jT} {e F : Nat} (wU : wf U) (hF : F ≤ 20) (heF : (e : Int) = min (F : Int) (op U (nj U))) (V0 : vR M U)
    (h : ∀ M', vR M' (it ea e U) → yf M M' → jAt 82 66 [some (jR 2 0 0), some (jI ((F : Int) - e)), some (jI (-1)), none, none, none] [] M' (jqi K)) : jAt 82 66 [some (jR 2 0 0), some (jI (F : Int)), some (jI 5), none, none, none] [] M (jqi K) := by
  have hN := nj_n wU
  have h9 := nj_9 wU
  have w1 := wU.1
  have b27 : 0 ≤ (27 : Int) ∧ (27 : Int) < ((64 : Nat) : Int) := ⟨by decide, by decide⟩
  have b28 : 0 ≤ (28 : Int) ∧ (28 : Int) < ((64 : Nat) : Int) := ⟨by decide, by decide⟩
  have L := lp_n (X := fun d => ∀ (M' : jM) (b : Nat), b ≤ e → vR M' (it ea b U) → yf M M' → (b = F ∨ ∀ j', j' < nj U → oj (it ea b U) j' → U 3 j' ≤ 5 - (d : Int)) → jAt 82 66 [some (jR 2 0 0), some (jI ((F : Int) - b)), some (jI (5 - (d : Int))), none, none, none] [] M' (jqi K)) 6 ?_ ?_
  · have L0 := L M 0 (Nat.zero_le _) V0 yf_rf (Or.inr fun j' h1 h2 => by have := (wU.2.2.2 j' (nj_lt h1)).2.2.1; omega)
    rw [show (F : Int) - ((0 : Nat) : Int) = F by omega, show (5 : Int) - ((0 : Nat) : Int) = 5 by omega] at L0
    exact L0
  · intro M' b hb V' F' hc
    have hbe : b = e := by
      rcases hc with hc | hc
      · omega
      · have h1 := it_o b wU (by omega)
        have h2 : op (it ea b U) (nj U) = 0 := op_0 (nj U) (fun j hj => (wf_4 (wf_it b wU) j (by rw [nj_it]; exact hj)).1) (fun j hj ho => by
          have a1 := hc j hj ho
          have a2 := (wU.2.2.2 j (nj_lt hj)).2.2.1
          omega)
        rw [h2] at h1
        omega
    subst hbe
    exact h M' V' F'
  · intro d hd ih M' b hb V' F' hc
    refine vL_year_66 (jif0 (by omega) ?_)
    have Lj := lp_n (X := fun j => ∀ (M2 : jM) (b2 : Nat), b2 ≤ e → vR M2 (it ea b2 U) → yf M M2 → (b2 = F ∨ ∀ j', j' < nj U → oj (it ea b2 U) j' → U 3 j' < 5 - (d : Int) ∨ (U 3 j' = 5 - (d : Int) ∧ j ≤ j')) → jAt 82 72 [some (jR 2 0 0), some (jI ((F : Int) - b2)), some (jI (5 - (d : Int))), some (jI (j : Int)), none, none] [] M2 (jqi K)) (nj U) ?_ ?_
    · exact Lj M' b hb V' F' (hc.imp_right (fun z j' h1 h2 => by have := z j' h1 h2; omega))
    · intro M2 b2 hb2 V2 F2 hc2
      have e28 : M2 2 0 0 (28 : Int).toNat = U 0 5 := V2.1.trans (it_k b2 U (by decide) (by omega))
      refine vL_year_72 ⟨b28, ?_⟩
      rw [e28]
      refine jif1 (by omega) ⟨jr_i (by omega), ?_⟩
      have ih2 := ih M2 b2 hb2 V2 F2 (hc2.imp_right (fun z j' h1 h2 => by rcases z j' h1 h2 with q | q <;> omega))
      rw [show (5 : Int) - ((d + 1 : Nat) : Int) = 5 - (d : Int) + -1 by omega] at ih2
      exact ih2
    · intro j hj ihj M2 b2 hb2 V2 F2 hc2
      have hj' := nj_lt hj
      have e28 : M2 2 0 0 (28 : Int).toNat = U 0 5 := V2.1.trans (it_k b2 U (by decide) (by omega))
      obtain ⟨g1, g2, g3, g4⟩ := vR_j V2 (j := j) (by rw [it_k b2 U (by decide) (by omega)]; exact hj')
      rw [it_k b2 U (by decide) (by omega)] at g2 g4
      have w4 := wf_4 (wf_it b2 wU) j (by rw [nj_it]; exact hj)
      have n5 : it ea b2 U 0 5 = U 0 5 := it_k b2 U (by decide) (by omega)
      have e18 : ((18 : Int) + (j : Int)).toNat = 18 + j := by omega
      have go : ∀ n : Nat, b2 + n ≤ e → (n : Int) ≤ it ea b2 U 4 j → it ea (b2 + n) U = su (it ea b2 U) 4 j (it ea b2 U 4 j - (n : Int)) → (b2 + n = F ∨ ∀ j', j' < nj U → oj (it ea (b2 + n) U) j' → U 3 j' < 5 - (d : Int) ∨ (U 3 j' = 5 - (d : Int) ∧ j + 1 ≤ j')) → jAt 82 137 [some (jR 2 0 0), some (jI ((F : Int) - b2)), some (jI (5 - (d : Int))), some (jI (j : Int)), none, none] [jI (n : Int)] M2 (jqi K) := by
        intro n h1 h2 h3 h4
        refine vL_year_137 ⟨jr_i (by omega), ⟨by omega, by omega⟩, ?_⟩
        rw [g3, e18]
        refine ⟨jr_i (by omega), ⟨by omega, by omega⟩, ?_⟩
        intro m3
        have V3 : vR m3 (it ea (b2 + n) U) := by
          rw [h3]
          exact vR_u V2 (by omega) (by omega)
        have F3 : yf M m3 := yf_tr F2 (yf_u (by omega))
        clear_value m3
        refine ⟨jr_i (by omega), jr_i (by omega), ?_⟩
        have q := ihj m3 (b2 + n) h1 V3 F3 h4
        rw [show (F : Int) - ((b2 + n : Nat) : Int) = (F : Int) - b2 - n by omega] at q
        exact q
      have skip : (b2 = F ∨ ∀ j', j' < nj U → oj (it ea b2 U) j' → U 3 j' < 5 - (d : Int) ∨ (U 3 j' = 5 - (d : Int) ∧ j + 1 ≤ j')) → jAt 82 137 [some (jR 2 0 0), some (jI ((F : Int) - b2)), some (jI (5 - (d : Int))), some (jI (j : Int)), none, none] [jI 0] M2 (jqi K) := by
        intro hh
        have q := go 0 (by omega) (by omega) (by rw [Nat.add_zero, show it ea b2 U 4 j - ((0 : Nat) : Int) = it ea b2 U 4 j by omega, su_id]) (by rw [Nat.add_zero]; exact hh)
        exact q
      have no : (b2 = F ∨ ∀ j', j' < nj U → oj (it ea b2 U) j' → U 3 j' < 5 - (d : Int) ∨ (U 3 j' = 5 - (d : Int) ∧ j + 1 ≤ j')) → jAt 82 105 [some (jR 2 0 0), some (jI ((F : Int) - b2)), some (jI (5 - (d : Int))), some (jI (j : Int)), none, none] [] M2 (jqi K) := fun hh => vL_year_105 (vL_year_106 (jif0 (fun q => q rfl) (skip hh)))
      have eat : ∀ n : Nat, (n : Int) = min ((F : Int) - b2) (it ea b2 U 4 j) → U 3 j = 5 - (d : Int) → U 5 j = 0 → jAt 82 137 [some (jR 2 0 0), some (jI ((F : Int) - b2)), some (jI (5 - (d : Int))), some (jI (j : Int)), none, none] [jI (n : Int)] M2 (jqi K) := by
        intro n hn h3 h5
        by_cases hbF : b2 = F
        · obtain rfl : n = 0 := by omega
          exact skip (Or.inl hbF)
        · have hc' := hc2.resolve_left hbF
          have hrun := it_run (B := it ea b2 U) (j := j) (by rw [nj_it]; exact hj) (by rw [it_k b2 U (by decide) (by omega)]; exact h5) (fun j' h1 h2 => by
            rw [nj_it] at h1
            have := hc' j' h1 h2
            rw [it_k b2 U (c := 3) (by decide) (by omega), it_k b2 U (c := 3) (by decide) (by omega), h3]
            exact this) n (by omega)
          have ob := (it_o b2 wU (by omega)).1
          have oa := op_at (s := it ea b2 U) (j := j) (by rw [it_k b2 U (by decide) (by omega)]; exact h5) (nj U) (fun j hj => (wf_4 (wf_it b2 wU) j (by rw [nj_it]; exact hj)).1) hj
          have hrun2 := hrun
          rw [← it_a] at hrun
          refine go n (by omega) (by omega) hrun ?_
          by_cases z : b2 + n = F
          · exact Or.inl z
          · refine Or.inr fun j' h1 h2 => ?_
            rw [it_a, hrun2] at h2
            by_cases z2 : j' = j
            · subst z2
              have h6 := h2.1
              rw [su_at] at h6
              omega
            · have h6 : oj (it ea b2 U) j' := ⟨by have := h2.1; rw [su_nj _ _ z2] at this; exact this, by have := h2.2; rw [su_nc _ _ (by decide)] at this; exact this⟩
              rcases hc' j' h1 h6 with q | q
              · exact Or.inl q
              · exact Or.inr ⟨q.1, by omega⟩
      refine vL_year_72 ⟨b28, ?_⟩
      rw [e28]
      refine jif0 (by omega) ⟨jr_i (by omega), ⟨by omega, by omega⟩, ?_⟩
      rw [g2]
      refine jite (fun c => no (hc2.imp_right fun z j' h1 h2 => ?_)) (fun c => ⟨b27, ?_⟩)
      · rcases z j' h1 h2 with q | q
        · exact Or.inl q
        · by_cases z2 : j' = j
          · subst z2; exact absurd q.1 c
          · exact Or.inr ⟨q.1, by omega⟩
      · rw [g4]
        have c3 : U 3 j = 5 - (d : Int) := Decidable.not_not.mp c
        refine jite (fun c5 => no (hc2.imp_right fun z j' h1 h2 => ?_)) (fun c5 => vL_year_106 (jif1 (by decide) ⟨jr_i (by omega), ⟨by omega, by omega⟩, ?_⟩))
        · rcases z j' h1 h2 with q | q
          · exact Or.inl q
          · by_cases z2 : j' = j
            · subst z2
              have h6 := h2.2
              rw [it_k b2 U (by decide) (by omega)] at h6
              exact absurd h6 c5
            · exact Or.inr ⟨q.1, by omega⟩
        · have c5' : U 5 j = 0 := Decidable.not_not.mp c5
          rw [g3]
          refine jite (fun c6 => ?_) (fun c6 => ⟨jr_i (by omega), ⟨by omega, by omega⟩, ?_⟩)
          · obtain ⟨n, hn⟩ := jnat (show 0 ≤ (F : Int) - b2 by omega)
            have q := eat n (by omega) c3 c5'
            rw [← hn] at q
            exact q
          · obtain ⟨n, hn⟩ := jnat (show 0 ≤ it ea b2 U 4 j by omega)
            have q := eat n (by omega) c3 c5'
            rw [← hn] at q
            exact q
theorem l_year (V : vR M s) (w : wf s) {y : Int} (hy : y ≤ 1000) (B : vB M y) (h : ∀ (M' : jM) (x : Int), vR M' (ye s) → vB M' (y + 1) → (∀ k i c j, ¬ k = 2 → M' k i c j = M k i c j) → K x M') : jCall 82 [jR 2 0 0] M (jqi K) := by
  have w1 := w.1
  have w2 := w.2.1
  have b29 : 0 ≤ (29 : Int) ∧ (29 : Int) < ((64 : Nat) : Int) := ⟨by decide, by decide⟩
  have b30 : 0 ≤ (30 : Int) ∧ (30 : Int) < ((64 : Nat) : Int) := ⟨by decide, by decide⟩
  obtain ⟨⟨B1, B2⟩, B3, B4⟩ := B
  have e29 : M 2 0 0 (29 : Int).toNat = M 2 0 0 29 := rfl
  refine vL_year ⟨b29, ?_⟩
  rw [e29]
  refine ⟨jr_i (by omega), b29, ?_⟩
  intro m1
  have V1 : vR m1 s := vR_o V (Or.inl rfl) w1.2
  have c29 : m1 2 0 0 29 = M 2 0 0 29 + 1 := jupd_at _ _ _ _ _ _
  have c30 : m1 2 0 0 30 = M 2 0 0 30 := jupd_j _ _ _ _ _ _ (by decide)
  have F1 : ∀ k i c j, ¬ k = 2 → m1 k i c j = M k i c j := fun k i c j z => jupd_ne M _ (fun e => z e.1)
  clear_value m1
  have wS : wf (su s 0 8 (s 0 8 + 1)) := wf_v w (Or.inr (Or.inr rfl))
  have VS : vR m1 (su s 0 8 (s 0 8 + 1)) := vR_e V1 (fun c j z => su_ne s _ (by omega))
  refine l_spoilAll wS VS (fun M2 V2 F2 => ?_)
  have s6 : su s 0 8 (s 0 8 + 1) 0 6 = s 0 6 := su_nj s _ (by decide)
  rw [s6]
  have wT : wf (sy (su s 0 8 (s 0 8 + 1))) := wf_sy wS
  have t6 : sy (su s 0 8 (s 0 8 + 1)) 0 6 = s 0 6 := (sy_k _ (by decide)).trans s6
  have hye : ye s = it ea (sy (su s 0 8 (s 0 8 + 1)) 0 6).toNat (sy (su s 0 8 (s 0 8 + 1))) := by
    rw [t6]; rfl
  generalize sy (su s 0 8 (s 0 8 + 1)) = T at V2 wT t6 hye
  have og := op_g wT
  have t7 := wT.2.2.1
  obtain ⟨e, he⟩ := jnat (show 0 ≤ min (T 0 6) (op T (nj T)) by rw [t6]; omega)
  have hyr := it_year wT he.symm
  rw [← hye] at hyr
  obtain ⟨F, hF⟩ := jnat (show 0 ≤ T 0 6 by rw [t6]; omega)
  have hU : ∀ c j, ¬ (c = 0 ∧ (j = 7 ∨ j = 8)) → su T 0 7 (min 9999 (T 0 7 + T 0 6 - (e : Int))) c j = T c j := fun c j z => su_ne T _ (by omega)
  have hwU : wf (su T 0 7 (min 9999 (T 0 7 + T 0 6 - (e : Int)))) := wf_v wT (Or.inr (Or.inl ⟨rfl, by omega, by omega⟩))
  have hoU : op (su T 0 7 (min 9999 (T 0 7 + T 0 6 - (e : Int)))) (nj T) = op T (nj T) := op_e (nj T) (fun j _ => ⟨su_nc T _ (by decide), su_nc T _ (by decide)⟩)
  have hnU : nj (su T 0 7 (min 9999 (T 0 7 + T 0 6 - (e : Int)))) = nj T := nj_su (by omega)
  have VU : vR M2 (su T 0 7 (min 9999 (T 0 7 + T 0 6 - (e : Int)))) := vR_e V2 hU
  rw [← t6, hF]
  generalize su T 0 7 (min 9999 (T 0 7 + T 0 6 - (e : Int))) = U at hyr hwU hoU hnU VU
  refine l_eatAll (e := e) hwU (by omega) (by rw [hnU, hoU]; omega) VU (fun M3 V3 F3 => ?_)
  have hV : vR M3 (ye s) := by rw [hyr]; exact V3
  have F := yf_tr F2 F3
  have d29 := F.2 29 (by decide)
  have d30 := F.2 30 (by decide)
  have y5 : ye s 0 5 = s 0 5 := ye_k s (by decide) (by omega) (by omega)
  have y30 : M3 2 0 0 (30 : Int).toNat = M3 2 0 0 30 := rfl
  have fin : ∀ v x, 0 ≤ v → v ≤ 9999 → jAt 82 194 [none, some (jI x), none, none, none, none] [jI v, jI 30, jR 2 0 0] M3 (jqi K) := by
    intro v x h1 h2
    refine vL_year_194 ⟨b30, ?_⟩
    intro m9
    have f29 : m9 2 0 0 29 = M3 2 0 0 29 := jupd_j _ _ _ _ _ _ (by decide)
    have f30 : m9 2 0 0 30 = v := jupd_at _ _ _ _ _ _
    have F9 : ∀ k i c j, ¬ k = 2 → m9 k i c j = M k i c j := fun k i c j z => (jupd_ne M3 _ (fun e => z e.1)).trans ((F.1 k i c j z).trans (F1 k i c j z))
    have V9 : vR m9 (ye s) := vR_o hV (Or.inr rfl) (by omega)
    clear_value m9
    exact qi_ (h m9 x V9 ⟨⟨by omega, by omega⟩, by omega, by omega⟩ F9)
  refine vL_year_66 (jif1 (by decide) ⟨b30, ?_⟩)
  rw [y30]
  exact ⟨jr_i (by omega), jite (fun c => ⟨b30, jr_i (by omega), fin _ _ (by omega) (by omega)⟩) (fun c => fin _ _ (by decide) (by decide))⟩
theorem l_years {V : jM → Prop} (R : vR M s) (w : wf s) {y : Int} (hy : y ≤ 100) (B : vB M y) {n : Nat} (hn : n ≤ 10) (h : ∀ M' : jM, vR M' (it ye n s) → vB M' (y + n) → (∀ k i c j, ¬ k = 2 → M' k i c j = M k i c j) → V M') : jCall 83 [jR 2 0 0, jI (n : Int)] M (jqv V) := by
  refine vL_years ?_
  refine lp_n (X := fun k => ∀ M' : jM, vR M' (it ye k s) → vB M' (y + k) → (∀ k i c j, ¬ k = 2 → M' k i c j = M k i c j) → jAt 83 2 [some (jR 2 0 0), some (jI (n : Int)), some (jI (k : Int)), none] [] M' (jqv V)) n ?_ ?_ M R (by rw [show y + ((0 : Nat) : Int) = y by omega]; exact B) (fun _ _ _ _ _ => rfl)
  · intro M' R' B' F'
    exact vL_years_2 (jif1 (Int.le_refl _) (qv_ (h M' R' B' F')))
  · intro k hk ih M' R' B' F'
    refine vL_years_2 (jif0 (by omega) (l_year R' (wf_yn k w) (by omega) B' (fun M2 x R2 B2 F2 => ⟨jr_i (by omega), ih M2 ?_ ?_ (fun k i c j z => (F2 k i c j z).trans (F' k i c j z))⟩)))
    · rw [it_s]; exact R2
    · rw [show y + ((k + 1 : Nat) : Int) = y + (k : Int) + 1 by omega]; exact B2
end Year

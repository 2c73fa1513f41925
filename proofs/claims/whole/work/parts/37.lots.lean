-- Calls, side by side: lots, image, on
def ns (z : Int) : Int := jwr (jwr (z * 1664525) + 1013904223)
def zs (z : Int) : Nat → Int
  | 0 => z
  | k + 1 => ns (zs z k)
def dr (z m : Int) : Int := jand z 2147483647 / 256 % m
/-- of the first j jars SHELF and FOOD are drawn -/
def dj (s : jT) (z : Int) : Nat → jT
  | 0 => s
  | j + 1 => su (su (dj s z j) 3 j (dr (zs z (2 * j + 1)) 6)) 4 j (dr (zs z (2 * j + 2)) 21)
/-- the seed ahead of century k -/
def lz (s : jT) (z : Int) : Nat → Int
  | 0 => z
  | k + 1 => zs (lz s z k) (2 * nj s)
def lc (s : jT) (z : Int) (k : Nat) : jT := it ye 10 (dj s (lz s z k) (nj s))
def lt (s : jT) (z q : Int) : Nat → Int
  | 0 => 0
  | k + 1 => lt s z q k + (if q = 0 then kc (lc s z k) else lc s z k 0 7 - s 0 7)
theorem jn_nn (z : Int) : 0 ≤ jand z 2147483647 := by
  have e : jand z 2147483647 = jand 2147483647 z := tb_ext (jr_and _ _) (jr_and _ _) fun i hi => by rw [tb_and, tb_and, Bool.and_comm]
  rw [e]
  have e2 : jand ((2147483647 : Nat) : Int) z = ((2147483647 &&& (Int32.ofInt z).toBitVec.toNat : Nat) : Int) := by
    have hl : 2147483647 &&& (Int32.ofInt z).toBitVec.toNat ≤ 2147483647 := Nat.and_le_left
    refine tb_ext (jr_and _ _) (jr_nat (by omega)) fun i hi => ?_
    rw [tb_and, tb_nat _ hi, tb_nat _ hi, Nat.testBit_and]
    rfl
  have e3 : jand 2147483647 z = jand ((2147483647 : Nat) : Int) z := rfl
  rw [e3, e2]
  omega
theorem dr_6 (z : Int) : 0 ≤ dr z 6 ∧ dr z 6 ≤ 5 := by unfold dr; omega
theorem dr_21 (z : Int) : 0 ≤ dr z 21 ∧ dr z 21 ≤ 20 := by unfold dr; omega
theorem dj_k (s : jT) (z : Int) {c q : Nat} (h3 : c ≠ 3) (h4 : c ≠ 4) : ∀ j, dj s z j c q = s c q
  | 0 => rfl
  | j + 1 => by rw [dj, su_nc _ _ h4, su_nc _ _ h3]; exact dj_k s z h3 h4 j
theorem wf_dj {s : jT} (w : wf s) (z : Int) : ∀ j, wf (dj s z j)
  | 0 => w
  | j + 1 => by
    have h1 := dr_6 (zs z (2 * j + 1))
    have h2 := dr_21 (zs z (2 * j + 2))
    rw [dj]
    exact wf_u (wf_u (wf_dj w z j) (by omega)) (by omega)
section Lots
variable {M : jM} {s : jT} {t : Int} {K : Int → jM → Prop} {V : jM → Prop}
theorem q1_nextSeed {z : Int} (h : K (ns z) M) : jCall 94 [jI z] M (jqi K) := vX1_nextSeed (qi_ h)
theorem q1_drawn {z m : Int} (hm : 1 ≤ m) (h : K (dr z m) M) : jCall 95 [jI z, jI m] M (jqi K) := by
  have h0 := jn_nn z
  exact vX1_drawn (jif1 hm ⟨⟨h0, by decide⟩, ⟨by omega, by omega⟩, qi_ h⟩)
theorem q2_drawn {m : Int} (hm : 1 ≤ m) (h : K (dr (ns (M 2 0 0 12)) m) (jupd M 2 0 0 12 (ns (M 2 0 0 12)))) : jCall 181 [jR 2 0 0, jI m] M (jqi K) := by
  have h0 := jn_nn (ns (M 2 0 0 12))
  have e : jupd M 2 0 0 12 (ns (M 2 0 0 12)) 2 0 0 12 = ns (M 2 0 0 12) := jupd_at _ _ _ _ _ _
  refine vX2_drawn ?_
  intro m1
  have e1 : m1 2 0 0 12 = ns (M 2 0 0 12) := e
  rw [e1]
  exact ⟨⟨h0, by decide⟩, ⟨by omega, by omega⟩, qi_ h⟩
theorem q1_drawJars (R : cR M 0 s) (w : wf s) {z : Int} (h : ∀ M', cR M' 2 (dj s z (nj s)) → jth M M' → K (zs z (2 * nj s)) M') : jCall 93 [jR 1 0 0, jI z] M (jqi K) := by
  have w1 := w.1
  have hn := nj_n w
  refine vX1_drawJars (q0_become (by decide) R w (fun M1 R1 F1 => ?_))
  refine lp_n (X := fun j => ∀ M', cR M' 2 (dj s z j) → jth M M' → jAt 93 15 [some (jR 1 0 0), none, some (jI (zs z (2 * j))), some (jI (j : Int))] [] M' (jqi K)) (nj s) ?_ ?_ M1 R1 (jth_c F1 (Or.inl rfl))
  · intro M' R' T'
    have e := (cR_f R').1
    rw [dj_k s z (by decide) (by decide)] at e
    exact vX1_drawJars_15 (jif1 (by omega) (qi_ (h M' R' T')))
  · intro j hj ih M' R' T'
    have hj' := nj_lt hj
    have e := (cR_f R').1
    rw [dj_k s z (by decide) (by decide)] at e
    have hb : 0 ≤ (j : Int) ∧ (j : Int) < ((9 : Nat) : Int) := ⟨by omega, by omega⟩
    have e1 : ns (zs z (2 * j)) = zs z (2 * j + 1) := rfl
    have e2 : ns (zs z (2 * j + 1)) = zs z (2 * j + 2) := rfl
    refine vX1_drawJars_15 (jif0 (by omega) (q1_nextSeed (q1_drawn (by decide) ⟨hb, ?_⟩)))
    intro m3
    rw [e1]
    have R3 : cR m3 2 (su (dj s z j) 3 j (dr (zs z (2 * j + 1)) 6)) := cR_u R' (by decide)
    have T3 : jth M m3 := jth_tr T' (jth_c jfm_u (Or.inl rfl))
    clear_value m3
    refine q1_nextSeed (q1_drawn (by decide) ⟨hb, ?_⟩)
    intro m6
    rw [e2]
    have R6 : cR m6 2 (dj s z (j + 1)) := cR_u R3 (by decide)
    have T6 : jth M m6 := jth_tr T3 (jth_c jfm_u (Or.inl rfl))
    refine ⟨jr_i (by omega), ?_⟩
    have ih2 := ih m6 R6 T6
    rw [show 2 * (j + 1) = 2 * j + 2 by omega] at ih2
    exact ih2
theorem lc_r (w : wf s) (z q : Int) (k : Nat) : wf (lc s z k) ∧ 0 ≤ (if q = 0 then kc (lc s z k) else lc s z k 0 7 - s 0 7) ∧ (if q = 0 then kc (lc s z k) else lc s z k 0 7 - s 0 7) ≤ 9999 := by
  have w2 : wf (lc s z k) := wf_yn _ (wf_dj w _ _)
  have w7 := w.2.2.1
  have w8 := w2.2.2.1
  have c := jc10 (kw (lc s z k))
  have g := yn_g 10 (dj s (lz s z k) (nj s))
  rw [dj_k s _ (by decide) (by decide)] at g
  have g' : s 0 7 ≤ lc s z k 0 7 := g
  refine ⟨w2, ?_⟩
  split
  · show 0 ≤ jpc 10 _ ∧ jpc 10 _ ≤ 9999; omega
  · omega
theorem lt_r (w : wf s) (z q : Int) : ∀ k : Nat, 0 ≤ lt s z q k ∧ lt s z q k ≤ 9999 * k
  | 0 => ⟨Int.le_refl _, Int.le_refl _⟩
  | k + 1 => by
    have ih := lt_r w z q k
    have h := (lc_r w z q k).2
    rw [lt]
    omega
theorem p_lots (H : sim t M s) (ht : t < 1000) (x1 x2 x3 : Int) : pP t 92 182 [jI x1, jI x2, jI x3] M := by
  obtain ⟨R, R', w, y⟩ := H.1
  have w1 := w.1
  have w7 := w.2.2.1
  have hn := nj_n w
  have hz : 0 ≤ (0 : Int) ∧ (0 : Int) < ((54 : Nat) : Int) := ⟨by decide, by decide⟩
  have h2 : 0 ≤ (2 : Int) ∧ (2 : Int) < ((54 : Nat) : Int) := ⟨by decide, by decide⟩
  by_cases h4 : 1 ≤ x1
  · by_cases h6 : x1 ≤ 20
    · by_cases hw : x3 = 0 ∨ x3 = 1
      · obtain ⟨n, rfl⟩ := jnat (show 0 ≤ x1 by omega)
        have yd : ∀ z j, 0 ≤ dj s z j 0 8 ∧ dj s z j 0 8 ≤ 2000 := fun z j => by rw [dj_k s z (by decide) (by decide)]; exact y_in y
        have L : ∀ M1, jth M M1 → jCall 182 (jR 2 0 0 :: [jI (n : Int), jI x2, jI x3]) M1 (jqi (en t (lt s x2 x3 n))) := by
          have G : ∀ a, a = lt s x2 x3 n → ∀ M1, jth M M1 → jCall 182 (jR 2 0 0 :: [jI (n : Int), jI x2, jI x3]) M1 (jqi (en t a)) := by
            intro a ha M1 T1
            refine vX2_lots (jif1 h4 (jif1 h6 (q2_isIn (fun _ _ => jif1 (by decide) ?_) (fun z => absurd ⟨by omega, by omega⟩ z))))
            intro m2
            refine lp_n (X := fun k => ∀ M', jth M M' → M' 2 0 0 12 = lz s x2 k → jAt 182 52 [some (jR 2 0 0), some (jI (n : Int)), none, some (jI x3), some (jI (lt s x2 x3 k)), some (jI (k : Int)), none] [] M' (jqi (en t a))) n ?_ ?_ m2 (jth_tr T1 (jth_u (Or.inr rfl))) (jupd_at _ _ _ _ _ _)
            · intro M' T' _
              exact vX2_lots_52 (jif1 (Int.le_refl _) (qi_ (by rw [← ha]; exact fin_t H ht T')))
            · intro k hk ih M' T' z'
              have hq : jr ((k : Int) + 1) := jr_i (by omega)
              have lr := lt_r w x2 x3 k
              have cr := lc_r w x2 x3 k
              refine vX2_lots_52 (jif0 (by omega) (q2_copies (by decide) (th_R R' T') w (fun M2 R2 F2 => ?_)))
              refine lp_n (X := fun j => ∀ M3, rR M3 1 (dj s (lz s x2 k) j) → jth M M3 → M3 2 0 0 12 = zs (lz s x2 k) (2 * j) → jAt 182 72 [some (jR 2 0 0), some (jI (n : Int)), none, some (jI x3), some (jI (lt s x2 x3 k)), some (jI (k : Int)), some (jI (j : Int))] [] M3 (jqi (en t a))) (nj s) ?_ ?_ M2 R2 (jth_tr T' (jth_r F2 (Or.inl rfl))) ((F2 _ _ _ _ (by omega)).trans z')
              · intro M3 R3 T3 z3
                refine vX2_lots_72 ⟨hz, ?_⟩
                rw [(rR_f (th_R R' T3)).1]
                refine jif1 (by omega) (q2_yearsOn (n := 10) R3 (wf_dj w _ _) (yd _ _) (by decide) (fun M4 R4 F4 => ?_))
                have T4 := jth_tr T3 (jth_r F4 (Or.inl rfl))
                have ih2 := ih M4 T4 ((F4 _ _ _ _ (by omega)).trans z3)
                rw [lt] at ih2
                have w8 := cr.1.2.2.1
                have c2 := cr.2
                refine jite (fun c => ⟨h2, h2, ?_⟩) (fun c => q2_knownCount R4 cr.1 ?_)
                · rw [(rR_f R4).2.2.1, (rR_f (th_R R' T4)).2.2.1]
                  rw [if_neg c] at ih2 c2
                  have e8 : it ye 10 (dj s (lz s x2 k) (nj s)) 0 7 = lc s x2 k 0 7 := rfl
                  rw [e8]
                  exact ⟨jr_i (by omega), jr_i (by omega), hq, ih2⟩
                · rw [if_pos (Decidable.not_not.mp c)] at ih2 c2
                  exact ⟨jr_i (show -2147483648 ≤ lt s x2 x3 k + kc (lc s x2 k) ∧ lt s x2 x3 k + kc (lc s x2 k) < 2147483648 by omega), hq, ih2⟩
              · intro j hj ih2 M3 R3 T3 z3
                have hj' := nj_lt hj
                have e1 : ns (zs (lz s x2 k) (2 * j)) = zs (lz s x2 k) (2 * j + 1) := rfl
                have e2 : ns (zs (lz s x2 k) (2 * j + 1)) = zs (lz s x2 k) (2 * j + 2) := rfl
                refine vX2_lots_72 ⟨hz, ?_⟩
                rw [(rR_f (th_R R' T3)).1]
                refine jif0 (by omega) (q2_of (by omega) 2 (by decide) (q2_drawn (by decide) ⟨h54 (by omega), ?_⟩))
                rw [z3, e1]
                have R4 : rR (jupd M3 2 0 0 12 (zs (lz s x2 k) (2 * j + 1))) 1 (dj s (lz s x2 k) j) := rR_e R3 (fun _ _ => jupd_ne _ _ (by omega))
                have T4 : jth M (jupd M3 2 0 0 12 (zs (lz s x2 k) (2 * j + 1))) := jth_tr T3 (jth_u (Or.inr rfl))
                have z4 : jupd M3 2 0 0 12 (zs (lz s x2 k) (2 * j + 1)) 2 0 0 12 = zs (lz s x2 k) (2 * j + 1) := jupd_at _ _ _ _ _ _
                generalize jupd M3 2 0 0 12 (zs (lz s x2 k) (2 * j + 1)) = M4 at R4 T4 z4
                intro m5
                have R5 : rR m5 1 (su (dj s (lz s x2 k) j) 3 j (dr (zs (lz s x2 k) (2 * j + 1)) 6)) := rR_u R4 (by decide)
                have T5 : jth M m5 := jth_tr T4 (jth_r jfm_u (Or.inl rfl))
                have z5 : m5 2 0 0 12 = zs (lz s x2 k) (2 * j + 1) := (jupd_ne M4 _ (by omega)).trans z4
                clear_value m5
                refine q2_of (by omega) 3 (by decide) (q2_drawn (by decide) ⟨h54 (by omega), ?_⟩)
                rw [z5, e2]
                have R6 : rR (jupd m5 2 0 0 12 (zs (lz s x2 k) (2 * j + 2))) 1 (su (dj s (lz s x2 k) j) 3 j (dr (zs (lz s x2 k) (2 * j + 1)) 6)) := rR_e R5 (fun _ _ => jupd_ne _ _ (by omega))
                have T6 : jth M (jupd m5 2 0 0 12 (zs (lz s x2 k) (2 * j + 2))) := jth_tr T5 (jth_u (Or.inr rfl))
                have z6 : jupd m5 2 0 0 12 (zs (lz s x2 k) (2 * j + 2)) 2 0 0 12 = zs (lz s x2 k) (2 * j + 2) := jupd_at _ _ _ _ _ _
                generalize jupd m5 2 0 0 12 (zs (lz s x2 k) (2 * j + 2)) = M6 at R6 T6 z6
                intro m7
                have R7 : rR m7 1 (dj s (lz s x2 k) (j + 1)) := rR_u R6 (by decide)
                have T7 : jth M m7 := jth_tr T6 (jth_r jfm_u (Or.inl rfl))
                have z7 : m7 2 0 0 12 = zs (lz s x2 k) (2 * (j + 1)) := (jupd_ne M6 _ (by omega)).trans z6
                exact ⟨jr_i (by omega), ih2 m7 R7 T7 z7⟩
          exact G _ rfl
        have G : ∀ a, a = lt s x2 x3 n → (∀ M1, jth M M1 → jCall 182 (jR 2 0 0 :: [jI (n : Int), jI x2, jI x3]) M1 (jqi (en t a))) → pP t 92 182 [jI (n : Int), jI x2, jI x3] M := by
          intro a ha L
          refine vX1_lots (jif1 h4 (jif1 h6 (q1_isNeither (fun z => absurd hw z) (fun _ => jif1 rfl ?_))))
          refine lp_n (X := fun k => ∀ M', jth M M' → jAt 92 48 [some (jR 1 0 0), some (jI (n : Int)), none, some (jI x3), some (jI (lz s x2 k)), some (jI (lt s x2 x3 k)), some (jI (k : Int))] [] M' (jqi fun y M1 => jCall 182 (jR 2 0 0 :: [jI (n : Int), jI x2, jI x3]) M1 (jqi (en t y)))) n ?_ ?_ M jth_rf
          · intro M' T'
            exact vX1_lots_48 (jif1 (Int.le_refl _) (qi_ (by rw [← ha]; exact L M' T')))
          · intro k hk ih M' T'
            have hq : jr ((k : Int) + 1) := jr_i (by omega)
            have lr := lt_r w x2 x3 k
            have cr := lc_r w x2 x3 k
            rw [lt] at ih
            refine vX1_lots_48 (jif0 (by omega) (q1_drawJars (th_C R T') w (fun M2 R2 T2 => q0_pass (n := 10) R2 (wf_dj w _ _) (yd _ _) (by decide) (fun M3 R3 F3 => ?_))))
            have T3 := jth_tr T' (jth_tr T2 (jth_c F3 (Or.inl rfl)))
            have ih2 := ih M3 T3
            have w8 := cr.1.2.2.1
            have c2 := cr.2
            refine jite (fun c => q1_moreHunger (th_C R T3) R3 w cr.1 ?_) (fun c => q0_knownCount R3 cr.1 ?_)
            · rw [if_neg c] at ih2 c2
              have e8 : it ye 10 (dj s (lz s x2 k) (nj s)) 0 7 = lc s x2 k 0 7 := rfl
              rw [e8]
              exact ⟨jr_i (by omega), hq, ih2⟩
            · rw [if_pos (Decidable.not_not.mp c)] at ih2 c2
              exact ⟨jr_i (show -2147483648 ≤ lt s x2 x3 k + kc (lc s x2 k) ∧ lt s x2 x3 k + kc (lc s x2 k) < 2147483648 by omega), hq, ih2⟩
        exact G _ rfl L
      · have L : jCall 182 (jR 2 0 0 :: [jI x1, jI x2, jI x3]) (rfC M 2) (jqi (en t (-((2 : Nat) : Int)))) := vX2_lots (jif1 h4 (jif1 h6 (q2_isIn (fun _ _ => by omega) (fun _ => jif0 (by decide) (fin_r (k := 2) H ht ⟨by decide, by decide⟩)))))
        exact vX1_lots (jif1 h4 (jif1 h6 (q1_isNeither (fun _ => jif0 (by decide) (q1_refuse (k := 2) H ⟨by decide, by decide⟩ (qi_ L))) (fun z => absurd z hw))))
    · have L : jCall 182 (jR 2 0 0 :: [jI x1, jI x2, jI x3]) (rfC M 6) (jqi (en t (-((6 : Nat) : Int)))) := vX2_lots (jif1 h4 (jif0 h6 (fin_r (k := 6) H ht ⟨by decide, by decide⟩)))
      exact vX1_lots (jif1 h4 (jif0 h6 (q1_refuse (k := 6) H ⟨by decide, by decide⟩ (qi_ L))))
  · have L : jCall 182 (jR 2 0 0 :: [jI x1, jI x2, jI x3]) (rfC M 4) (jqi (en t (-((4 : Nat) : Int)))) := vX2_lots (jif0 h4 (fin_r (k := 4) H ht ⟨by decide, by decide⟩))
    exact vX1_lots (jif0 h4 (q1_refuse (k := 4) H ⟨by decide, by decide⟩ (qi_ L)))
theorem p_image (H : sim t M s) (ht : t < 1000) : pP t 96 183 [] M := by
  have h0 := H.2.2
  obtain ⟨⟨R, R', w, y⟩, ⟨sl, sr, sf, sg⟩, _⟩ := H
  have h1 : 0 ≤ (1 : Int) ∧ (1 : Int) < ((54 : Nat) : Int) := ⟨by decide, by decide⟩
  refine vX1_image (q0_become (by decide) R w (fun M1 R1 F1 => ⟨jz1, ?_⟩))
  intro m2
  have e8 : m2 0 0 0 8 = s 0 8 := ((jupd_ne M1 _ (by omega)).trans (F1 _ _ _ _ (by omega))).trans (cR_f R).2.2.2
  rw [e8]
  have R2 : rR m2 0 s := rR_e (rR_fr R' F1 (by omega)) (fun _ _ => jupd_ne M1 _ (by omega))
  refine qi_ (vX2_image (q2_copies (by decide) R2 w (fun M3 R3 F3 => ⟨jz1, ?_⟩)))
  intro m4
  have f8 : m4 3 0 0 (1 : Int).toNat = s 0 8 := ((jupd_ne M3 _ (by omega)).trans (F3 _ _ _ _ (by omega))).trans (rR_f R2).2.2.2
  rw [f8]
  have e2 : ∀ k i c j, ¬ (k = 0 ∧ i = 1) → ¬ (k = 3 ∧ i = 2) → ¬ (k = 1 ∧ i = 0 ∧ c = 0 ∧ j = 2) → ¬ (k = 2 ∧ i = 0 ∧ c = 0 ∧ j = 4) → m4 k i c j = M k i c j := fun k i c j z1 z2 z3 z4 => (((jupd_ne M3 _ (by omega)).trans (F3 _ _ _ _ (by omega))).trans (jupd_ne M1 _ (by omega))).trans (F1 _ _ _ _ (by omega))
  have g1 : m4 1 0 0 2 = 1 := ((jupd_ne M3 _ (by omega)).trans (F3 _ _ _ _ (by omega))).trans (jupd_at _ _ _ _ _ _)
  have g2 : m4 2 0 0 4 = 1 := jupd_at _ _ _ _ _ _
  have Ra : cR m4 1 s := cR_e R1 (fun _ _ => ((jupd_ne M3 _ (by omega)).trans (F3 _ _ _ _ (by omega))).trans (jupd_ne M1 _ (by omega)))
  have Rb : rR m4 2 s := rR_e R3 (fun _ _ => jupd_ne M3 _ (by omega))
  refine ⟨h1, qi_ ⟨rfl, s, ⟨⟨cR_e R (fun _ _ => ?_), rR_e R' (fun _ _ => ?_), w, y⟩, ⟨slet_e sl ?_ ?_ (fun _ => ?_) (fun _ => ?_), srow_e sr ?_ ?_ (fun _ => ?_) (fun _ => ?_), sref_s (sref_e sf (fun _ => ?_) (fun _ => ?_)), ⟨by rw [g1]; exact Or.inr rfl, by rw [g1, g2], fun _ => ⟨s, Ra, Rb, w, y⟩⟩⟩, by omega, by omega⟩⟩⟩ <;> exact e2 _ _ _ _ (by omega) (by omega) (by omega) (by omega)
theorem p_on (H : sim t M s) (ht : t < 1000) : pP t 97 184 [] M := by
  have h0 := H.2.2
  obtain ⟨R, R', w, y⟩ := H.1
  obtain ⟨sl, sr, sf, sg⟩ := H.2.1
  have h1 : 0 ≤ (1 : Int) ∧ (1 : Int) < ((54 : Nat) : Int) := ⟨by decide, by decide⟩
  rcases sg.1 with g | g
  · have L : jCall 184 (jR 2 0 0 :: []) (rfC M 3) (jqi (en t (-((3 : Nat) : Int)))) := by
      have e : rfC M 3 2 0 0 4 = 0 := ((jupd_ne M _ (by omega)).trans sg.2.1).trans g
      refine vX2_on ?_
      rw [e]
      exact jif0 (by decide) (fin_r (k := 3) H ht ⟨by decide, by decide⟩)
    refine vX1_on ?_
    rw [g]
    exact jif0 (by decide) (q1_refuse (k := 3) H ⟨by decide, by decide⟩ (qi_ L))
  · obtain ⟨s', Ra, Rb, w', y'⟩ := sg.2.2 g
    refine vX1_on ?_
    rw [g]
    refine jif1 (by decide) (q0_become (by decide) Ra w' (fun M1 R1 F1 => ?_))
    rw [(cR_f R1).2.2.2]
    have e : M1 2 0 0 4 = 1 := ((F1 _ _ _ _ (by omega)).trans sg.2.1).trans g
    refine qi_ (vX2_on ?_)
    rw [e]
    refine jif1 (by decide) (q2_copies (by decide) (rR_fr Rb F1 (by omega)) w' (fun M2 R2 F2 => ⟨h1, ?_⟩))
    rw [(rR_f R2).2.2.2]
    exact qi_ (fin_s H ht R1 F1 R2 F2 w' y')
end Lots

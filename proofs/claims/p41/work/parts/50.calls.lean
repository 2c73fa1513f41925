-- Calls of the class alone, each told in words of the larder now
section Own
variable {M : jM} {s : jT} {t : Int} {K : Int → jM → Prop} {V : jM → Prop}
theorem q1_known (H : sim t M s) (h : K (kw s) M) : jCall 41 [jR 1 0 0] M (jqi K) := vX1_known (q0_knownBits H.1 H.2.1 (qi_ h))
/-- what is asked of a jar -/
def jv (s : jT) (j : Nat) (x : Int) : Int := if x = 0 then s 1 j else if x = 1 then s 2 j else if x = 2 then s 3 j else if x = 3 then s 4 j else if x = 4 then s 5 j else if x = 5 then sp (s 1 j) (s 3 j) else kp s j
theorem q1_jar (H : sim t M s) {j : Nat} (hj : (j : Int) < s 0 5) {x : Int} (hx : 0 ≤ x ∧ x ≤ 6) (h : K (jv s j x) M) : jCall 40 [jR 1 0 0, jI (j : Int), jI x] M (jqi K) := by
  obtain ⟨R, w, -, -⟩ := H
  obtain ⟨e1, e2, e3, e4, e5⟩ := cR_j R hj
  have w1 := w.1
  have h5 := (w.2.2.2 j hj).2.2.2.2
  have hb : 0 ≤ (j : Int) ∧ (j : Int) < ((9 : Nat) : Int) := ⟨by omega, by omega⟩
  unfold jv at h
  refine vX1_jar (q0_hasj R w hj (jif1 (by decide) ?_))
  rw [e1, e2, e3, e4, e5]
  refine jite (fun c => ⟨hb, qi_ ?_⟩) (fun c0 => jite (fun c => ⟨hb, qi_ ?_⟩) (fun c1 => jite (fun c => ⟨hb, qi_ ?_⟩) (fun c2 => jite (fun c => ⟨hb, qi_ ?_⟩) (fun c3 => jite (fun c => ⟨hb, jite (fun z => qi_ ?_) (fun z => qi_ ?_)⟩) (fun c4 => jite (fun c => q0_spoils R w hj (qi_ ?_)) (fun c5 => jif1 (by omega) (q0_kept R w hj (qi_ ?_))))))))
  · rw [if_pos c] at h; exact h
  · rw [if_neg c0, if_pos c] at h; exact h
  · rw [if_neg c0, if_neg c1, if_pos c] at h; exact h
  · rw [if_neg c0, if_neg c1, if_neg c2, if_pos c] at h; exact h
  · rw [if_neg c0, if_neg c1, if_neg c2, if_neg c3, if_pos c, z] at h; exact h
  · rw [if_neg c0, if_neg c1, if_neg c2, if_neg c3, if_pos c, h5.resolve_left z] at h; exact h
  · rw [if_neg c0, if_neg c1, if_neg c2, if_neg c3, if_neg c4, if_pos c] at h; exact h
  · rw [if_neg c0, if_neg c1, if_neg c2, if_neg c3, if_neg c4, if_neg c5] at h; exact h
theorem q1_jarNo (H : sim t M s) {x1 x2 : Int} (hn : ¬ (0 ≤ x1 ∧ x1 < s 0 5)) (h : K (-((1 : Nat) : Int)) (rfC M 1)) : jCall 40 [jR 1 0 0, jI x1, jI x2] M (jqi K) :=
  vX1_jar (q0_has H.1 H.2.1 (fun a b => absurd ⟨a, b⟩ hn) (fun _ => jif0 (by decide) (q1_refuse (k := 1) H ⟨by decide, by decide⟩ (qi_ h))))
/-- what is counted -/
def cv (s : jT) (x : Int) : Int := if x = 0 then s 0 5 else if x = 1 then s 0 8 else if x = 2 then s 0 7 else if x = 3 then s 0 6 else if x = 4 then fi s (-1) (nj s) else sh s
theorem q1_count (H : sim t M s) {x : Int} (hx : 0 ≤ x ∧ x ≤ 5) (h : K (cv s x) M) : jCall 73 [jR 1 0 0, jI x] M (jqi K) := by
  obtain ⟨R, w, -, -⟩ := H
  obtain ⟨f5, f6, f7, f8⟩ := cR_f R
  unfold cv at h
  refine vX1_count ?_
  rw [f5, f6, f7, f8]
  refine jite (fun c => qi_ ?_) (fun c0 => jite (fun c => qi_ ?_) (fun c1 => jite (fun c => qi_ ?_) (fun c2 => jite (fun c => qi_ ?_) (fun c3 => jite (fun c => q0_allFood R w (qi_ ?_)) (fun c4 => jif1 (by omega) (q0_shutBits R w (qi_ ?_)))))))
  · rw [if_pos c] at h; exact h
  · rw [if_neg c0, if_pos c] at h; exact h
  · rw [if_neg c0, if_neg c1, if_pos c] at h; exact h
  · rw [if_neg c0, if_neg c1, if_neg c2, if_pos c] at h; exact h
  · rw [if_neg c0, if_neg c1, if_neg c2, if_neg c3, if_pos c] at h; exact h
  · rw [if_neg c0, if_neg c1, if_neg c2, if_neg c3, if_neg c4] at h; exact h
theorem q1_moves (H : sim t M s) {j : Nat} (hj : (j : Int) < s 0 5) {b : Int} (hb5 : 0 ≤ b ∧ b ≤ 5) (h : ∀ M', sim t M' (su s 3 j b) → jfm 0 0 M M' → K (s 3 j) M') : jCall 42 [jR 1 0 0, jI (j : Int), jI b] M (jqi K) := by
  have R := H.1
  have w := H.2.1
  obtain ⟨e1, e2, e3, e4, e5⟩ := cR_j R hj
  have w1 := w.1
  have hb : 0 ≤ (j : Int) ∧ (j : Int) < ((9 : Nat) : Int) := ⟨by omega, by omega⟩
  refine vX1_moves (q0_hasj R w hj (jif0 (by decide) (q1_isShelf (fun _ _ => jif1 (by decide) ⟨hb, hb, ?_⟩) (fun z => absurd hb5 z))))
  intro m1
  rw [e3]
  have F1 : jfm 0 0 M m1 := jfm_u
  have R1 : cR m1 0 (su s 3 j b) := cR_u R (by decide)
  clear_value m1
  exact qi_ (h m1 (sim_n H F1 R1 (wf_u w (by omega))) F1)
theorem q1_movesNo (H : sim t M s) {x1 x2 : Int} (hn : ¬ (0 ≤ x1 ∧ x1 < s 0 5)) (h : K (-((1 : Nat) : Int)) (rfC M 1)) : jCall 42 [jR 1 0 0, jI x1, jI x2] M (jqi K) :=
  vX1_moves (q0_has H.1 H.2.1 (fun a b => absurd ⟨a, b⟩ hn) (fun _ => jif1 rfl (q1_refuse (k := 1) H ⟨by decide, by decide⟩ (qi_ h))))
theorem q1_shuts (H : sim t M s) {j : Nat} (hj : (j : Int) < s 0 5) (h : ∀ M' v, (s 5 j = 0 ∧ v = 1 ∨ s 5 j = 1 ∧ v = 0) → sim t M' (su s 5 j v) → jfm 0 0 M M' → K v M') : jCall 43 [jR 1 0 0, jI (j : Int)] M (jqi K) := by
  have R := H.1
  have w := H.2.1
  obtain ⟨e1, e2, e3, e4, e5⟩ := cR_j R hj
  have w1 := w.1
  have hb : 0 ≤ (j : Int) ∧ (j : Int) < ((9 : Nat) : Int) := ⟨by omega, by omega⟩
  refine vX1_shuts (q0_hasj R w hj (jif1 (by decide) ⟨hb, ?_⟩))
  rw [e5]
  rcases (w.2.2.2 j hj).2.2.2.2 with h5 | h5
  · refine jif0 (by rw [h5]; decide) ⟨⟨hb, jz1⟩, ?_⟩
    intro m1
    have F1 : jfm 0 0 M m1 := jfm_u
    have R1 : cR m1 0 (su s 5 j 1) := cR_u R (by decide)
    clear_value m1
    obtain ⟨g1, g2, g3, g4, g5⟩ := cR_j R1 (j := j) (by rw [su_nc s _ (by decide)]; exact hj)
    refine ⟨hb, ?_⟩
    rw [g5, su_at]
    exact jif0 (by decide) (qi_ (h m1 1 (Or.inl ⟨h5, rfl⟩) (sim_n H F1 R1 (wf_u w (by omega))) F1))
  · refine jif1 (by rw [h5]; decide) ⟨⟨hb, jz0⟩, ?_⟩
    intro m1
    have F1 : jfm 0 0 M m1 := jfm_u
    have R1 : cR m1 0 (su s 5 j 0) := cR_u R (by decide)
    clear_value m1
    obtain ⟨g1, g2, g3, g4, g5⟩ := cR_j R1 (j := j) (by rw [su_nc s _ (by decide)]; exact hj)
    refine ⟨hb, ?_⟩
    rw [g5, su_at]
    exact jif1 (by decide) (qi_ (h m1 0 (Or.inr ⟨h5, rfl⟩) (sim_n H F1 R1 (wf_u w (by omega))) F1))
theorem q1_shutsNo (H : sim t M s) {x1 : Int} (hn : ¬ (0 ≤ x1 ∧ x1 < s 0 5)) (h : K (-((1 : Nat) : Int)) (rfC M 1)) : jCall 43 [jR 1 0 0, jI x1] M (jqi K) :=
  vX1_shuts (q0_has H.1 H.2.1 (fun a b => absurd ⟨a, b⟩ hn) (fun _ => jif0 (by decide) (q1_refuse (k := 1) H ⟨by decide, by decide⟩ (qi_ h))))
theorem q1_eats (H : sim t M s) {j : Nat} (hj : (j : Int) < s 0 5) {x : Int} (hx : 0 ≤ x ∧ x ≤ 20) (h0 : s 5 j = 0 → ∀ M', sim t M' (su s 4 j (max 0 (s 4 j - x))) → jfm 0 0 M M' → K (max 0 (s 4 j - x)) M') (h3 : ¬ s 5 j = 0 → K (-((3 : Nat) : Int)) (rfC M 3)) : jCall 44 [jR 1 0 0, jI (j : Int), jI x] M (jqi K) := by
  have R := H.1
  have w := H.2.1
  obtain ⟨e1, e2, e3, e4, e5⟩ := cR_j R hj
  have w1 := w.1
  have hb : 0 ≤ (j : Int) ∧ (j : Int) < ((9 : Nat) : Int) := ⟨by omega, by omega⟩
  have h4' := (w.2.2.2 j hj).2.2.2.1
  refine vX1_eats (q0_hasj R w hj (jif1 (by decide) (jif1 hx.1 (jif1 hx.2 ⟨hb, ?_⟩))))
  rw [e5]
  refine jite (fun z => q0_lessFood R w hj (by omega) (fun m1 R1 F1 => ⟨hb, ?_⟩)) (fun z => q1_refuse (k := 3) H ⟨by decide, by decide⟩ (qi_ (h3 z)))
  obtain ⟨g1, g2, g3, g4, g5⟩ := cR_j R1 (j := j) (by rw [su_nc s _ (by decide)]; exact hj)
  rw [g4, su_at]
  exact qi_ (h0 z m1 (sim_n H F1 R1 (wf_u w (by omega))) F1)
theorem q1_eatsNo (H : sim t M s) {x1 x2 : Int} (hn : ¬ (0 ≤ x1 ∧ x1 < s 0 5)) (h : K (-((1 : Nat) : Int)) (rfC M 1)) : jCall 44 [jR 1 0 0, jI x1, jI x2] M (jqi K) :=
  vX1_eats (q0_has H.1 H.2.1 (fun a b => absurd ⟨a, b⟩ hn) (fun _ => jif0 (by decide) (q1_refuse (k := 1) H ⟨by decide, by decide⟩ (qi_ h))))
theorem q1_folk (H : sim t M s) {x : Int} (hx : 0 ≤ x ∧ x ≤ 20) (h : ∀ M', sim t M' (su s 0 6 x) → jfm 0 0 M M' → K (s 0 6) M') : jCall 45 [jR 1 0 0, jI x] M (jqi K) := by
  refine vX1_folk (jif1 hx.1 (jif1 hx.2 ?_))
  intro m1
  rw [(cR_f H.1).2.1]
  have F1 : jfm 0 0 M m1 := jfm_u
  have R1 : cR m1 0 (su s 0 6 x) := cR_v H.1 (by decide)
  clear_value m1
  exact qi_ (h m1 (sim_n H F1 R1 (wf_v H.2.1 (by omega))) F1)
theorem q1_turn (H : sim t M s) {j : Nat} (hj : (j : Int) < s 0 5) {x2 x3 : Int} (h2 : 0 ≤ x2 ∧ x2 ≤ 5) (h3 : 0 ≤ x3 ∧ x3 ≤ 9) (h : ∀ M', sim t M' (su (su s 1 j x2) 2 j x3) → jfm 0 0 M M' → K (10 * s 1 j + s 2 j) M') : jCall 46 [jR 1 0 0, jI (j : Int), jI x2, jI x3] M (jqi K) := by
  have R := H.1
  have w := H.2.1
  obtain ⟨e1, e2, e3, e4, e5⟩ := cR_j R hj
  have w1 := w.1
  have hb : 0 ≤ (j : Int) ∧ (j : Int) < ((9 : Nat) : Int) := ⟨by omega, by omega⟩
  have h1' := (w.2.2.2 j hj).1
  have h2' := (w.2.2.2 j hj).2.1
  refine vX1_turn (q0_hasj R w hj (jif1 (by decide) (jif0 (by omega) (jif1 (by omega) (jif1 h3.1 (jif1 h3.2 ⟨hb, ?_⟩))))))
  rw [e1, e2]
  refine ⟨jr_i (by omega), hb, jr_i (by omega), hb, ?_⟩
  intro m1
  refine ⟨hb, ?_⟩
  intro m2
  have F1 : jfm 0 0 M m2 := jfm_u2 jfm_u
  have R1 : cR m2 0 (su (su s 1 j x2) 2 j x3) := cR_u (cR_u R (by decide)) (by decide)
  clear_value m2
  exact qi_ (h m2 (sim_n H F1 R1 (wf_u (wf_u w (by omega)) (by omega))) F1)
theorem q1_turnNo (H : sim t M s) {x1 x2 x3 : Int} (hn : ¬ (0 ≤ x1 ∧ x1 < s 0 5)) (h : K (-((1 : Nat) : Int)) (rfC M 1)) : jCall 46 [jR 1 0 0, jI x1, jI x2, jI x3] M (jqi K) :=
  vX1_turn (q0_has H.1 H.2.1 (fun a b => absurd ⟨a, b⟩ hn) (fun _ => jif0 (by decide) (q1_refuse (k := 1) H ⟨by decide, by decide⟩ (qi_ h))))
theorem q1_years (H : sim t M s) {n : Nat} (h1 : 1 ≤ n) (h6 : n ≤ 60) (y0 : 0 ≤ s 0 8) (y9 : s 0 8 + (n : Int) ≤ 999) (h : ∀ M', sim t M' (it ye n s) → jfm 0 0 M M' → K (jpc 10 (kw (it ye n s))) M') : jCall 47 [jR 1 0 0, jI (n : Int)] M (jqi K) := by
  have R := H.1
  have w := H.2.1
  have wn := wf_yn n w
  refine vX1_years (jif1 (by omega) (jif0 (by omega) ?_))
  rw [(cR_f R).2.2.2]
  exact ⟨jr_i (by omega), jif1 y9 (q0_pass R w ⟨y0, by omega⟩ (by omega) (fun m1 R1 F1 => q0_knownCount R1 wn (qi_ (h m1 (sim_n H F1 R1 wn) F1))))⟩
theorem q1_knownThen (H : sim t M s) (y : yr 999 s) {n : Nat} (hn : n ≤ 60) (h : ∀ M', jth M M' → K (kw (it ye n s)) M') : jCall 48 [jR 1 0 0, jI (n : Int)] M (jqi K) :=
  vX1_knownThen (jif1 (by omega) (jif1 (by omega) (q1_thinkAhead H.1 H.2.1 y hn (fun M1 R1 F1 => q0_knownBits R1 (wf_yn n H.2.1) (qi_ (h M1 (jth_c F1 (Or.inl rfl))))))))
theorem q1_hungerThen (H : sim t M s) (y : yr 999 s) {n : Nat} (hn : n ≤ 60) (h : ∀ M', jth M M' → K (it ye n s 0 7 - s 0 7) M') : jCall 49 [jR 1 0 0, jI (n : Int)] M (jqi K) :=
  vX1_hungerThen (jif1 (by omega) (jif1 (by omega) (q1_thinkAhead H.1 H.2.1 y hn (fun M1 R1 F1 => q1_moreHunger (th_C H.1 (jth_c F1 (Or.inl rfl))) R1 H.2.1 (wf_yn n H.2.1) (qi_ (h M1 (jth_c F1 (Or.inl rfl))))))))
theorem q1_firstNo (H : sim t M s) (h : K (-((2 : Nat) : Int)) (rfC M 2)) : jCall 50 [jR 1 0 0, jI 9] M (jqi K) :=
  vX1_first (jif0 (by decide) (jif0 (by decide) (jif0 (by decide) (jif0 (by decide) (q1_refuse (k := 2) H ⟨by decide, by decide⟩ (qi_ h))))))
theorem q1_move4 (H : sim t M s) (h : K (-((4 : Nat) : Int)) (rfC M 4)) : jCall 58 [jR 1 0 0, jI (-1)] M (jqi K) :=
  vX1_move (jif0 (by decide) (q1_refuse (k := 4) H ⟨by decide, by decide⟩ (qi_ h)))
theorem q1_move6 (H : sim t M s) (h : K (-((6 : Nat) : Int)) (rfC M 6)) : jCall 58 [jR 1 0 0, jI 31] M (jqi K) :=
  vX1_move (jif1 (by decide) (jif0 (by decide) (q1_refuse (k := 6) H ⟨by decide, by decide⟩ (qi_ h))))
theorem q1_row6 (H : sim t M s) (h : K (-((6 : Nat) : Int)) (rfC M 6)) : jCall 66 [jR 1 0 0, jI 100] M (jqi K) :=
  vX1_row (jif1 (by decide) (jif1 (by decide) (q1_refuse (k := 6) H ⟨by decide, by decide⟩ (qi_ h))))
theorem q1_ageNo (H : sim t M s) (h : K (-((1 : Nat) : Int)) (rfC M 1)) : jCall 63 [jR 1 0 0, jI 10] M (jqi K) :=
  vX1_age (q1_isCustom (fun a b => absurd b (by decide)) (fun _ => jif0 (by decide) (q1_refuse (k := 1) H ⟨by decide, by decide⟩ (qi_ h))))
theorem kb_c {s s' : jT} {x : Int} : ∀ n, (∀ c j, 1 ≤ c → c ≤ 4 → j < n → s' c j = s c j) → kb s' x n = kb s x n
  | 0, _ => rfl
  | n + 1, h => by
    have e : kp s' n = kp s n := by
      unfold kp kd
      rw [h 1 n (by decide) (by decide) (by omega), h 2 n (by decide) (by decide) (by omega), h 3 n (by decide) (by decide) (by omega), h 4 n (by decide) (by decide) (by omega)]
    rw [kb, kb, e, kb_c n (fun c j a b d => h c j a b (by omega))]
theorem kw_c {s s' : jT} (hn : s' 0 5 = s 0 5) (h : ∀ c j, 1 ≤ c → c ≤ 4 → j < nj s → s' c j = s c j) : kw s' = kw s := by
  have e : nj s' = nj s := by unfold nj; rw [hn]
  unfold kw
  rw [e]
  exact kb_c _ h
theorem q1_folkFor0 (H : sim t M s) (y : yr 999 s) {c : Nat} (hc : c ≤ 9) (hk : tb (kw s) c = true) (h : ∀ M', jth M M' → K 20 M') : jCall 59 [jR 1 0 0, jI (c : Int), jI 0] M (jqi K) := by
  have w := H.2.1
  have wv : wf (su s 0 6 20) := wf_v w (by omega)
  refine vX1_folkFor (q1_isCustom (fun _ _ => jif1 (by decide) (jif1 (by decide) (jif1 (by decide) ?_))) (fun z => absurd ⟨by omega, by omega⟩ z))
  refine vX1_folkFor_40 (jif0 (by decide) (q0_become (by decide) H.1 w (fun M2 R2 F2 => ?_)))
  intro m3
  have R3 : cR m3 2 (su s 0 6 20) := cR_v R2 (by decide)
  have T3 : jth M m3 := jth_c (jfm_u2 F2) (Or.inl rfl)
  clear_value m3
  refine q0_pass (n := 0) R3 wv (by rw [su_nj s _ (by decide)]; exact y_in y) (by decide) (fun M4 R4 F4 => q0_knownBits R4 wv (q1_hasBit (by omega) (fun _ => jif0 (by decide) (qi_ (h M4 (jth_tr T3 (jth_c F4 (Or.inl rfl)))))) (fun z => ?_)))
  have e : kw (it ye 0 (su s 0 6 20)) = kw s := kw_c (su_nj s _ (by decide)) (fun c j h1 h2 _ => su_nc s _ (by omega))
  rw [e, hk] at z
  cases z
theorem q1_only (H : sim t M s) (h : K (bs (fun j => !decide (al s j = 0)) (nj s)) M) : jCall 60 [jR 1 0 0] M (jqi K) := by
  obtain ⟨R, w, -, -⟩ := H
  have w1 := w.1
  have hn := nj_n w
  have e := (cR_f R).1
  refine vX1_only ?_
  refine lp_n (X := fun j => jAt 60 4 [some (jR 1 0 0), some (jI (bs (fun j => !decide (al s j = 0)) j)), some (jI (j : Int))] [] M (jqi K)) (nj s) ?_ ?_
  · exact vX1_only_4 (jif1 (by omega) (qi_ h))
  · intro j hj ih
    have hj' := nj_lt hj
    have hq : jr ((j : Int) + 1) := jr_i (by omega)
    rw [bs] at ih
    refine vX1_only_4 (jif0 (by omega) (q0_keptAlone R w hj' (jite (fun c => ⟨hq, ?_⟩) (fun c => ⟨hq, ?_⟩))))
    · rw [if_neg (by rw [decide_eq_true (show al s j = 0 from c)]; decide)] at ih; exact ih
    · rw [if_pos (by rw [decide_eq_false (show ¬ al s j = 0 from c)]; rfl)] at ih; exact ih
theorem q1_keepers (H : sim t M s) {c : Nat} (hc : c ≤ 9) (h : K (bs (fun j => tb (kp s j) c) (nj s)) M) : jCall 61 [jR 1 0 0, jI (c : Int)] M (jqi K) := by
  obtain ⟨R, w, -, -⟩ := H
  have w1 := w.1
  have hn := nj_n w
  have e := (cR_f R).1
  refine vX1_keepers (q1_isCustom (fun _ _ => jif1 (by decide) ?_) (fun z => absurd ⟨by omega, by omega⟩ z))
  refine lp_n (X := fun j => jAt 61 17 [some (jR 1 0 0), some (jI (c : Int)), some (jI (bs (fun j => tb (kp s j) c) j)), some (jI (j : Int))] [] M (jqi K)) (nj s) ?_ ?_
  · exact vX1_keepers_17 (jif1 (by omega) (qi_ h))
  · intro j hj ih
    have hj' := nj_lt hj
    have hq : jr ((j : Int) + 1) := jr_i (by omega)
    rw [bs] at ih
    refine vX1_keepers_17 (jif0 (by omega) (q0_kept R w hj' (q1_hasBit (by omega) (fun z => jif0 (by decide) ⟨hq, ?_⟩) (fun z => jif1 rfl ⟨hq, ?_⟩))))
    · rw [if_pos z] at ih; exact ih
    · rw [if_neg (by rw [z]; decide)] at ih; exact ih
theorem q1_age (H : sim t M s) {c : Nat} (hc : c ≤ 9) (h : K (aa s c (nj s)) M) : jCall 63 [jR 1 0 0, jI (c : Int)] M (jqi K) := by
  obtain ⟨R, w, -, -⟩ := H
  have w1 := w.1
  have hn := nj_n w
  have e := (cR_f R).1
  refine vX1_age (q1_isCustom (fun _ _ => jif1 (by decide) ?_) (fun z => absurd ⟨by omega, by omega⟩ z))
  refine lp_n (X := fun j => jAt 63 18 [some (jR 1 0 0), some (jI (c : Int)), some (jI (ag s c j)), some (jI (j : Int))] [] M (jqi K)) (nj s) ?_ ?_
  · unfold aa at h
    refine vX1_age_18 (jif1 (by omega) (jite (fun z => qi_ ?_) (fun z => qi_ ?_)))
    · rw [if_pos z] at h; exact h
    · rw [if_neg z] at h; exact h
  · intro j hj ih
    have hj' := nj_lt hj
    have hq : jr ((j : Int) + 1) := jr_i (by omega)
    obtain ⟨g1, g2, g3, g4, g5⟩ := cR_j R hj'
    rw [ag] at ih
    refine vX1_age_18 (jif0 (by omega) (q0_kept R w hj' (q1_hasBit (by omega) (fun z => jif0 (by decide) ⟨⟨by omega, by omega⟩, hq, ?_⟩) (fun z => jif1 rfl ⟨hq, ?_⟩))))
    · rw [if_pos z] at ih; rw [g3]; exact ih
    · rw [if_neg (by rw [z]; decide)] at ih; exact ih
theorem q1_leak (H : sim t M s) {x1 : Int} (hc : x1 = 0 ∨ x1 = 1) (h : K (if x1 = 0 then lk s 6 else lw s (lk s 6)) M) : jCall 64 [jR 1 0 0, jI x1] M (jqi K) := by
  obtain ⟨R, w, -, -⟩ := H
  have hr : ∀ x, 0 ≤ lw s x ∧ lw s x ≤ 10 := fun x => jc10 _
  refine vX1_leak (q1_isNeither (fun z => absurd hc z) (fun _ => jif1 rfl ?_))
  have h0 := hr 0
  have ck : ∀ x, cs (kb s x (nj s)) := fun x => cs_kb w x _ (Nat.le_refl _)
  refine vX1_leak_22 (jif0 (by decide) (q0_jarsNotOn R w (q0_keptBy R w ⟨ck _, jif0 (show ¬ 11 ≤ lw s 0 by omega) ⟨jr_i (by decide), ?_⟩⟩)))
  have e0 : lk s 1 = 0 := by
    show (if lw s ((0 : Nat) : Int) < lw s 0 then ((0 : Nat) : Int) else 0) = 0
    split <;> rfl
  have T := lp_n (X := fun k => jAt 64 22 [some (jR 1 0 0), some (jI x1), some (jI (lk s (k + 1))), some (jI (lw s (lk s (k + 1)))), some (jI (((k + 1 : Nat)) : Int)), none] [] M (jqi K)) 5 ?_ ?_
  · rw [show (0 : Nat) + 1 = 1 from rfl, e0] at T
    exact T
  · refine vX1_leak_22 (jif1 (by decide) (jite (fun z => qi_ ?_) (fun z => qi_ ?_)))
    · rw [if_neg z] at h; exact h
    · rw [if_pos (Decidable.not_not.mp z)] at h; exact h
  · intro k hk ih
    have hq : jr (((k + 1 : Nat) : Int) + 1) := jr_i (by omega)
    have ef : lk s (k + 1 + 1) = if lw s ((k + 1 : Nat) : Int) < lw s (lk s (k + 1)) then ((k + 1 : Nat) : Int) else lk s (k + 1) := rfl
    rw [ef] at ih
    refine vX1_leak_22 (jif0 (by omega) (q0_jarsNotOn R w (q0_keptBy R w ⟨ck _, jite (fun c => ⟨hq, ?_⟩) (fun c => ⟨hq, ?_⟩)⟩)))
    · have c' : lw s (lk s (k + 1)) ≤ lw s ((k + 1 : Nat) : Int) := c
      rw [if_neg (by omega)] at ih; exact ih
    · have c' : ¬ lw s (lk s (k + 1)) ≤ lw s ((k + 1 : Nat) : Int) := c
      rw [if_pos (by omega)] at ih; exact ih
theorem q1_fewest (H : sim t M s) (h : K (fw s (fd s) 0 (2 ^ nj s)) M) : jCall 62 [jR 1 0 0] M (jqi K) := by
  have h9 := nj_9 H.2.1
  exact vX1_fewest (q0_jarsWithFood H.1 H.2.1 (q0_fewestOf H.1 H.2.1 (cs_bs _ (by omega)) cs_0 (qi_ h)))
/-- what a feast eats -/
def fea (s : jT) : Int := fi s (oq s) (nj s) - jpc 10 (fw s (oq s) (kb s (sh s) (nj s)) (2 ^ nj s))
theorem q1_feast (H : sim t M s) (h : K (fea s) M) : jCall 65 [jR 1 0 0] M (jqi K) := by
  obtain ⟨R, w, -, -⟩ := H
  have h9 := nj_9 w
  have hp := p2_9 h9
  have b1 := fi_g w (oq s)
  have cf := cs_fw (s := s) (B := kb s (sh s) (nj s)) (cs_oq w) (2 ^ nj s) (by omega)
  have b2 := jc10 (fw s (oq s) (kb s (sh s) (nj s)) (2 ^ nj s))
  exact vX1_feast (q0_jarsWithFood R w (q0_shutBits R w (q0_shutBits R w (q0_keptBy R w (q0_fewestOf R w (cs_oq w) (cs_kb w _ _ (Nat.le_refl _)) (q0_foodIn R w ⟨cf, jr_i (show -2147483648 ≤ fi s (oq s) (nj s) - jpc 10 (fw s (oq s) (kb s (sh s) (nj s)) (2 ^ nj s)) ∧ fi s (oq s) (nj s) - jpc 10 (fw s (oq s) (kb s (sh s) (nj s)) (2 ^ nj s)) < 2147483648 by omega), qi_ h⟩))))))
theorem q1_lots (H : sim t M s) (y : yr 999 s) {n : Nat} (h1 : 1 ≤ n) (h6 : n ≤ 20) {z : Int} (h : ∀ M', jth M M' → K (lt s z 0 n) M') : jCall 67 [jR 1 0 0, jI (n : Int), jI z, jI 0] M (jqi K) := by
  obtain ⟨R, w, -, -⟩ := H
  have w7 := w.2.2.1
  have yd : ∀ z j, 0 ≤ dj s z j 0 8 ∧ dj s z j 0 8 ≤ 2000 := fun z j => by rw [dj_k s z (by decide) (by decide)]; exact y_in y
  refine vX1_lots (jif1 (by omega) (jif1 (by omega) (q1_isNeither (fun q => absurd (Or.inl rfl) q) (fun _ => jif1 rfl ?_))))
  refine lp_n (X := fun k => ∀ M', jth M M' → jAt 67 48 [some (jR 1 0 0), some (jI (n : Int)), none, some (jI 0), some (jI (lz s z k)), some (jI (lt s z 0 k)), some (jI (k : Int))] [] M' (jqi K)) n ?_ ?_ M jth_rf
  · intro M' T'
    exact vX1_lots_48 (jif1 (Int.le_refl _) (qi_ (h M' T')))
  · intro k hk ih M' T'
    have hq : jr ((k : Int) + 1) := jr_i (by omega)
    have lr := lt_r w z 0 k
    have cr := lc_r w z 0 k
    rw [lt] at ih
    refine vX1_lots_48 (jif0 (by omega) (q1_drawJars (th_C R T') w (fun M2 R2 T2 => q0_pass (n := 10) R2 (wf_dj w _ _) (yd _ _) (by decide) (fun M3 R3 F3 => ?_))))
    have T3 := jth_tr T' (jth_tr T2 (jth_c F3 (Or.inl rfl)))
    have ih2 := ih M3 T3
    have c2 := cr.2
    refine jif0 (fun q => q rfl) (q0_knownCount R3 cr.1 ?_)
    rw [if_pos rfl] at ih2 c2
    exact ⟨jr_i (show -2147483648 ≤ lt s z 0 k + kc (lc s z k) ∧ lt s z 0 k + kc (lc s z k) < 2147483648 by omega), hq, ih2⟩
theorem q1_image (H : sim t M s) (h : ∀ M', sim t M' s → cR M' 1 s → M' 1 0 0 2 = 1 → (∀ i c j, M' 2 i c j = M 2 i c j) → K (s 0 8) M') : jCall 71 [jR 1 0 0] M (jqi K) := by
  have R := H.1
  have w := H.2.1
  refine vX1_image (q0_become (by decide) R w (fun M1 R1 F1 => ⟨jz1, ?_⟩))
  intro m2
  have e8 : m2 0 0 0 8 = s 0 8 := ((jupd_ne M1 _ (by omega)).trans (F1 _ _ _ _ (by omega))).trans (cR_f R).2.2.2
  rw [e8]
  have e2 : ∀ k i c j, ¬ (k = 0 ∧ i = 1) → ¬ (k = 1 ∧ i = 0 ∧ c = 0 ∧ j = 2) → m2 k i c j = M k i c j := fun k i c j z1 z3 => (jupd_ne M1 _ (by omega)).trans (F1 _ _ _ _ (by omega))
  have g1 : m2 1 0 0 2 = 1 := jupd_at _ _ _ _ _ _
  have Ra : cR m2 1 s := cR_e R1 (fun _ _ => jupd_ne M1 _ (by omega))
  clear_value m2
  exact qi_ (h m2 ⟨cR_e R (fun _ _ => e2 _ _ _ _ (by omega) (by omega)), w, sref_e H.2.2.1 (fun _ => e2 _ _ _ _ (by omega) (by omega)), H.2.2.2⟩ Ra g1 (fun i c j => e2 _ _ _ _ (by omega) (by omega)))
theorem q1_on {s' : jT} (H : sim t M s) (hi : M 1 0 0 2 = 1) (Ra : cR M 1 s') (w' : wf s') (h : ∀ M', sim t M' s' → jfm 0 0 M M' → K (s' 0 8) M') : jCall 72 [jR 1 0 0] M (jqi K) := by
  refine vX1_on ?_
  rw [hi]
  refine jif1 (by decide) (q0_become (by decide) Ra w' (fun M1 R1 F1 => ?_))
  rw [(cR_f R1).2.2.2]
  exact qi_ (h M1 (sim_n H F1 R1 w') F1)
theorem q1_letter (N : Nat) (hN : M 1 0 0 6 = (N : Int)) (h9 : N < 96) {x : Int} (hx : 0 ≤ x ∧ x ≤ 255) (h : ∀ M', M' 1 0 0 6 = ((N + 1 : Nat) : Int) → M' 1 0 1 N = x → (∀ k i c j, ¬ (k = 1 ∧ i = 0 ∧ c = 0 ∧ j = 6) → ¬ (k = 1 ∧ i = 0 ∧ c = 1 ∧ j = N) → M' k i c j = M k i c j) → K ((N + 1 : Nat) : Int) M') : jCall 23 [jR 1 0 0, jI x] M (jqi K) := by
  refine vX1_letter (jif1 hx.1 (jif0 (by omega) ?_))
  rw [hN]
  refine jif1 (by omega) ⟨⟨by omega, by omega⟩, ?_⟩
  have eN : (N : Int).toNat = N := rfl
  rw [eN]
  intro m2
  have e6 : m2 1 0 0 6 = (N : Int) := (jupd_ne M _ (by omega)).trans hN
  have e1 : m2 1 0 1 N = x := jupd_at _ _ _ _ _ _
  have F2 : ∀ k i c j, ¬ (k = 1 ∧ i = 0 ∧ c = 1 ∧ j = N) → m2 k i c j = M k i c j := fun k i c j z => jupd_ne M _ z
  clear_value m2
  rw [e6]
  refine ⟨jr_i (by omega), ?_⟩
  intro m3
  have e36 : m3 1 0 0 6 = ((N + 1 : Nat) : Int) := (jupd_at _ _ _ _ _ _).trans (by omega)
  have e31 : m3 1 0 1 N = x := (jupd_ne m2 _ (by omega)).trans e1
  have F3 : ∀ k i c j, ¬ (k = 1 ∧ i = 0 ∧ c = 0 ∧ j = 6) → ¬ (k = 1 ∧ i = 0 ∧ c = 1 ∧ j = N) → m3 k i c j = M k i c j := fun k i c j z z1 => (jupd_ne m2 _ z).trans (F2 k i c j z1)
  clear_value m3
  rw [e36]
  exact qi_ (h m3 e36 e31 F3)
/-- a larder text of one statement, a jar -/
theorem q1_larder1 {c : Nat → Int} (H : sim t M s) (y : yr 999 s) (X : tx M c 7) (hg : gd c 0) (hs : sx (c 0) = 0) (ok : tk c 0 s) (h : ∀ M', sim t M' (te c 0 s) → M' 1 0 0 6 = 0 → (∀ i q j, M' 2 i q j = M 2 i q j) → K 1 M') : jCall 24 [jR 1 0 0] M (jqi K) := by
  have R := H.1
  have w := H.2.1
  have h2 : pl c 1 = 7 := by
    show 0 + 1 + jsl (sx (c 0)) = 7
    rw [hs]
    rfl
  have h3 : ∀ k, k < 1 → gd c (pl c k) ∧ pl c k < 7 := fun k hk => by
    obtain rfl : k = 0 := by omega
    exact ⟨hg, Nat.zero_lt_succ 6⟩
  have okk : ∀ k, k < 1 → tk c (pl c k) (ss c s k) := fun k hk => by
    obtain rfl : k = 0 := by omega
    exact ok
  obtain ⟨wn, yn⟩ := te_ok hg w y ok
  refine vX1_larder (q1_firstGood X (n := 1) (by decide) h2 h3 (jif0 (by decide) ?_))
  refine q1_tellAll X R w y (n := 1) h2 h3 (Nat.le_refl 1) okk (Or.inl ⟨rfl, fun M1 R1 F1 => ?_⟩)
  intro m2
  have e6 : m2 1 0 0 6 = 0 := jupd_at _ _ _ _ _ _
  have Rc : cR m2 0 (te c 0 s) := cR_e R1 (fun _ _ => jupd_ne M1 _ (by omega))
  have Fm : ∀ k i q j, ¬ (k = 0 ∧ (i = 0 ∨ i = 3)) → ¬ (k = 1 ∧ i = 0 ∧ q = 0 ∧ j = 6) → m2 k i q j = M k i q j := fun k i q j z z1 => (jupd_ne M1 _ z1).trans (F1 k i q j z)
  clear_value m2
  exact qi_ (h m2 ⟨Rc, wn, sref_e H.2.2.1 (fun _ => Fm _ _ _ _ (by omega) (by omega)), H.2.2.2⟩ e6 (fun i q j => Fm _ _ _ _ (by omega) (by omega)))
end Own

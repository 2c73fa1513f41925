-- Calls, side by side: whatWas, judge
/-- FOOD of the jar goes as the ROW tells, n places of it -/
def gr (A : jT) (r : Nat → Int) (j : Nat) : Nat → Bool
  | 0 => true
  | i + 1 => gr A r j i && decide (it ye i A 4 j = r i)
theorem gr_le {A : jT} {r : Nat → Int} {j : Nat} : ∀ {n m : Nat}, m ≤ n → gr A r j n = true → gr A r j m = true
  | 0, m, h, q => by
    obtain rfl : m = 0 := by omega
    exact q
  | n + 1, m, h, q => by
    by_cases z : m = n + 1
    · rw [z]; exact q
    · rw [gr, Bool.and_eq_true] at q
      exact gr_le (by omega) q.1
section Told
variable {M : jM} {s : jT} {t : Int} {K : Int → jM → Prop} {V : jM → Prop}
theorem th_e {M' : jM} (T : jth M M') {k i c j : Nat} (h : ¬ jex k i c j) : M' k i c j = M k i c j := T k i c j h
theorem th_8 {M' : jM} (T : jth M M') : M' 1 0 0 8 = M 1 0 0 8 := T _ _ _ _ (by unfold jex; omega)
theorem th_9 {M' : jM} (T : jth M M') : M' 2 0 0 9 = M 2 0 0 9 := T _ _ _ _ (by unfold jex; omega)
theorem th_r1 {M' : jM} (T : jth M M') (j : Nat) : M' 1 0 2 j = M 1 0 2 j := T _ _ _ _ (by unfold jex; omega)
theorem th_r2 {M' : jM} (T : jth M M') (j : Nat) : M' 2 0 2 j = M 2 0 2 j := T _ _ _ _ (by unfold jex; omega)
theorem q1_goesByRow {A : jT} {j n : Nat} (H : sim t M s) (hn : M 1 0 0 8 = (n : Int)) {M1 : jM} (T1 : jth M M1) (R : cR M1 2 A) (w : wf A) (hy : 0 ≤ A 0 8 ∧ A 0 8 ≤ 2000) (hj : (j : Int) < A 0 5)
    (h1 : gr A (fun i => M 1 0 2 i) j n = true → ∀ M', jth M M' → K 1 M') (h0 : gr A (fun i => M 1 0 2 i) j n = false → ∀ M', jth M M' → K 0 M') : jCall 91 [jR 1 0 0, jI (j : Int)] M1 (jqi K) := by
  have w1 := w.1
  have hr := H.2.1.2.1.1
  have n16 : n ≤ 16 := by omega
  have hb : 0 ≤ (j : Int) ∧ (j : Int) < ((9 : Nat) : Int) := ⟨by omega, by omega⟩
  have hjn : ∀ i, (j : Int) < it ye i A 0 5 := fun i => by rw [yn_k _ _ (by decide) (by decide) (by decide)]; exact hj
  refine vX1_goesByRow ?_
  refine lp_n (X := fun i => ∀ M', cR M' 2 (it ye i A) → jth M M' → gr A (fun i => M 1 0 2 i) j i = true → jAt 91 2 [some (jR 1 0 0), some (jI (j : Int)), some (jI (i : Int))] [] M' (jqi K)) n ?_ ?_ M1 R T1 rfl
  · intro M' R' T' g
    refine vX1_goesByRow_2 ?_
    rw [th_8 T', hn]
    exact jif1 (Int.le_refl _) ⟨jz1, qi_ (h1 g M' T')⟩
  · intro i hi ih M' R' T' g
    obtain ⟨e1, e2, e3, e4, e5⟩ := cR_j R' (hjn i)
    refine vX1_goesByRow_2 ?_
    rw [th_8 T', hn]
    refine jif0 (by omega) ⟨hb, ⟨by omega, by omega⟩, ?_⟩
    have er : M' 1 0 2 (i : Int).toNat = M 1 0 2 i := th_r1 T' i
    rw [e4, er]
    refine jite (fun c => q0_passYear R' (wf_yn i w) (by rw [yn_8]; omega) (fun M2 R2 F2 => ⟨jr_i (by omega), ih M2 ?_ (jth_tr T' (jth_c F2 (Or.inl rfl))) ?_⟩)) (fun c => ⟨jz0, qi_ (h0 ?_ M' T')⟩)
    · rw [it_s]; exact R2
    · rw [gr, g, decide_eq_true c]; rfl
    · refine Bool.eq_false_iff.mpr fun z => ?_
      have := gr_le (show i + 1 ≤ n by omega) z
      rw [gr, Bool.and_eq_true, decide_eq_true_eq] at this
      exact c this.2
/-- the reference: from a row that holds A on -/
theorem q2_byRow {A : jT} {j n k : Nat} (H : sim t M s) (hn : M 1 0 0 8 = (n : Int)) {M1 : jM} (T1 : jth M M1) (R : rR M1 1 A) (w : wf A) (hy : 0 ≤ A 0 8 ∧ A 0 8 ≤ 2000) (hj : (j : Int) < A 0 5) (hk : k < 6) {x2 x3 : Int} {Q : jRt}
    (h : ∀ v, v = (if gr A (fun i => M 1 0 2 i) j n = true then jor x3 (jshl 1 (k : Int)) else jor x3 0) → ∀ M', jth M M' → jAt 177 35 [some (jR 2 0 0), some (jI (j : Int)), some (jI x2), some (jI v), some (jI ((k + 1 : Nat) : Int)), none, none] [] M' Q) : jAt 177 88 [some (jR 2 0 0), some (jI (j : Int)), some (jI x2), some (jI x3), some (jI (k : Int)), some (jI 1), some (jI 0)] [] M1 Q := by
  have w1 := w.1
  have hr := H.2.1.2.1
  have n16 : n ≤ 16 := by have := hr.1.2; omega
  have hjn : ∀ i, (j : Int) < it ye i A 0 5 := fun i => by rw [yn_k _ _ (by decide) (by decide) (by decide)]; exact hj
  have L := lp_n (X := fun i => ∀ M', rR M' 1 (it ye i A) → jth M M' → jAt 177 88 [some (jR 2 0 0), some (jI (j : Int)), some (jI x2), some (jI x3), some (jI (k : Int)), some (jI (if gr A (fun i => M 1 0 2 i) j i = true then 1 else 0)), some (jI (i : Int))] [] M' Q) n ?_ ?_ M1 R T1
  · exact L
  · intro M' R' T'
    refine vX2_whatWas_88 ?_
    rw [th_9 T', hr.2.1, hn]
    refine jif1 (Int.le_refl _) ?_
    by_cases g : gr A (fun i => M 1 0 2 i) j n = true
    · have h2 := h (jor x3 (jshl 1 (k : Int))) (by rw [if_pos g]) M' T'
      rw [if_pos g]
      exact jif0 (by decide) ⟨jr_i (by omega), h2⟩
    · have h2 := h (jor x3 0) (by rw [if_neg g]) M' T'
      rw [if_neg g]
      exact jif1 rfl ⟨jr_i (by omega), h2⟩
  · intro i hi ih M' R' T'
    obtain ⟨e1, e2, e3, e4, e5⟩ := rR_j R' (hjn i)
    have er : M' 2 0 2 (i : Int).toNat = M 1 0 2 i := (th_r2 T' i).trans (hr.2.2 i (by omega)).1
    refine vX2_whatWas_88 ?_
    rw [th_9 T', hr.2.1, hn]
    refine jif0 (by omega) (q2_of (by omega) 3 (by decide) ⟨h54 (by omega), ⟨by omega, by omega⟩, ?_⟩)
    rw [e4, er]
    have st : ∀ b : Bool, decide (it ye i A 4 j = M 1 0 2 i) = b → jand (if gr A (fun i => M 1 0 2 i) j i = true then 1 else 0) (if b = true then 1 else 0) = (if gr A (fun i => M 1 0 2 i) j (i + 1) = true then 1 else 0) := fun b hb => by
      rw [j01, gr, hb]
    refine jite (fun c => q2_year R' (wf_yn i w) (by rw [yn_8]; omega) (fun M2 R2 F2 => ⟨jr_i (by omega), ?_⟩)) (fun c => q2_year R' (wf_yn i w) (by rw [yn_8]; omega) (fun M2 R2 F2 => ⟨jr_i (by omega), ?_⟩))
    · have e := st false (decide_eq_false c)
      rw [if_neg (show ¬ false = true by decide)] at e
      rw [e]
      exact ih M2 (by rw [it_s]; exact R2) (jth_tr T' (jth_r F2 (Or.inl rfl)))
    · have e := st true (decide_eq_true (Decidable.not_not.mp c))
      rw [if_pos rfl] at e
      rw [e]
      exact ih M2 (by rw [it_s]; exact R2) (jth_tr T' (jth_r F2 (Or.inl rfl)))
theorem p_whatWas (H : sim t M s) (ht : t < 1000) (x1 x2 : Int) : pP t 85 177 [jI x1, jI x2] M := by
  obtain ⟨R, R', w, y⟩ := H.1
  have w1 := w.1
  obtain ⟨n, hn⟩ := jnat H.2.1.2.1.1.1
  by_cases hc : 0 ≤ x1 ∧ x1 < s 0 5
  · obtain ⟨j, rfl⟩ := jnat hc.1
    have hb : 0 ≤ (j : Int) ∧ (j : Int) < ((9 : Nat) : Int) := ⟨by omega, by omega⟩
    by_cases hw : x2 = 0 ∨ x2 = 1
    · -- c: 1 the KIND, 3 the SHELF
      have W : ∀ c : Nat, c = 1 ∨ c = 3 → ∀ k : Nat, k < 6 → wf (su s c j (k : Int)) ∧ (0 ≤ su s c j (k : Int) 0 8 ∧ su s c j (k : Int) 0 8 ≤ 2000) ∧ (j : Int) < su s c j (k : Int) 0 5 := by
        intro c h1 k h2
        have := y_in y
        refine ⟨wf_u w (by omega), ?_, ?_⟩
        · rw [su_nc s _ (by omega)]; exact this
        · rw [su_nc s _ (by omega)]; exact hc.2
      have LR : ∀ (c : Nat) (a : Int), (x2 = 0 ∧ c = 1 ∨ x2 = 1 ∧ c = 3) → a = bs (fun k => gr (su s c j (k : Int)) (fun i => M 1 0 2 i) j n) 6 → ∀ M1, jth M M1 → jCall 177 (jR 2 0 0 :: [jI (j : Int), jI x2]) M1 (jqi (en t a)) := by
        intro c a h1 ha M1 T1
        refine vX2_whatWas (q2_isJar (th_R R' T1) w (fun _ _ => jif1 (by decide) (q2_isIn (fun _ _ => jif1 (by decide) ?_) (fun z => absurd ⟨by omega, by omega⟩ z))) (fun z => absurd hc z))
        refine lp_n (X := fun k => ∀ M', jth M M' → jAt 177 35 [some (jR 2 0 0), some (jI (j : Int)), some (jI x2), some (jI (bs (fun k => gr (su s c j (k : Int)) (fun i => M 1 0 2 i) j n) k)), some (jI (k : Int)), none, none] [] M' (jqi (en t a))) 6 ?_ ?_ M1 T1
        · intro M' T'
          exact vX2_whatWas_35 (jite (fun _ => jif1 (by decide) (qi_ (by rw [← ha]; exact fin_t H ht T'))) (fun _ => jif1 (by decide) (qi_ (by rw [← ha]; exact fin_t H ht T'))))
        · intro k hk ih M' T'
          obtain ⟨wk, yk, jk⟩ := W c (by omega) k hk
          have c0 := bs_jr (fun k => gr (su s c j (k : Int)) (fun i => M 1 0 2 i) j n) k
          rw [bs] at ih
          have go : ∀ m, rR m 1 (su s c j (k : Int)) → jth M m → jAt 177 88 [some (jR 2 0 0), some (jI (j : Int)), some (jI x2), some (jI (bs (fun k => gr (su s c j (k : Int)) (fun i => M 1 0 2 i) j n) k)), some (jI (k : Int)), some (jI 1), some (jI 0)] [] m (jqi (en t a)) := fun m Rm Tm => q2_byRow H hn Tm Rm wk yk jk hk (fun v hv M2 T2 => by
            rw [hv, jor_0 c0]; exact ih M2 T2)
          refine vX2_whatWas_35 (jite (fun z => jif0 (by omega) (q2_copies (by decide) (th_R R' T') w (fun M2 R2 F2 => jif1 z (q2_of (by omega) 2 (by decide) ⟨h54 (by omega), ?_⟩)))) (fun z => jif0 (by omega) (q2_copies (by decide) (th_R R' T') w (fun M2 R2 F2 => jif0 z (q2_of (by omega) 0 (by decide) ⟨h54 (by omega), ?_⟩)))))
          · obtain rfl : c = 3 := by omega
            intro m3
            exact go m3 (rR_u R2 (by decide)) (jth_tr T' (jth_r (jfm_u2 F2) (Or.inl rfl)))
          · obtain rfl : c = 1 := by omega
            intro m3
            exact go m3 (rR_u R2 (by decide)) (jth_tr T' (jth_r (jfm_u2 F2) (Or.inl rfl)))
      rcases hw with rfl | rfl
      · refine vX1_whatWas (q0_hasj R w hc.2 (jif1 (by decide) (q1_isNeither (fun z => absurd (Or.inl rfl) z) (fun _ => jif1 rfl (jif0 (by decide) (vX1_kindsByRow ?_))))))
        have L := LR 1 _ (Or.inl ⟨rfl, rfl⟩) rfl
        refine lp_n (X := fun k => ∀ M', jth M M' → jAt 89 4 [some (jR 1 0 0), some (jI (j : Int)), some (jI (bs (fun k => gr (su s 1 j (k : Int)) (fun i => M 1 0 2 i) j n) k)), some (jI (k : Int))] [] M' _) 6 ?_ ?_ M jth_rf
        · intro M' T'
          exact vX1_kindsByRow_4 (jif1 (by decide) (qi_ (qi_ (L M' T'))))
        · intro k hk ih M' T'
          obtain ⟨wk, yk, jk⟩ := W 1 (Or.inl rfl) k hk
          rw [bs] at ih
          refine vX1_kindsByRow_4 (jif0 (by omega) (q0_become (by decide) (th_C R T') w (fun M2 R2 F2 => ⟨hb, ?_⟩)))
          intro m3
          have R3 : cR m3 2 (su s 1 j (k : Int)) := cR_u R2 (by decide)
          have T3 : jth M m3 := jth_tr T' (jth_c (jfm_u2 F2) (Or.inl rfl))
          clear_value m3
          refine q1_goesByRow H hn T3 R3 wk yk jk (fun g M4 T4 => jif0 (by decide) ⟨jr_i (by omega), ?_⟩) (fun g M4 T4 => jif1 rfl ⟨jr_i (by omega), ?_⟩)
          · rw [if_pos g] at ih; exact ih M4 T4
          · rw [if_neg (by rw [g]; decide)] at ih; exact ih M4 T4
      · refine vX1_whatWas (q0_hasj R w hc.2 (jif1 (by decide) (q1_isNeither (fun z => absurd (Or.inr rfl) z) (fun _ => jif1 rfl (jif1 (by decide) (vX1_shelvesByRow ?_))))))
        have L := LR 3 _ (Or.inr ⟨rfl, rfl⟩) rfl
        refine lp_n (X := fun k => ∀ M', jth M M' → jAt 90 4 [some (jR 1 0 0), some (jI (j : Int)), some (jI (bs (fun k => gr (su s 3 j (k : Int)) (fun i => M 1 0 2 i) j n) k)), some (jI (k : Int))] [] M' _) 6 ?_ ?_ M jth_rf
        · intro M' T'
          exact vX1_shelvesByRow_4 (jif1 (by decide) (qi_ (qi_ (L M' T'))))
        · intro k hk ih M' T'
          obtain ⟨wk, yk, jk⟩ := W 3 (Or.inr rfl) k hk
          rw [bs] at ih
          refine vX1_shelvesByRow_4 (jif0 (by omega) (q0_become (by decide) (th_C R T') w (fun M2 R2 F2 => ⟨hb, ?_⟩)))
          intro m3
          have R3 : cR m3 2 (su s 3 j (k : Int)) := cR_u R2 (by decide)
          have T3 : jth M m3 := jth_tr T' (jth_c (jfm_u2 F2) (Or.inl rfl))
          clear_value m3
          refine q1_goesByRow H hn T3 R3 wk yk jk (fun g M4 T4 => jif0 (by decide) ⟨jr_i (by omega), ?_⟩) (fun g M4 T4 => jif1 rfl ⟨jr_i (by omega), ?_⟩)
          · rw [if_pos g] at ih; exact ih M4 T4
          · rw [if_neg (by rw [g]; decide)] at ih; exact ih M4 T4
    · have L : jCall 177 (jR 2 0 0 :: [jI (j : Int), jI x2]) (rfC M 2) (jqi (en t (-((2 : Nat) : Int)))) := vX2_whatWas (q2_isJar (rR_rf R') w (fun _ _ => jif1 (by decide) (q2_isIn (fun _ _ => by omega) (fun _ => jif0 (by decide) (fin_r (k := 2) H ht ⟨by decide, by decide⟩)))) (fun z => absurd hc z))
      exact vX1_whatWas (q0_hasj R w hc.2 (jif1 (by decide) (q1_isNeither (fun _ => jif0 (by decide) (q1_refuse (k := 2) H ⟨by decide, by decide⟩ (qi_ L))) (fun z => absurd z hw))))
  · have L : jCall 177 (jR 2 0 0 :: [jI x1, jI x2]) (rfC M 1) (jqi (en t (-((1 : Nat) : Int)))) := vX2_whatWas (q2_isJar (rR_rf R') w (fun a b => absurd ⟨a, b⟩ hc) (fun _ => jif0 (by decide) (fin_r (k := 1) H ht ⟨by decide, by decide⟩)))
    exact vX1_whatWas (q0_has R w (fun a b => absurd ⟨a, b⟩ hc) (fun _ => jif0 (by decide) (q1_refuse (k := 1) H ⟨by decide, by decide⟩ (qi_ L))))
/-- the ROW has none on either side, else all is as it was -/
theorem sim_j {M' : jM} (H : sim t M s) (ht : t < 1000) (h : ∀ k i c j, ¬ jex k i c j → ¬ (k = 1 ∧ c = 0 ∧ j = 8) → ¬ (k = 2 ∧ c = 0 ∧ j = 9) → M' k i c j = M k i c j) (h1 : M' 1 0 0 8 = 0) (h2 : M' 2 0 0 9 = 0) : sim (t + 1) M' s := by
  have h0 := H.2.2
  obtain ⟨⟨a, b, c, d⟩, ⟨e, f, g, i⟩, _⟩ := H
  refine ⟨⟨cR_e a (fun _ _ => ?_), rR_e b (fun _ _ => ?_), c, d⟩, ⟨slet_e e ?_ ?_ (fun _ => ?_) (fun _ => ?_), ⟨by rw [h1]; omega, by rw [h1, h2], fun j hj => by rw [h1] at hj; omega⟩, sref_s (sref_e g (fun _ => ?_) (fun _ => ?_)), simg_e i ?_ ?_ (fun _ _ => ?_) (fun _ _ => ?_)⟩, by omega, by omega⟩ <;> exact h _ _ _ _ (by unfold jex; omega) (by omega) (by omega)
theorem p_judge (H : sim t M s) (ht : t < 1000) : pP t 87 179 [] M := by
  obtain ⟨R, R', w, y⟩ := H.1
  have hr := H.2.1.2.1
  obtain ⟨n, hn⟩ := jnat hr.1.1
  have n16 : n ≤ 16 := by have := hr.1.2; omega
  have G : ∀ (m : Nat) (a : Int), (∀ i, i < m → kc (it ye i s) = M 1 0 2 i) → (m < n ∧ ¬ kc (it ye m s) = M 1 0 2 m ∧ a = (m : Int) ∨ m = n ∧ a = -9) → pP t 87 179 [] M := by
    intro m a hm ha
    -- once the class has answered: its ROW has none
    have L : ∀ M1, jth M M1 → jCall 179 (jR 2 0 0 :: []) (jupd M1 1 0 0 8 0) (jqi (en t a)) := by
      intro M1 T1
      have b9 : jupd M1 1 0 0 8 0 2 0 0 9 = (n : Int) := (jupd_ne M1 _ (by omega)).trans ((th_9 T1).trans (hr.2.1.trans hn))
      refine vX2_judge ?_
      intro m1
      rw [b9]
      have Rm : rR m1 0 s := rR_e (th_R R' T1) (fun _ _ => (jupd_ne _ _ (by omega)).trans (jupd_ne M1 _ (by omega)))
      have em : ∀ k i c j, ¬ jex k i c j → ¬ (k = 1 ∧ c = 0 ∧ j = 8) → ¬ (k = 2 ∧ c = 0 ∧ j = 9) → m1 k i c j = M k i c j := fun k i c j z z1 z2 => ((jupd_ne _ _ (by omega)).trans (jupd_ne M1 _ (by omega))).trans (T1 k i c j z)
      have e8 : m1 1 0 0 8 = 0 := (jupd_ne _ _ (by omega)).trans (jupd_at _ _ _ _ _ _)
      have e9 : m1 2 0 0 9 = 0 := jupd_at _ _ _ _ _ _
      clear_value m1
      have fin : ∀ M', jth m1 M' → ∀ {q : Int}, en t q q M' := fun M' T' {q} => ⟨rfl, s, sim_j H ht (fun k i c j z z1 z2 => (T' k i c j z).trans (em k i c j z z1 z2)) ((T' _ _ _ _ (by unfold jex; omega)).trans e8) ((T' _ _ _ _ (by unfold jex; omega)).trans e9)⟩
      refine q2_copies (by decide) Rm w (fun M2 R2 F2 => ?_)
      refine lp_n (X := fun i => ∀ M', rR M' 1 (it ye i s) → jth m1 M' → jAt 179 23 [some (jR 2 0 0), some (jI (n : Int)), some (jI (i : Int))] [] M' (jqi (en t a))) m ?_ ?_ M2 R2 (jth_r F2 (Or.inl rfl))
      · intro M' R3 T3
        rcases ha with ⟨h0, h1, rfl⟩ | ⟨h1, rfl⟩
        · have er : M' 2 0 2 (m : Int).toNat = M 1 0 2 m := (T3 2 0 2 m (by unfold jex; omega)).trans ((em 2 0 2 m (by unfold jex; omega) (by omega) (by omega)).trans (hr.2.2 m (by omega)).1)
          refine vX2_judge_23 (jif0 (by omega) (q2_knownCount R3 (wf_yn m w) ⟨⟨by omega, by omega⟩, ?_⟩))
          rw [er]
          exact jif0 h1 (qi_ (fin M' T3))
        · subst h1
          exact vX2_judge_23 (jif1 (Int.le_refl _) (qi_ (fin M' T3)))
      · intro i hi ih M' R3 T3
        have hin : i < n := by omega
        have er : M' 2 0 2 (i : Int).toNat = M 1 0 2 i := (T3 2 0 2 i (by unfold jex; omega)).trans ((em 2 0 2 i (by unfold jex; omega) (by omega) (by omega)).trans (hr.2.2 i (by omega)).1)
        refine vX2_judge_23 (jif0 (by omega) (q2_knownCount R3 (wf_yn i w) ⟨⟨by omega, by omega⟩, ?_⟩))
        rw [er]
        refine jif1 (hm i hi) (q2_year R3 (wf_yn i w) (y_n y (by omega)) (fun M4 R4 F4 => ⟨jr_i (by omega), ih M4 ?_ (jth_tr T3 (jth_r F4 (Or.inl rfl)))⟩))
        rw [it_s]; exact R4
    refine vX1_judge (q0_become (by decide) R w (fun M2 R2 F2 => ?_))
    refine lp_n (X := fun i => ∀ M', cR M' 2 (it ye i s) → jth M M' → jAt 87 16 [some (jR 1 0 0), some (jI (-9)), some (jI (i : Int))] [] M' (jqi fun y M1 => jCall 179 (jR 2 0 0 :: []) M1 (jqi (en t y)))) m ?_ ?_ M2 R2 (jth_c F2 (Or.inl rfl))
    · intro M' R3 T3
      rcases ha with ⟨h0, h1, rfl⟩ | ⟨h1, rfl⟩
      · refine vX1_judge_16 ?_
        rw [th_8 T3, hn]
        refine jif0 (by omega) (jif0 (by decide) (q0_knownCount R3 (wf_yn m w) ⟨⟨by omega, by omega⟩, ?_⟩))
        have er : M' 1 0 2 (m : Int).toNat = M 1 0 2 m := th_r1 T3 m
        rw [er]
        refine jif0 h1 (q0_passYear R3 (wf_yn m w) (y_n y (by omega)) (fun M4 R4 F4 => ⟨jr_i (by omega), ?_⟩))
        have T4 := jth_tr T3 (jth_c F4 (Or.inl rfl))
        refine vX1_judge_16 (jite (fun _ => ?_) (fun _ => jif1 (by omega) ?_))
        · intro m5
          exact qi_ (L M4 T4)
        · intro m5
          exact qi_ (L M4 T4)
      · subst h1
        refine vX1_judge_16 ?_
        rw [th_8 T3, hn]
        refine jif1 (Int.le_refl _) ?_
        intro m5
        exact qi_ (L M' T3)
    · intro i hi ih M' R3 T3
      have hin : i < n := by omega
      refine vX1_judge_16 ?_
      rw [th_8 T3, hn]
      refine jif0 (by omega) (jif0 (by decide) (q0_knownCount R3 (wf_yn i w) ⟨⟨by omega, by omega⟩, ?_⟩))
      have er : M' 1 0 2 (i : Int).toNat = M 1 0 2 i := th_r1 T3 i
      rw [er]
      refine jif1 (hm i hi) (q0_passYear R3 (wf_yn i w) (y_n y (by omega)) (fun M4 R4 F4 => ⟨jr_i (by omega), ih M4 ?_ (jth_tr T3 (jth_c F4 (Or.inl rfl)))⟩))
      rw [it_s]; exact R4
  rcases fst_or (P := fun i => ¬ kc (it ye i s) = M 1 0 2 i) (fun n => Decidable.em _) n with h | ⟨m, h1, h2, h3⟩
  · exact G n (-9) (fun i hi => Decidable.not_not.mp (h i hi)) (Or.inr ⟨rfl, rfl⟩)
  · exact G m m (fun i hi => Decidable.not_not.mp (h3 i hi)) (Or.inl ⟨h1, h2, rfl⟩)
end Told

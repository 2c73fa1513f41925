-- Calls, side by side: years in mind, what is first
theorem fst_or {P : Nat → Prop} (hd : ∀ n, P n ∨ ¬ P n) : ∀ b : Nat, (∀ n, n < b → ¬ P n) ∨ ∃ n, n < b ∧ P n ∧ ∀ m, m < n → ¬ P m
  | 0 => Or.inl (fun n h => absurd h (Nat.not_lt_zero n))
  | b + 1 => by
    rcases fst_or hd b with h | ⟨n, h1, h2, h3⟩
    · rcases hd b with q | q
      · exact Or.inr ⟨b, Nat.lt_succ_self b, q, h⟩
      · refine Or.inl (fun n hn => ?_)
        by_cases z : n = b
        · rw [z]; exact q
        · exact h n (by omega)
    · exact Or.inr ⟨n, by omega, h2, h3⟩
/-- what is KNOWN now and not n years on -/
def gn (s : jT) (n : Nat) : Int := jand (kw s) (jxor (kw (it ye n s)) (-1))
section Mind
variable {M : jM} {s : jT} {t : Int} {K : Int → jM → Prop} {V : jM → Prop}
theorem th_R {M' : jM} (R : rR M 0 s) (T : jth M M') : rR M' 0 s := rR_e R (fun _ _ => T _ _ _ _ (by unfold jex; omega))
theorem th_C {M' : jM} (R : cR M 0 s) (T : jth M M') : cR M' 0 s := cR_e R (fun _ _ => T _ _ _ _ (by unfold jex; omega))
theorem y_in (y : yr 999 s) : 0 ≤ s 0 8 ∧ s 0 8 ≤ 2000 := ⟨y.1, by have := y.2; omega⟩
theorem y_n (y : yr 999 s) {n : Nat} (h : n ≤ 100) : 0 ≤ it ye n s 0 8 ∧ it ye n s 0 8 ≤ 5000 := by
  have y1 := y.1
  have y2 := y.2
  rw [yn_8]; omega
theorem p_knownThen (H : sim t M s) (ht : t < 1000) (x1 : Int) : pP t 52 145 [jI x1] M := by
  obtain ⟨R, R', w, y⟩ := H.1
  by_cases h4 : 0 ≤ x1
  · by_cases h6 : x1 ≤ 60
    · obtain ⟨n, rfl⟩ := jnat h4
      have hn : n ≤ 60 := by omega
      have wn := wf_yn n w
      have L : ∀ M1, jth M M1 → jCall 145 (jR 2 0 0 :: [jI (n : Int)]) M1 (jqi (en t (kw (it ye n s)))) := fun M1 T =>
        vX2_knownThen (q2_wrongBy (fun c => by omega) (fun _ c => by omega) (fun _ _ => jif1 rfl (q2_takes (th_R R' T) w (y_in y) hn (fun M2 R2 F2 => q2_knownIn R2 wn (qi_ (fin_t H ht (jth_tr T (jth_r F2 (Or.inl rfl)))))))))
      exact vX1_knownThen (jif1 h4 (jif1 h6 (q1_thinkAhead R w y hn (fun M1 R1 F1 => q0_knownBits R1 wn (qi_ (L M1 (jth_c F1 (Or.inl rfl))))))))
    · have L : jCall 145 (jR 2 0 0 :: [jI x1]) (rfC M 6) (jqi (en t (-((6 : Nat) : Int)))) := vX2_knownThen (q2_wrongBy (fun c => by omega) (fun _ _ => jif0 (by decide) (fin_r (k := 6) H ht ⟨by decide, by decide⟩)) (fun _ c => by omega))
      exact vX1_knownThen (jif1 h4 (jif0 h6 (q1_refuse (k := 6) H ⟨by decide, by decide⟩ (qi_ L))))
  · have L : jCall 145 (jR 2 0 0 :: [jI x1]) (rfC M 4) (jqi (en t (-((4 : Nat) : Int)))) := vX2_knownThen (q2_wrongBy (fun c => jif0 (by decide) (fin_r (k := 4) H ht ⟨by decide, by decide⟩)) (fun c _ => by omega) (fun c _ => by omega))
    exact vX1_knownThen (jif0 h4 (q1_refuse (k := 4) H ⟨by decide, by decide⟩ (qi_ L)))
theorem p_hungerThen (H : sim t M s) (ht : t < 1000) (x1 : Int) : pP t 54 147 [jI x1] M := by
  obtain ⟨R, R', w, y⟩ := H.1
  have h2 : 0 ≤ (2 : Int) ∧ (2 : Int) < ((54 : Nat) : Int) := ⟨by decide, by decide⟩
  by_cases h4 : 0 ≤ x1
  · by_cases h6 : x1 ≤ 60
    · obtain ⟨n, rfl⟩ := jnat h4
      have hn : n ≤ 60 := by omega
      have wn := wf_yn n w
      have q1 := w.2.2.1
      have q2 := wn.2.2.1
      have L : ∀ M1, jth M M1 → jCall 147 (jR 2 0 0 :: [jI (n : Int)]) M1 (jqi (en t (it ye n s 0 7 - s 0 7))) := by
        intro M1 T
        refine vX2_hungerThen (q2_wrongBy (fun c => by omega) (fun _ c => by omega) (fun _ _ => jif1 rfl (q2_takes (th_R R' T) w (y_in y) hn (fun M2 R2 F2 => ⟨h2, h2, ?_⟩))))
        have R3 : rR M2 0 s := rR_fr (th_R R' T) F2 (by omega)
        rw [(rR_f R2).2.2.1, (rR_f R3).2.2.1]
        exact ⟨jr_i (by omega), qi_ (fin_t H ht (jth_tr T (jth_r F2 (Or.inl rfl))))⟩
      exact vX1_hungerThen (jif1 h4 (jif1 h6 (q1_thinkAhead R w y hn (fun M1 R1 F1 => q1_moreHunger (th_C R (jth_c F1 (Or.inl rfl))) R1 w wn (qi_ (L M1 (jth_c F1 (Or.inl rfl))))))))
    · have L : jCall 147 (jR 2 0 0 :: [jI x1]) (rfC M 6) (jqi (en t (-((6 : Nat) : Int)))) := vX2_hungerThen (q2_wrongBy (fun c => by omega) (fun _ _ => jif0 (by decide) (fin_r (k := 6) H ht ⟨by decide, by decide⟩)) (fun _ c => by omega))
      exact vX1_hungerThen (jif1 h4 (jif0 h6 (q1_refuse (k := 6) H ⟨by decide, by decide⟩ (qi_ L))))
  · have L : jCall 147 (jR 2 0 0 :: [jI x1]) (rfC M 4) (jqi (en t (-((4 : Nat) : Int)))) := vX2_hungerThen (q2_wrongBy (fun c => jif0 (by decide) (fin_r (k := 4) H ht ⟨by decide, by decide⟩)) (fun c _ => by omega) (fun c _ => by omega))
    exact vX1_hungerThen (jif0 h4 (q1_refuse (k := 4) H ⟨by decide, by decide⟩ (qi_ L)))
theorem p_foodThen (H : sim t M s) (ht : t < 1000) (x1 x2 : Int) : pP t 53 146 [jI x1, jI x2] M := by
  obtain ⟨R, R', w, y⟩ := H.1
  have w1 := w.1
  by_cases hc : 0 ≤ x1 ∧ x1 < s 0 5
  · obtain ⟨j, rfl⟩ := jnat hc.1
    have hb : 0 ≤ (j : Int) ∧ (j : Int) < ((9 : Nat) : Int) := ⟨by omega, by omega⟩
    by_cases h4 : 0 ≤ x2
    · by_cases h6 : x2 ≤ 60
      · obtain ⟨n, rfl⟩ := jnat h4
        have hn : n ≤ 60 := by omega
        have wn := wf_yn n w
        have hjn : (j : Int) < it ye n s 0 5 := by rw [yn_k _ _ (by decide) (by decide) (by decide)]; exact hc.2
        have L : ∀ M1, jth M M1 → jCall 146 (jR 2 0 0 :: [jI (j : Int), jI (n : Int)]) M1 (jqi (en t (it ye n s 4 j))) := by
          intro M1 T
          refine vX2_foodThen (q2_isJar (th_R R' T) w (fun _ _ => jif0 (by decide) (q2_wrongBy (fun c => by omega) (fun _ c => by omega) (fun _ _ => jif1 rfl (q2_takes (th_R R' T) w (y_in y) hn (fun M2 R2 F2 => q2_of (by omega) 3 (by decide) ⟨h54 (by omega), ?_⟩))))) (fun z => absurd hc z))
          obtain ⟨g1, g2, g3, g4, g5⟩ := rR_j R2 hjn
          rw [g4]
          exact qi_ (fin_t H ht (jth_tr T (jth_r F2 (Or.inl rfl))))
        refine vX1_foodThen (q0_hasj R w hc.2 (jif1 (by decide) (jif1 h4 (jif1 h6 (q1_thinkAhead R w y hn (fun M1 R1 F1 => ⟨hb, ?_⟩))))))
        obtain ⟨g1, g2, g3, g4, g5⟩ := cR_j R1 hjn
        rw [g4]
        exact qi_ (L M1 (jth_c F1 (Or.inl rfl)))
      · have L : jCall 146 (jR 2 0 0 :: [jI (j : Int), jI x2]) (rfC M 6) (jqi (en t (-((6 : Nat) : Int)))) := vX2_foodThen (q2_isJar (rR_rf R') w (fun _ _ => jif0 (by decide) (q2_wrongBy (fun c => by omega) (fun _ _ => jif0 (by decide) (fin_r (k := 6) H ht ⟨by decide, by decide⟩)) (fun _ c => by omega))) (fun z => absurd hc z))
        exact vX1_foodThen (q0_hasj R w hc.2 (jif1 (by decide) (jif1 h4 (jif0 h6 (q1_refuse (k := 6) H ⟨by decide, by decide⟩ (qi_ L))))))
    · have L : jCall 146 (jR 2 0 0 :: [jI (j : Int), jI x2]) (rfC M 4) (jqi (en t (-((4 : Nat) : Int)))) := vX2_foodThen (q2_isJar (rR_rf R') w (fun _ _ => jif0 (by decide) (q2_wrongBy (fun _ => jif0 (by decide) (fin_r (k := 4) H ht ⟨by decide, by decide⟩)) (fun c _ => by omega) (fun c _ => by omega))) (fun z => absurd hc z))
      exact vX1_foodThen (q0_hasj R w hc.2 (jif1 (by decide) (jif0 h4 (q1_refuse (k := 4) H ⟨by decide, by decide⟩ (qi_ L)))))
  · have L : jCall 146 (jR 2 0 0 :: [jI x1, jI x2]) (rfC M 1) (jqi (en t (-((1 : Nat) : Int)))) := vX2_foodThen (q2_isJar (rR_rf R') w (fun a b => absurd ⟨a, b⟩ hc) (fun _ => jif1 rfl (jif0 (by decide) (fin_r (k := 1) H ht ⟨by decide, by decide⟩))))
    exact vX1_foodThen (q0_has R w (fun a b => absurd ⟨a, b⟩ hc) (fun _ => jif0 (by decide) (q1_refuse (k := 1) H ⟨by decide, by decide⟩ (qi_ L))))
theorem p_lasts (H : sim t M s) (ht : t < 1000) (x1 : Int) : pP t 56 151 [jI x1] M := by
  obtain ⟨R, R', w, y⟩ := H.1
  have w1 := w.1
  by_cases hc : 0 ≤ x1 ∧ x1 < s 0 5
  · obtain ⟨j, rfl⟩ := jnat hc.1
    have hb : 0 ≤ (j : Int) ∧ (j : Int) < ((9 : Nat) : Int) := ⟨by omega, by omega⟩
    have hjn : ∀ n, (j : Int) < it ye n s 0 5 := fun n => by rw [yn_k _ _ (by decide) (by decide) (by decide)]; exact hc.2
    have hf : ∀ n, 0 ≤ it ye n s 4 j := fun n => ((wf_yn n w).2.2.2 j (hjn n)).2.2.2.1.1
    -- the answer a, m the number of years that are gone through
    have G : ∀ (m : Nat) (a : Int), (∀ n, n < m → ¬ it ye n s 4 j = 0) → (m ≤ 60 ∧ it ye m s 4 j = 0 ∧ a = (m : Int) ∨ m = 61 ∧ a = -9) → pP t 56 151 [jI (j : Int)] M := by
      intro m a hm ha
      have L : ∀ M1, jth M M1 → jCall 151 (jR 2 0 0 :: [jI (j : Int)]) M1 (jqi (en t a)) := by
        intro M1 T
        refine vX2_lasts (q2_isJar (th_R R' T) w (fun _ _ => jif1 (by decide) (q2_copies (by decide) (th_R R' T) w (fun M2 R2 F2 => ?_))) (fun z => absurd hc z))
        refine lp_n (X := fun n => ∀ M', rR M' 1 (it ye n s) → jth M M' → jAt 151 27 [some (jR 2 0 0), some (jI (j : Int)), some (jI (n : Int))] [] M' (jqi (en t a))) m ?_ ?_ M2 R2 (jth_tr T (jth_r F2 (Or.inl rfl)))
        · intro M' R3 T3
          rcases ha with ⟨h1, h2, rfl⟩ | ⟨h1, rfl⟩
          · exact vX2_lasts_27 (jif0 (by omega) (q2_hasFood R3 (wf_yn m w) (hjn m) (fun c => by omega) (fun _ => jif0 (by decide) (qi_ (fin_t H ht T3)))))
          · exact vX2_lasts_27 (jif1 (by omega) (qi_ (fin_t H ht T3)))
        · intro n hn ih M' R3 T3
          have q1 := hm n hn
          have q2 := hf n
          refine vX2_lasts_27 (jif0 (by omega) (q2_hasFood R3 (wf_yn n w) (hjn n) (fun _ => jif1 (by decide) (q2_year R3 (wf_yn n w) (y_n y (by omega)) (fun M4 R4 F4 => ⟨jr_i (by omega), ih M4 ?_ (jth_tr T3 (jth_r F4 (Or.inl rfl)))⟩))) (fun c => by omega)))
          rw [it_s]; exact R4
      refine vX1_lasts (q0_hasj R w hc.2 (jif1 (by decide) (q0_become (by decide) R w (fun M2 R2 F2 => ?_))))
      refine lp_n (X := fun n => ∀ M', cR M' 2 (it ye n s) → jth M M' → jAt 56 30 [some (jR 1 0 0), some (jI (j : Int)), some (jI (n : Int))] [] M' (jqi fun y M1 => jCall 151 (jR 2 0 0 :: [jI (j : Int)]) M1 (jqi (en t y)))) m ?_ ?_ M2 R2 (jth_c F2 (Or.inl rfl))
      · intro M' R3 T3
        rcases ha with ⟨h1, h2, rfl⟩ | ⟨h1, rfl⟩
        · obtain ⟨g1, g2, g3, g4, g5⟩ := cR_j R3 (hjn m)
          refine vX1_lasts_30 (jif0 (by omega) ⟨hb, ?_⟩)
          rw [g4]
          exact jif0 (by omega) (qi_ (L M' T3))
        · exact vX1_lasts_30 (jif1 (by omega) (qi_ (L M' T3)))
      · intro n hn ih M' R3 T3
        obtain ⟨g1, g2, g3, g4, g5⟩ := cR_j R3 (hjn n)
        refine vX1_lasts_30 (jif0 (by omega) ⟨hb, ?_⟩)
        rw [g4]
        refine jif1 (hm n hn) (q0_passYear R3 (wf_yn n w) (y_n y (by omega)) (fun M4 R4 F4 => ⟨jr_i (by omega), ih M4 ?_ (jth_tr T3 (jth_c F4 (Or.inl rfl)))⟩))
        rw [it_s]; exact R4
    rcases fst_or (P := fun n => it ye n s 4 j = 0) (fun n => Decidable.em _) 61 with h | ⟨m, h1, h2, h3⟩
    · exact G 61 (-9) h (Or.inr ⟨rfl, rfl⟩)
    · exact G m m h3 (Or.inl ⟨by omega, h2, rfl⟩)
  · have L : jCall 151 (jR 2 0 0 :: [jI x1]) (rfC M 1) (jqi (en t (-((1 : Nat) : Int)))) := vX2_lasts (q2_isJar (rR_rf R') w (fun a b => absurd ⟨a, b⟩ hc) (fun _ => jif0 (by decide) (fin_r (k := 1) H ht ⟨by decide, by decide⟩)))
    exact vX1_lasts (q0_has R w (fun a b => absurd ⟨a, b⟩ hc) (fun _ => jif0 (by decide) (q1_refuse (k := 1) H ⟨by decide, by decide⟩ (qi_ L))))
-- first: which CUSTOM, when; HUNGRY; BARE
theorem q1_forgotten {n : Nat} (R : cR M 0 s) (R2 : cR M 2 (it ye n s)) (w : wf s) (h : K (gn s n) M) : jCall 61 [jR 1 0 0] M (jqi K) :=
  vX1_forgottenInThought (q0_knownBits R w (q0_knownBits R2 (wf_yn n w) (qi_ h)))
theorem q1_yearOf (R : cR M 0 s) (w : wf s) (y : yr 999 s) {m : Nat} {a : Int} (hm : ∀ n, 1 ≤ n → n < m → gn s n = 0) (ha : 1 ≤ m ∧ m ≤ 60 ∧ ¬ gn s m = 0 ∧ a = (m : Int) ∨ m = 61 ∧ a = -9) (h : ∀ M', cR M' 2 (it ye (min m 60) s) → jth M M' → K a M') : jCall 59 [jR 1 0 0] M (jqi K) := by
  refine vX1_yearOfForgetting (q0_become (by decide) R w (fun M2 R2 F2 => ?_))
  have L := lp_n (X := fun n => ∀ M', cR M' 2 (it ye n s) → jth M M' → jAt 59 13 [some (jR 1 0 0), some (jI (((n + 1 : Nat)) : Int))] [] M' (jqi K)) (min (m - 1) 60) ?_ ?_ M2 R2 (jth_c F2 (Or.inl rfl))
  · exact L
  · intro M' R3 T3
    rcases ha with ⟨h0, h1, h2, rfl⟩ | ⟨h1, rfl⟩
    · have e : min (m - 1) 60 = m - 1 := by omega
      have e2 : min m 60 = m := by omega
      have e3 : m - 1 + 1 = m := by omega
      rw [e] at R3 ⊢
      rw [e2] at h
      rw [e3]
      refine vX1_yearOfForgetting_13 (jif0 (by omega) (q0_passYear R3 (wf_yn _ w) (y_n y (by omega)) (fun M4 R4 F4 => ?_)))
      rw [← it_s ye, e3] at R4
      have T4 := jth_tr T3 (jth_c F4 (Or.inl rfl))
      exact q1_forgotten (th_C R T4) R4 w (jif0 h2 (qi_ (h M4 R4 T4)))
    · subst h1
      exact vX1_yearOfForgetting_13 (jif1 (by decide) (qi_ (h M' R3 T3)))
  · intro n hn ih M' R3 T3
    refine vX1_yearOfForgetting_13 (jif0 (by omega) (q0_passYear R3 (wf_yn _ w) (y_n y (by omega)) (fun M4 R4 F4 => ?_)))
    rw [← it_s ye] at R4
    have T4 := jth_tr T3 (jth_c F4 (Or.inl rfl))
    exact q1_forgotten (th_C R T4) R4 w (jif1 (hm (n + 1) (by omega) (by omega)) ⟨jr_i (by omega), ih M4 R4 T4⟩)
theorem cs_gn (w : wf s) (n : Nat) : cs (gn s n) := cs_and (cs_kw w) _ (jr_xor _ _)
/-- some custom stands in what is not nothing -/
theorem cs_bit {x : Int} (h : cs x) (hx : ¬ x = 0) : ∃ c, c < 10 ∧ tb x c = true ∧ ∀ d, d < c → ¬ tb x d = true := by
  rcases fst_or (P := fun c => tb x c = true) (fun n => Decidable.em _) 10 with q | ⟨c, h1, h2, h3⟩
  · refine absurd (tb_ext (cs_jr h) jr_0 fun i hi => ?_) hx
    rw [tb_0 i hi]
    by_cases z : i < 10
    · exact Bool.eq_false_iff.mpr (q i z)
    · exact tb_cs h (by omega) hi
  · exact ⟨c, h1, h2, h3⟩
theorem q1_least {x : Int} {c : Nat} (hc : c < 10) (h1 : tb x c = true) (h2 : ∀ d, d < c → ¬ tb x d = true) (h : K (c : Int) M) : jAt 60 7 [none, some (jI x), some (jI 0)] [] M (jqi K) := by
  refine lp_n (X := fun d => jAt 60 7 [none, some (jI x), some (jI (d : Int))] [] M (jqi K)) c ?_ ?_
  · exact vX1_leastForgotten_7 (jif0 (by omega) (q1_hasBit (by omega) (fun _ => jif0 (by decide) (qi_ h)) (fun z => by rw [h1] at z; cases z)))
  · intro d hd ih
    exact vX1_leastForgotten_7 (jif0 (by omega) (q1_hasBit (by omega) (fun z => absurd z (h2 d hd)) (fun _ => jif1 rfl ⟨jr_i (by omega), ih⟩)))
/-- the reference's years, up to m; x1: which of the two -/
theorem q2_first (H : sim t M s) (ht : t < 1000) {x1 a : Int} (hx : x1 = 0 ∨ x1 = 1) {m : Nat} (hm : ∀ n, 1 ≤ n → n < m → gn s n = 0)
    (ha : (∃ c, 1 ≤ m ∧ m ≤ 60 ∧ c < 10 ∧ tb (gn s m) c = true ∧ (∀ d, d < c → ¬ tb (gn s m) d = true) ∧ a = if x1 = 0 then (c : Int) else (m : Int)) ∨ m = 61 ∧ a = -9) : ∀ M1, jth M M1 → jCall 150 (jR 2 0 0 :: [jI x1]) M1 (jqi (en t a)) := by
  obtain ⟨R, R', w, y⟩ := H.1
  intro M1 T
  refine vX2_first (q2_isIn (fun _ _ => jif1 (by decide) (jif1 (by omega) (jif1 (by omega) (q2_copies (by decide) (th_R R' T) w (fun M2 R2 F2 => ?_))))) (fun z => absurd ⟨by omega, by omega⟩ z))
  have L := lp_n (X := fun n => ∀ M', rR M' 1 (it ye n s) → jth M M' → jAt 150 49 [some (jR 2 0 0), some (jI x1), some (jI (((n + 1 : Nat)) : Int)), none, none] [] M' (jqi (en t a))) (min (m - 1) 60) ?_ ?_ M2 R2 (jth_tr T (jth_r F2 (Or.inl rfl)))
  · exact L
  · intro M' R3 T3
    rcases ha with ⟨c, h0, h1, hc, h2, h3, rfl⟩ | ⟨h1, rfl⟩
    · have e : min (m - 1) 60 = m - 1 := by omega
      have e3 : m - 1 + 1 = m := by omega
      rw [e] at R3 ⊢
      rw [e3]
      refine vX2_first_49 (jif0 (by omega) (q2_year R3 (wf_yn _ w) (y_n y (by omega)) (fun M4 R4 F4 => ?_)))
      rw [← it_s ye, e3] at R4
      have T4 := jth_tr T3 (jth_r F4 (Or.inl rfl))
      refine q2_knownIn (th_R R' T4) w (q2_knownIn R4 (wf_yn m w) ?_)
      show jAt 150 83 [some (jR 2 0 0), some (jI x1), some (jI (m : Int)), some (jI (gn s m)), some (jI 0)] [] M4 _
      refine lp_n (X := fun d => jAt 150 83 [some (jR 2 0 0), some (jI x1), some (jI (m : Int)), some (jI (gn s m)), some (jI (d : Int))] [] M4 _) c ?_ ?_
      · refine vX2_first_83 (jif0 (by omega) (q2_has (by omega) (fun _ => jif0 (by decide) (jite (fun z => qi_ ?_) (fun z => qi_ ?_))) (fun z => by rw [h2] at z; cases z)))
        · rw [if_neg z]; exact fin_t H ht T4
        · rw [if_pos (Decidable.not_not.mp z)]; exact fin_t H ht T4
      · intro d hd ih
        exact vX2_first_83 (jif0 (by omega) (q2_has (by omega) (fun z => absurd z (h3 d hd)) (fun _ => jif1 rfl ⟨jr_i (by omega), ih⟩)))
    · subst h1
      exact vX2_first_49 (jif1 (by decide) (qi_ (fin_t H ht T3)))
  · intro n hn ih M' R3 T3
    refine vX2_first_49 (jif0 (by omega) (q2_year R3 (wf_yn _ w) (y_n y (by omega)) (fun M4 R4 F4 => ?_)))
    rw [← it_s ye] at R4
    have T4 := jth_tr T3 (jth_r F4 (Or.inl rfl))
    refine q2_knownIn (th_R R' T4) w (q2_knownIn R4 (wf_yn _ w) ?_)
    show jAt 150 83 [some (jR 2 0 0), some (jI x1), some (jI (((n + 1 : Nat)) : Int)), some (jI (gn s (n + 1))), some (jI 0)] [] M4 _
    have hz := hm (n + 1) (by omega) (by omega)
    rw [hz]
    refine lp_n (X := fun d => jAt 150 83 [some (jR 2 0 0), some (jI x1), some (jI (((n + 1 : Nat)) : Int)), some (jI 0), some (jI (d : Int))] [] M4 _) 10 ?_ ?_
    · exact vX2_first_83 (jif1 (by decide) ⟨jr_i (by omega), ih M4 R4 T4⟩)
    · intro d hd ih2
      exact vX2_first_83 (jif0 (by omega) (q2_has (by omega) (fun z => by rw [tb_0 d (by omega)] at z; cases z) (fun _ => jif1 rfl ⟨jr_i (by omega), ih2⟩)))
end Mind

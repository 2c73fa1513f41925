-- Calls, side by side: two
/-- how it is, in thought, if the one eats (x) and the other one (y) -/
def tw (s : jT) (a b : Nat) (x y : Int) : jT := if y = 1 then su (if x = 1 then su s 4 a 0 else s) 4 b 0 else (if x = 1 then su s 4 a 0 else s)
def joy (s : jT) (n a b : Nat) (x y : Int) : Int := jpc 10 (jand (kw (it ye n (tw s a b x y))) (kd s a)) + (if x = 1 ∧ 0 < s 4 a then 2 else 0)
theorem tw_cm (s : jT) {a b : Nat} (h : a ≠ b) (x y : Int) : tw s a b x y = tw s b a y x := by
  unfold tw
  by_cases hx : x = 1
  · by_cases hy : y = 1
    · rw [if_pos hx, if_pos hy, if_pos hy, if_pos hx]
      exact su_cm s _ _ (fun z => h z.2)
    · simp [hx, hy]
  · by_cases hy : y = 1
    · simp [hx, hy]
    · simp [hx, hy]
theorem wf_tw {s : jT} (w : wf s) (a b : Nat) (x y : Int) : wf (tw s a b x y) := by
  unfold tw
  split <;> split
  · exact wf_u (wf_u w (by omega)) (by omega)
  · exact wf_u w (by omega)
  · exact wf_u w (by omega)
  · exact w
theorem tw_8 (s : jT) (a b : Nat) (x y : Int) : tw s a b x y 0 8 = s 0 8 := by
  unfold tw
  split <;> split <;> simp [su]
/-- neither has more by another one alone -/
def okt (s : jT) (n a b : Nat) (x y : Int) : Prop := joy s n a b (1 - x) y ≤ joy s n a b x y ∧ joy s n b a (1 - y) x ≤ joy s n b a y x
section Two
variable {M : jM} {s : jT} {t : Int} {K : Int → jM → Prop} {V : jM → Prop}
theorem joy_r (n a b : Nat) (x y : Int) : 0 ≤ joy s n a b x y ∧ joy s n a b x y ≤ 12 := by
  have := jc10 (jand (kw (it ye n (tw s a b x y))) (kd s a))
  unfold joy
  split <;> omega
theorem q1_joyOf (R : cR M 0 s) (w : wf s) (y : yr 999 s) {a b n : Nat} (ha : (a : Int) < s 0 5) (hb : (b : Int) < s 0 5) (hn : n ≤ 60) {e o : Int} (h : ∀ M', jth M M' → K (joy s n a b e o) M') : jCall 78 [jR 1 0 0, jI (a : Int), jI (b : Int), jI (n : Int), jI e, jI o] M (jqi K) := by
  have w1 := w.1
  have hba : 0 ≤ (a : Int) ∧ (a : Int) < ((9 : Nat) : Int) := ⟨by omega, by omega⟩
  have hbb : 0 ≤ (b : Int) ∧ (b : Int) < ((9 : Nat) : Int) := ⟨by omega, by omega⟩
  obtain ⟨g1, g2, g3, g4, g5⟩ := cR_j R ha
  have T : ∀ q : Int, q = (if e = 1 ∧ 0 < s 4 a then 1 else 0) → jAt 78 23 [some (jR 1 0 0), some (jI (a : Int)), some (jI (b : Int)), some (jI (n : Int)), some (jI e), some (jI o), none, none] [jI q] M (jqi K) := by
    intro q hq
    have F : ∀ M', cR M' 2 (tw s a b e o) → jth M M' → jAt 78 68 [some (jR 1 0 0), some (jI (a : Int)), none, some (jI (n : Int)), none, none, some (jI q), none] [] M' (jqi K) := by
      intro M' R' T'
      have wt := wf_tw w a b e o
      have wn := wf_yn n wt
      have ck := cs_kd (w.2.2.2 a ha)
      refine vX1_joyOf_68 (q0_pass R' wt (by rw [tw_8]; exact y_in y) hn (fun M4 R4 F4 => q0_knownBits R4 wn ?_))
      have T4 := jth_tr T' (jth_c F4 (Or.inl rfl))
      have hj := jc10 (jand (kw (it ye n (tw s a b e o))) (kd s a))
      refine q0_customsByKind (th_C R T4) w ha ⟨cs_and (cs_kw wn) _ (cs_jr ck), jite (fun z => qi_ ?_) (fun z => ⟨jr_i (by omega), qi_ ?_⟩)⟩
      · have hk := h M4 T4
        unfold joy at hk
        rw [hq] at z
        by_cases c : e = 1 ∧ 0 < s 4 a
        · rw [if_pos c] at z; omega
        · rw [if_neg c, Int.add_zero] at hk; exact hk
      · have hk := h M4 T4
        unfold joy at hk
        rw [hq] at z
        by_cases c : e = 1 ∧ 0 < s 4 a
        · rw [if_pos c] at hk; exact hk
        · rw [if_neg c] at z; omega
    have E : ∀ M', cR M' 2 (if e = 1 then su s 4 a 0 else s) → jth M M' → jAt 78 52 [some (jR 1 0 0), some (jI (a : Int)), some (jI (b : Int)), some (jI (n : Int)), none, some (jI o), some (jI q), none] [] M' (jqi K) := by
      intro M' R' T'
      refine vX1_joyOf_52 (jite (fun c => F M' ?_ T') (fun c => ⟨hbb, ?_⟩))
      · unfold tw; rw [if_neg c]; exact R'
      · intro m1
        refine F m1 ?_ (jth_tr T' (jth_c jfm_u (Or.inl rfl)))
        unfold tw; rw [if_pos (Decidable.not_not.mp c)]; exact cR_u R' (by decide)
    refine vX1_joyOf_23 (q0_become (by decide) R w (fun M1 R1 F1 => jite (fun c => E M1 ?_ (jth_c F1 (Or.inl rfl))) (fun c => ⟨hba, ?_⟩)))
    · rw [if_neg c]; exact R1
    · intro m2
      refine E m2 ?_ (jth_c (jfm_u2 F1) (Or.inl rfl))
      rw [if_pos (Decidable.not_not.mp c)]; exact cR_u R1 (by decide)
  refine vX1_joyOf (jite (fun c => T 0 ?_) (fun c => ⟨hba, ?_⟩))
  · rw [if_neg (fun z => c z.1)]
  · rw [g4]
    have c' : e = 1 := Decidable.not_not.mp c
    refine jite (fun d => T 0 ?_) (fun d => T 1 ?_)
    · rw [if_neg (fun z => by omega)]
    · rw [if_pos ⟨c', by omega⟩]
theorem q1_stays (R : cR M 0 s) (w : wf s) (y : yr 999 s) {a b n : Nat} (ha : (a : Int) < s 0 5) (hb : (b : Int) < s 0 5) (hn : n ≤ 60) {e o : Int} (he : e = 0 ∨ e = 1) (h1 : joy s n a b (1 - e) o ≤ joy s n a b e o → ∀ M', jth M M' → K 1 M') (h0 : ¬ joy s n a b (1 - e) o ≤ joy s n a b e o → ∀ M', jth M M' → K 0 M') : jCall 77 [jR 1 0 0, jI (a : Int), jI (b : Int), jI (n : Int), jI e, jI o] M (jqi K) :=
  vX1_stays (q1_joyOf R w y ha hb hn (fun M1 T1 => ⟨jr_i (by omega), q1_joyOf (th_C R T1) w y ha hb hn (fun M2 T2 => jite (fun c => ⟨jz0, qi_ (h0 (by omega) M2 (jth_tr T1 T2))⟩) (fun c => ⟨jz1, qi_ (h1 (by omega) M2 (jth_tr T1 T2))⟩))⟩))
/-- the reference: of a pair a, b the one (wh) -/
theorem q2_hasBy (R : rR M 0 s) (w : wf s) (y : yr 999 s) {a b n : Nat} (ha : (a : Int) < s 0 5) (hb : (b : Int) < s 0 5) (hab : a ≠ b) (hn : n ≤ 60) {x z v : Int} {wh : Nat} (hw : wh = a ∧ v = joy s n a b x z ∨ wh = b ∧ v = joy s n b a z x) (h : ∀ M', jth M M' → K v M') : jCall 170 [jR 2 0 0, jI (wh : Int), jI (a : Int), jI x, jI (b : Int), jI z, jI (n : Int)] M (jqi K) := by
  have w1 := w.1
  have wt := wf_tw w a b x z
  have wn := wf_yn n wt
  have hwh : (wh : Int) < s 0 5 := by rcases hw with ⟨rfl, _⟩ | ⟨rfl, _⟩ <;> assumption
  have ck := cs_kd (w.2.2.2 wh hwh)
  have F : ∀ M', rR M' 1 (tw s a b x z) → jth M M' → jAt 170 45 [some (jR 2 0 0), some (jI (wh : Int)), some (jI (a : Int)), some (jI x), none, some (jI z), some (jI (n : Int)), none] [] M' (jqi K) := by
    intro M' R' T'
    refine vX2_hasBy_45 (q2_yearsOn R' wt (by rw [tw_8]; exact y_in y) hn (fun M4 R4 F4 => ?_))
    have T4 := jth_tr T' (jth_r F4 (Or.inl rfl))
    have G : ∀ q : Int, q = (if (if wh = a then x else z) = 1 ∧ 0 < s 4 wh then 2 else 0) → jAt 170 85 [some (jR 2 0 0), some (jI (wh : Int)), none, none, none, none, none, none] [jI q] M4 (jqi K) := by
      intro q hq
      have hj := jc10 (jand (kw (it ye n (tw s a b x z))) (kd s wh))
      have hq2 : 0 ≤ q ∧ q ≤ 2 := by rw [hq]; split <;> omega
      refine vX2_hasBy_85 (q2_knownIn R4 wn (q2_keepsIn (th_R R T4) w hwh (q2_bits (cs_and (cs_kw wn) _ (cs_jr ck)) ⟨jr_i (by omega), qi_ ?_⟩)))
      have hk := h M4 T4
      rcases hw with ⟨rfl, hv⟩ | ⟨rfl, hv⟩
      · rw [hv] at hk
        unfold joy at hk
        rw [if_pos rfl] at hq
        rw [hq]; exact hk
      · rw [hv] at hk
        unfold joy at hk
        rw [if_neg (show ¬ wh = a from fun c => hab c.symm)] at hq
        rw [hq, tw_cm s hab]; exact hk
    rcases hw with ⟨rfl, hv⟩ | ⟨rfl, hv⟩
    · refine jif0 (fun c => c rfl) (jite (fun c => G 0 ?_) (fun c => q2_hasFood (th_R R T4) w hwh (fun d => jif0 (by decide) (G 2 ?_)) (fun d => jif1 rfl (G 0 ?_))))
      · rw [if_pos rfl, if_neg (fun q => c q.1)]
      · rw [if_pos rfl, if_pos ⟨Decidable.not_not.mp c, d⟩]
      · rw [if_pos rfl, if_neg (fun q => by have := q.2; omega)]
    · refine jif1 (fun c => hab (by omega)) (jite (fun c => G 0 ?_) (fun c => q2_hasFood (th_R R T4) w hwh (fun d => jif0 (by decide) (G 2 ?_)) (fun d => jif1 rfl (G 0 ?_))))
      · rw [if_neg (show ¬ wh = a from fun c => hab c.symm), if_neg (fun q => c q.1)]
      · rw [if_neg (show ¬ wh = a from fun c => hab c.symm), if_pos ⟨Decidable.not_not.mp c, d⟩]
      · rw [if_neg (show ¬ wh = a from fun c => hab c.symm), if_neg (fun q => by have := q.2; omega)]
  have E : ∀ M', rR M' 1 (if x = 1 then su s 4 a 0 else s) → jth M M' → jAt 170 27 [some (jR 2 0 0), some (jI (wh : Int)), some (jI (a : Int)), some (jI x), some (jI (b : Int)), some (jI z), some (jI (n : Int)), none] [] M' (jqi K) := by
    intro M' R' T'
    refine vX2_hasBy_27 (jite (fun c => F M' ?_ T') (fun c => q2_of (by omega) 3 (by decide) ⟨h54 (by omega), ?_⟩))
    · unfold tw; rw [if_neg c]; exact R'
    · intro m1
      refine F m1 ?_ (jth_tr T' (jth_r jfm_u (Or.inl rfl)))
      unfold tw; rw [if_pos (Decidable.not_not.mp c)]; exact rR_u R' (by decide)
  refine vX2_hasBy (q2_copies (by decide) R w (fun M1 R1 F1 => jite (fun c => E M1 ?_ (jth_r F1 (Or.inl rfl))) (fun c => q2_of (by omega) 3 (by decide) ⟨h54 (by omega), ?_⟩)))
  · rw [if_neg c]; exact R1
  · intro m2
    refine E m2 ?_ (jth_r (jfm_u2 F1) (Or.inl rfl))
    rw [if_pos (Decidable.not_not.mp c)]; exact rR_u R1 (by decide)
theorem q2_twoN {k : Nat} (H : sim t M s) (ht : t < 1000) (hk : 1 ≤ k ∧ k ≤ 6) {x1 x2 x3 : Int} : jAt 171 32 [some (jR 2 0 0), some (jI x1), some (jI x2), some (jI x3), none, none, none, none] [jI (-(k : Int))] (rfC M k) (jqi (en t (-(k : Int)))) :=
  vX2_two_32 (jif0 (by omega) (fin_r H ht hk))
theorem p_two (H : sim t M s) (ht : t < 1000) (x1 x2 x3 : Int) : pP t 76 171 [jI x1, jI x2, jI x3] M := by
  obtain ⟨R, R', w, y⟩ := H.1
  have w1 := w.1
  by_cases hc : (0 ≤ x1 ∧ x1 < s 0 5) ∧ (0 ≤ x2 ∧ x2 < s 0 5) ∧ x1 ≠ x2
  · obtain ⟨a, rfl⟩ := jnat hc.1.1
    obtain ⟨b, rfl⟩ := jnat hc.2.1.1
    have hab : a ≠ b := fun z => hc.2.2 (by rw [z])
    have ha := hc.1.2
    have hb := hc.2.1.2
    by_cases h4 : 0 ≤ x3
    · by_cases h6 : x3 ≤ 30
      · obtain ⟨n, rfl⟩ := jnat h4
        have hn : n ≤ 60 := by omega
        have G : ∀ (k : Nat) (v : Int), (∀ j, j < k → ¬ okt s n a b ((j / 2 : Nat) : Int) ((j % 2 : Nat) : Int)) → (k < 4 ∧ okt s n a b ((k / 2 : Nat) : Int) ((k % 2 : Nat) : Int) ∧ v = 10 * ((k / 2 : Nat) : Int) + ((k % 2 : Nat) : Int) ∨ k = 4 ∧ v = -9) → pP t 76 171 [jI (a : Int), jI (b : Int), jI (n : Int)] M := by
          intro k v hk hv
          have L : ∀ M1, jth M M1 → jCall 171 (jR 2 0 0 :: [jI (a : Int), jI (b : Int), jI (n : Int)]) M1 (jqi (en t v)) := by
            intro M1 T
            refine vX2_two (q2_isJar (th_R R' T) w (fun _ _ => jif0 (by decide) (q2_isJar (th_R R' T) w (fun _ _ => jif0 (by decide) (jif0 hc.2.2 (q2_wrongBy (fun c => by omega) (fun _ c => by omega) (fun _ _ => vX2_two_32 (jif1 rfl ?_))))) (fun z => absurd hc.2.1 z))) (fun z => absurd hc.1 z))
            refine lp_n (X := fun j => ∀ M', jth M M' → jAt 171 49 [some (jR 2 0 0), some (jI (a : Int)), some (jI (b : Int)), some (jI (n : Int)), none, some (jI (j : Int)), none, none] [] M' (jqi (en t v))) k ?_ ?_ M1 T
            · intro M' T'
              rcases hv with ⟨h0, h1, rfl⟩ | ⟨h1, rfl⟩
              · have e1 : (k : Int) / 2 = ((k / 2 : Nat) : Int) := by omega
                have e2 : (k : Int) % 2 = ((k % 2 : Nat) : Int) := by omega
                have hps : jpos (k : Int) 2 := ⟨by omega, by decide⟩
                refine vX2_two_49 (jif0 (by omega) ⟨hps, hps, ?_⟩)
                rw [e1, e2]
                exact ⟨jr_i (by omega), q2_hasBy (th_R R' T') w y ha hb hab hn (Or.inl ⟨rfl, rfl⟩) (fun M2 T2 => q2_hasBy (th_R R' (jth_tr T' T2)) w y ha hb hab hn (Or.inl ⟨rfl, rfl⟩) (fun M3 T3 => jif0 (by have := h1.1; omega) ⟨jr_i (by omega), q2_hasBy (th_R R' (jth_tr T' (jth_tr T2 T3))) w y ha hb hab hn (Or.inr ⟨rfl, rfl⟩) (fun M4 T4 => q2_hasBy (th_R R' (jth_tr T' (jth_tr T2 (jth_tr T3 T4)))) w y ha hb hab hn (Or.inr ⟨rfl, rfl⟩) (fun M5 T5 => jif0 (by have := h1.2; omega) ⟨jr_i (by omega), jr_i (by omega), qi_ (fin_t H ht (jth_tr T' (jth_tr T2 (jth_tr T3 (jth_tr T4 T5)))))⟩))⟩))⟩
              · subst h1
                exact vX2_two_49 (jif1 (by decide) (qi_ (fin_t H ht T')))
            · intro j hj ih M' T'
              have hj4 : j < 4 := by omega
              have e1 : (j : Int) / 2 = ((j / 2 : Nat) : Int) := by omega
              have e2 : (j : Int) % 2 = ((j % 2 : Nat) : Int) := by omega
              have hps : jpos (j : Int) 2 := ⟨by omega, by decide⟩
              have hq : jr ((j : Int) + 1) := jr_i (by omega)
              have no := hk j hj
              unfold okt at no
              refine vX2_two_49 (jif0 (by omega) ⟨hps, hps, ?_⟩)
              rw [e1, e2]
              refine ⟨jr_i (by omega), q2_hasBy (th_R R' T') w y ha hb hab hn (Or.inl ⟨rfl, rfl⟩) (fun M2 T2 => q2_hasBy (th_R R' (jth_tr T' T2)) w y ha hb hab hn (Or.inl ⟨rfl, rfl⟩) (fun M3 T3 => jite (fun _ => ⟨hq, ih M3 (jth_tr T' (jth_tr T2 T3))⟩) (fun c1 => ⟨jr_i (by omega), q2_hasBy (th_R R' (jth_tr T' (jth_tr T2 T3))) w y ha hb hab hn (Or.inr ⟨rfl, rfl⟩) (fun M4 T4 => q2_hasBy (th_R R' (jth_tr T' (jth_tr T2 (jth_tr T3 T4)))) w y ha hb hab hn (Or.inr ⟨rfl, rfl⟩) (fun M5 T5 => jif1 (by omega) ⟨hq, ih M5 (jth_tr T' (jth_tr T2 (jth_tr T3 (jth_tr T4 T5))))⟩))⟩)))⟩
          -- the class: at first i, other j
          have S : ∀ (i j : Nat), i ≤ 1 → j ≤ 1 → (∀ M', jth M M' → okt s n a b (i : Int) (j : Int) → jqi (fun y M1 => jCall 171 (jR 2 0 0 :: [jI (a : Int), jI (b : Int), jI (n : Int)]) M1 (jqi (en t y))) (some (jI (10 * (i : Int) + (j : Int)))) M') → (∀ M', jth M M' → ¬ okt s n a b (i : Int) (j : Int) → jAt 76 69 [some (jR 1 0 0), some (jI (a : Int)), some (jI (b : Int)), some (jI (n : Int)), some (jI (i : Int)), some (jI ((j + 1 : Nat) : Int))] [] M' (jqi fun y M1 => jCall 171 (jR 2 0 0 :: [jI (a : Int), jI (b : Int), jI (n : Int)]) M1 (jqi (en t y)))) → ∀ M', jth M M' → jAt 76 69 [some (jR 1 0 0), some (jI (a : Int)), some (jI (b : Int)), some (jI (n : Int)), some (jI (i : Int)), some (jI (j : Int))] [] M' (jqi fun y M1 => jCall 171 (jR 2 0 0 :: [jI (a : Int), jI (b : Int), jI (n : Int)]) M1 (jqi (en t y))) := by
            intro i j hi hj A B M' T'
            have hq : jr ((j : Int) + 1) := jr_i (by omega)
            refine vX1_two_69 (jif0 (by omega) (q1_stays (th_C R T') w y ha hb hn (by omega) (fun s1 M2 T2 => jif0 (by decide) (q1_stays (th_C R (jth_tr T' T2)) w y hb ha hn (by omega) (fun s2 M3 T3 => jif0 (by decide) ⟨jr_i (by omega), jr_i (by omega), A M3 (jth_tr T' (jth_tr T2 T3)) ⟨s1, s2⟩⟩) (fun s2 M3 T3 => jif1 rfl ⟨hq, B M3 (jth_tr T' (jth_tr T2 T3)) (fun z => s2 z.2)⟩))) (fun s1 M2 T2 => jif1 rfl ⟨hq, B M2 (jth_tr T' T2) (fun z => s1 z.1)⟩)))
          have N : ∀ i : Nat, i ≤ 1 → (∀ M', jth M M' → jAt 76 60 [some (jR 1 0 0), some (jI (a : Int)), some (jI (b : Int)), some (jI (n : Int)), some (jI ((i + 1 : Nat) : Int)), none] [] M' (jqi fun y M1 => jCall 171 (jR 2 0 0 :: [jI (a : Int), jI (b : Int), jI (n : Int)]) M1 (jqi (en t y)))) → ∀ M', jth M M' → jAt 76 69 [some (jR 1 0 0), some (jI (a : Int)), some (jI (b : Int)), some (jI (n : Int)), some (jI (i : Int)), some (jI ((2 : Nat) : Int))] [] M' (jqi fun y M1 => jCall 171 (jR 2 0 0 :: [jI (a : Int), jI (b : Int), jI (n : Int)]) M1 (jqi (en t y))) := by
            intro i hi A M' T'
            exact vX1_two_69 (jif1 (by decide) ⟨jr_i (by omega), A M' T'⟩)
          have av : ∀ (i j : Nat), i ≤ 1 → j ≤ 1 → okt s n a b (i : Int) (j : Int) → (∀ q : Nat, q < 2 * i + j → ¬ okt s n a b ((q / 2 : Nat) : Int) ((q % 2 : Nat) : Int)) → v = 10 * (i : Int) + (j : Int) := by
            intro i j hi hj ho hq
            have e1 : (2 * i + j) / 2 = i := by omega
            have e2 : (2 * i + j) % 2 = j := by omega
            have hk1 : k = 2 * i + j := by
              rcases Nat.lt_trichotomy k (2 * i + j) with c | c | c
              · rcases hv with ⟨h0, h1, _⟩ | ⟨h1, _⟩
                · exact absurd h1 (hq k c)
                · omega
              · exact c
              · have := hk (2 * i + j) c
                rw [e1, e2] at this
                exact absurd ho this
            rcases hv with ⟨h0, h1, h2⟩ | ⟨h1, _⟩
            · rw [hk1, e1, e2] at h2; exact h2
            · omega
          refine vX1_two (q0_hasj R w ha (jif0 (by decide) (q0_hasj R w hb (jif0 (by decide) (jif1 hc.2.2 (jif1 h4 (jif1 h6 ?_)))))))
          refine vX1_two_60 (jif0 (by decide) ?_)
          refine S 0 0 (by decide) (by decide) (fun M2 T2 o0 => qi_ ?_) (fun M2 T2 o0 => ?_) M jth_rf
          · rw [← av 0 0 (by decide) (by decide) o0 (fun q hq => absurd hq (Nat.not_lt_zero q))]; exact L M2 T2
          · refine S 0 1 (by decide) (by decide) (fun M3 T3 o1 => qi_ ?_) (fun M3 T3 o1 => ?_) M2 T2
            · rw [← av 0 1 (by decide) (by decide) o1 (fun q hq => by obtain rfl : q = 0 := by omega
                                                                      exact o0)]; exact L M3 T3
            · refine N 0 (by decide) (fun M4 T4 => vX1_two_60 (jif0 (by decide) ?_)) M3 T3
              refine S 1 0 (by decide) (by decide) (fun M5 T5 o2 => qi_ ?_) (fun M5 T5 o2 => ?_) M4 T4
              · rw [← av 1 0 (by decide) (by decide) o2 (fun q hq => by
                  rcases (show q = 0 ∨ q = 1 by omega) with rfl | rfl
                  · exact o0
                  · exact o1)]
                exact L M5 T5
              · refine S 1 1 (by decide) (by decide) (fun M6 T6 o3 => qi_ ?_) (fun M6 T6 o3 => ?_) M5 T5
                · rw [← av 1 1 (by decide) (by decide) o3 (fun q hq => by
                    rcases (show q = 0 ∨ q = 1 ∨ q = 2 by omega) with rfl | rfl | rfl
                    · exact o0
                    · exact o1
                    · exact o2)]
                  exact L M6 T6
                · refine N 1 (by decide) (fun M7 T7 => vX1_two_60 (jif1 (by decide) (qi_ ?_))) M6 T6
                  have hv9 : v = -9 := by
                    rcases hv with ⟨h0, h1, _⟩ | ⟨_, h2⟩
                    · rcases (show k = 0 ∨ k = 1 ∨ k = 2 ∨ k = 3 by omega) with rfl | rfl | rfl | rfl
                      · exact absurd h1 o0
                      · exact absurd h1 o1
                      · exact absurd h1 o2
                      · exact absurd h1 o3
                    · exact h2
                  rw [← hv9]; exact L M7 T7
        rcases fst_or (P := fun j => okt s n a b ((j / 2 : Nat) : Int) ((j % 2 : Nat) : Int)) (fun n => Classical.em _) 4 with h | ⟨m, h1, h2, h3⟩
        · exact G 4 (-9) h (Or.inr ⟨rfl, rfl⟩)
        · exact G m _ h3 (Or.inl ⟨h1, h2, rfl⟩)
      · have L : jCall 171 (jR 2 0 0 :: [jI (a : Int), jI (b : Int), jI x3]) (rfC M 6) (jqi (en t (-((6 : Nat) : Int)))) := vX2_two (q2_isJar (rR_rf R') w (fun _ _ => jif0 (by decide) (q2_isJar (rR_rf R') w (fun _ _ => jif0 (by decide) (jif0 hc.2.2 (q2_wrongBy (fun c => by omega) (fun _ _ => q2_twoN (k := 6) H ht ⟨by decide, by decide⟩) (fun _ c => by omega)))) (fun z => absurd hc.2.1 z))) (fun z => absurd hc.1 z))
        exact vX1_two (q0_hasj R w ha (jif0 (by decide) (q0_hasj R w hb (jif0 (by decide) (jif1 hc.2.2 (jif1 h4 (jif0 h6 (q1_refuse (k := 6) H ⟨by decide, by decide⟩ (qi_ L)))))))))
    · have L : jCall 171 (jR 2 0 0 :: [jI (a : Int), jI (b : Int), jI x3]) (rfC M 4) (jqi (en t (-((4 : Nat) : Int)))) := vX2_two (q2_isJar (rR_rf R') w (fun _ _ => jif0 (by decide) (q2_isJar (rR_rf R') w (fun _ _ => jif0 (by decide) (jif0 hc.2.2 (q2_wrongBy (fun _ => q2_twoN (k := 4) H ht ⟨by decide, by decide⟩) (fun c _ => by omega) (fun c _ => by omega)))) (fun z => absurd hc.2.1 z))) (fun z => absurd hc.1 z))
      exact vX1_two (q0_hasj R w ha (jif0 (by decide) (q0_hasj R w hb (jif0 (by decide) (jif1 hc.2.2 (jif0 h4 (q1_refuse (k := 4) H ⟨by decide, by decide⟩ (qi_ L))))))))
  · have N : jAt 171 32 [some (jR 2 0 0), some (jI x1), some (jI x2), some (jI x3), none, none, none, none] [jI (-((1 : Nat) : Int))] (rfC M 1) (jqi (en t (-((1 : Nat) : Int)))) := q2_twoN (k := 1) H ht ⟨by decide, by decide⟩
    have L : jCall 171 (jR 2 0 0 :: [jI x1, jI x2, jI x3]) (rfC M 1) (jqi (en t (-((1 : Nat) : Int)))) := vX2_two (q2_isJar (rR_rf R') w (fun a b => jif0 (by decide) (q2_isJar (rR_rf R') w (fun c d => jif0 (by decide) (jite (fun _ => N) (fun e => absurd ⟨⟨a, b⟩, ⟨c, d⟩, e⟩ hc))) (fun _ => jif1 rfl N))) (fun _ => jif1 rfl N))
    have Z : jCall 99 [jR 1 0 0, jI (-1)] M (jqi fun y1 M1 => jqi (fun y M1 => jCall 171 (jR 2 0 0 :: [jI x1, jI x2, jI x3]) M1 (jqi (en t y))) (some (jI y1)) M1) := q1_refuse (k := 1) H ⟨by decide, by decide⟩ (qi_ L)
    exact vX1_two (q0_has R w (fun a b => jif0 (by decide) (q0_has R w (fun c d => jif0 (by decide) (jite (fun e => absurd ⟨⟨a, b⟩, ⟨c, d⟩, e⟩ hc) (fun _ => Z))) (fun _ => jif1 rfl Z))) (fun _ => jif1 rfl Z))
end Two

-- Shelves: a year goes by; one becomes another; a jar more; the fewest
theorem it_run {B : jT} {j : Nat} (hj : j < nj B) (h5 : B 5 j = 0) (hq : ∀ j', j' < nj B → oj B j' → B 3 j' < B 3 j ∨ (B 3 j' = B 3 j ∧ j ≤ j')) : ∀ n : Nat, (n : Int) ≤ B 4 j → it ea n B = su B 4 j (B 4 j - n) := by
  intro n
  induction n with
  | zero =>
    intro _
    show B = _
    rw [show B 4 j - ((0 : Nat) : Int) = B 4 j by omega, su_id]
  | succ n ih =>
    intro h
    rw [it_s, ih (by omega)]
    rw [ea_f (s := su B 4 j (B 4 j - n)) (f := j) (by rw [nj_su (by omega)]; exact hj) ⟨by rw [su_at]; omega, by rw [su_nc B _ (by decide)]; exact h5⟩, su_at, su_su, show B 4 j - (n : Int) - 1 = B 4 j - ((n + 1 : Nat) : Int) by omega]
    intro j' hj' ho
    rw [nj_su (by omega)] at hj'
    rw [su_nc B _ (by decide), su_nc B _ (by decide)]
    by_cases e : j' = j
    · subst e; exact Or.inr ⟨rfl, Nat.le_refl _⟩
    · refine hq j' hj' ⟨?_, ?_⟩
      · have := ho.1; rw [su_nj B _ e] at this; exact this
      · have := ho.2; rw [su_nc B _ (by decide)] at this; exact this
section Shelves3
variable {M : jM} {i : Nat} {s : jT} {K : Int → jM → Prop} {V : jM → Prop}
theorem q0_eatOn {A : jT} (R : cR M i A) (w : wf A) {x : Int} {b0 : Nat} (hb0 : (b0 : Int) ≤ op A (nj A)) (H : ∀ j, j < nj A → oj A j → A 3 j ≤ x)
    (h : ∀ (M' : jM) (b : Nat), b ≤ b0 → cR M' i (it ea b A) → jfm 0 i M M' → (b = b0 ∨ ∀ j, j < nj A → oj (it ea b A) j → A 3 j < x) → K (b : Int) M') : jCall 12 [jR 0 i 0, jI x, jI (b0 : Int)] M (jqi K) := by
  have w1 := w.1
  have hn := nj_n w
  have og := op_g w
  refine vX0_eatOn ?_
  have L := lp_n (X := fun j => ∀ (M' : jM) (b : Nat), b ≤ b0 → cR M' i (it ea b A) → jfm 0 i M M' → (b = b0 ∨ ∀ j', j' < nj A → oj (it ea b A) j' → A 3 j' < x ∨ (A 3 j' = x ∧ j ≤ j')) → jAt 12 5 [some (jR 0 i 0), some (jI x), some (jI (b0 : Int)), some (jI ((b0 : Int) - b)), some (jI (j : Int)), none] [] M' (jqi K)) (nj A) ?_ ?_
  · have L0 := L M 0 (Nat.zero_le _) R jfm_rf (Or.inr (fun j' hj' ho => by have := H j' hj' ho; omega))
    rw [show (b0 : Int) - ((0 : Nat) : Int) = b0 by omega] at L0
    exact L0
  · intro M' b hb R' F hc
    have e := (cR_f R').1
    rw [it_k b A (by decide) (by omega)] at e
    refine vX0_eatOn_5 (jif1 (by omega) ⟨jr_i (by omega), qi_ ?_⟩)
    rw [show (b0 : Int) - ((b0 : Int) - b) = b by omega]
    refine h M' b hb R' F (hc.imp_right fun z j hj ho => ?_)
    rcases z j hj ho with q | q
    · exact q
    · omega
  · intro j hj ih M' b hb R' F hc
    have e := (cR_f R').1
    rw [it_k b A (by decide) (by omega)] at e
    have hj' := nj_lt hj
    have hq : jr ((j : Int) + 1) := jr_i (by omega)
    have hbd : 0 ≤ (j : Int) ∧ (j : Int) < ((9 : Nat) : Int) := ⟨by omega, by omega⟩
    have hjj : (j : Int) < it ea b A 0 5 := by rw [it_k b A (by decide) (by omega)]; exact hj'
    obtain ⟨e1, e2, e3, e4, e5⟩ := cR_j R' hjj
    have e3' := e3
    have e5' := e5
    rw [it_k b A (by decide) (by omega)] at e3' e5'
    refine vX0_eatOn_5 (jif0 (by omega) (jite (fun c => ⟨jr_i (by omega), qi_ ?_⟩) (fun c => ⟨hbd, ?_⟩)))
    · rw [show (b0 : Int) - ((b0 : Int) - b) = b by omega]
      exact h M' b hb R' F (Or.inl (by omega))
    · have hc' := hc.resolve_left (by omega)
      rw [e3']
      refine jite (fun c2 => ⟨hq, ih M' b hb R' F (Or.inr fun j' h1 h2 => ?_)⟩) (fun c2 => ⟨hbd, ?_⟩)
      · rcases hc' j' h1 h2 with q | q
        · exact Or.inl q
        · by_cases z : j' = j
          · subst z; exact absurd q.1 c2
          · exact Or.inr ⟨q.1, by omega⟩
      · have c2' : A 3 j = x := Decidable.not_not.mp c2
        rw [e5']
        refine jite (fun c3 => ⟨hq, ih M' b hb R' F (Or.inr fun j' h1 h2 => ?_)⟩) (fun c3 => ⟨hbd, hbd, ?_⟩)
        · rcases hc' j' h1 h2 with q | q
          · exact Or.inl q
          · by_cases z : j' = j
            · subst z
              have h3 := h2.2
              rw [it_k b A (by decide) (by omega)] at h3
              exact absurd h3 c3
            · exact Or.inr ⟨q.1, by omega⟩
        · have c3' : A 5 j = 0 := Decidable.not_not.mp c3
          have w' := wf_it b w
          have w4 := wf_4 w' j (by rw [nj_it]; exact hj)
          rw [e4]
          obtain ⟨n, hn2⟩ := jnat (show 0 ≤ min ((b0 : Int) - b) (it ea b A 4 j) by omega)
          rw [hn2]
          have hrun := it_run (B := it ea b A) (j := j) (by rw [nj_it]; exact hj) (by rw [it_k b A (by decide) (by omega)]; exact c3') (fun j' h1 h2 => by
            rw [nj_it] at h1
            have := hc' j' h1 h2
            rw [it_k b A (c := 3) (by decide) (by omega), it_k b A (c := 3) (by decide) (by omega), c2']
            exact this) n (by omega)
          have R2 := cR_u (c := 4) (j := j) (x := it ea b A 4 j - (n : Int)) R' (by decide)
          rw [← hrun, ← it_a] at R2
          refine ⟨jr_i (by omega), hbd, ?_⟩
          intro m1
          have R3 : cR m1 i (it ea (b + n) A) := R2
          have F3 : jfm 0 i M m1 := jfm_u2 F
          clear_value m1
          refine ⟨jr_i (by omega), hq, ?_⟩
          have ih2 := ih m1 (b + n) (by omega) R3 F3
          rw [show (b0 : Int) - ((b + n : Nat) : Int) = (b0 : Int) - b - n by omega] at ih2
          refine ih2 ?_
          by_cases z : b + n = b0
          · exact Or.inl z
          · refine Or.inr fun j' h1 h2 => ?_
            rw [it_a, hrun] at h2
            by_cases z2 : j' = j
            · subst z2
              have h3 := h2.1
              rw [su_at] at h3
              omega
            · have h4 : oj (it ea b A) j' := ⟨by have := h2.1; rw [su_nj _ _ z2] at this; exact this, by have := h2.2; rw [su_nc _ _ (by decide)] at this; exact this⟩
              rcases hc' j' h1 h4 with q | q
              · exact Or.inl q
              · exact Or.inr ⟨q.1, by omega⟩
theorem q0_passYear (R : cR M i s) (w : wf s) (hy : 0 ≤ s 0 8 ∧ s 0 8 ≤ 5000) (h : ∀ M', cR M' i (ye s) → jfm 0 i M M' → V M') : jCall 10 [jR 0 i 0] M (jqv V) := by
  obtain ⟨e5, e6, e7, e8⟩ := cR_f R
  have w1 := w.1
  have w2 := w.2.1
  have w3 := w.2.2.1
  refine vX0_passYear ?_
  rw [e8]
  refine ⟨jr_i (by omega), ?_⟩
  intro m1
  have R1 : cR m1 i (su s 0 8 (s 0 8 + 1)) := cR_v R (by decide)
  have F1 : jfm 0 i M m1 := jfm_u
  have e6' : m1 0 i 0 6 = s 0 6 := (cR_f R1).2.1
  clear_value m1
  have wa : wf (su s 0 8 (s 0 8 + 1)) := wf_v w (Or.inr (Or.inr rfl))
  refine q0_spoilAll R1 wa (fun M2 R2 F2 => ?_)
  generalize hT : sy (su s 0 8 (s 0 8 + 1)) = T at R2
  have hye : ye s = it ea (T 0 6).toNat T := by
    unfold ye
    rw [hT, ← hT, sy_k _ (by decide), su_nj s _ (by decide)]
  have hnT : nj (su s 0 8 (s 0 8 + 1)) = nj T := by rw [← hT, nj_sy]
  rw [hnT]
  have wT : wf T := by rw [← hT]; exact wf_sy wa
  have t6 : T 0 6 = s 0 6 := by rw [← hT, sy_k _ (by decide), su_nj s _ (by decide)]
  obtain ⟨g5, g6, g7, g8⟩ := cR_f R2
  have og := op_g wT
  have t7 := wT.2.2.1
  rw [g6, g7, e6', ← t6]
  obtain ⟨e, he⟩ := jnat (show 0 ≤ min (T 0 6) (op T (nj T)) by rw [t6]; omega)
  have hyr := it_year wT he.symm
  rw [← hye] at hyr
  rw [he]
  have t6' : 0 ≤ T 0 6 ∧ T 0 6 ≤ 20 := by rw [t6]; exact w2
  refine ⟨jr_i (by omega), jr_i (by omega), ?_⟩
  intro m3
  have R3 : cR m3 i (su T 0 7 (min 9999 (T 0 7 + T 0 6 - (e : Int)))) := cR_v R2 (by decide)
  have F3 : jfm 0 i M m3 := jfm_u2 (jfm_tr F1 F2)
  clear_value m3
  have hwU : wf (su T 0 7 (min 9999 (T 0 7 + T 0 6 - (e : Int)))) := wf_v wT (Or.inr (Or.inl ⟨rfl, by omega, by omega⟩))
  have hoU : op (su T 0 7 (min 9999 (T 0 7 + T 0 6 - (e : Int)))) (nj T) = op T (nj T) := op_e (nj T) (fun j _ => ⟨su_nc T _ (by decide), su_nc T _ (by decide)⟩)
  have hnU : nj (su T 0 7 (min 9999 (T 0 7 + T 0 6 - (e : Int)))) = nj T := nj_su (by omega)
  generalize su T 0 7 (min 9999 (T 0 7 + T 0 6 - (e : Int))) = U at R3 hyr hwU hoU hnU
  have L := lp_n (X := fun j => ∀ (M' : jM) (b : Nat), b ≤ e → cR M' i (it ea b U) → jfm 0 i M M' → (b = e ∨ ∀ j', j' < nj U → oj (it ea b U) j' → U 3 j' ≤ 5 - (j : Int)) → jAt 10 45 [some (jR 0 i 0), some (jI ((e : Int) - b)), some (jI (5 - (j : Int)))] [] M' (jqv V)) 6 ?_ ?_
  · have L0 := L m3 0 (Nat.zero_le _) R3 F3 (Or.inr fun j' h1 h2 => by have := (hwU.2.2.2 j' (nj_lt h1)).2.2.1; omega)
    rw [show (e : Int) - ((0 : Nat) : Int) = e by omega, show (5 : Int) - ((0 : Nat) : Int) = 5 by omega] at L0
    exact L0
  · intro M' b hb R' F hc
    refine vX0_passYear_45 (jif1 (by omega) (qv_ (h M' ?_ F)))
    have hbe : b = e := by
      rcases hc with hc | hc
      · exact hc
      · have h1 := it_o b hwU (by rw [hnU, hoU]; omega)
        have h2 : op (it ea b U) (nj U) = 0 := op_0 (nj U) (fun j hj => (wf_4 (wf_it b hwU) j (by rw [nj_it]; exact hj)).1) (fun j hj ho => by
          have a1 := hc j hj ho
          have a2 := (hwU.2.2.2 j (nj_lt hj)).2.2.1
          omega)
        rw [h2, hnU, hoU] at h1
        omega
    rw [hyr, ← hbe]
    exact R'
  · intro j hj ih M' b hb R' F hc
    refine vX0_passYear_45 (jif0 (by omega) (jite (fun c => qv_ (h M' ?_ F)) (fun c => ?_)))
    · rw [hyr, show e = b by omega]
      exact R'
    · have hc' := hc.resolve_left (by omega)
      obtain ⟨d, hd⟩ : ∃ d : Nat, (e : Int) - b = (d : Int) := jnat (by omega)
      rw [hd]
      have wb := wf_it b hwU
      have ob := (it_o b hwU (by rw [hnU, hoU]; omega)).1
      refine q0_eatOn R' wb (by rw [nj_it, ob, hnU, hoU]; omega) (fun j' h1 h2 => by
        rw [nj_it] at h1
        rw [it_k b U (by decide) (by omega)]
        exact hc' j' h1 h2) (fun M2 b2 hb2 R2 F2 hc2 => ?_)
      rw [nj_it] at hc2
      rw [← it_a] at R2 hc2
      refine ⟨jr_i (by omega), jr_i (by omega), ?_⟩
      have ih2 := ih M2 (b + b2) (by omega) R2 (jfm_tr F F2)
      rw [show (e : Int) - ((b + b2 : Nat) : Int) = (d : Int) - b2 by omega, show (5 : Int) - ((j + 1 : Nat) : Int) = 5 - (j : Int) + -1 by omega] at ih2
      refine ih2 ?_
      rcases hc2 with z | z
      · exact Or.inl (by omega)
      · refine Or.inr fun j' h1 h2 => ?_
        have := z j' h1 h2
        rw [it_k b U (by decide) (by omega)] at this
        omega
theorem q0_pass (R : cR M i s) (w : wf s) (hy : 0 ≤ s 0 8 ∧ s 0 8 ≤ 2000) {n : Nat} (hn : n ≤ 60) (h : ∀ M', cR M' i (it ye n s) → jfm 0 i M M' → V M') : jCall 9 [jR 0 i 0, jI (n : Int)] M (jqv V) := by
  refine vX0_pass ?_
  refine lp_n (X := fun j => ∀ M', cR M' i (it ye j s) → jfm 0 i M M' → jAt 9 2 [some (jR 0 i 0), some (jI (n : Int)), some (jI (j : Int))] [] M' (jqv V)) n ?_ ?_ M R jfm_rf
  · intro M' R' F
    exact vX0_pass_2 (jif1 (by omega) (qv_ (h M' R' F)))
  · intro j hj ih M' R' F
    refine vX0_pass_2 (jif0 (by omega) (q0_passYear R' (wf_yn j w) (by rw [yn_8]; omega) (fun M2 R2 F2 => ⟨jr_i (by omega), ih M2 ?_ (jfm_tr F F2)⟩)))
    rw [it_s]; exact R2
theorem q0_become {i2 : Nat} (hi : i2 ≠ i) (R2 : cR M i2 s) (w : wf s) (h : ∀ M', cR M' i s → jfm 0 i M M' → V M') : jCall 0 [jR 0 i 0, jR 0 i2 0] M (jqv V) := by
  have w1 := w.1
  have hn := nj_n w
  refine vX0_become ?_
  refine lp_n (X := fun j => ∀ M' : jM, (∀ c j', 1 ≤ c → c ≤ 5 → j' < j → M' 0 i c j' = s c j') → jfm 0 i M M' → jAt 0 7 [some (jR 0 i 0), some (jR 0 i2 0), some (jI (j : Int))] [] M' (jqv V)) (nj s) ?_ ?_ M (fun _ _ _ _ h => absurd h (Nat.not_lt_zero _)) jfm_rf
  · intro M' I F
    have e := cR_f (cR_fr R2 F (fun z => hi z.2))
    refine vX0_become_7 (jif1 (by omega) ?_)
    intro m1 m2 m3 m4
    refine qv_ (h m4 ⟨fun f h1 h2 => ?_, fun c j' h1 h2 h3 => ?_⟩ (jfm_u2 (jfm_u2 (jfm_u2 (jfm_u2 F)))))
    · have d1 : m1 0 i2 0 6 = s 0 6 := (jupd_ne M' _ (by omega)).trans e.2.1
      have d2 : m2 0 i2 0 7 = s 0 7 := ((jupd_ne m1 _ (by omega)).trans (jupd_ne M' _ (by omega))).trans e.2.2.1
      have d3 : m3 0 i2 0 8 = s 0 8 := (((jupd_ne m2 _ (by omega)).trans (jupd_ne m1 _ (by omega))).trans (jupd_ne M' _ (by omega))).trans e.2.2.2
      rcases (show f = 5 ∨ f = 6 ∨ f = 7 ∨ f = 8 by omega) with rfl | rfl | rfl | rfl
      · exact (((jupd_ne m3 _ (by omega)).trans (jupd_ne m2 _ (by omega))).trans (jupd_ne m1 _ (by omega))).trans ((jupd_at _ _ _ _ _ _).trans e.1)
      · exact ((jupd_ne m3 _ (by omega)).trans (jupd_ne m2 _ (by omega))).trans ((jupd_at _ _ _ _ _ _).trans d1)
      · exact (jupd_ne m3 _ (by omega)).trans ((jupd_at _ _ _ _ _ _).trans d2)
      · exact (jupd_at _ _ _ _ _ _).trans d3
    · exact ((((jupd_ne m3 _ (by omega)).trans (jupd_ne m2 _ (by omega))).trans (jupd_ne m1 _ (by omega))).trans (jupd_ne M' _ (by omega))).trans (I c j' h1 h2 (lt_nj h3))
  · intro j hj ih M' I F
    have hj' := nj_lt hj
    have Re := cR_fr R2 F (fun z => hi z.2)
    have e := (cR_f Re).1
    have hb : 0 ≤ (j : Int) ∧ (j : Int) < ((9 : Nat) : Int) := ⟨by omega, by omega⟩
    obtain ⟨e1, e2, e3, e4, e5⟩ := cR_j Re hj'
    have hs5 := (w.2.2.2 j hj').2.2.2.2
    refine vX0_become_7 (jif0 (by omega) (jif0 (by omega) ⟨hb, hb, ?_⟩))
    intro m1
    refine ⟨hb, hb, ?_⟩
    intro m2
    refine ⟨hb, hb, ?_⟩
    intro m3
    refine ⟨hb, hb, ?_⟩
    intro m4
    have d1 : m1 0 i2 2 (j : Int).toNat = s 2 j := (jupd_ne M' _ (by omega)).trans e2
    have d2 : m2 0 i2 3 (j : Int).toNat = s 3 j := ((jupd_ne m1 _ (by omega)).trans (jupd_ne M' _ (by omega))).trans e3
    have d3 : m3 0 i2 4 (j : Int).toNat = s 4 j := (((jupd_ne m2 _ (by omega)).trans (jupd_ne m1 _ (by omega))).trans (jupd_ne M' _ (by omega))).trans e4
    have d4 : m4 0 i2 5 (j : Int).toNat = s 5 j := ((((jupd_ne m3 _ (by omega)).trans (jupd_ne m2 _ (by omega))).trans (jupd_ne m1 _ (by omega))).trans (jupd_ne M' _ (by omega))).trans e5
    refine ⟨hb, ⟨hb, by rw [d4]; exact hs5⟩, ?_⟩
    intro m5
    refine ⟨jr_i (by omega), ih m5 (fun c j' h1 h2 h3 => ?_) (jfm_u2 (jfm_u2 (jfm_u2 (jfm_u2 (jfm_u2 F)))))⟩
    have ej : (j : Int).toNat = j := rfl
    by_cases z : j' = j
    · subst z
      rcases (show c = 1 ∨ c = 2 ∨ c = 3 ∨ c = 4 ∨ c = 5 by omega) with rfl | rfl | rfl | rfl | rfl
      · exact ((((jupd_ne m4 _ (by omega)).trans (jupd_ne m3 _ (by omega))).trans (jupd_ne m2 _ (by omega))).trans (jupd_ne m1 _ (by omega))).trans ((jupd_at _ _ _ _ _ _).trans e1)
      · exact (((jupd_ne m4 _ (by omega)).trans (jupd_ne m3 _ (by omega))).trans (jupd_ne m2 _ (by omega))).trans ((jupd_at _ _ _ _ _ _).trans d1)
      · exact ((jupd_ne m4 _ (by omega)).trans (jupd_ne m3 _ (by omega))).trans ((jupd_at _ _ _ _ _ _).trans d2)
      · exact (jupd_ne m4 _ (by omega)).trans ((jupd_at _ _ _ _ _ _).trans d3)
      · exact (jupd_at _ _ _ _ _ _).trans d4
    · exact (((((jupd_ne m4 _ (by omega)).trans (jupd_ne m3 _ (by omega))).trans (jupd_ne m2 _ (by omega))).trans (jupd_ne m1 _ (by omega))).trans (jupd_ne M' _ (by omega))).trans (I c j' h1 h2 (by omega))
end Shelves3

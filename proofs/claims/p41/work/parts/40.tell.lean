-- Letters: what a statement does, on both sides
def te (c : Nat → Int) (p : Nat) (S : jT) : jT :=
  if c p = 106 then ad S (kx (c (p + 1))) (dg c (p + 2)) (dg c (p + 3)) (dd c (p + 4))
  else if c p = 109 then su S 3 (dg c (p + 1)).toNat (dg c (p + 2))
  else if c p = 101 then su S 4 (dg c (p + 1)).toNat (max 0 (S 4 (dg c (p + 1)).toNat - dg c (p + 2)))
  else if c p = 120 then su S 5 (dg c (p + 1)).toNat (if S 5 (dg c (p + 1)).toNat = 0 then 1 else 0)
  else if c p = 102 then su S 0 6 (dd c (p + 1))
  else it ye (dd c (p + 1)).toNat S
def tk (c : Nat → Int) (p : Nat) (S : jT) : Prop :=
  (c p = 106 → dg c (p + 3) ≤ 5 ∧ dd c (p + 4) ≤ 20 ∧ S 0 5 < 9) ∧ (c p = 109 → dg c (p + 1) < S 0 5 ∧ dg c (p + 2) ≤ 5) ∧
  (c p = 101 → dg c (p + 1) < S 0 5 ∧ S 5 (dg c (p + 1)).toNat = 0) ∧ (c p = 120 → dg c (p + 1) < S 0 5) ∧ (c p = 102 → dd c (p + 1) ≤ 20) ∧
  (c p = 121 → 1 ≤ dd c (p + 1) ∧ dd c (p + 1) ≤ 60 ∧ S 0 8 + dd c (p + 1) ≤ 999)
def dok (c : Nat → Int) (q : Nat) : Prop := 0 ≤ dg c q ∧ dg c q ≤ 9
section Tell
variable {M : jM} {s S : jT} {t : Int} {K : Int → jM → Prop} {V : jM → Prop} {c : Nat → Int} {N : Nat}
theorem gd_c {p : Nat} (h : gd c p) : c p = 101 ∨ c p = 102 ∨ c p = 106 ∨ c p = 109 ∨ c p = 120 ∨ c p = 121 := by
  have h3 := h.1
  rcases Decidable.em (c p = 101) with z | z1
  · exact Or.inl z
  rcases Decidable.em (c p = 102) with z | z2
  · exact Or.inr (Or.inl z)
  rcases Decidable.em (c p = 106) with z | z3
  · exact Or.inr (Or.inr (Or.inl z))
  rcases Decidable.em (c p = 109) with z | z4
  · exact Or.inr (Or.inr (Or.inr (Or.inl z)))
  rcases Decidable.em (c p = 120) with z | z5
  · exact Or.inr (Or.inr (Or.inr (Or.inr (Or.inl z))))
  rcases Decidable.em (c p = 121) with z | z6
  · exact Or.inr (Or.inr (Or.inr (Or.inr (Or.inr z))))
  unfold sx at h3
  rw [if_neg z1, if_neg z2, if_neg z3, if_neg z4, if_neg z5, if_neg z6] at h3
  exact absurd rfl h3
theorem gd_d {p i : Nat} (h : gd c p) (hi : i < jsl (sx (c p))) (hs : (jst (sx (c p))).getD i 0 = 48) : dok c (p + 1 + i) := by
  have := h.2 i hi
  rw [okf_sg hs, ft_48, decide_eq_true_eq] at this
  unfold dok dg
  omega
theorem gd_j {p : Nat} (h : gd c p) (e : c p = 106) : (0 ≤ kx (c (p + 1)) ∧ kx (c (p + 1)) ≤ 5) ∧ dok c (p + 2) ∧ dok c (p + 3) ∧ dok c (p + 4) ∧ dok c (p + 5) := by
  have h2 : sx (c p) = 0 := by rw [e]; rfl
  have hl : jsl (sx (c p)) = 6 := by rw [h2]; rfl
  have k0 := h.2 0 (by omega)
  rw [okf_k e, decide_eq_true_eq] at k0
  have kr := kx_r (c (p + 1))
  exact ⟨by omega, gd_d h (i := 1) (by omega) (by rw [h2]; rfl), gd_d h (i := 2) (by omega) (by rw [h2]; rfl), gd_d h (i := 3) (by omega) (by rw [h2]; rfl), gd_d h (i := 4) (by omega) (by rw [h2]; rfl)⟩
theorem gd_m {p : Nat} (h : gd c p) (e : c p = 101 ∨ c p = 102 ∨ c p = 109 ∨ c p = 121) : dok c (p + 1) ∧ dok c (p + 2) := by
  have h2 : sx (c p) = 2 := by rcases e with e | e | e | e <;> rw [e] <;> rfl
  have hl : jsl (sx (c p)) = 3 := by rw [h2]; rfl
  exact ⟨gd_d h (i := 0) (by omega) (by rw [h2]; rfl), gd_d h (i := 1) (by omega) (by rw [h2]; rfl)⟩
theorem gd_x {p : Nat} (h : gd c p) (e : c p = 120) : dok c (p + 1) := by
  have h2 : sx (c p) = 1 := by rw [e]; rfl
  have hl : jsl (sx (c p)) = 2 := by rw [h2]; rfl
  exact gd_d h (i := 0) (by omega) (by rw [h2]; rfl)
theorem te_ok {p : Nat} (h : gd c p) (w : wf S) (y : yr 999 S) (k : tk c p S) : wf (te c p S) ∧ yr 999 (te c p S) := by
  obtain ⟨k1, k2, k3, k4, k5, k6⟩ := k
  have y1 := y.1
  have y2 := y.2
  unfold te
  split
  · rename_i e
    obtain ⟨a, b, d, f, g⟩ := gd_j h e
    obtain ⟨q1, q2, q3⟩ := k1 e
    unfold dok at b d f g
    refine ⟨wf_ad w q3 a b ⟨d.1, q1⟩ ⟨show 0 ≤ 10 * dg c (p + 4) + dg c (p + 5) by omega, q2⟩, ?_⟩
    unfold yr
    rw [ad_f _ _ _ _ _ (by decide)]; exact y
  · split
    · rename_i e
      obtain ⟨a, b⟩ := gd_m h (by omega)
      unfold dok at a b
      exact ⟨wf_u w (by have := k2 e; omega), yr_u (by omega) y⟩
    · split
      · rename_i e
        obtain ⟨a, b⟩ := gd_m h (by omega)
        unfold dok at a b
        have q := k3 e
        have w4 := wf_4 w (dg c (p + 1)).toNat (lt_nj (by omega))
        exact ⟨wf_u w (by omega), yr_u (by omega) y⟩
      · split
        · refine ⟨wf_u w ?_, yr_u (by omega) y⟩
          refine Or.inr (Or.inr (Or.inr (Or.inr ⟨rfl, ?_⟩)))
          split <;> omega
        · split
          · rename_i e
            obtain ⟨a, b⟩ := gd_m h (by omega)
            unfold dok at a b
            have e2 : dd c (p + 1) = 10 * dg c (p + 1) + dg c (p + 2) := rfl
            have q := k5 e
            exact ⟨wf_v w (by omega), yr_u (by omega) y⟩
          · rename_i z1 z2 z3 z4 z5
            have e : c p = 121 := by have := gd_c h; omega
            have q := k6 e
            refine ⟨wf_yn _ w, ?_⟩
            unfold yr
            rw [yn_8]; omega
-- the class
theorem tx_e {M' : jM} (X : tx M c N) (F : ∀ i q j, M' 1 i q j = M 1 i q j) : tx M' c N := ⟨(F _ _ _).trans X.1, X.2.1, fun p => ⟨fun h => ⟨(F _ _ _).trans ((X.2.2 p).1 h).1, ((X.2.2 p).1 h).2⟩, (X.2.2 p).2⟩⟩
theorem q1_digitAt (X : tx M c N) {p : Nat} (hp : p < N) (h : K (dg c p) M) : jCall 31 [jR 1 0 0, jI (p : Int)] M (jqi K) := by
  have := ((X.2.2 p).1 hp).2
  exact vX1_digitAt (q1_letterAt X hp ⟨jr_i (by omega), qi_ h⟩)
theorem q1_twoDigitsAt (X : tx M c N) {p : Nat} (hp : p + 1 < N) (h : K (dd c p) M) : jCall 32 [jR 1 0 0, jI (p : Int)] M (jqi K) := by
  have x2 := X.2.1
  have a := ((X.2.2 p).1 (by omega)).2
  have b := ((X.2.2 (p + 1)).1 hp).2
  have d1 : dg c p = c p - 48 := rfl
  have d2 : dg c (p + 1) = c (p + 1) - 48 := rfl
  refine vX1_twoDigitsAt (q1_digitAt X (by omega) ⟨jr_i (by omega), jr_i (by omega), ?_⟩)
  exact q1_digitAt X hp ⟨jr_i (show -2147483648 ≤ 10 * dg c p + dg c (p + 1) ∧ 10 * dg c p + dg c (p + 1) < 2147483648 by omega), qi_ h⟩
theorem q1_tellMoved (R : cR M 3 S) (w : wf S) {a : Nat} {b : Int} (hb : 0 ≤ b ∧ b ≤ 9) (h1 : (a : Int) < S 0 5 → b ≤ 5 → ∀ M', cR M' 3 (su S 3 a b) → jfm 0 3 M M' → K 1 M') (h0 : ¬ ((a : Int) < S 0 5 ∧ b ≤ 5) → K 0 M) : jCall 35 [jR 1 0 0, jI (a : Int), jI b] M (jqi K) := by
  have w1 := w.1
  refine vX1_tellMoved (q0_has R w (fun _ l => jif0 (by decide) (q1_isShelf (fun _ d => jif1 (by decide) ⟨⟨by omega, by omega⟩, ?_⟩) (fun z => jif0 (by decide) ⟨jz0, qi_ (h0 (by omega))⟩))) (fun z => jif1 rfl ⟨jz0, qi_ (h0 (by omega))⟩))
  intro m3
  exact ⟨jz1, qi_ (h1 l d m3 (cR_u R (by decide)) jfm_u)⟩
theorem q1_tellShut (R : cR M 3 S) (w : wf S) {a : Nat} (h1 : (a : Int) < S 0 5 → ∀ M', cR M' 3 (su S 5 a (if S 5 a = 0 then 1 else 0)) → jfm 0 3 M M' → K 1 M') (h0 : ¬ (a : Int) < S 0 5 → K 0 M) : jCall 36 [jR 1 0 0, jI (a : Int)] M (jqi K) := by
  have w1 := w.1
  refine vX1_tellShut (q0_has R w (fun _ l => jif1 (by decide) ⟨⟨by omega, by omega⟩, ?_⟩) (fun z => jif0 (by decide) ⟨jz0, qi_ (h0 (by omega))⟩))
  obtain ⟨e1, e2, e3, e4, e5⟩ := cR_j R l
  have g := h1 l
  rw [e5]
  refine jite (fun z => ⟨⟨⟨by omega, by omega⟩, jz0⟩, ?_⟩) (fun z => ⟨⟨⟨by omega, by omega⟩, jz1⟩, ?_⟩)
  · intro m2
    rw [if_neg z] at g
    exact ⟨jz1, qi_ (g m2 (cR_u R (by decide)) jfm_u)⟩
  · intro m3
    rw [if_pos (Decidable.not_not.mp z)] at g
    exact ⟨jz1, qi_ (g m3 (cR_u R (by decide)) jfm_u)⟩
theorem q1_tellFolk (R : cR M 3 S) {v : Int} (h1 : v ≤ 20 → ∀ M', cR M' 3 (su S 0 6 v) → jfm 0 3 M M' → K 1 M') (h0 : ¬ v ≤ 20 → K 0 M) : jCall 37 [jR 1 0 0, jI v] M (jqi K) := by
  refine vX1_tellFolk (jite (fun z => ?_) (fun z => ⟨jz0, qi_ (h0 z)⟩))
  intro m1
  exact ⟨jz1, qi_ (h1 z m1 (cR_v R (by decide)) jfm_u)⟩
theorem q1_tellEaten (R : cR M 3 S) (w : wf S) {a : Nat} {b : Int} (hb : 0 ≤ b ∧ b ≤ 9) (h1 : (a : Int) < S 0 5 → S 5 a = 0 → ∀ M', cR M' 3 (su S 4 a (max 0 (S 4 a - b))) → jfm 0 3 M M' → K 1 M') (h0 : ¬ ((a : Int) < S 0 5 ∧ S 5 a = 0) → K 0 M) : jCall 38 [jR 1 0 0, jI (a : Int), jI b] M (jqi K) := by
  have w1 := w.1
  refine vX1_tellEaten (q0_has R w (fun _ l => jif0 (by decide) ⟨⟨by omega, by omega⟩, ?_⟩) (fun z => jif1 rfl ⟨jz0, qi_ (h0 (by omega))⟩))
  obtain ⟨e1, e2, e3, e4, e5⟩ := cR_j R l
  rw [e5]
  exact jite (fun z => q0_lessFood R w l (by omega) (fun M' R' F' => ⟨jz1, qi_ (h1 l z M' R' F')⟩)) (fun z => ⟨jz0, qi_ (h0 (fun q => z q.2))⟩)
theorem q1_tellYears (R : cR M 3 S) (w : wf S) (y : yr 999 S) {v : Nat} (hv : v ≤ 99) (h1 : 1 ≤ v → v ≤ 60 → S 0 8 + v ≤ 999 → ∀ M', cR M' 3 (it ye v S) → jfm 0 3 M M' → K 1 M') (h0 : ¬ (1 ≤ (v : Int) ∧ (v : Int) ≤ 60 ∧ S 0 8 + v ≤ 999) → K 0 M) : jCall 39 [jR 1 0 0, jI (v : Int)] M (jqi K) := by
  have y1 := y.1
  have y2 := y.2
  refine vX1_tellYears (jite (fun z => ⟨jz0, qi_ (h0 (by omega))⟩) (fun z1 => jite (fun z => ⟨jz0, qi_ (h0 (by omega))⟩) (fun z2 => ?_)))
  rw [(cR_f R).2.2.2]
  exact ⟨jr_i (by omega), jite (fun z => q0_pass R w (y_in y) (by omega) (fun M' R' F' => ⟨jz1, qi_ (h1 (by omega) (by omega) z M' R' F')⟩)) (fun z => ⟨jz0, qi_ (h0 (by omega))⟩)⟩
theorem q1_tellOne (X : tx M c N) {p : Nat} (hg : gd c p) (R : cR M 3 S) (w : wf S) (y : yr 999 S) (h1 : tk c p S → ∀ M', cR M' 3 (te c p S) → jfm 0 3 M M' → K 1 M') (h0 : ¬ tk c p S → ∀ M', jfm 0 3 M M' → K 0 M') : jCall 33 [jR 1 0 0, jI (p : Int)] M (jqi K) := by
  have w1 := w.1
  have x2 := X.2.1
  have T : ∀ p, N ≤ p → c p = -1 := fun p h => (X.2.2 p).2 h
  have hle := gd_le T hg
  have hp := sx_lt T hg.1
  refine vX1_tellOne (q1_letterAt X hp ?_)
  by_cases e101 : c p = 101
  · obtain ⟨a, b⟩ := gd_m hg (Or.inl e101)
    have hl : jsl (sx (c p)) = 3 := by rw [e101]; rfl
    unfold te tk at h1
    unfold tk at h0
    rw [if_neg (show ¬ c p = 106 by omega), if_neg (show ¬ c p = 109 by omega), if_pos e101] at h1
    refine jif1 e101 ⟨jr_i (by omega), q1_digitAt (p := p + 1) X (by omega) ⟨jr_i (by omega), q1_digitAt (p := p + 2) X (by omega) ?_⟩⟩
    obtain ⟨j, hj⟩ := jnat a.1
    have hjt : (dg c (p + 1)).toNat = j := by rw [hj]; rfl
    rw [hjt] at h1 h0
    rw [hj] at h1 h0 ⊢
    exact q1_tellEaten R w b (fun l z M' R' F' => ⟨jz1, qi_ (h1 ⟨fun q => by omega, fun q => by omega, fun _ => ⟨l, z⟩, fun q => by omega, fun q => by omega, fun q => by omega⟩ M' R' F')⟩) (fun z => ⟨jz0, qi_ (h0 (fun q => z (q.2.2.1 e101)) M jfm_rf)⟩)
  by_cases e102 : c p = 102
  · obtain ⟨a, b⟩ := gd_m hg (Or.inr (Or.inl e102))
    have hl : jsl (sx (c p)) = 3 := by rw [e102]; rfl
    unfold te tk at h1
    unfold tk at h0
    rw [if_neg (show ¬ c p = 106 by omega), if_neg (show ¬ c p = 109 by omega), if_neg e101, if_neg (show ¬ c p = 120 by omega), if_pos e102] at h1
    exact jif0 e101 (jif1 e102 ⟨jr_i (by omega), q1_twoDigitsAt (p := p + 1) X (by omega) (q1_tellFolk R (fun z M' R' F' => ⟨jz1, qi_ (h1 ⟨fun q => by omega, fun q => by omega, fun q => by omega, fun q => by omega, fun _ => z, fun q => by omega⟩ M' R' F')⟩) (fun z => ⟨jz0, qi_ (h0 (fun q => z (q.2.2.2.2.1 e102)) M jfm_rf)⟩))⟩)
  by_cases e106 : c p = 106
  · obtain ⟨a, b, d, f, g⟩ := gd_j hg e106
    have hl : jsl (sx (c p)) = 6 := by rw [e106]; rfl
    have f' := f
    have g' := g
    unfold dok at d f' g'
    unfold te tk at h1
    unfold tk at h0
    rw [if_pos e106] at h1
    refine jif0 e101 (jif0 e102 (jif1 e106 (vX1_tellJar ⟨jr_i (by omega), q1_letterAt (p := p + 1) X (by omega) (q1_kindOf ⟨jr_i (by omega), q1_digitAt (p := p + 3) X (by omega) ⟨jr_i (by omega), q1_twoDigitsAt (p := p + 4) X (by omega) (jif0 (by omega) (q1_isShelf (fun _ s5 => jif0 (by decide) (jite (fun z => ⟨jz0, qi_ ?_⟩) (fun z => q0_isFull R (fun q => jif0 (by decide) ⟨jz0, qi_ ?_⟩) (fun q => jif1 rfl ⟨jr_i (by omega), q1_digitAt (p := p + 2) X (by omega) (q0_add R w q (fun M' R' F' => ⟨jz1, qi_ ?_⟩))⟩)))) (fun z => jif1 rfl ⟨jz0, qi_ ?_⟩)))⟩⟩)⟩)))
    · exact ⟨jz0, qi_ (h0 (fun k => by have := (k.1 e106).2.1; omega) M jfm_rf)⟩
    · exact ⟨jz0, qi_ (h0 (fun k => q (k.1 e106).2.2) M jfm_rf)⟩
    · exact ⟨jz1, qi_ (h1 ⟨fun _ => ⟨s5, by omega, q⟩, fun q => by omega, fun q => by omega, fun q => by omega, fun q => by omega, fun q => by omega⟩ M' R' F')⟩
    · exact ⟨jz0, qi_ (h0 (fun k => by have := (k.1 e106).1; omega) M jfm_rf)⟩
  by_cases e109 : c p = 109
  · obtain ⟨a, b⟩ := gd_m hg (Or.inr (Or.inr (Or.inl e109)))
    have hl : jsl (sx (c p)) = 3 := by rw [e109]; rfl
    unfold te tk at h1
    unfold tk at h0
    rw [if_neg e106, if_pos e109] at h1
    refine jif0 e101 (jif0 e102 (jif0 e106 (jif1 e109 ⟨jr_i (by omega), q1_digitAt (p := p + 1) X (by omega) ⟨jr_i (by omega), q1_digitAt (p := p + 2) X (by omega) ?_⟩⟩)))
    obtain ⟨j, hj⟩ := jnat a.1
    have hjt : (dg c (p + 1)).toNat = j := by rw [hj]; rfl
    rw [hjt] at h1 h0
    rw [hj] at h1 h0 ⊢
    exact q1_tellMoved R w b (fun l z M' R' F' => ⟨jz1, qi_ (h1 ⟨fun q => by omega, fun _ => ⟨l, z⟩, fun q => by omega, fun q => by omega, fun q => by omega, fun q => by omega⟩ M' R' F')⟩) (fun z => ⟨jz0, qi_ (h0 (fun q => z (q.2.1 e109)) M jfm_rf)⟩)
  by_cases e120 : c p = 120
  · have a := gd_x hg e120
    have hl : jsl (sx (c p)) = 2 := by rw [e120]; rfl
    unfold te tk at h1
    unfold tk at h0
    rw [if_neg e106, if_neg e109, if_neg e101, if_pos e120] at h1
    refine jif0 e101 (jif0 e102 (jif0 e106 (jif0 e109 (jif1 e120 ⟨jr_i (by omega), q1_digitAt (p := p + 1) X (by omega) ?_⟩))))
    obtain ⟨j, hj⟩ := jnat a.1
    have hjt : (dg c (p + 1)).toNat = j := by rw [hj]; rfl
    rw [hjt] at h1 h0
    rw [hj] at h1 h0 ⊢
    exact q1_tellShut R w (fun l M' R' F' => ⟨jz1, qi_ (h1 ⟨fun q => by omega, fun q => by omega, fun q => by omega, fun _ => l, fun q => by omega, fun q => by omega⟩ M' R' F')⟩) (fun z => ⟨jz0, qi_ (h0 (fun q => z (q.2.2.2.1 e120)) M jfm_rf)⟩)
  have e121 : c p = 121 := by have := gd_c hg; omega
  obtain ⟨a, b⟩ := gd_m hg (Or.inr (Or.inr (Or.inr e121)))
  have hl : jsl (sx (c p)) = 3 := by rw [e121]; rfl
  unfold te tk at h1
  unfold tk at h0
  rw [if_neg e106, if_neg e109, if_neg e101, if_neg e120, if_neg e102] at h1
  unfold dok at a b
  refine jif0 e101 (jif0 e102 (jif0 e106 (jif0 e109 (jif0 e120 (jif1 e121 ⟨jr_i (by omega), q1_twoDigitsAt (p := p + 1) X (by omega) ?_⟩)))))
  have hdd : 0 ≤ dd c (p + 1) ∧ dd c (p + 1) ≤ 99 := by
    unfold dd
    show 0 ≤ 10 * dg c (p + 1) + dg c (p + 2) ∧ 10 * dg c (p + 1) + dg c (p + 2) ≤ 99
    omega
  obtain ⟨v, hv⟩ := jnat hdd.1
  have hvt : (dd c (p + 1)).toNat = v := by rw [hv]; rfl
  rw [hvt] at h1
  rw [hv] at h1 h0 ⊢
  exact q1_tellYears R w y (by omega) (fun l1 l2 l3 M' R' F' => ⟨jz1, qi_ (h1 ⟨fun q => by omega, fun q => by omega, fun q => by omega, fun q => by omega, fun q => by omega, fun _ => ⟨by omega, by omega, l3⟩⟩ M' R' F')⟩) (fun z => ⟨jz0, qi_ (h0 (fun q => z (q.2.2.2.2.2 e121)) M jfm_rf)⟩)
-- the reference
end Tell

-- Letters: the reference reads a statement
/-- the place, and numbers, may have changed -/
def jnf (M M' : jM) : Prop := ∀ k i c j, ¬ (k = 2 ∧ i = 0 ∧ c = 0 ∧ j = 10) → ¬ (k = 2 ∧ i = 0 ∧ c = 4) → M' k i c j = M k i c j
theorem jnf_rf {M : jM} : jnf M M := fun _ _ _ _ _ _ => rfl
theorem jnf_tr {M M' M'' : jM} (h : jnf M M') (h' : jnf M' M'') : jnf M M'' := fun k i c j z z' => (h' k i c j z z').trans (h k i c j z z')
theorem jnf_p {M : jM} {x : Int} : jnf M (jupd M 2 0 0 10 x) := fun k i c j z _ => jupd_ne M x z
theorem jnf_n {M : jM} {j : Nat} {x : Int} : jnf M (jupd M 2 0 4 j x) := fun k i c j' _ z => jupd_ne M x (fun e => z ⟨e.1, e.2.1, e.2.2.1⟩)
def dg (c : Nat → Int) (p : Nat) : Int := c p - 48
def dd (c : Nat → Int) (p : Nat) : Int := 10 * dg c p + dg c (p + 1)
/-- what the numbers are behind a statement at p -/
def nb (M : jM) (c : Nat → Int) (p : Nat) : Prop :=
  (c p = 106 → M 2 0 4 0 = kx (c (p + 1)) ∧ M 2 0 4 1 = dg c (p + 2) ∧ M 2 0 4 2 = dg c (p + 3) ∧ M 2 0 4 3 = dd c (p + 4)) ∧
  (c p = 109 ∨ c p = 101 → M 2 0 4 0 = dg c (p + 1) ∧ M 2 0 4 1 = dg c (p + 2)) ∧
  (c p = 120 → M 2 0 4 0 = dg c (p + 1)) ∧ (c p = 102 ∨ c p = 121 → M 2 0 4 0 = dd c (p + 1))
section Read
variable {M : jM} {s : jT} {t : Int} {K : Int → jM → Prop} {V : jM → Prop} {c : Nat → Int} {N : Nat}
theorem ty_e {M' : jM} (Y : ty M c N) (F : jnf M M') : ty M' c N := ⟨(F _ _ _ _ (by omega) (by omega)).trans Y.1, Y.2.1, fun p => ⟨fun h => ⟨(F _ _ _ _ (by omega) (by omega)).trans ((Y.2.2 p).1 h).1, ((Y.2.2 p).1 h).2⟩, (Y.2.2 p).2⟩⟩
theorem q2_here (Y : ty M c N) {p : Nat} (hp : p ≤ N) (hP : M 2 0 0 10 = (p : Int)) (h : K (c p) M) : jCall 125 [jR 2 0 0] M (jqi K) := by
  have y1 := Y.1
  have y2 := Y.2.1
  refine vX2_here ?_
  rw [hP, y1]
  by_cases z : p < N
  · have e : M 2 0 1 (p : Int).toNat = c p := ((Y.2.2 p).1 z).1
    refine jif0 (by omega) ⟨⟨by omega, by omega⟩, ?_⟩
    rw [e]; exact qi_ h
  · rw [(Y.2.2 p).2 (by omega)] at h
    exact jif1 (by omega) (qi_ h)
/-- one digit -/
theorem q2_digit (Y : ty M c N) {p k n x2 : Nat} (hp : p ≤ N) (hP : M 2 0 0 10 = (p : Int)) (hk : k < 4) (hn : n < x2) (hx : x2 ≤ 2) {v : Int} (hv : M 2 0 4 k = v) (hvr : 0 ≤ v ∧ v ≤ 9) {Q : jRt}
    (h1 : 48 ≤ c p → c p ≤ 57 → p < N → ∀ M', jnf M M' → M' 2 0 0 10 = ((p + 1 : Nat) : Int) → M' 2 0 4 k = 10 * v + dg c p → (∀ j, j ≠ k → M' 2 0 4 j = M 2 0 4 j) → jAt 126 9 [some (jR 2 0 0), some (jI (k : Int)), some (jI (x2 : Int)), some (jI ((n + 1 : Nat) : Int))] [] M' Q)
    (h0 : ¬ (48 ≤ c p ∧ c p ≤ 57) → Q (some (jI 0)) M) : jAt 126 9 [some (jR 2 0 0), some (jI (k : Int)), some (jI (x2 : Int)), some (jI (n : Int))] [] M Q := by
  have y2 := Y.2.1
  refine vX2_readsNumber_9 (jif0 (by omega) (q2_here Y hp hP (q2_isIn (fun a b => jif1 (by decide) ⟨⟨by omega, by omega⟩, ?_⟩) (fun z => jif0 (by decide) ⟨jz0, h0 z⟩))))
  have hlt : p < N := by
    rcases Nat.lt_or_ge p N with z | z
    · exact z
    · rw [(Y.2.2 p).2 z] at a; omega
  have ek : M 2 0 4 (k : Int).toNat = v := hv
  rw [ek]
  refine ⟨jr_i (by omega), q2_here Y hp hP ⟨jr_i (by omega), jr_i (by omega), ⟨by omega, by omega⟩, ?_⟩⟩
  intro m4
  have e10 : m4 2 0 0 10 = (p : Int) := (jupd_ne M _ (by omega)).trans hP
  rw [e10]
  refine ⟨jr_i (by omega), ?_⟩
  intro m5
  refine ⟨jr_i (by omega), h1 a b hlt m5 (jnf_tr jnf_n jnf_p) (jupd_at _ _ _ _ _ _) ?_ (fun j hj => ?_)⟩
  · refine (jupd_ne m4 _ (by omega)).trans ?_
    show jupd M 2 0 4 (k : Int).toNat (10 * v + c p - 48) 2 0 4 k = _
    have e : (k : Int).toNat = k := rfl
    rw [e, jupd_at]
    unfold dg; omega
  · refine (jupd_ne m4 _ (by omega)).trans (jupd_ne M _ ?_)
    have e : (k : Int).toNat = k := rfl
    rw [e]; omega
theorem q2_num1 (Y : ty M c N) {p k : Nat} (hp : p ≤ N) (hP : M 2 0 0 10 = (p : Int)) (hk : k < 4)
    (h1 : 48 ≤ c p → c p ≤ 57 → p < N → ∀ M', jnf M M' → M' 2 0 0 10 = ((p + 1 : Nat) : Int) → M' 2 0 4 k = dg c p → (∀ j, j ≠ k → M' 2 0 4 j = M 2 0 4 j) → K 1 M')
    (h0 : ¬ (48 ≤ c p ∧ c p ≤ 57) → ∀ M', jnf M M' → M' 2 0 0 10 = (p : Int) → K 0 M') : jCall 126 [jR 2 0 0, jI (k : Int), jI 1] M (jqi K) := by
  refine vX2_readsNumber ⟨⟨by omega, by omega⟩, ?_⟩
  intro m1
  have F1 : jnf M m1 := jnf_n
  have e10 : m1 2 0 0 10 = (p : Int) := (jupd_ne M _ (by omega)).trans hP
  have ek : m1 2 0 4 k = 0 := jupd_at _ _ _ _ _ _
  have eo : ∀ j, j ≠ k → m1 2 0 4 j = M 2 0 4 j := fun j hj => jupd_ne M _ (by show ¬ (2 = 2 ∧ 0 = 0 ∧ 4 = 4 ∧ j = k); omega)
  clear_value m1
  refine q2_digit (n := 0) (x2 := 1) (ty_e Y F1) hp e10 hk (by decide) (by decide) ek (by decide) (fun a b l M' F e1 e2 e3 => ?_) (fun z => qi_ (h0 z m1 F1 e10))
  exact vX2_readsNumber_9 (jif1 (by decide) ⟨jz1, qi_ (h1 a b l M' (jnf_tr F1 F) e1 (by rw [e2]; omega) (fun j hj => (e3 j hj).trans (eo j hj)))⟩)
theorem q2_num2 (Y : ty M c N) {p k : Nat} (hp : p ≤ N) (hP : M 2 0 0 10 = (p : Int)) (hk : k < 4)
    (h1 : 48 ≤ c p → c p ≤ 57 → 48 ≤ c (p + 1) → c (p + 1) ≤ 57 → p + 1 < N → ∀ M', jnf M M' → M' 2 0 0 10 = ((p + 2 : Nat) : Int) → M' 2 0 4 k = dd c p → (∀ j, j ≠ k → M' 2 0 4 j = M 2 0 4 j) → K 1 M')
    (h0 : ¬ (48 ≤ c p ∧ c p ≤ 57) → ∀ M', jnf M M' → M' 2 0 0 10 = (p : Int) → K 0 M')
    (h2 : 48 ≤ c p → c p ≤ 57 → ¬ (48 ≤ c (p + 1) ∧ c (p + 1) ≤ 57) → ∀ M', jnf M M' → M' 2 0 0 10 = ((p + 1 : Nat) : Int) → K 0 M') : jCall 126 [jR 2 0 0, jI (k : Int), jI 2] M (jqi K) := by
  refine vX2_readsNumber ⟨⟨by omega, by omega⟩, ?_⟩
  intro m1
  have F1 : jnf M m1 := jnf_n
  have e10 : m1 2 0 0 10 = (p : Int) := (jupd_ne M _ (by omega)).trans hP
  have ek : m1 2 0 4 k = 0 := jupd_at _ _ _ _ _ _
  have eo : ∀ j, j ≠ k → m1 2 0 4 j = M 2 0 4 j := fun j hj => jupd_ne M _ (by show ¬ (2 = 2 ∧ 0 = 0 ∧ 4 = 4 ∧ j = k); omega)
  clear_value m1
  refine q2_digit (n := 0) (x2 := 2) (ty_e Y F1) hp e10 hk (by decide) (by decide) ek (by decide) (fun a b l M' F e1 e2 e3 => ?_) (fun z => qi_ (h0 z m1 F1 e10))
  have F2 := jnf_tr F1 F
  have e2' : M' 2 0 4 k = dg c p := by rw [e2]; omega
  refine q2_digit (n := 1) (x2 := 2) (ty_e Y F2) (by omega) e1 hk (by decide) (by decide) e2' (by unfold dg; omega) (fun a2 b2 l2 M3 F3 g1 g2 g3 => ?_) (fun z => qi_ (h2 a b z M' F2 e1))
  exact vX2_readsNumber_9 (jif1 (by decide) ⟨jz1, qi_ (h1 a b a2 b2 l2 M3 (jnf_tr F2 F3) g1 (by rw [g2]; rfl) (fun j hj => (g3 j hj).trans ((e3 j hj).trans (eo j hj))))⟩)
theorem q2_kindBy {x : Int} (h : K (if kx x = -1 then -9 else kx x) M) : jCall 127 [jI x] M (jqi K) := by
  refine vX2_kindBy ?_
  unfold kx at h
  repeat' first | refine jite (fun c => ?_) (fun c => ?_)
  all_goals (refine qi_ ?_; simp_all)
theorem q2_readsKind (Y : ty M c N) {p : Nat} (hp : p ≤ N) (hP : M 2 0 0 10 = (p : Int))
    (h1 : ¬ kx (c p) = -1 → p < N → ∀ M', jnf M M' → M' 2 0 0 10 = ((p + 1 : Nat) : Int) → M' 2 0 4 0 = kx (c p) → K 1 M')
    (h0 : kx (c p) = -1 → ∀ M', jnf M M' → M' 2 0 0 10 = (p : Int) → K 0 M') : jCall 128 [jR 2 0 0] M (jqi K) := by
  have y2 := Y.2.1
  have hz : 0 ≤ (0 : Int) ∧ (0 : Int) < ((4 : Nat) : Int) := ⟨by decide, by decide⟩
  have kr := kx_r (c p)
  refine vX2_readsKind (q2_here Y hp hP (q2_kindBy ⟨hz, ?_⟩))
  intro m3
  have F3 : jnf M m3 := jnf_n
  have e10 : m3 2 0 0 10 = (p : Int) := (jupd_ne M _ (by omega)).trans hP
  have e0 : m3 2 0 4 (0 : Int).toNat = (if kx (c p) = -1 then -9 else kx (c p)) := jupd_at _ _ _ _ _ _
  clear_value m3
  refine ⟨hz, ?_⟩
  rw [e0, e10]
  by_cases z : kx (c p) = -1
  · rw [if_pos z] at e0 ⊢
    refine jif0 (by decide) ⟨jr_i (by omega), ?_⟩
    intro m5
    have g0 : m5 2 0 4 (0 : Int).toNat = -9 := (jupd_ne m3 _ (by omega)).trans e0
    have g10 : m5 2 0 0 10 = (p : Int) := (jupd_at _ _ _ _ _ _).trans (by omega)
    refine ⟨hz, ?_⟩
    rw [g0]
    exact jif1 (by decide) ⟨jz0, qi_ (h0 z m5 (jnf_tr F3 jnf_p) g10)⟩
  · have hlt : p < N := by
      rcases Nat.lt_or_ge p N with q | q
      · exact q
      · rw [(Y.2.2 p).2 q] at z
        exact absurd rfl z
    rw [if_neg z] at e0 ⊢
    refine jif1 (by omega) ⟨jr_i (by omega), ?_⟩
    intro m4
    have g0 : m4 2 0 4 (0 : Int).toNat = kx (c p) := (jupd_ne m3 _ (by omega)).trans e0
    have g10 : m4 2 0 0 10 = ((p + 1 : Nat) : Int) := jupd_at _ _ _ _ _ _
    refine ⟨hz, ?_⟩
    rw [g0]
    exact jif0 (by omega) ⟨jz1, qi_ (h1 z hlt m4 (jnf_tr F3 jnf_p) g10 g0)⟩
theorem okf_k {p : Nat} (h : c p = 106) : okf c p 0 = decide (¬ kx (c (p + 1)) = -1) := by
  unfold okf; rw [h]; rfl
theorem ft_48 (x : Int) : ft 48 x = decide (48 ≤ x ∧ x ≤ 57) := by
  unfold ft
  rw [if_neg (by decide), if_pos rfl]
theorem ft_59 (x : Int) : ft 59 x = decide (x = 59) := by
  unfold ft
  rw [if_neg (by decide), if_neg (by decide)]
theorem okf_sg {p i : Nat} {g : Int} (h : (jst (sx (c p))).getD i 0 = g) : okf c p i = ft g (c (p + 1 + i)) := by unfold okf; rw [h]
theorem q2_readsStatement (Y : ty M c N) {p : Nat} (hp : p ≤ N) (hP : M 2 0 0 10 = (p : Int))
    (hg : gd c p → ∀ M', jnf M M' → M' 2 0 0 10 = ((p + 1 + jsl (sx (c p)) : Nat) : Int) → nb M' c p → K 1 M')
    (hb : ∀ q, bd c p q → ∀ M', jnf M M' → M' 2 0 0 10 = (q : Int) → K 0 M') : jCall 129 [jR 2 0 0] M (jqi K) := by
  have y2 := Y.2.1
  have T : ∀ p, N ≤ p → c p = -1 := fun p h => (Y.2.2 p).2 h
  refine vX2_readsStatement (q2_here Y hp hP ?_)
  rw [hP]
  refine ⟨jr_i (by omega), ?_⟩
  intro m2
  have F2 : jnf M m2 := jnf_p
  have e10 : m2 2 0 0 10 = ((p + 1 : Nat) : Int) := jupd_at _ _ _ _ _ _
  have Y2 := ty_e Y F2
  clear_value m2
  -- its end: ";" at place q
  have fin : ∀ (n : Nat) (M' : jM), jsl (sx (c p)) = n + 1 → sx (c p) ≠ 3 → (jst (sx (c p))).getD n 0 = 59 → (∀ i, i < n → okf c p i = true) → p + 1 + n ≤ N → jnf M M' → M' 2 0 0 10 = ((p + 1 + n : Nat) : Int) → nb M' c p → jAt 129 178 [some (jR 2 0 0), none, some (jI 1)] [] M' (jqi K) := by
    intro n M' hl h3 hs ho hle F e1 hn
    have YM := ty_e Y F
    refine vX2_readsStatement_178 (jif0 (by decide) (q2_here YM hle e1 (jite (fun z => ?_) (fun z => ⟨jz0, qi_ (hb (p + 1 + n) (Or.inr ⟨h3, n, by omega, rfl, ?_, ho⟩) M' F e1)⟩))))
    · have hon : okf c p n = true := by rw [okf_sg hs, ft_59, decide_eq_true z]
      rw [e1]
      refine ⟨jr_i (by omega), ?_⟩
      intro m3
      refine ⟨jz1, qi_ (hg ⟨h3, fun i hi => ?_⟩ m3 (jnf_tr F jnf_p) ?_ ?_)⟩
      · by_cases zi : i = n
        · rw [zi]; exact hon
        · exact ho i (by omega)
      · refine (jupd_at _ _ _ _ _ _).trans ?_
        rw [hl]; omega
      · have en : ∀ j, m3 2 0 4 j = M' 2 0 4 j := fun j => jupd_ne M' _ (by omega)
        unfold nb at hn ⊢
        rw [en, en, en, en]; exact hn
    · rw [okf_sg hs, ft_59, decide_eq_false z]
  -- it fails at i
  have bad : ∀ (i : Nat) (M' : jM), i < jsl (sx (c p)) → sx (c p) ≠ 3 → okf c p i = false → (∀ i', i' < i → okf c p i' = true) → jnf M M' → M' 2 0 0 10 = ((p + 1 + i : Nat) : Int) → jAt 129 178 [some (jR 2 0 0), none, some (jI 0)] [] M' (jqi K) := by
    intro i M' hi h3 hf ho F e1
    exact vX2_readsStatement_178 (jif1 rfl ⟨jz0, qi_ (hb (p + 1 + i) (Or.inr ⟨h3, i, hi, rfl, hf, ho⟩) M' F e1)⟩)
  have hplt : ∀ x, c p = x → ¬ x = -1 → p < N := fun x h1 h2 => by
    rcases Nat.lt_or_ge p N with q | q
    · exact q
    · rw [T p q] at h1; exact absurd h1.symm h2
  -- two single digits, or one pair, and ";"
  have two1 : sx (c p) = 2 → c p ≠ 102 → c p ≠ 121 → c p ≠ 106 → c p ≠ 120 → p < N → ∀ (Z : Int → jM → Prop), (∀ M', jnf M M' → jAt 129 178 [some (jR 2 0 0), none, some (jI 1)] [] M' (jqi K) → Z 1 M') → (∀ M', jnf M M' → jAt 129 178 [some (jR 2 0 0), none, some (jI 0)] [] M' (jqi K) → Z 0 M') → jCall 126 [jR 2 0 0, jI 0, jI 1] m2 (jqi fun y M1 => (y = 0 → Z 0 M1) ∧ (¬ y = 0 → jCall 126 [jR 2 0 0, jI 1, jI 1] M1 (jqi fun y2 M2 => (y2 = 0 → Z 0 M2) ∧ (¬ y2 = 0 → Z 1 M2)))) := by
    intro h2 n1 n2 n3 n4 hlt Z Z1 Z0
    have h3 : sx (c p) ≠ 3 := by rw [h2]; decide
    have hl : jsl (sx (c p)) = 3 := by rw [h2]; rfl
    have o0 : okf c p 0 = decide (48 ≤ c (p + 1) ∧ c (p + 1) ≤ 57) := by rw [okf_sg (g := 48) (by rw [h2]; rfl), ft_48]
    have o1 : okf c p 1 = decide (48 ≤ c (p + 2) ∧ c (p + 2) ≤ 57) := by rw [okf_sg (g := 48) (by rw [h2]; rfl), ft_48]
    refine q2_num1 (k := 0) Y2 (by omega) e10 (by decide) (fun a b l M1 F1 g1 g2 g3 => jif0 (by decide) ?_) (fun z M1 F1 g1 => jif1 rfl (Z0 M1 (jnf_tr F2 F1) (bad 0 M1 (by omega) h3 (by rw [o0, decide_eq_false z]) (fun i' h => absurd h (Nat.not_lt_zero i')) (jnf_tr F2 F1) g1)))
    have k0 : okf c p 0 = true := by rw [o0, decide_eq_true ⟨a, b⟩]
    have k0i : ∀ i', i' < 1 → okf c p i' = true := by
      intro i' h
      obtain rfl : i' = 0 := by omega
      exact k0
    refine q2_num1 (k := 1) (ty_e Y2 F1) (by omega) g1 (by decide) (fun a' b' l' M3 F3 f1 f2 f3 => jif0 (by decide) (Z1 M3 (jnf_tr F2 (jnf_tr F1 F3)) ?_)) (fun z M3 F3 f1 => jif1 rfl (Z0 M3 (jnf_tr F2 (jnf_tr F1 F3)) (bad 1 M3 (by omega) h3 (by rw [o1, decide_eq_false z]) k0i (jnf_tr F2 (jnf_tr F1 F3)) f1)))
    refine fin 2 M3 hl h3 (by rw [h2]; rfl) (fun i hi => ?_) (by omega) (jnf_tr F2 (jnf_tr F1 F3)) f1 ⟨fun h => absurd h n3, fun _ => ⟨(f3 0 (by decide)).trans g2, f2⟩, fun h => absurd h n4, fun h => by omega⟩
    rcases (show i = 0 ∨ i = 1 by omega) with rfl | rfl
    · exact k0
    · rw [o1, decide_eq_true ⟨a', b'⟩]
  have pair : sx (c p) = 2 → c p ≠ 109 → c p ≠ 101 → c p ≠ 106 → c p ≠ 120 → p < N → jCall 126 [jR 2 0 0, jI 0, jI 2] m2 (jqi fun y M1 => jAt 129 178 [some (jR 2 0 0), none, some (jI y)] [] M1 (jqi K)) := by
    intro h2 n1 n2 n3 n4 hlt
    have h3 : sx (c p) ≠ 3 := by rw [h2]; decide
    have hl : jsl (sx (c p)) = 3 := by rw [h2]; rfl
    have o0 : okf c p 0 = decide (48 ≤ c (p + 1) ∧ c (p + 1) ≤ 57) := by rw [okf_sg (g := 48) (by rw [h2]; rfl), ft_48]
    have o1 : okf c p 1 = decide (48 ≤ c (p + 2) ∧ c (p + 2) ≤ 57) := by rw [okf_sg (g := 48) (by rw [h2]; rfl), ft_48]
    refine q2_num2 (k := 0) Y2 (by omega) e10 (by decide) (fun a b a2 b2 l M1 F1 g1 g2 g3 => ?_) (fun z M1 F1 g1 => bad 0 M1 (by omega) h3 (by rw [o0, decide_eq_false z]) (fun i' h => absurd h (Nat.not_lt_zero i')) (jnf_tr F2 F1) g1) (fun a b z M1 F1 g1 => bad 1 M1 (by omega) h3 (by rw [o1, decide_eq_false z]) (fun i' h => ?_) (jnf_tr F2 F1) g1)
    · refine fin 2 M1 hl h3 (by rw [h2]; rfl) (fun i hi => ?_) (by omega) (jnf_tr F2 F1) g1 ⟨fun h => absurd h n3, fun h => by omega, fun h => absurd h n4, fun _ => g2⟩
      rcases (show i = 0 ∨ i = 1 by omega) with rfl | rfl
      · rw [o0, decide_eq_true ⟨a, b⟩]
      · rw [o1, decide_eq_true ⟨a2, b2⟩]
    · obtain rfl : i' = 0 := by omega
      rw [o0, decide_eq_true ⟨a, b⟩]
  refine jite (fun h => ?_) (fun n101 => jite (fun h => ?_) (fun n102 => jite (fun h => ?_) (fun n106 => jite (fun h => ?_) (fun n109 => jite (fun h => ?_) (fun n120 => jite (fun h => ?_) (fun n121 => ?_))))))
  · exact two1 (by rw [h]; rfl) (by omega) (by omega) (by omega) (by omega) (hplt _ h (by decide)) (fun y M1 => jAt 129 178 [some (jR 2 0 0), none, some (jI y)] [] M1 (jqi K)) (fun _ _ z => z) (fun _ _ z => z)
  · exact pair (by rw [h]; rfl) (by omega) (by omega) (by omega) (by omega) (hplt _ h (by decide))
  · -- "j"
    have hlt := hplt _ h (by decide)
    have h2 : sx (c p) = 0 := by rw [h]; rfl
    have h3 : sx (c p) ≠ 3 := by rw [h2]; decide
    have hl : jsl (sx (c p)) = 6 := by rw [h2]; rfl
    have o0 := okf_k h
    have o1 : okf c p 1 = decide (48 ≤ c (p + 2) ∧ c (p + 2) ≤ 57) := by rw [okf_sg (g := 48) (by rw [h2]; rfl), ft_48]
    have o2 : okf c p 2 = decide (48 ≤ c (p + 3) ∧ c (p + 3) ≤ 57) := by rw [okf_sg (g := 48) (by rw [h2]; rfl), ft_48]
    have o3 : okf c p 3 = decide (48 ≤ c (p + 4) ∧ c (p + 4) ≤ 57) := by rw [okf_sg (g := 48) (by rw [h2]; rfl), ft_48]
    have o4 : okf c p 4 = decide (48 ≤ c (p + 5) ∧ c (p + 5) ≤ 57) := by rw [okf_sg (g := 48) (by rw [h2]; rfl), ft_48]
    refine q2_readsKind Y2 (by omega) e10 (fun z l M1 F1 g1 g2 => jif0 (by decide) ?_) (fun z M1 F1 g1 => jif1 rfl (bad 0 M1 (by omega) h3 (by rw [o0, decide_eq_false (fun q => q z)]) (fun i' h => absurd h (Nat.not_lt_zero i')) (jnf_tr F2 F1) g1))
    have k0 : okf c p 0 = true := by rw [o0, decide_eq_true z]
    have G1 := jnf_tr F2 F1
    refine q2_num1 (k := 1) (ty_e Y2 F1) (by omega) g1 (by decide) (fun a b l2 M3 F3 f1 f2 f3 => jif0 (by decide) ?_) (fun z M3 F3 f1 => jif1 rfl (bad 1 M3 (by omega) h3 (by rw [o1, decide_eq_false z]) (fun i' h => ?_) (jnf_tr G1 F3) f1))
    · have k1 : okf c p 1 = true := by rw [o1, decide_eq_true ⟨a, b⟩]
      have G3 := jnf_tr G1 F3
      refine q2_num1 (k := 2) (ty_e Y G3) (by omega) f1 (by decide) (fun a b l3 M4 F4 d1 d2 d3 => jif0 (by decide) ?_) (fun z M4 F4 d1 => jif1 rfl (bad 2 M4 (by omega) h3 (by rw [o2, decide_eq_false z]) (fun i' h => ?_) (jnf_tr G3 F4) d1))
      · have k2 : okf c p 2 = true := by rw [o2, decide_eq_true ⟨a, b⟩]
        have G4 := jnf_tr G3 F4
        refine q2_num2 (k := 3) (ty_e Y G4) (by omega) d1 (by decide) (fun a b a2 b2 l4 M5 F5 b1 b3 b4 => jif0 (by decide) ?_) (fun z M5 F5 b1 => jif1 rfl (bad 3 M5 (by omega) h3 (by rw [o3, decide_eq_false z]) (fun i' h => ?_) (jnf_tr G4 F5) b1)) (fun a b z M5 F5 b1 => jif1 rfl (bad 4 M5 (by omega) h3 (by rw [o4, decide_eq_false z]) (fun i' h => ?_) (jnf_tr G4 F5) b1))
        · refine fin 5 M5 hl h3 (by rw [h2]; rfl) (fun i hi => ?_) (by omega) (jnf_tr G4 F5) b1 ⟨fun _ => ⟨(b4 0 (by decide)).trans ((d3 0 (by decide)).trans ((f3 0 (by decide)).trans g2)), (b4 1 (by decide)).trans ((d3 1 (by decide)).trans f2), (b4 2 (by decide)).trans d2, b3⟩, fun q => by omega, fun q => by omega, fun q => by omega⟩
          rcases (show i = 0 ∨ i = 1 ∨ i = 2 ∨ i = 3 ∨ i = 4 by omega) with rfl | rfl | rfl | rfl | rfl
          · exact k0
          · exact k1
          · exact k2
          · rw [o3, decide_eq_true ⟨a, b⟩]
          · rw [o4, decide_eq_true ⟨a2, b2⟩]
        · rcases (show i' = 0 ∨ i' = 1 ∨ i' = 2 by omega) with rfl | rfl | rfl
          · exact k0
          · exact k1
          · exact k2
        · rcases (show i' = 0 ∨ i' = 1 ∨ i' = 2 ∨ i' = 3 by omega) with rfl | rfl | rfl | rfl
          · exact k0
          · exact k1
          · exact k2
          · rw [o3, decide_eq_true ⟨a, b⟩]
      · rcases (show i' = 0 ∨ i' = 1 by omega) with rfl | rfl
        · exact k0
        · exact k1
    · obtain rfl : i' = 0 := by omega
      exact k0
  · exact two1 (by rw [h]; rfl) (by omega) (by omega) (by omega) (by omega) (hplt _ h (by decide)) (fun y M1 => jAt 129 178 [some (jR 2 0 0), none, some (jI y)] [] M1 (jqi K)) (fun _ _ z => z) (fun _ _ z => z)
  · -- "x"
    have hlt := hplt _ h (by decide)
    have h2 : sx (c p) = 1 := by rw [h]; rfl
    have h3 : sx (c p) ≠ 3 := by rw [h2]; decide
    have hl : jsl (sx (c p)) = 2 := by rw [h2]; rfl
    have o0 : okf c p 0 = decide (48 ≤ c (p + 1) ∧ c (p + 1) ≤ 57) := by rw [okf_sg (g := 48) (by rw [h2]; rfl), ft_48]
    refine q2_num1 (k := 0) Y2 (by omega) e10 (by decide) (fun a b l M1 F1 g1 g2 g3 => ?_) (fun z M1 F1 g1 => bad 0 M1 (by omega) h3 (by rw [o0, decide_eq_false z]) (fun i' h => absurd h (Nat.not_lt_zero i')) (jnf_tr F2 F1) g1)
    refine fin 1 M1 hl h3 (by rw [h2]; rfl) (fun i hi => ?_) (by omega) (jnf_tr F2 F1) g1 ⟨fun q => by omega, fun q => by omega, fun _ => g2, fun q => by omega⟩
    obtain rfl : i = 0 := by omega
    rw [o0, decide_eq_true ⟨a, b⟩]
  · exact pair (by rw [h]; rfl) (by omega) (by omega) (by omega) (by omega) (hplt _ h (by decide))
  · have h3 : sx (c p) = 3 := by
      unfold sx
      rw [if_neg n101, if_neg n102, if_neg n106, if_neg n109, if_neg n120, if_neg n121]
    rw [e10]
    refine ⟨jr_i (by omega), ?_⟩
    intro m3
    refine ⟨jz0, qi_ (hb p (Or.inl ⟨h3, rfl⟩) m3 (jnf_tr F2 jnf_p) ?_)⟩
    exact (jupd_at _ _ _ _ _ _).trans (by omega)
end Read

-- Letters: a text, its statements one by one; the class reads it
def kx (x : Int) : Int := if x = 98 then 3 else if x = 99 then 1 else if x = 100 then 5 else if x = 104 then 4 else if x = 106 then 0 else if x = 112 then 2 else -1
def sx (x : Int) : Nat := if x = 101 then 2 else if x = 102 then 2 else if x = 106 then 0 else if x = 109 then 2 else if x = 120 then 1 else if x = 121 then 2 else 3
def ft (g x : Int) : Bool := if g = 107 then decide (¬ kx x = -1) else if g = 48 then decide (48 ≤ x ∧ x ≤ 57) else decide (x = g)
def okf (c : Nat → Int) (p i : Nat) : Bool := ft ((jst (sx (c p))).getD i 0) (c (p + 1 + i))
/-- the statement at p is one; it isn't, and q is the first letter that is none -/
def gd (c : Nat → Int) (p : Nat) : Prop := sx (c p) ≠ 3 ∧ ∀ i, i < jsl (sx (c p)) → okf c p i = true
def bd (c : Nat → Int) (p q : Nat) : Prop := (sx (c p) = 3 ∧ q = p) ∨ (sx (c p) ≠ 3 ∧ ∃ i, i < jsl (sx (c p)) ∧ q = p + 1 + i ∧ okf c p i = false ∧ ∀ i', i' < i → okf c p i' = true)
/-- the letters of the class; of the reference -/
def tx (M : jM) (c : Nat → Int) (N : Nat) : Prop := M 1 0 0 6 = (N : Int) ∧ N ≤ 96 ∧ ∀ p, (p < N → M 1 0 1 p = c p ∧ 0 ≤ c p ∧ c p ≤ 255) ∧ (N ≤ p → c p = -1)
def ty (M : jM) (c : Nat → Int) (N : Nat) : Prop := M 2 0 0 8 = (N : Int) ∧ N ≤ 96 ∧ ∀ p, (p < N → M 2 0 1 p = c p ∧ 0 ≤ c p ∧ c p ≤ 255) ∧ (N ≤ p → c p = -1)
theorem kx_r (x : Int) : kx x = -1 ∨ 0 ≤ kx x ∧ kx x ≤ 5 := by
  unfold kx
  repeat' split
  all_goals omega
theorem sx_r (x : Int) : sx x = 0 ∨ sx x = 1 ∨ sx x = 2 ∨ sx x = 3 := by
  unfold sx
  repeat' split
  all_goals omega
theorem sx_l (x : Int) : jsl (sx x) = 0 ↔ sx x = 3 := by
  rcases sx_r x with h | h | h | h <;> rw [h] <;> decide
theorem sx_6 (x : Int) : jsl (sx x) ≤ 6 := by
  rcases sx_r x with h | h | h | h <;> rw [h] <;> decide
theorem ft_e (g : Int) (hg : 0 ≤ g) : ft g (-1) = false := by
  unfold ft
  split
  · rfl
  · split
    · rfl
    · exact decide_eq_false (by omega)
theorem sg_r (x : Int) (i : Nat) : 0 ≤ (jst (sx x)).getD i 0 := by
  have t : ∀ s, s < 4 → ∀ i, i < 6 → 0 ≤ (jst s).getD i 0 := by decide
  have h4 : sx x < 4 := by rcases sx_r x with h | h | h | h <;> omega
  by_cases z : i < 6
  · exact t _ h4 i z
  · have hl : ∀ s, s < 4 → (jst s).length ≤ 6 := by decide
    have := hl _ h4
    rw [List.getD_eq_getElem?_getD, List.getElem?_eq_none (by omega)]
    exact Int.le_refl 0
theorem gd_or (c : Nat → Int) (p : Nat) : gd c p ∨ ∃ q, bd c p q := by
  by_cases h : sx (c p) = 3
  · exact Or.inr ⟨p, Or.inl ⟨h, rfl⟩⟩
  · rcases fst_or (P := fun i => okf c p i = false) (fun n => Decidable.em _) (jsl (sx (c p))) with q | ⟨i, h1, h2, h3⟩
    · exact Or.inl ⟨h, fun i hi => by have := q i hi; revert this; cases okf c p i <;> simp⟩
    · exact Or.inr ⟨p + 1 + i, Or.inr ⟨h, i, h1, rfl, h2, fun i' hi' => by have := h3 i' hi'; revert this; cases okf c p i' <;> simp⟩⟩
theorem bd_1 {c : Nat → Int} {p q q' : Nat} (h : bd c p q) (h' : bd c p q') : q = q' := by
  rcases h with ⟨a, rfl⟩ | ⟨a, i, h1, rfl, h2, h3⟩
  · rcases h' with ⟨_, rfl⟩ | ⟨b, _⟩
    · rfl
    · exact absurd a b
  · rcases h' with ⟨b, _⟩ | ⟨_, i', g1, rfl, g2, g3⟩
    · exact absurd b a
    · rcases Nat.lt_trichotomy i i' with z | z | z
      · rw [g3 i z] at h2; cases h2
      · rw [z]
      · rw [h3 i' z] at g2; cases g2
theorem gd_bd {c : Nat → Int} {p q : Nat} (h : gd c p) (h' : bd c p q) : False := by
  rcases h' with ⟨a, _⟩ | ⟨_, i, h1, _, h2, _⟩
  · exact h.1 a
  · rw [h.2 i h1] at h2; cases h2
section Text
variable {M : jM} {s : jT} {t : Int} {K : Int → jM → Prop} {V : jM → Prop} {c : Nat → Int} {N : Nat}
theorem okf_lt (T : ∀ p, N ≤ p → c p = -1) {p i : Nat} (h : okf c p i = true) : p + 1 + i < N := by
  rcases Nat.lt_or_ge (p + 1 + i) N with z | z
  · exact z
  · unfold okf at h
    rw [T _ z, ft_e _ (sg_r _ _)] at h
    cases h
theorem sx_lt (T : ∀ p, N ≤ p → c p = -1) {p : Nat} (h : sx (c p) ≠ 3) : p < N := by
  rcases Nat.lt_or_ge p N with z | z
  · exact z
  · rw [T _ z] at h
    exact absurd rfl h
theorem gd_le (T : ∀ p, N ≤ p → c p = -1) {p : Nat} (h : gd c p) : p + 1 + jsl (sx (c p)) ≤ N := by
  have h0 : jsl (sx (c p)) ≠ 0 := fun z => h.1 ((sx_l _).mp z)
  have := okf_lt T (h.2 (jsl (sx (c p)) - 1) (by omega))
  omega
theorem bd_le (T : ∀ p, N ≤ p → c p = -1) {p q : Nat} (hp : p ≤ N) (h : bd c p q) : q ≤ N := by
  rcases h with ⟨_, rfl⟩ | ⟨a, i, h1, rfl, h2, h3⟩
  · exact hp
  · have := sx_lt T a
    by_cases z : i = 0
    · omega
    · have := okf_lt T (h3 (i - 1) (by omega))
      omega
theorem q1_letterAt (X : tx M c N) {p : Nat} (hp : p < N) (h : K (c p) M) : jCall 30 [jR 1 0 0, jI (p : Int)] M (jqi K) := by
  have x1 := X.1
  have x2 := X.2.1
  have e : M 1 0 1 (p : Int).toNat = c p := ((X.2.2 p).1 hp).1
  refine vX1_letterAt (jif0 (by omega) (jif0 (by omega) ⟨⟨by omega, by omega⟩, ?_⟩))
  rw [e]; exact qi_ h
theorem q1_kindOf {x : Int} (h : K (kx x) M) : jCall 27 [jI x] M (jqi K) := by
  refine vX1_kindOf ?_
  unfold kx at h
  repeat' first | refine jite (fun c => ?_) (fun c => ?_)
  all_goals (refine qi_ ?_; simp_all)
theorem q1_shapeBehind {x : Int} {Z : Nat → Nat → Nat → jM → Prop} (h : Z 9 (sx x) 0 M) : jCall 25 [jI x] M (jqr Z) := by
  refine vX1_shapeBehind ?_
  unfold sx at h
  repeat' first | refine jite (fun c => ?_) (fun c => ?_)
  all_goals (refine ⟨_, _, _, rfl, ?_⟩; simp_all)
theorem q1_fitsShape {g x : Int} (h1 : ft g x = true → K 1 M) (h0 : ft g x = false → K 0 M) : jCall 26 [jI x, jI g] M (jqi K) := by
  unfold ft at h1 h0
  refine vX1_fitsShape (jite (fun c1 => jite (fun c2 => ?_) (fun c2 => ?_)) (fun c1 => q1_kindOf ?_))
  · rw [if_neg c1, if_neg c2] at h1 h0
    exact jite (fun c => ⟨jz0, qi_ (h0 (decide_eq_false c))⟩) (fun c => ⟨jz1, qi_ (h1 (decide_eq_true (Decidable.not_not.mp c)))⟩)
  · rw [if_neg c1, if_pos (Decidable.not_not.mp c2)] at h1 h0
    exact jite (fun c => ⟨jz0, qi_ (h0 (decide_eq_false (by omega)))⟩) (fun c => jite (fun d => ⟨jz0, qi_ (h0 (decide_eq_false (by omega)))⟩) (fun d => ⟨jz1, qi_ (h1 (decide_eq_true (by omega)))⟩))
  · rw [if_pos (Decidable.not_not.mp c1)] at h1 h0
    exact jite (fun c => ⟨jz0, qi_ (h0 (decide_eq_false (fun z => z c)))⟩) (fun c => ⟨jz1, qi_ (h1 (decide_eq_true c))⟩)
/-- the class: from a statement's first letter on -/
theorem q1_stmt (X : tx M c N) {p s' : Nat} (hp : p < N) (hg : gd c p → jAt 28 16 [some (jR 1 0 0), some (jR 9 (sx (c p)) 0), some (jI (jsl (sx (c p)))), some (jI ((p + 1 + jsl (sx (c p)) : Nat) : Int)), none] [] M (jqi K)) (hb : ∀ q, bd c p q → K (q : Int) M) : jAt 28 16 [some (jR 1 0 0), some (jR 9 s' 0), some (jI (jsl s')), some (jI (p : Int)), none] [] M (jqi K) := by
  have x1 := X.1
  have x2 := X.2.1
  have T : ∀ p, N ≤ p → c p = -1 := fun p h => (X.2.2 p).2 h
  refine vX1_firstBadPlace_16 ?_
  rw [x1]
  refine jif0 (by omega) (q1_letterAt X hp (jif1 (Int.le_refl _) (q1_shapeBehind (vX1_firstBadPlace_65 (jite (fun z => ⟨jr_i (by omega), ?_⟩) (fun z => qi_ (hb p (Or.inl ⟨?_, rfl⟩))))))))
  · have h3 : sx (c p) ≠ 3 := by
      intro e
      rw [if_pos ((sx_l _).mpr e)] at z
      cases z
    have step : ∀ i, i < jsl (sx (c p)) → (∀ i', i' < i → okf c p i' = true) → (okf c p i = true → jAt 28 16 [some (jR 1 0 0), some (jR 9 (sx (c p)) 0), some (jI ((i + 1 : Nat) : Int)), some (jI ((p + 1 + (i + 1) : Nat) : Int)), none] [] M (jqi K)) → jAt 28 16 [some (jR 1 0 0), some (jR 9 (sx (c p)) 0), some (jI (i : Int)), some (jI ((p + 1 + i : Nat) : Int)), none] [] M (jqi K) := by
      intro i hi ho ih
      have h6 := sx_6 (c p)
      by_cases hN : p + 1 + i < N
      · refine vX1_firstBadPlace_16 ?_
        rw [x1]
        refine jif0 (by omega) (q1_letterAt X hN (jif0 (by omega) ⟨⟨by omega, by omega⟩, q1_fitsShape (fun o => jif1 (by decide) ⟨jr_i (by omega), jr_i (by omega), ih o⟩) (fun o => jif0 (by decide) (qi_ (hb _ (Or.inr ⟨h3, i, hi, rfl, o, ho⟩))))⟩))
      · have hq : p + 1 + i = N := by
          by_cases zi : i = 0
          · omega
          · have := okf_lt T (ho (i - 1) (by omega))
            omega
        have hf : okf c p i = false := by
          unfold okf
          rw [T (p + 1 + i) (by omega), ft_e _ (sg_r _ _)]
        have hb2 := hb (p + 1 + i) (Or.inr ⟨h3, i, hi, rfl, hf, ho⟩)
        refine vX1_firstBadPlace_16 ?_
        rw [x1]
        refine jif1 (by omega) (jif0 (by omega) (qi_ ?_))
        rw [← hq]; exact hb2
    rcases fst_or (P := fun i => okf c p i = false) (fun n => Decidable.em _) (jsl (sx (c p))) with q | ⟨i, h1, h2, h4⟩
    · have q' : ∀ i, i < jsl (sx (c p)) → okf c p i = true := fun i hi => by have := q i hi; revert this; cases okf c p i <;> simp
      exact lp_n (X := fun i => jAt 28 16 [some (jR 1 0 0), some (jR 9 (sx (c p)) 0), some (jI (i : Int)), some (jI ((p + 1 + i : Nat) : Int)), none] [] M (jqi K)) (jsl (sx (c p))) (hg ⟨h3, q'⟩) (fun i hi ih => step i hi (fun i' h => q' i' (by omega)) (fun _ => ih))
    · have q' : ∀ i', i' < i → okf c p i' = true := fun i' hi => by have := h4 i' hi; revert this; cases okf c p i' <;> simp
      exact lp_n (X := fun i => jAt 28 16 [some (jR 1 0 0), some (jR 9 (sx (c p)) 0), some (jI (i : Int)), some (jI ((p + 1 + i : Nat) : Int)), none] [] M (jqi K)) i (step i h1 q' (fun o => by rw [h2] at o; cases o)) (fun j hj ih => step j (by omega) (fun i' h => q' i' (by omega)) (fun _ => ih))
  · rw [← sx_l]
    rcases Nat.eq_zero_or_pos (jsl (sx (c p))) with e | e
    · exact e
    · rw [if_neg (by omega)] at z
      exact absurd rfl z
/-- statements begin here -/
def pl (c : Nat → Int) : Nat → Nat
  | 0 => 0
  | k + 1 => pl c k + 1 + jsl (sx (c (pl c k)))
theorem pl_ge (c : Nat → Int) : ∀ k, k ≤ pl c k
  | 0 => Nat.le_refl 0
  | k + 1 => by
    have := pl_ge c k
    rw [pl]; omega
/-- all are statements (there are n); or the first n are, and then there is a fault -/
theorem pl_or (T : ∀ p, N ≤ p → c p = -1) : (∃ n, 1 ≤ n ∧ pl c n = N ∧ ∀ k, k < n → gd c (pl c k) ∧ pl c k < N) ∨ ∃ n q, (pl c n < N ∨ N = 0 ∧ n = 0) ∧ bd c (pl c n) q ∧ ∀ k, k < n → gd c (pl c k) ∧ pl c k < N := by
  rcases fst_or (P := fun k => N ≤ pl c k ∨ ¬ gd c (pl c k)) (fun n => Classical.em _) (N + 1) with h | ⟨n, h1, h2, h3⟩
  · have := h N (by omega)
    exact absurd (Or.inl (pl_ge c N)) this
  · have hk : ∀ k, k < n → gd c (pl c k) ∧ pl c k < N := fun k hk => by
      have := h3 k hk
      rw [not_or] at this
      exact ⟨Classical.not_not.mp this.2, by omega⟩
    by_cases z : N ≤ pl c n
    · by_cases zn : n = 0
      · subst zn
        have z0 : N = 0 := by
          have : pl c 0 = 0 := rfl
          omega
        refine Or.inr ⟨0, 0, Or.inr ⟨z0, rfl⟩, Or.inl ⟨?_, rfl⟩, hk⟩
        show sx (c 0) = 3
        rw [T 0 (by omega)]; rfl
      · refine Or.inl ⟨n, by omega, ?_, hk⟩
        have := gd_le T (hk (n - 1) (by omega)).1
        have e : pl c n = pl c (n - 1) + 1 + jsl (sx (c (pl c (n - 1)))) := by
          have : pl c (n - 1 + 1) = pl c (n - 1) + 1 + jsl (sx (c (pl c (n - 1)))) := rfl
          rw [show n - 1 + 1 = n by omega] at this
          exact this
        omega
    · have ng : ¬ gd c (pl c n) := h2.resolve_left z
      obtain ⟨q, hq⟩ := (gd_or c (pl c n)).resolve_left ng
      exact Or.inr ⟨n, q, Or.inl (by omega), hq, hk⟩
theorem q1_firstGood (X : tx M c N) {n : Nat} (h1 : 1 ≤ n) (h2 : pl c n = N) (h3 : ∀ k, k < n → gd c (pl c k) ∧ pl c k < N) (h : K (-9) M) : jCall 28 [jR 1 0 0] M (jqi K) := by
  have x1 := X.1
  have hN : 0 < N := by have := (h3 0 (by omega)).2; omega
  refine vX1_firstBadPlace (jif1 (by omega) ?_)
  refine lp_n (X := fun k => ∀ s', jAt 28 16 [some (jR 1 0 0), some (jR 9 s' 0), some (jI (jsl s')), some (jI (pl c k : Int)), none] [] M (jqi K)) n ?_ ?_ 3
  · intro s'
    refine vX1_firstBadPlace_16 ?_
    rw [x1, h2]
    exact jif1 (Int.le_refl _) (jif1 (Int.le_refl _) (qi_ h))
  · intro k hk ih s'
    exact q1_stmt X (h3 k hk).2 (fun _ => ih _) (fun q hq => (gd_bd (h3 k hk).1 hq).elim)
theorem q1_firstBad (X : tx M c N) {n q : Nat} (h2 : pl c n < N ∨ N = 0 ∧ n = 0) (hq : bd c (pl c n) q) (h3 : ∀ k, k < n → gd c (pl c k) ∧ pl c k < N) (h : K (q : Int) M) : jCall 28 [jR 1 0 0] M (jqi K) := by
  have x1 := X.1
  by_cases hN : N = 0
  · subst hN
    have n0 : n = 0 := by omega
    subst n0
    have q0 : q = 0 := by
      have := bd_le (fun p h => (X.2.2 p).2 h) (show pl c 0 ≤ 0 from Nat.le_refl 0) hq
      omega
    rw [q0] at h
    exact vX1_firstBadPlace (jif0 (by rw [x1]; decide) (qi_ h))
  · refine vX1_firstBadPlace (jif1 (by omega) ?_)
    refine lp_n (X := fun k => ∀ s', jAt 28 16 [some (jR 1 0 0), some (jR 9 s' 0), some (jI (jsl s')), some (jI (pl c k : Int)), none] [] M (jqi K)) n ?_ ?_ 3
    · intro s'
      exact q1_stmt X (by omega) (fun g => (gd_bd g hq).elim) (fun q' h' => by rw [bd_1 h' hq]; exact h)
    · intro k hk ih s'
      exact q1_stmt X (h3 k hk).2 (fun _ => ih _) (fun q hq => (gd_bd (h3 k hk).1 hq).elim)
end Text

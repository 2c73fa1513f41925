-- Letters: the reference reads a statement
/-- the place, and numbers, may have changed -/
def jnf (M M' : jM) : Prop := ∀ k i c j, ¬ (k = 2 ∧ i = 0 ∧ c = 0 ∧ j = 10) → ¬ (k = 2 ∧ i = 0 ∧ c = 4) → M' k i c j = M k i c j
theorem jnf_rf {M : jM} : jnf M M := fun _ _ _ _ _ _ => rfl
theorem jnf_tr {M M' M'' : jM} (h : jnf M M') (h' : jnf M' M'') : jnf M M'' := fun k i c j z z' => (h' k i c j z z').trans (h k i c j z z')
theorem jnf_p {M : jM} {x : Int} : jnf M (jupd M 2 0 0 10 x) := fun k i c j z _ => jupd_ne M x z
theorem jnf_n {M : jM} {j : Nat} {x : Int} : jnf M (jupd M 2 0 4 j x) := fun k i c j' _ z => jupd_ne M x (fun e => z ⟨e.1, e.2.1, e.2.2.1⟩)
def dg (c : Nat → Int) (p : Nat) : Int := c p - 48
def dd (c : Nat → Int) (p : Nat) : Int := 10 * dg c p + dg c (p + 1)
/-- what the numbers are behind a statement at p -/
def nb (M : jM) (c : Nat → Int) (p : Nat) : Prop :=
  (c p = 106 → M 2 0 4 0 = kx (c (p + 1)) ∧ M 2 0 4 1 = dg c (p + 2) ∧ M 2 0 4 2 = dg c (p + 3) ∧ M 2 0 4 3 = dd c (p + 4)) ∧
  (c p = 109 ∨ c p = 101 → M 2 0 4 0 = dg c (p + 1) ∧ M 2 0 4 1 = dg c (p + 2)) ∧
  (c p = 120 → M 2 0 4 0 = dg c (p + 1)) ∧ (c p = 102 ∨ c p = 121 → M 2 0 4 0 = dd c (p + 1))
section Read
variable {M : jM} {s : jT} {t : Int} {K : Int → jM → Prop} {V : jM → Prop} {c : Nat → Int} {N : Nat}
theorem ty_e {M' : jM} (Y : ty M c N) (F : jnf M M') : ty M' c N := ⟨(F _ _ _ _ (by omega) (by omega)).trans Y.1, Y.2.1, fun p => ⟨fun h => ⟨(F _ _ _ _ (by omega) (by omega)).trans ((Y.2.2 p).1 h).1, ((Y.2.2 p).1 h).2⟩, (Y.2.2 p).2⟩⟩
theorem okf_k {p : Nat} (h : c p = 106) : okf c p 0 = decide (¬ kx (c (p + 1)) = -1) := by
  unfold okf; rw [h]; rfl
theorem ft_48 (x : Int) : ft 48 x = decide (48 ≤ x ∧ x ≤ 57) := by
  unfold ft
  rw [if_neg (by decide), if_pos rfl]
theorem ft_59 (x : Int) : ft 59 x = decide (x = 59) := by
  unfold ft
  rw [if_neg (by decide), if_neg (by decide)]
theorem okf_sg {p i : Nat} {g : Int} (h : (jst (sx (c p))).getD i 0 = g) : okf c p i = ft g (c (p + 1 + i)) := by unfold okf; rw [h]
end Read

-- Calls, side by side: larder
def ss (c : Nat → Int) (s : jT) : Nat → jT
  | 0 => s
  | k + 1 => te c (pl c k) (ss c s k)
def clf (M M' : jM) : Prop := ∀ k i c j, ¬ (k = 0 ∧ (i = 0 ∨ i = 3)) → M' k i c j = M k i c j
def rlf (M M' : jM) : Prop := ∀ k i c j, ¬ (k = 3 ∧ (i = 0 ∨ i = 3)) → ¬ (k = 2 ∧ i = 0 ∧ c = 0 ∧ (j = 10 ∨ j = 8)) → ¬ (k = 2 ∧ i = 0 ∧ c = 4) → M' k i c j = M k i c j
section Larder
variable {M : jM} {s : jT} {t : Int} {K : Int → jM → Prop} {V : jM → Prop} {c : Nat → Int} {N : Nat}
theorem rlf_tr {M' M'' : jM} (h : rlf M M') (h' : rlf M' M'') : rlf M M'' := fun k i c j z z1 z2 => (h' k i c j z z1 z2).trans (h k i c j z z1 z2)
theorem rlf_n {M' : jM} (h : jnf M M') : rlf M M' := fun k i c j _ z1 z2 => h k i c j (by omega) z2
theorem rlf_f {M' : jM} {a : Nat} (ha : a = 0 ∨ a = 3) (h : jfm 3 a M M') : rlf M M' := fun k i c j z _ _ => h k i c j (by omega)
theorem rlf_p {j : Nat} {x : Int} (hj : j = 10 ∨ j = 8) : rlf M (jupd M 2 0 0 j x) := fun k i c j' _ z1 _ => jupd_ne M x (by omega)
theorem rR_n {M' : jM} {a : Nat} {S : jT} (R : rR M a S) (F : jnf M M') : rR M' a S := rR_e R (fun _ _ => F _ _ _ _ (by omega) (by omega))
theorem ss_ok {s : jT} (w : wf s) (y : yr 999 s) {m : Nat} (h3 : ∀ k, k < m → gd c (pl c k)) (ok : ∀ k, k < m → tk c (pl c k) (ss c s k)) : ∀ k, k ≤ m → wf (ss c s k) ∧ yr 999 (ss c s k)
  | 0, _ => ⟨w, y⟩
  | k + 1, h => by
    have ih := ss_ok w y h3 ok k (by omega)
    exact te_ok (h3 k (by omega)) ih.1 ih.2 (ok k (by omega))
theorem q1_tellAll (X : tx M c N) (R : cR M 0 s) (w : wf s) (y : yr 999 s) {n m : Nat} (h2 : pl c n = N) (h3 : ∀ k, k < n → gd c (pl c k) ∧ pl c k < N) (hm : m ≤ n) (ok : ∀ k, k < m → tk c (pl c k) (ss c s k))
    (ha : (m = n ∧ ∀ M', cR M' 0 (ss c s n) → clf M M' → K (n : Int) M') ∨ (m < n ∧ ¬ tk c (pl c m) (ss c s m) ∧ ∀ M', jfm 0 3 M M' → K (-2000 - (pl c m : Int)) M')) : jCall 29 [jR 1 0 0] M (jqi K) := by
  have x1 := X.1
  have x2 := X.2.1
  have so := ss_ok (c := c) w y (m := m) (fun k hk => (h3 k (by omega)).1) ok
  refine vX1_tellAll (q0_become (by decide) R w (fun M1 R1 F1 => ?_))
  refine lp_n (X := fun k => ∀ M', cR M' 3 (ss c s k) → jfm 0 3 M M' → jAt 29 17 [some (jR 1 0 0), some (jI (k : Int)), some (jI (pl c k : Int)), some (jI (k : Int))] [] M' (jqi K)) m ?_ ?_ M1 R1 F1
  · intro M' R' F'
    have X' : tx M' c N := tx_e X (fun _ _ _ => F' _ _ _ _ (by omega))
    obtain ⟨wm, ym⟩ := so m (Nat.le_refl m)
    rcases ha with ⟨e, h⟩ | ⟨hlt, nt, h⟩
    · subst e
      have fin : jCall 0 [jR 0 0 0, jR 0 3 0] M' (jqv fun M1 => jqi K (some (jI (m : Int))) M1) := q0_become (by decide) R' wm (fun M2 R2 F2 => qi_ (h M2 R2 (fun k i q j z => (F2 _ _ _ _ (by omega)).trans (F' _ _ _ _ (by omega)))))
      refine vX1_tellAll_17 (jite (fun _ => fin) (fun _ => ?_))
      rw [X'.1, h2]
      exact jif1 (Int.le_refl _) fin
    · have hp := (h3 m hlt).2
      have hpl := pl_ge c m
      refine vX1_tellAll_17 (jif0 (by omega) ?_)
      rw [X'.1]
      exact jif0 (by omega) (q1_tellOne X' (h3 m hlt).1 R' wm ym (fun k => absurd k nt) (fun _ M2 F2 => jif0 (by decide) ⟨jr_i (by omega), qi_ (h M2 (jfm_tr F' F2))⟩))
  · intro k hk ih M' R' F'
    have X' : tx M' c N := tx_e X (fun _ _ _ => F' _ _ _ _ (by omega))
    obtain ⟨wm, ym⟩ := so k (by omega)
    have hp := (h3 k (by omega)).2
    have hpl := pl_ge c k
    have h6 := sx_6 (c (pl c k))
    refine vX1_tellAll_17 (jif0 (by omega) ?_)
    rw [X'.1]
    refine jif0 (by omega) (q1_tellOne X' (h3 k (by omega)).1 R' wm ym (fun _ M2 R2 F2 => jif1 (by decide) ?_) (fun nt => absurd (ok k hk) nt))
    have X2 : tx M2 c N := tx_e X' (fun _ _ _ => F2 _ _ _ _ (by omega))
    refine q1_letterAt X2 hp (q1_shapeBehind (vX1_tellAll_55 ⟨jr_i (by omega), jr_i (by omega), jr_i (by omega), jr_i (by omega), ?_⟩))
    have e : (pl c k : Int) + (1 + (jsl (sx (c (pl c k))) : Int)) = (pl c (k + 1) : Int) := by
      rw [pl]; omega
    rw [e]
    exact ih M2 R2 (jfm_tr F' F2)
end Larder

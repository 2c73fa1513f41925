-- Calls, side by side: larder
def ss (c : Nat → Int) (s : jT) : Nat → jT
  | 0 => s
  | k + 1 => te c (pl c k) (ss c s k)
def clf (M M' : jM) : Prop := ∀ k i c j, ¬ (k = 0 ∧ (i = 0 ∨ i = 3)) → M' k i c j = M k i c j
def rlf (M M' : jM) : Prop := ∀ k i c j, ¬ (k = 3 ∧ (i = 0 ∨ i = 3)) → ¬ (k = 2 ∧ i = 0 ∧ c = 0 ∧ (j = 10 ∨ j = 8)) → ¬ (k = 2 ∧ i = 0 ∧ c = 4) → M' k i c j = M k i c j
section Larder
variable {M : jM} {s : jT} {t : Int} {K : Int → jM → Prop} {V : jM → Prop} {c : Nat → Int} {N : Nat}
theorem rlf_tr {M' M'' : jM} (h : rlf M M') (h' : rlf M' M'') : rlf M M'' := fun k i c j z z1 z2 => (h' k i c j z z1 z2).trans (h k i c j z z1 z2)
theorem rlf_n {M' : jM} (h : jnf M M') : rlf M M' := fun k i c j _ z1 z2 => h k i c j (by omega) z2
theorem rlf_f {M' : jM} {a : Nat} (ha : a = 0 ∨ a = 3) (h : jfm 3 a M M') : rlf M M' := fun k i c j z _ _ => h k i c j (by omega)
theorem rlf_p {j : Nat} {x : Int} (hj : j = 10 ∨ j = 8) : rlf M (jupd M 2 0 0 j x) := fun k i c j' _ z1 _ => jupd_ne M x (by omega)
theorem rR_n {M' : jM} {a : Nat} {S : jT} (R : rR M a S) (F : jnf M M') : rR M' a S := rR_e R (fun _ _ => F _ _ _ _ (by omega) (by omega))
theorem ss_ok {s : jT} (w : wf s) (y : yr 999 s) {m : Nat} (h3 : ∀ k, k < m → gd c (pl c k)) (ok : ∀ k, k < m → tk c (pl c k) (ss c s k)) : ∀ k, k ≤ m → wf (ss c s k) ∧ yr 999 (ss c s k)
  | 0, _ => ⟨w, y⟩
  | k + 1, h => by
    have ih := ss_ok w y h3 ok k (by omega)
    exact te_ok (h3 k (by omega)) ih.1 ih.2 (ok k (by omega))
theorem q1_tellAll (X : tx M c N) (R : cR M 0 s) (w : wf s) (y : yr 999 s) {n m : Nat} (h2 : pl c n = N) (h3 : ∀ k, k < n → gd c (pl c k) ∧ pl c k < N) (hm : m ≤ n) (ok : ∀ k, k < m → tk c (pl c k) (ss c s k))
    (ha : (m = n ∧ ∀ M', cR M' 0 (ss c s n) → clf M M' → K (n : Int) M') ∨ (m < n ∧ ¬ tk c (pl c m) (ss c s m) ∧ ∀ M', jfm 0 3 M M' → K (-2000 - (pl c m : Int)) M')) : jCall 33 [jR 1 0 0] M (jqi K) := by
  have x1 := X.1
  have x2 := X.2.1
  have so := ss_ok (c := c) w y (m := m) (fun k hk => (h3 k (by omega)).1) ok
  refine vX1_tellAll (q0_become (by decide) R w (fun M1 R1 F1 => ?_))
  refine lp_n (X := fun k => ∀ M', cR M' 3 (ss c s k) → jfm 0 3 M M' → jAt 33 17 [some (jR 1 0 0), some (jI (k : Int)), some (jI (pl c k : Int)), some (jI (k : Int))] [] M' (jqi K)) m ?_ ?_ M1 R1 F1
  · intro M' R' F'
    have X' : tx M' c N := tx_e X (fun _ _ _ => F' _ _ _ _ (by omega))
    obtain ⟨wm, ym⟩ := so m (Nat.le_refl m)
    rcases ha with ⟨e, h⟩ | ⟨hlt, nt, h⟩
    · subst e
      have fin : jCall 0 [jR 0 0 0, jR 0 3 0] M' (jqv fun M1 => jqi K (some (jI (m : Int))) M1) := q0_become (by decide) R' wm (fun M2 R2 F2 => qi_ (h M2 R2 (fun k i q j z => (F2 _ _ _ _ (by omega)).trans (F' _ _ _ _ (by omega)))))
      refine vX1_tellAll_17 (jite (fun _ => fin) (fun _ => ?_))
      rw [X'.1, h2]
      exact jif1 (Int.le_refl _) fin
    · have hp := (h3 m hlt).2
      have hpl := pl_ge c m
      refine vX1_tellAll_17 (jif0 (by omega) ?_)
      rw [X'.1]
      exact jif0 (by omega) (q1_tellOne X' (h3 m hlt).1 R' wm ym (fun k => absurd k nt) (fun _ M2 F2 => jif0 (by decide) ⟨jr_i (by omega), qi_ (h M2 (jfm_tr F' F2))⟩))
  · intro k hk ih M' R' F'
    have X' : tx M' c N := tx_e X (fun _ _ _ => F' _ _ _ _ (by omega))
    obtain ⟨wm, ym⟩ := so k (by omega)
    have hp := (h3 k (by omega)).2
    have hpl := pl_ge c k
    have h6 := sx_6 (c (pl c k))
    refine vX1_tellAll_17 (jif0 (by omega) ?_)
    rw [X'.1]
    refine jif0 (by omega) (q1_tellOne X' (h3 k (by omega)).1 R' wm ym (fun _ M2 R2 F2 => jif1 (by decide) ?_) (fun nt => absurd (ok k hk) nt))
    have X2 : tx M2 c N := tx_e X' (fun _ _ _ => F2 _ _ _ _ (by omega))
    refine q1_letterAt X2 hp (q1_shapeBehind (vX1_tellAll_55 ⟨jr_i (by omega), jr_i (by omega), jr_i (by omega), jr_i (by omega), ?_⟩))
    have e : (pl c k : Int) + (1 + (jsl (sx (c (pl c k))) : Int)) = (pl c (k + 1) : Int) := by
      rw [pl]; omega
    rw [e]
    exact ih M2 R2 (jfm_tr F' F2)
/-- the reference: the second time through, and its end -/
theorem q2_larder2 (Y : ty M c N) (w : wf s) (y : yr 999 s) {n m : Nat} (h2 : pl c n = N) (h3 : ∀ k, k < n → gd c (pl c k) ∧ pl c k < N) (hm : m ≤ n) (ok : ∀ k, k < m → tk c (pl c k) (ss c s k))
    (ha : (m = n ∧ ∀ M', rR M' 0 (ss c s n) → rlf M M' → M' 2 0 0 8 = 0 → K (n : Int) M') ∨ (m < n ∧ ¬ tk c (pl c m) (ss c s m) ∧ ∀ M', rR M' 0 s → rlf M M' → M' 2 0 0 8 = 0 → K (-2000 - (pl c m : Int)) M')) : ∀ M', rR M' 0 s → rR M' 3 s → rlf M M' → ty M' c N → M' 2 0 0 10 = 0 → jAt 132 62 [some (jR 2 0 0), some (jI (n : Int)), some (jI (-9)), none, none, none] [] M' (jqi K) := by
  have y2 := Y.2.1
  have so := ss_ok (c := c) w y (m := m) (fun k hk => (h3 k (by omega)).1) ok
  intro M0 R0 W0 L0 Y0 P0
  refine lp_n (X := fun k => ∀ M', rR M' 0 (ss c s k) → rR M' 3 s → rlf M M' → ty M' c N → M' 2 0 0 10 = (pl c k : Int) → jAt 132 62 [some (jR 2 0 0), some (jI (n : Int)), some (jI (-9)), none, none, none] [] M' (jqi K)) m ?_ ?_ M0 R0 W0 L0 Y0 P0
  · intro M' R' W' L' Y' P'
    obtain ⟨wm, ym⟩ := so m (Nat.le_refl m)
    rcases ha with ⟨e, h⟩ | ⟨hlt, nt, h⟩
    · subst e
      refine vX2_larder_62 (jif0 (by decide) ?_)
      rw [Y'.1, P', h2]
      refine jif1 (Int.le_refl _) ?_
      intro m2
      exact jif0 (by decide) (qi_ (h m2 (rR_e R' (fun _ _ => jupd_ne M' _ (by omega))) (rlf_tr L' (rlf_p (Or.inr rfl))) (jupd_at _ _ _ _ _ _)))
    · have hp := (h3 m hlt).2
      refine vX2_larder_62 (jif0 (by decide) ?_)
      rw [Y'.1, P']
      refine jif0 (by omega) (q2_here Y' (by omega) P' (q2_readsStatement Y' (by omega) P' (fun _ M2 F2 e1 B2 => ?_) (fun q hq => (gd_bd (h3 m hlt).1 hq).elim)))
      refine q2_isDone (h3 m hlt).1 B2 (rR_n R' F2) wm ym (fun k => absurd k nt) (fun _ M3 F3 => jif1 rfl ⟨jr_i (by omega), ?_⟩)
      have W3 : rR M3 3 s := rR_fr (rR_n W' F2) F3 (by omega)
      refine q2_copies (by decide) W3 w (fun M4 R4 F4 => ?_)
      have L4 : rlf M M4 := rlf_tr L' (rlf_tr (rlf_n F2) (rlf_tr (rlf_f (Or.inl rfl) F3) (rlf_f (Or.inl rfl) F4)))
      refine vX2_larder_62 (jif1 (by omega) ?_)
      intro m5
      exact jif1 (by omega) (qi_ (h m5 (rR_e R4 (fun _ _ => jupd_ne M4 _ (by omega))) (rlf_tr L4 (rlf_p (Or.inr rfl))) (jupd_at _ _ _ _ _ _)))
  · intro k hk ih M' R' W' L' Y' P'
    obtain ⟨wm, ym⟩ := so k (by omega)
    have hg := (h3 k (by omega)).1
    have hp := (h3 k (by omega)).2
    refine vX2_larder_62 (jif0 (by decide) ?_)
    rw [Y'.1, P']
    refine jif0 (by omega) (q2_here Y' (by omega) P' (q2_readsStatement Y' (by omega) P' (fun _ M2 F2 e1 B2 => ?_) (fun q hq => (gd_bd hg hq).elim)))
    refine q2_isDone hg B2 (rR_n R' F2) wm ym (fun _ M3 R3 F3 => jif0 (by decide) (ih M3 R3 (rR_fr (rR_n W' F2) F3 (by omega)) (rlf_tr L' (rlf_tr (rlf_n F2) (rlf_f (Or.inl rfl) F3))) ?_ ?_)) (fun nt => absurd (ok k hk) nt)
    · have Y2 := ty_e Y' F2
      exact ⟨(F3 _ _ _ _ (by omega)).trans Y2.1, Y2.2.1, fun p => ⟨fun h => ⟨(F3 _ _ _ _ (by omega)).trans ((Y2.2.2 p).1 h).1, ((Y2.2.2 p).1 h).2⟩, (Y2.2.2 p).2⟩⟩
    · exact (F3 _ _ _ _ (by omega)).trans e1
theorem q2_larderG (Y : ty M c N) (R : rR M 0 s) (w : wf s) (y : yr 999 s) {n m : Nat} (h1 : 1 ≤ n) (h2 : pl c n = N) (h3 : ∀ k, k < n → gd c (pl c k) ∧ pl c k < N) (hm : m ≤ n) (ok : ∀ k, k < m → tk c (pl c k) (ss c s k))
    (ha : (m = n ∧ ∀ M', rR M' 0 (ss c s n) → rlf M M' → M' 2 0 0 8 = 0 → K (n : Int) M') ∨ (m < n ∧ ¬ tk c (pl c m) (ss c s m) ∧ ∀ M', rR M' 0 s → rlf M M' → M' 2 0 0 8 = 0 → K (-2000 - (pl c m : Int)) M')) : jCall 132 [jR 2 0 0] M (jqi K) := by
  have y1 := Y.1
  have y2 := Y.2.1
  have hn : n ≤ 96 := by have := pl_ge c n; omega
  refine vX2_larder ?_
  intro m1
  have F1 : jnf M m1 := jnf_p
  have P1 : m1 2 0 0 10 = 0 := jupd_at _ _ _ _ _ _
  clear_value m1
  obtain ⟨b, rfl⟩ : ∃ b, n = b + 1 := ⟨n - 1, by omega⟩
  refine lp_n (X := fun k => ∀ M', jnf M M' → M' 2 0 0 10 = (pl c k : Int) → jAt 132 10 [some (jR 2 0 0), some (jI (k : Int)), some (jI (-9)), none, none, none] [] M' (jqi K)) b ?_ ?_ m1 F1 P1
  · intro M' F' P'
    have Y' := ty_e Y F'
    have hg := (h3 b (by omega)).1
    have hp := (h3 b (by omega)).2
    refine vX2_larder_10 (q2_readsStatement Y' (by omega) P' (fun _ M2 F2 e1 B2 => jif1 (by decide) ⟨jr_i (by omega), jif0 (by decide) ?_⟩) (fun q hq => (gd_bd hg hq).elim))
    have Y2 := ty_e Y' F2
    have e2 : M2 2 0 0 10 = (N : Int) := by rw [e1, ← h2]; rfl
    rw [e2, Y2.1]
    have R2 := rR_n R (jnf_tr F' F2)
    refine jif0 (by omega) (q2_copies (by decide) R2 w (fun M4 R4 F4 => ?_))
    intro m5
    have L4 : rlf M m5 := rlf_tr (rlf_n (jnf_tr F' F2)) (rlf_tr (rlf_f (Or.inr rfl) F4) (rlf_p (Or.inl rfl)))
    refine q2_larder2 Y w y h2 h3 hm ok ha m5 (rR_e (rR_fr R2 F4 (by omega)) (fun _ _ => jupd_ne M4 _ (by omega))) (rR_e R4 (fun _ _ => jupd_ne M4 _ (by omega))) L4 ?_ (jupd_at _ _ _ _ _ _)
    exact ⟨((jupd_ne M4 _ (by omega)).trans (F4 _ _ _ _ (by omega))).trans Y2.1, Y2.2.1, fun p => ⟨fun h => ⟨((jupd_ne M4 _ (by omega)).trans (F4 _ _ _ _ (by omega))).trans ((Y2.2.2 p).1 h).1, ((Y2.2.2 p).1 h).2⟩, (Y2.2.2 p).2⟩⟩
  · intro k hk ih M' F' P'
    have Y' := ty_e Y F'
    have hg := (h3 k (by omega)).1
    have hp := (h3 k (by omega)).2
    have hp1 := (h3 (k + 1) (by omega)).2
    refine vX2_larder_10 (q2_readsStatement Y' (by omega) P' (fun _ M2 F2 e1 B2 => jif1 (by decide) ⟨jr_i (by omega), jif0 (by decide) ?_⟩) (fun q hq => (gd_bd hg hq).elim))
    have Y2 := ty_e Y' F2
    have e2 : M2 2 0 0 10 = (pl c (k + 1) : Int) := e1
    rw [e2, Y2.1]
    exact jif1 (by omega) (ih M2 (jnf_tr F' F2) e2)
theorem q2_larderB (Y : ty M c N) (R : rR M 0 s) (w : wf s) {n q : Nat} (h2 : pl c n < N ∨ N = 0 ∧ n = 0) (hq : bd c (pl c n) q) (h3 : ∀ k, k < n → gd c (pl c k) ∧ pl c k < N)
    (ha : ∀ M', rR M' 0 s → rlf M M' → M' 2 0 0 8 = 0 → K (-1000 - (q : Int)) M') : jCall 132 [jR 2 0 0] M (jqi K) := by
  have y1 := Y.1
  have y2 := Y.2.1
  have hpl := pl_ge c n
  have hpn : pl c n ≤ N := by
    rcases h2 with h | ⟨h, h'⟩
    · omega
    · subst h'; exact Nat.zero_le N
  have hqN := bd_le (fun p h => (Y.2.2 p).2 h) hpn hq
  refine vX2_larder ?_
  intro m1
  have F1 : jnf M m1 := jnf_p
  have P1 : m1 2 0 0 10 = 0 := jupd_at _ _ _ _ _ _
  clear_value m1
  refine lp_n (X := fun k => ∀ M', jnf M M' → M' 2 0 0 10 = (pl c k : Int) → jAt 132 10 [some (jR 2 0 0), some (jI (k : Int)), some (jI (-9)), none, none, none] [] M' (jqi K)) n ?_ ?_ m1 F1 P1
  · intro M' F' P'
    have Y' := ty_e Y F'
    refine vX2_larder_10 (q2_readsStatement Y' hpn P' (fun g => (gd_bd g hq).elim) (fun q' hq' M2 F2 e1 => ?_))
    have eq : q' = q := bd_1 hq' hq
    subst eq
    rw [e1]
    have R2 := rR_n R (jnf_tr F' F2)
    refine jif0 (by decide) ⟨jr_i (by omega), jr_i (by omega), jif1 (by omega) (q2_copies (by decide) R2 w (fun M4 R4 F4 => ?_))⟩
    intro m5
    have L5 : rlf M m5 := rlf_tr (rlf_n (jnf_tr F' F2)) (rlf_tr (rlf_f (Or.inr rfl) F4) (rlf_p (Or.inl rfl)))
    have R5 : rR m5 0 s := rR_e (rR_fr R2 F4 (by omega)) (fun _ _ => jupd_ne M4 _ (by omega))
    clear_value m5
    refine vX2_larder_62 (jif1 (by omega) ?_)
    intro m6
    exact jif1 (by omega) (qi_ (ha m6 (rR_e R5 (fun _ _ => jupd_ne m5 _ (by omega))) (rlf_tr L5 (rlf_p (Or.inr rfl))) (jupd_at _ _ _ _ _ _)))
  · intro k hk ih M' F' P'
    have Y' := ty_e Y F'
    have hg := (h3 k (by omega)).1
    have hp := (h3 k (by omega)).2
    refine vX2_larder_10 (q2_readsStatement Y' (by omega) P' (fun _ M2 F2 e1 B2 => jif1 (by decide) ⟨jr_i (by omega), jif0 (by decide) ?_⟩) (fun q hq => (gd_bd hg hq).elim))
    have Y2 := ty_e Y' F2
    have e2 : M2 2 0 0 10 = (pl c (k + 1) : Int) := e1
    have hp1 : pl c (k + 1) < N := by
      by_cases z : k + 1 = n
      · rw [z]
        rcases h2 with h | ⟨h, h'⟩
        · exact h
        · omega
      · exact (h3 (k + 1) (by omega)).2
    rw [e2, Y2.1]
    exact jif1 (by omega) (ih M2 (jnf_tr F' F2) e2)
/-- the letters are no more, on either side -/
theorem sim_l {M' : jM} {s' : jT} (H : sim t M s) (ht : t < 1000) (R : cR M' 0 s') (R' : rR M' 0 s') (w : wf s') (y : yr 999 s') (h : ∀ k i c j, ¬ jex k i c j → ¬ (k = 0 ∧ i = 0) → ¬ (k = 3 ∧ i = 0) → ¬ (k = 1 ∧ i = 0 ∧ c = 0 ∧ j = 6) → ¬ (k = 2 ∧ i = 0 ∧ c = 0 ∧ j = 8) → M' k i c j = M k i c j) (h1 : M' 1 0 0 6 = 0) (h2 : M' 2 0 0 8 = 0) : sim (t + 1) M' s' := by
  have h0 := H.2.2
  obtain ⟨_, ⟨e, f, g, i⟩, _⟩ := H
  refine ⟨⟨R, R', w, y⟩, ⟨⟨by rw [h1]; omega, by rw [h1, h2], fun j hj => by rw [h1] at hj; omega⟩, srow_e f ?_ ?_ (fun _ => ?_) (fun _ => ?_), sref_s (sref_e g (fun _ => ?_) (fun _ => ?_)), simg_e i ?_ ?_ (fun _ _ => ?_) (fun _ _ => ?_)⟩, by omega, by omega⟩ <;> exact h _ _ _ _ (by unfold jex; omega) (by omega) (by omega) (by omega) (by omega)
theorem p_larder (H : sim t M s) (ht : t < 1000) : pP t 28 132 [] M := by
  obtain ⟨R, R', w, y⟩ := H.1
  have sl := H.2.1.1
  obtain ⟨N, hN⟩ := jnat sl.1.1
  have X : tx M (fun p => if p < N then M 1 0 1 p else -1) N := by
    refine ⟨hN, by have := sl.1.2; omega, fun p => ⟨fun h => ?_, fun h => if_neg (by omega)⟩⟩
    have q := (sl.2.2 p (by omega)).2
    show M 1 0 1 p = (if p < N then M 1 0 1 p else -1) ∧ 0 ≤ (if p < N then M 1 0 1 p else -1) ∧ (if p < N then M 1 0 1 p else -1) ≤ 255
    rw [if_pos h]
    exact ⟨rfl, q⟩
  have Y : ∀ M1 : jM, (∀ i q j, M1 2 i q j = M 2 i q j) → ty M1 (fun p => if p < N then M 1 0 1 p else -1) N := by
    intro M1 F
    refine ⟨(F _ _ _).trans (sl.2.1.trans hN), X.2.1, fun p => ⟨fun h => ⟨?_, ((X.2.2 p).1 h).2⟩, (X.2.2 p).2⟩⟩
    exact (F _ _ _).trans ((sl.2.2 p (by omega)).1.trans ((X.2.2 p).1 h).1)
  generalize (fun p => if p < N then M 1 0 1 p else -1 : Nat → Int) = c at X Y
  have T : ∀ p, N ≤ p → c p = -1 := fun p h => (X.2.2 p).2 h
  rcases pl_or T with ⟨n, h1, h2, h3⟩ | ⟨n, q, h2, hq, h3⟩
  · have hn : n ≤ 96 := by have := pl_ge c n; have := X.2.1; omega
    refine vX1_larder (q1_firstGood X h1 h2 h3 (jif0 (by decide) ?_))
    rcases fst_or (P := fun k => ¬ tk c (pl c k) (ss c s k)) (fun n => Classical.em _) n with h | ⟨m, hm, nt, h⟩
    · have ok : ∀ k, k < n → tk c (pl c k) (ss c s k) := fun k hk => Classical.not_not.mp (h k hk)
      obtain ⟨wn, yn⟩ := ss_ok (c := c) w y (m := n) (fun k hk => (h3 k hk).1) ok n (Nat.le_refl n)
      refine q1_tellAll X R w y h2 h3 (Nat.le_refl n) ok (Or.inl ⟨rfl, fun M1 R1 F1 => ?_⟩)
      intro m2
      have Rs : rR m2 0 s := rR_e R' (fun _ _ => (jupd_ne M1 _ (by omega)).trans (F1 _ _ _ _ (by omega)))
      have Rc : cR m2 0 (ss c s n) := cR_e R1 (fun _ _ => jupd_ne M1 _ (by omega))
      have e6 : m2 1 0 0 6 = 0 := jupd_at _ _ _ _ _ _
      have Fm : ∀ k i q j, ¬ (k = 0 ∧ (i = 0 ∨ i = 3)) → ¬ (k = 1 ∧ i = 0 ∧ q = 0 ∧ j = 6) → m2 k i q j = M k i q j := fun k i q j z z1 => (jupd_ne M1 _ z1).trans (F1 k i q j z)
      have Ym : ty m2 c N := Y m2 (fun i q j => Fm 2 i q j (by omega) (by omega))
      clear_value m2
      refine qi_ (q2_larderG Ym Rs w y h1 h2 h3 (Nat.le_refl n) ok (Or.inl ⟨rfl, fun M3 R3 L3 e8 => ⟨rfl, ss c s n, sim_l H ht ?_ R3 wn yn (fun k i q j z z0 z3 z6 z8 => ?_) ?_ e8⟩⟩))
      · exact cR_e Rc (fun _ _ => L3 _ _ _ _ (by omega) (by omega) (by omega))
      · unfold jex at z
        exact (L3 k i q j (by omega) (by omega) (by omega)).trans (Fm k i q j (by omega) z6)
      · exact (L3 _ _ _ _ (by omega) (by omega) (by omega)).trans e6
    · have ok : ∀ k, k < m → tk c (pl c k) (ss c s k) := fun k hk => Classical.not_not.mp (h k hk)
      have hpm := (h3 m hm).2
      have x2 := X.2.1
      refine q1_tellAll X R w y h2 h3 (by omega) ok (Or.inr ⟨hm, nt, fun M1 F1 => ?_⟩)
      intro m2
      have Rs : rR m2 0 s := rR_e R' (fun _ _ => (jupd_ne M1 _ (by omega)).trans (F1 _ _ _ _ (by omega)))
      have Rc : cR m2 0 s := cR_e R (fun _ _ => (jupd_ne M1 _ (by omega)).trans (F1 _ _ _ _ (by omega)))
      have e6 : m2 1 0 0 6 = 0 := jupd_at _ _ _ _ _ _
      have Fm : ∀ k i q j, ¬ (k = 0 ∧ i = 3) → ¬ (k = 1 ∧ i = 0 ∧ q = 0 ∧ j = 6) → m2 k i q j = M k i q j := fun k i q j z z1 => (jupd_ne M1 _ z1).trans (F1 k i q j z)
      have Ym : ty m2 c N := Y m2 (fun i q j => Fm 2 i q j (by omega) (by omega))
      clear_value m2
      refine qi_ (q2_larderG Ym Rs w y h1 h2 h3 (by omega) ok (Or.inr ⟨hm, nt, fun M3 R3 L3 e8 => ⟨rfl, s, sim_l H ht ?_ R3 w y (fun k i q j z z0 z3 z6 z8 => ?_) ?_ e8⟩⟩))
      · exact cR_e Rc (fun _ _ => L3 _ _ _ _ (by omega) (by omega) (by omega))
      · unfold jex at z
        exact (L3 k i q j (by omega) (by omega) (by omega)).trans (Fm k i q j (by omega) z6)
      · exact (L3 _ _ _ _ (by omega) (by omega) (by omega)).trans e6
  · have hqN : q ≤ N := bd_le T (by
      rcases h2 with h | ⟨h, h'⟩
      · omega
      · subst h'; exact Nat.zero_le N) hq
    have x2 := X.2.1
    refine vX1_larder (q1_firstBad X h2 hq h3 (jif1 (by omega) ⟨jr_i (by omega), ?_⟩))
    intro m2
    have Rs : rR m2 0 s := rR_e R' (fun _ _ => jupd_ne M _ (by omega))
    have Rc : cR m2 0 s := cR_e R (fun _ _ => jupd_ne M _ (by omega))
    have e6 : m2 1 0 0 6 = 0 := jupd_at _ _ _ _ _ _
    have Fm : ∀ k i q j, ¬ (k = 1 ∧ i = 0 ∧ q = 0 ∧ j = 6) → m2 k i q j = M k i q j := fun k i q j z1 => jupd_ne M _ z1
    have Ym : ty m2 c N := Y m2 (fun i q j => Fm 2 i q j (by omega))
    clear_value m2
    refine qi_ (q2_larderB Ym Rs w h2 hq h3 (fun M3 R3 L3 e8 => ⟨rfl, s, sim_l H ht ?_ R3 w y (fun k i q j z z0 z3 z6 z8 => ?_) ?_ e8⟩))
    · exact cR_e Rc (fun _ _ => L3 _ _ _ _ (by omega) (by omega) (by omega))
    · unfold jex at z
      exact (L3 k i q j (by omega) (by omega) (by omega)).trans (Fm k i q j z6)
    · exact (L3 _ _ _ _ (by omega) (by omega) (by omega)).trans e6
end Larder

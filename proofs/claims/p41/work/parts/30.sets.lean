-- Sets of jars: the fewest that keep all, found in two ways
theorem cs_of {x : Int} (hx : jr x) (h : ∀ i, 10 ≤ i → i < 32 → tb x i = false) : cs x := by
  have e : x = jand 1023 x := by
    refine tb_ext hx (jr_and _ _) fun i hi => ?_
    have t : ∀ i, i < 32 → tb 1023 i = decide (i < 10) := by decide +kernel
    rw [tb_and, t i hi]
    by_cases z : i < 10
    · rw [decide_eq_true z, Bool.true_and]
    · rw [decide_eq_false z, Bool.false_and]; exact h i (by omega) hi
  rw [e]
  exact cs_and ⟨by decide, by decide⟩ x hx
theorem cs_bs (q : Nat → Bool) {n : Nat} (h : n ≤ 10) : cs (bs q n) := cs_of (bs_jr q n) (fun i h1 h2 => by rw [tb_bs q n (by omega) i h2, decide_eq_false (by omega), Bool.false_and])
/-- a set of jars is a number below 2 ^ n -/
theorem bs_nat (q : Nat → Bool) {n : Nat} (h : n ≤ 10) : ∃ m : Nat, m < 2 ^ n ∧ bs q n = (m : Int) := by
  have c := cs_bs q h
  obtain ⟨m, hm⟩ := jnat c.1
  refine ⟨m, ?_, hm⟩
  refine Nat.lt_pow_two_of_testBit m fun i hi => ?_
  by_cases z : i < 32
  · rw [← tb_nat m z, ← hm, tb_bs q n (by omega) i z, decide_eq_false (by omega), Bool.false_and]
  · have h2 := c.2
    rw [hm] at h2
    exact Nat.testBit_lt_two_pow (Nat.lt_of_lt_of_le (show m < 2 ^ 10 by omega) (Nat.pow_le_pow_right (by decide) (by omega)))
theorem tb_lt {m n : Nat} (hm : m < 2 ^ n) {i : Nat} (h : n ≤ i) (hi : i < 32) : tb (m : Int) i = false := by
  rw [tb_nat m hi]
  exact Nat.testBit_lt_two_pow (Nat.lt_of_lt_of_le hm (Nat.pow_le_pow_right (by decide) h))
theorem bc_sub {x y : Int} : ∀ k, k ≤ 32 → (∀ i, i < k → tb x i = true → tb y i = true) → bc x k ≤ bc y k ∧ (bc x k = bc y k → ∀ i, i < k → tb x i = tb y i)
  | 0, _, _ => ⟨Int.le_refl _, fun _ i h => absurd h (Nat.not_lt_zero i)⟩
  | k + 1, hk, h => by
    obtain ⟨h1, h2⟩ := bc_sub k (by omega) (fun i hi => h i (by omega))
    have hx := h k (by omega)
    rw [bc, bc, hb_tb (by omega), hb_tb (by omega)]
    cases q : tb x k with
    | false =>
      rw [if_neg (by decide)]
      cases q2 : tb y k with
      | false =>
        rw [if_neg (by decide)]
        refine ⟨by omega, fun e i hi => ?_⟩
        by_cases z : i = k
        · subst z; rw [q, q2]
        · exact h2 (by omega) i (by omega)
      | true =>
        rw [if_pos rfl]
        exact ⟨by omega, fun e => by omega⟩
    | true =>
      have q2 := hx q
      rw [if_pos rfl, if_pos q2]
      refine ⟨by omega, fun e i hi => ?_⟩
      by_cases z : i = k
      · subst z; rw [q, q2]
      · exact h2 (by omega) i (by omega)
/-- fewer jars, fewer bits; as many: the same -/
theorem pc_sub {x y : Int} (hx : cs x) (hy : cs y) (h : ∀ i, i < 10 → tb x i = true → tb y i = true) : jpc 10 x ≤ jpc 10 y ∧ (jpc 10 x = jpc 10 y → x = y) := by
  have q := bc_sub (x := x) (y := y) 10 (by decide) h
  rw [bc_10 hx, bc_10 hy] at q
  refine ⟨q.1, fun e => tb_ext (cs_jr hx) (cs_jr hy) fun i hi => ?_⟩
  by_cases z : i < 10
  · exact q.2 e i z
  · rw [tb_cs hx (by omega) hi, tb_cs hy (by omega) hi]
/-- of those ahead of N that are so, one of the fewest, of several the least; else B -/
def gm (P : Nat → Bool) (B : Int) : Nat → Int
  | 0 => B
  | k + 1 => if jpc 10 (k : Int) < jpc 10 (gm P B k) ∧ P k = true then (k : Int) else gm P B k
theorem gm_spec (P : Nat → Bool) (B : Int) : ∀ N, (jpc 10 (gm P B N) ≤ jpc 10 B ∧ ∀ k : Nat, k < N → P k = true → jpc 10 (gm P B N) ≤ jpc 10 (k : Int)) ∧ (gm P B N = B ∨ ∃ m : Nat, m < N ∧ gm P B N = (m : Int) ∧ P m = true ∧ jpc 10 (m : Int) < jpc 10 B ∧ ∀ k : Nat, k < m → P k = true → jpc 10 (m : Int) < jpc 10 (k : Int))
  | 0 => ⟨⟨Int.le_refl _, fun k h => absurd h (Nat.not_lt_zero k)⟩, Or.inl rfl⟩
  | N + 1 => by
    obtain ⟨⟨h1, h2⟩, h3⟩ := gm_spec P B N
    rw [gm]
    split
    · rename_i c
      refine ⟨⟨by omega, fun k hk hp => ?_⟩, Or.inr ⟨N, by omega, rfl, c.2, by omega, fun k hk hp => ?_⟩⟩
      · by_cases z : k = N
        · subst z; exact Int.le_refl _
        · have := h2 k (by omega) hp; omega
      · have := h2 k hk hp; omega
    · rename_i c
      refine ⟨⟨h1, fun k hk hp => ?_⟩, ?_⟩
      · by_cases z : k = N
        · subst z
          rcases Decidable.em (jpc 10 (k : Int) < jpc 10 (gm P B k)) with d | d
          · exact absurd ⟨d, hp⟩ c
          · omega
        · exact h2 k (by omega) hp
      · rcases h3 with h3 | ⟨m, a, b⟩
        · exact Or.inl h3
        · exact Or.inr ⟨m, by omega, b⟩
theorem tb_kb {s : jT} (x : Int) (c : Nat) (hc : c < 32) : ∀ n, n ≤ 31 → (tb (kb s x n) c = true ↔ ∃ j, j < n ∧ tb x j = true ∧ tb (kp s j) c = true)
  | 0, _ => by
    rw [kb, tb_0 c hc]
    exact ⟨fun h => (by cases h), fun ⟨j, h, _⟩ => absurd h (Nat.not_lt_zero j)⟩
  | n + 1, h => by
    have ih := tb_kb (s := s) x c hc n (by omega)
    rw [kb]
    split
    · rename_i q
      rw [tb_or, Bool.or_eq_true, ih]
      constructor
      · rintro (⟨j, a, b, d⟩ | d)
        · exact ⟨j, by omega, b, d⟩
        · exact ⟨n, by omega, q, d⟩
      · rintro ⟨j, a, b, d⟩
        by_cases z : j = n
        · subst z; exact Or.inr d
        · exact Or.inl ⟨j, by omega, b, d⟩
    · rename_i q
      rw [ih]
      constructor
      · rintro ⟨j, a, b, d⟩
        exact ⟨j, by omega, b, d⟩
      · rintro ⟨j, a, b, d⟩
        by_cases z : j = n
        · subst z; exact absurd b q
        · exact ⟨j, by omega, b, d⟩
theorem kp_f {s : jT} {j c : Nat} (hc : c < 32) (h : tb (kp s j) c = true) : 0 < s 4 j := by
  rcases Decidable.em (0 < s 4 j) with q | q
  · exact q
  · unfold kp at h
    rw [if_pos (by omega), tb_0 c hc] at h
    cases h
/-- what the jars with FOOD of two sets keep is the same -/
theorem kb_e {s : jT} (w : wf s) {x y : Int} (h : ∀ j, j < nj s → 0 < s 4 j → (tb x j = true ↔ tb y j = true)) : kb s x (nj s) = kb s y (nj s) := by
  have h9 := nj_9 w
  refine tb_ext (cs_jr (cs_kb w x _ (Nat.le_refl _))) (cs_jr (cs_kb w y _ (Nat.le_refl _))) fun c hc => ?_
  rw [Bool.eq_iff_iff, tb_kb x c hc _ (by omega), tb_kb y c hc _ (by omega)]
  constructor
  · rintro ⟨j, a, b, d⟩
    exact ⟨j, a, (h j a (kp_f hc d)).mp b, d⟩
  · rintro ⟨j, a, b, d⟩
    exact ⟨j, a, (h j a (kp_f hc d)).mpr b, d⟩
/-- the jars with FOOD -/
def fd (s : jT) : Int := bs (fun j => !decide (s 4 j ≤ 0)) (nj s)
def fr (s : jT) : Nat → Int
  | 0 => ((2 ^ nj s : Nat) : Int) - 1
  | k + 1 => if jpc 10 (k : Int) < jpc 10 (fr s k) ∧ kb s (k : Int) (nj s) = kw s then (k : Int) else fr s k
theorem fr_gm (s : jT) : ∀ k, fr s k = gm (fun k => decide (kb s (k : Int) (nj s) = kw s)) (((2 ^ nj s : Nat) : Int) - 1) k
  | 0 => rfl
  | k + 1 => by
    rw [fr, gm, fr_gm s k]
    simp only [decide_eq_true_eq]
theorem fw_gm (s : jT) (F B : Int) : ∀ k, fw s F B k = gm (fun k => decide (jand (k : Int) (jxor F (-1)) = 0) && decide (jor B (kb s (k : Int) (nj s)) = kw s)) F k
  | 0 => rfl
  | k + 1 => by
    rw [fw, gm, fw_gm s F B k]
    simp only [Bool.and_eq_true, decide_eq_true_eq]
    by_cases c : jand (k : Int) (jxor F (-1)) = 0 ∧ jor B (kb s (k : Int) (nj s)) = kw s
    · by_cases d : jpc 10 (k : Int) < jpc 10 (gm (fun k => decide (jand (k : Int) (jxor F (-1)) = 0) && decide (jor B (kb s (k : Int) (nj s)) = kw s)) F k)
      · rw [if_pos ⟨⟨c.1, d⟩, c.2⟩, if_pos ⟨d, c⟩]
      · rw [if_neg (fun z => d z.1.2), if_neg (fun z => d z.1)]
    · rw [if_neg (fun z => c ⟨z.1.1, z.2⟩), if_neg (fun z => c z.2)]
/-- a set within another -/
theorem sub_tb {x F : Int} (hx : jr x) : jand x (jxor F (-1)) = 0 ↔ ∀ i, i < 32 → tb x i = true → tb F i = true := by
  constructor
  · intro h i hi q
    have := congrArg (fun z => tb z i) h
    simp only [tb_and, tb_not F hi, tb_0 i hi, q, Bool.true_and] at this
    cases z : tb F i
    · rw [z] at this; cases this
    · rfl
  · intro h
    refine tb_ext (jr_and _ _) jr_0 fun i hi => ?_
    rw [tb_and, tb_not F hi, tb_0 i hi]
    cases z : tb x i
    · rfl
    · rw [h i hi z]; rfl
theorem tb_full {n : Nat} (hn : n ≤ 10) {i : Nat} (hi : i < 32) : tb (((2 ^ n : Nat) : Int) - 1) i = decide (i < n) := by
  have hp := Nat.two_pow_pos n
  rw [show ((2 ^ n : Nat) : Int) - 1 = ((2 ^ n - 1 : Nat) : Int) by omega, tb_nat _ hi, Nat.testBit_two_pow_sub_one]
theorem tb_fd {s : jT} (w : wf s) {j : Nat} (hj : j < 32) : tb (fd s) j = (decide (j < nj s) && !decide (s 4 j ≤ 0)) := tb_bs _ _ (by have := nj_9 w; omega) j hj
/-- with FOOD: all jars, the full set, the jars with FOOD keep all that is KNOWN -/
theorem kb_all {s : jT} (w : wf s) {x : Int} (h : ∀ j, j < nj s → 0 < s 4 j → tb x j = true) : kb s x (nj s) = kw s :=
  kb_e w (fun j hj hf => ⟨fun _ => tb_m1 j (by have := nj_9 w; omega), fun _ => h j hj hf⟩)
theorem few_eq {s : jT} (w : wf s) : fw s (fd s) 0 (2 ^ nj s) = bs (fun j => tb (fr s (2 ^ nj s)) j && !decide (s 4 j ≤ 0)) (nj s) := by
  have h9 := nj_9 w
  have hp := p2_9 h9
  have hpp := Nat.two_pow_pos (nj s)
  rw [fr_gm, fw_gm]
  have g1 := gm_spec (fun k => decide (jand (k : Int) (jxor (fd s) (-1)) = 0) && decide (jor 0 (kb s (k : Int) (nj s)) = kw s)) (fd s) (2 ^ nj s)
  have g2 := gm_spec (fun k => decide (kb s (k : Int) (nj s) = kw s)) (((2 ^ nj s : Nat) : Int) - 1) (2 ^ nj s)
  generalize gm (fun k => decide (jand (k : Int) (jxor (fd s) (-1)) = 0) && decide (jor 0 (kb s (k : Int) (nj s)) = kw s)) (fd s) (2 ^ nj s) = r at g1 ⊢
  generalize gm (fun k => decide (kb s (k : Int) (nj s) = kw s)) (((2 ^ nj s : Nat) : Int) - 1) (2 ^ nj s) = r' at g2 ⊢
  simp only [Bool.and_eq_true, decide_eq_true_eq] at g1 g2
  have hj0 : ∀ x : Int, jor 0 (kb s x (nj s)) = kb s x (nj s) := fun x => j0_or (cs_jr (cs_kb w x _ (Nat.le_refl _)))
  simp only [hj0] at g1
  obtain ⟨⟨a1, a2⟩, a3⟩ := g1
  obtain ⟨⟨b1, b2⟩, b3⟩ := g2
  -- both are sets ahead of 2 ^ n
  obtain ⟨f, hf1, hf2⟩ := bs_nat (fun j => !decide (s 4 j ≤ 0)) (n := nj s) (by omega)
  have hfd : fd s = (f : Int) := hf2
  have hr : ∃ m : Nat, m < 2 ^ nj s ∧ r = (m : Int) := by
    rcases a3 with z | ⟨m, z1, z2, _⟩
    · exact ⟨f, hf1, z.trans hfd⟩
    · exact ⟨m, z1, z2⟩
  have hr' : ∃ m : Nat, m < 2 ^ nj s ∧ r' = (m : Int) := by
    rcases b3 with z | ⟨m, z1, z2, _⟩
    · exact ⟨2 ^ nj s - 1, by omega, z.trans (by omega)⟩
    · exact ⟨m, z1, z2⟩
  obtain ⟨m, hm, rfl⟩ := hr
  obtain ⟨m', hm', rfl⟩ := hr'
  have csm : ∀ q : Nat, q < 2 ^ nj s → cs (q : Int) := fun q hq => ⟨by omega, by omega⟩
  -- both keep all
  have pm' : kb s (m' : Int) (nj s) = kw s := by
    rcases b3 with z | ⟨q, z1, z2, z3, _⟩
    · refine kb_all w fun j hj _ => ?_
      rw [z, tb_full (by omega) (by omega), decide_eq_true hj]
    · rw [z2]; exact z3
  have fAll : kb s (fd s) (nj s) = kw s := kb_all w fun j hj hfo => by rw [tb_fd w (by omega), decide_eq_true hj, decide_eq_false (by omega)]; rfl
  have pm : jand (m : Int) (jxor (fd s) (-1)) = 0 ∧ kb s (m : Int) (nj s) = kw s := by
    rcases a3 with z | ⟨q, z1, z2, z3, _⟩
    · rw [z]; exact ⟨(sub_tb (bs_jr _ _)).mpr (fun i hi h => h), fAll⟩
    · rw [z2]; exact z3
  -- m' with FOOD alone
  obtain ⟨e, he1, he2⟩ := bs_nat (fun j => tb (m' : Int) j && !decide (s 4 j ≤ 0)) (n := nj s) (by omega)
  have te : ∀ j, j < 32 → tb (e : Int) j = (decide (j < nj s) && (tb (m' : Int) j && !decide (s 4 j ≤ 0))) := fun j hj => by rw [← he2]; exact tb_bs _ _ (by omega) j hj
  have pe : jand (e : Int) (jxor (fd s) (-1)) = 0 ∧ kb s (e : Int) (nj s) = kw s := by
    refine ⟨(sub_tb (cs_jr (csm e he1))).mpr fun i hi h => ?_, ?_⟩
    · rw [te i hi] at h
      rw [tb_fd w hi]
      revert h
      cases decide (i < nj s) <;> cases tb (m' : Int) i <;> simp
    · rw [← pm']
      refine kb_e w fun j hj hfo => ?_
      rw [te j (by omega), decide_eq_true hj, decide_eq_false (by omega)]
      simp
  have se := pc_sub (csm e he1) (csm m' hm') (fun i hi h => by
    rw [te i (by omega)] at h
    revert h
    cases decide (i < nj s) <;> cases tb (m' : Int) i <;> simp)
  have c1 := a2 e he1 pe
  have c2 := b2 m hm pm.2
  have em : (e : Int) = (m' : Int) := se.2 (by omega)
  rw [he2, em]
  have em' : e = m' := by omega
  subst em'
  -- the two are one
  have cc : jpc 10 (m : Int) = jpc 10 (e : Int) := by omega
  rcases a3 with z | ⟨q, z1, z2, z3, z4, z5⟩
  · -- m is all with FOOD
    have sm := pc_sub (csm e he1) (csm m hm) (fun i hi h => by
      rw [z]
      exact (sub_tb (cs_jr (csm e he1))).mp pe.1 i (by omega) h)
    exact (sm.2 cc.symm).symm
  · have qm : q = m := by omega
    subst qm
    rcases b3 with y | ⟨q', y1, y2, y3, y4, y5⟩
    · have sm := pc_sub (csm q hm) (csm e he1) (fun i hi h => by
        rw [y, tb_full (by omega) (by omega)]
        have := (sub_tb (cs_jr (csm q hm))).mp pm.1 i (by omega) h
        rw [tb_fd w (by omega)] at this
        revert this
        cases decide (i < nj s) <;> simp)
      exact sm.2 cc
    · have qe : q' = e := by omega
      subst qe
      rcases Nat.lt_trichotomy q q' with h | h | h
      · have := y5 q h pm.2; omega
      · rw [h]
      · have := z5 q' h pe; omega
section Fewest
variable {M : jM} {s : jT} {t : Int} {K : Int → jM → Prop} {V : jM → Prop}
end Fewest

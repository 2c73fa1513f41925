-- What a larder is (s c j: c 0: 5 how many jars, 6 FOLK, 7 HUNGER, 8 YEAR; 1 .. 5 KIND, FIGURE, SHELF, FOOD, SHUT of jar j), where the class and the reference keep one, bits
theorem jite {p A B : Prop} (h1 : p → A) (h2 : ¬ p → B) : (p → A) ∧ (¬ p → B) := ⟨h1, h2⟩
theorem jif1 {p A B : Prop} (hp : p) (h : A) : (p → A) ∧ (¬ p → B) := ⟨fun _ => h, fun c => absurd hp c⟩
theorem jif0 {p A B : Prop} (hp : ¬ p) (h : B) : (p → A) ∧ (¬ p → B) := ⟨fun c => absurd c hp, fun _ => h⟩
theorem jz0 : (0 : Int) = 0 ∨ (0 : Int) = 1 := Or.inl rfl
theorem jz1 : (1 : Int) = 0 ∨ (1 : Int) = 1 := Or.inr rfl
theorem qi_ {K : Int → jM → Prop} {x : Int} {M : jM} (h : K x M) : jqi K (some (jI x)) M := ⟨x, rfl, h⟩
theorem ql_ {K : Int → jM → Prop} {x : Int} {M : jM} (h : K x M) : jql K (some (jL x)) M := ⟨x, rfl, h⟩
theorem qv_ {K : jM → Prop} {M : jM} (h : K M) : jqv K none M := ⟨rfl, h⟩
theorem jr_i {x : Int} (h : -2147483648 ≤ x ∧ x < 2147483648) : jr x := h
abbrev jT : Type := Nat → Nat → Int
def su (s : jT) (c j : Nat) (x : Int) : jT := fun c' j' => if c' = c ∧ j' = j then x else s c' j'
theorem su_at (s : jT) (c j : Nat) (x : Int) : su s c j x c j = x := by simp [su]
theorem su_ne (s : jT) {c j c' j' : Nat} (x : Int) (h : ¬ (c' = c ∧ j' = j)) : su s c j x c' j' = s c' j' := by simp only [su, if_neg h]
theorem su_nc (s : jT) {c j c' j' : Nat} (x : Int) (h : c' ≠ c) : su s c j x c' j' = s c' j' := su_ne s x (fun z => h z.1)
theorem su_nj (s : jT) {c j c' j' : Nat} (x : Int) (h : j' ≠ j) : su s c j x c' j' = s c' j' := su_ne s x (fun z => h z.2)
def wj (s : jT) (j : Nat) : Prop := (0 ≤ s 1 j ∧ s 1 j ≤ 5) ∧ (0 ≤ s 2 j ∧ s 2 j ≤ 9) ∧ (0 ≤ s 3 j ∧ s 3 j ≤ 5) ∧ (0 ≤ s 4 j ∧ s 4 j ≤ 20) ∧ (s 5 j = 0 ∨ s 5 j = 1)
def wf (s : jT) : Prop := (0 ≤ s 0 5 ∧ s 0 5 ≤ 9) ∧ (0 ≤ s 0 6 ∧ s 0 6 ≤ 20) ∧ (0 ≤ s 0 7 ∧ s 0 7 ≤ 9999) ∧ ∀ j : Nat, (j : Int) < s 0 5 → wj s j
def yr (y : Int) (s : jT) : Prop := 0 ≤ s 0 8 ∧ s 0 8 ≤ y
def nj (s : jT) : Nat := (s 0 5).toNat
theorem nj_9 {s : jT} (w : wf s) : nj s ≤ 9 := by have := w.1; unfold nj; omega
theorem nj_n {s : jT} (w : wf s) : (nj s : Int) = s 0 5 := by have := w.1; unfold nj; omega
theorem nj_lt {s : jT} {j : Nat} (h : j < nj s) : (j : Int) < s 0 5 := by unfold nj at h; omega
theorem lt_nj {s : jT} {j : Nat} (h : (j : Int) < s 0 5) : j < nj s := by unfold nj; omega
theorem nj_su {s : jT} {c j : Nat} {x : Int} (h : ¬ (0 = c ∧ 5 = j)) : nj (su s c j x) = nj s := by unfold nj; rw [su_ne s x h]
-- a jar's number out of an Int
theorem jnat {x : Int} (h : 0 ≤ x) : ∃ j : Nat, x = (j : Int) := Int.eq_ofNat_of_zero_le h
/-- nothing else has changed -/
def jfm (k i : Nat) (M M' : jM) : Prop := ∀ k' i' c j, ¬ (k' = k ∧ i' = i) → M' k' i' c j = M k' i' c j
theorem jfm_rf {k i : Nat} {M : jM} : jfm k i M M := fun _ _ _ _ _ => rfl
theorem jfm_tr {k i : Nat} {M M' M'' : jM} (h : jfm k i M M') (h' : jfm k i M' M'') : jfm k i M M'' := fun k' i' c j z => (h' k' i' c j z).trans (h k' i' c j z)
theorem jupd_ne (M : jM) {k i c j k' i' c' j' : Nat} (x : Int) (h : ¬ (k' = k ∧ i' = i ∧ c' = c ∧ j' = j)) : jupd M k i c j x k' i' c' j' = M k' i' c' j' := by unfold jupd; rw [if_neg h]
theorem jfm_u {k i c j : Nat} {M : jM} {x : Int} : jfm k i M (jupd M k i c j x) := fun _ _ _ _ z => jupd_ne M x (fun e => z ⟨e.1, e.2.1⟩)
theorem jfm_u2 {k i c j : Nat} {M M' : jM} {x : Int} (h : jfm k i M M') : jfm k i M (jupd M' k i c j x) := jfm_tr h jfm_u
/-- the class's own: Shelves number i holds s -/
def cR (M : jM) (i : Nat) (s : jT) : Prop := (∀ f, 5 ≤ f → f ≤ 8 → M 0 i 0 f = s 0 f) ∧ ∀ c j : Nat, 1 ≤ c → c ≤ 5 → (j : Int) < s 0 5 → M 0 i c j = s c j
/-- the reference's: row a holds s -/
def rR (M : jM) (a : Nat) (s : jT) : Prop := (M 3 a 0 0 = s 0 5 ∧ M 3 a 0 3 = s 0 6 ∧ M 3 a 0 2 = s 0 7 ∧ M 3 a 0 1 = s 0 8) ∧ ∀ c j : Nat, c < 5 → (j : Int) < s 0 5 → M 3 a 0 (4 + 5 * j + c) = s (c + 1) j
theorem cR_f {M : jM} {i : Nat} {s : jT} (R : cR M i s) : M 0 i 0 5 = s 0 5 ∧ M 0 i 0 6 = s 0 6 ∧ M 0 i 0 7 = s 0 7 ∧ M 0 i 0 8 = s 0 8 := ⟨R.1 5 (by decide) (by decide), R.1 6 (by decide) (by decide), R.1 7 (by decide) (by decide), R.1 8 (by decide) (by decide)⟩
theorem cR_j {M : jM} {i : Nat} {s : jT} (R : cR M i s) {j : Nat} (h : (j : Int) < s 0 5) : M 0 i 1 (j : Int).toNat = s 1 j ∧ M 0 i 2 (j : Int).toNat = s 2 j ∧ M 0 i 3 (j : Int).toNat = s 3 j ∧ M 0 i 4 (j : Int).toNat = s 4 j ∧ M 0 i 5 (j : Int).toNat = s 5 j :=
  ⟨R.2 1 j (by decide) (by decide) h, R.2 2 j (by decide) (by decide) h, R.2 3 j (by decide) (by decide) h, R.2 4 j (by decide) (by decide) h, R.2 5 j (by decide) (by decide) h⟩
theorem cR_fr {M M' : jM} {k i i' : Nat} {s : jT} (R : cR M i s) (F : jfm k i' M M') (h : ¬ (0 = k ∧ i = i')) : cR M' i s := ⟨fun f h1 h2 => (F _ _ _ _ h).trans (R.1 f h1 h2), fun c j h1 h2 h3 => (F _ _ _ _ h).trans (R.2 c j h1 h2 h3)⟩
theorem rR_fr {M M' : jM} {k i a : Nat} {s : jT} (R : rR M a s) (F : jfm k i M M') (h : ¬ (3 = k ∧ a = i)) : rR M' a s := ⟨⟨(F _ _ _ _ h).trans R.1.1, (F _ _ _ _ h).trans R.1.2.1, (F _ _ _ _ h).trans R.1.2.2.1, (F _ _ _ _ h).trans R.1.2.2.2⟩, fun c j h1 h2 => (F _ _ _ _ h).trans (R.2 c j h1 h2)⟩
/-- a place of a jar is written -/
theorem cR_u {M : jM} {i : Nat} {s : jT} {c j : Nat} {x : Int} (R : cR M i s) (hc : 1 ≤ c) : cR (jupd M 0 i c (j : Int).toNat x) i (su s c j x) := by
  refine ⟨fun f h1 h2 => ?_, fun c' j' h1 h2 h3 => ?_⟩
  · rw [jupd_ne M x (by omega), su_ne s x (by omega)]; exact R.1 f h1 h2
  · rw [su_ne s x (by omega)] at h3
    by_cases e : c' = c ∧ j' = j
    · obtain ⟨rfl, rfl⟩ := e
      rw [su_at]; exact jupd_at M 0 i c' j' x
    · rw [su_ne s x e]; exact (jupd_ne M x (fun z => e ⟨z.2.2.1, z.2.2.2⟩)).trans (R.2 c' j' h1 h2 h3)
/-- FOLK, HUNGER or YEAR is written -/
theorem cR_v {M : jM} {i : Nat} {s : jT} {f : Nat} {x : Int} (R : cR M i s) (h6 : 6 ≤ f) : cR (jupd M 0 i 0 f x) i (su s 0 f x) := by
  refine ⟨fun f' h1 h2 => ?_, fun c' j' h1 h2 h3 => ?_⟩
  · by_cases e : f' = f
    · subst e; rw [su_at, jupd_at]
    · rw [su_nj s x e, jupd_j M 0 i 0 f x e]; exact R.1 f' h1 h2
  · rw [su_ne s x (by omega)] at h3
    rw [su_nc s x (by omega), jupd_ne M x (by omega)]; exact R.2 c' j' h1 h2 h3
theorem rR_j {M : jM} {a : Nat} {s : jT} (R : rR M a s) {j : Nat} (h : (j : Int) < s 0 5) : M 3 a 0 ((4 + 5 * j + 0 : Nat) : Int).toNat = s 1 j ∧ M 3 a 0 ((4 + 5 * j + 1 : Nat) : Int).toNat = s 2 j ∧ M 3 a 0 ((4 + 5 * j + 2 : Nat) : Int).toNat = s 3 j ∧ M 3 a 0 ((4 + 5 * j + 3 : Nat) : Int).toNat = s 4 j ∧ M 3 a 0 ((4 + 5 * j + 4 : Nat) : Int).toNat = s 5 j :=
  ⟨R.2 0 j (by decide) h, R.2 1 j (by decide) h, R.2 2 j (by decide) h, R.2 3 j (by decide) h, R.2 4 j (by decide) h⟩
theorem rR_f {M : jM} {a : Nat} {s : jT} (R : rR M a s) : M 3 a 0 (0 : Int).toNat = s 0 5 ∧ M 3 a 0 (3 : Int).toNat = s 0 6 ∧ M 3 a 0 (2 : Int).toNat = s 0 7 ∧ M 3 a 0 (1 : Int).toNat = s 0 8 := R.1
theorem rR_u {M : jM} {a : Nat} {s : jT} {c j : Nat} {x : Int} (R : rR M a s) (hc : c < 5) : rR (jupd M 3 a 0 ((4 + 5 * j + c : Nat) : Int).toNat x) a (su s (c + 1) j x) := by
  have e0 : ((4 + 5 * j + c : Nat) : Int).toNat = 4 + 5 * j + c := rfl
  rw [e0]
  refine ⟨⟨?_, ?_, ?_, ?_⟩, fun c' j' h1 h3 => ?_⟩
  · rw [jupd_j _ _ _ _ _ _ (by omega), su_nc s x (by omega)]; exact R.1.1
  · rw [jupd_j _ _ _ _ _ _ (by omega), su_nc s x (by omega)]; exact R.1.2.1
  · rw [jupd_j _ _ _ _ _ _ (by omega), su_nc s x (by omega)]; exact R.1.2.2.1
  · rw [jupd_j _ _ _ _ _ _ (by omega), su_nc s x (by omega)]; exact R.1.2.2.2
  · rw [su_nc s x (by omega)] at h3
    by_cases e : c' = c ∧ j' = j
    · obtain ⟨rfl, rfl⟩ := e
      rw [su_at, jupd_at]
    · rw [su_ne s x (by omega), jupd_j _ _ _ _ _ _ (by omega)]; exact R.2 c' j' h1 h3
/-- 3 FOLK, 2 HUNGER, 1 YEAR is written -/
theorem rR_v {M : jM} {a : Nat} {s : jT} {q f : Nat} {x : Int} (R : rR M a s) (h : q = 3 ∧ f = 6 ∨ q = 2 ∧ f = 7 ∨ q = 1 ∧ f = 8) : rR (jupd M 3 a 0 q x) a (su s 0 f x) := by
  refine ⟨⟨?_, ?_, ?_, ?_⟩, fun c' j' h1 h3 => ?_⟩
  · rw [jupd_j _ _ _ _ _ _ (by omega), su_nj s x (by omega)]; exact R.1.1
  · by_cases e : f = 6
    · obtain rfl : q = 3 := by omega
      subst e; rw [jupd_at, su_at]
    · rw [jupd_j _ _ _ _ _ _ (by omega), su_nj s x (by omega)]; exact R.1.2.1
  · by_cases e : f = 7
    · obtain rfl : q = 2 := by omega
      subst e; rw [jupd_at, su_at]
    · rw [jupd_j _ _ _ _ _ _ (by omega), su_nj s x (by omega)]; exact R.1.2.2.1
  · by_cases e : f = 8
    · obtain rfl : q = 1 := by omega
      subst e; rw [jupd_at, su_at]
    · rw [jupd_j _ _ _ _ _ _ (by omega), su_nj s x (by omega)]; exact R.1.2.2.2
  · rw [su_nj s x (by omega)] at h3
    rw [su_nc s x (by omega), jupd_j _ _ _ _ _ _ (by omega)]; exact R.2 c' j' h1 h3
theorem wf_u {s : jT} {c j : Nat} {x : Int} (w : wf s) (h : c = 1 ∧ 0 ≤ x ∧ x ≤ 5 ∨ c = 2 ∧ 0 ≤ x ∧ x ≤ 9 ∨ c = 3 ∧ 0 ≤ x ∧ x ≤ 5 ∨ c = 4 ∧ 0 ≤ x ∧ x ≤ 20 ∨ c = 5 ∧ (x = 0 ∨ x = 1)) : wf (su s c j x) := by
  have hc : c ≠ 0 := by omega
  obtain ⟨w1, w2, w3, w4⟩ := w
  refine ⟨by rw [su_nc s x hc.symm]; exact w1, by rw [su_nc s x hc.symm]; exact w2, by rw [su_nc s x hc.symm]; exact w3, fun j' hj' => ?_⟩
  rw [su_nc s x hc.symm] at hj'
  have q := w4 j' hj'
  unfold wj at q ⊢
  by_cases e : j' = j
  · subst e
    rcases h with ⟨rfl, h⟩ | ⟨rfl, h⟩ | ⟨rfl, h⟩ | ⟨rfl, h⟩ | ⟨rfl, h⟩ <;> simp only [su_at, su_nc s x (show (1 : Nat) ≠ 2 by decide), su_nc s x (show (1 : Nat) ≠ 3 by decide), su_nc s x (show (1 : Nat) ≠ 4 by decide), su_nc s x (show (1 : Nat) ≠ 5 by decide), su_nc s x (show (2 : Nat) ≠ 1 by decide), su_nc s x (show (2 : Nat) ≠ 3 by decide), su_nc s x (show (2 : Nat) ≠ 4 by decide), su_nc s x (show (2 : Nat) ≠ 5 by decide), su_nc s x (show (3 : Nat) ≠ 1 by decide), su_nc s x (show (3 : Nat) ≠ 2 by decide), su_nc s x (show (3 : Nat) ≠ 4 by decide), su_nc s x (show (3 : Nat) ≠ 5 by decide), su_nc s x (show (4 : Nat) ≠ 1 by decide), su_nc s x (show (4 : Nat) ≠ 2 by decide), su_nc s x (show (4 : Nat) ≠ 3 by decide), su_nc s x (show (4 : Nat) ≠ 5 by decide), su_nc s x (show (5 : Nat) ≠ 1 by decide), su_nc s x (show (5 : Nat) ≠ 2 by decide), su_nc s x (show (5 : Nat) ≠ 3 by decide), su_nc s x (show (5 : Nat) ≠ 4 by decide)] <;> omega
  · rw [su_nj s x e, su_nj s x e, su_nj s x e, su_nj s x e, su_nj s x e]; exact q
theorem wf_v {s : jT} {f : Nat} {x : Int} (w : wf s) (h : f = 6 ∧ 0 ≤ x ∧ x ≤ 20 ∨ f = 7 ∧ 0 ≤ x ∧ x ≤ 9999 ∨ f = 8) : wf (su s 0 f x) := by
  obtain ⟨w1, w2, w3, w4⟩ := w
  refine ⟨by rw [su_nj s x (by omega)]; exact w1, ?_, ?_, fun j' hj' => ?_⟩
  · by_cases e : f = 6
    · subst e; rw [su_at]; omega
    · rw [su_nj s x (by omega)]; exact w2
  · by_cases e : f = 7
    · subst e; rw [su_at]; omega
    · rw [su_nj s x (by omega)]; exact w3
  · rw [su_nj s x (by omega)] at hj'
    have q := w4 j' hj'
    unfold wj at q ⊢
    rw [su_nc s x (by omega), su_nc s x (by omega), su_nc s x (by omega), su_nc s x (by omega), su_nc s x (by omega)]; exact q
-- bits
def tb (x : Int) (i : Nat) : Bool := (Int32.ofInt x).toBitVec.getLsbD i
theorem tb_ext {x y : Int} (hx : jr x) (hy : jr y) (h : ∀ i, i < 32 → tb x i = tb y i) : x = y := by
  rw [← jr_eq hx hy]; exact Int32.toBitVec_inj.mp (BitVec.eq_of_getLsbD_eq (fun i hi => h i hi))
theorem tb_or (x y : Int) (i : Nat) : tb (jor x y) i = (tb x i || tb y i) := by unfold tb jor; rw [jr_o, Int32.toBitVec_or, BitVec.getLsbD_or]
theorem tb_and (x y : Int) (i : Nat) : tb (jand x y) i = (tb x i && tb y i) := by unfold tb jand; rw [jr_o, Int32.toBitVec_and, BitVec.getLsbD_and]
theorem tb_xor (x y : Int) (i : Nat) : tb (jxor x y) i = (tb x i ^^ tb y i) := by unfold tb jxor; rw [jr_o, Int32.toBitVec_xor, BitVec.getLsbD_xor]
theorem tb_m1 : ∀ i, i < 32 → tb (-1) i = true := by decide +kernel
theorem tb_0 : ∀ i, i < 32 → tb 0 i = false := by decide +kernel
theorem tb_1 : ∀ i, i < 32 → tb 1 i = decide (i = 0) := by decide +kernel
theorem tb_not (x : Int) {i : Nat} (h : i < 32) : tb (jxor x (-1)) i = !tb x i := by rw [tb_xor, tb_m1 i h]; simp
theorem jr_or (x y : Int) : jr (jor x y) := jr_r _
theorem jr_and (x y : Int) : jr (jand x y) := jr_r _
theorem jr_xor (x y : Int) : jr (jxor x y) := jr_r _
theorem jr_shl (x y : Int) : jr (jshl x y) := jr_r _
theorem jr_shr (x y : Int) : jr (jshr x y) := jr_r _
theorem s_l2 : ∀ n : Nat, n < 32 → ((Int32.ofInt (n : Int) &&& 31).toBitVec.smod 32).toNat = n := by decide +kernel
theorem tb_shr {k : Nat} (hk : k < 32) (x : Int) {i : Nat} (hi : i < 32) : tb (jshr x (k : Int)) i = if k + i < 32 then tb x (k + i) else tb x 31 := by
  unfold tb jshr
  rw [jr_o, Int32.toBitVec_shiftRight]
  show ((Int32.ofInt x).toBitVec.sshiftRight ((Int32.ofInt (k : Int) &&& 31).toBitVec.smod 32).toNat).getLsbD i = _
  rw [s_l2 k hk, BitVec.getLsbD_sshiftRight, BitVec.msb_eq_getLsbD_last]
  simp [hi]
theorem tb_shl1 : ∀ j : Nat, j < 31 → ∀ i : Nat, i < 32 → tb (jshl 1 (j : Int)) i = decide (i = j) := by decide +kernel
theorem hb_tb {k : Nat} (hk : k < 32) (x : Int) : jand (jshr x (k : Int)) 1 = if tb x k = true then 1 else 0 := by
  refine tb_ext (jr_and _ _) (by split <;> exact ⟨by decide, by decide⟩) fun i hi => ?_
  rw [tb_and, tb_1 i hi, tb_shr hk x hi]
  by_cases e : i = 0
  · subst e
    rw [if_pos (by omega), Nat.add_zero]
    cases tb x k
    · rw [if_neg (by decide), tb_0 0 hi]; rfl
    · rw [if_pos rfl, tb_1 0 hi]; rfl
  · rw [decide_eq_false e, Bool.and_false]
    cases tb x k
    · rw [if_neg (by decide), tb_0 i hi]
    · rw [if_pos rfl, tb_1 i hi, decide_eq_false e]
theorem tb_nat (n : Nat) {i : Nat} (hi : i < 32) : tb (n : Int) i = n.testBit i := by
  unfold tb
  show (BitVec.ofInt 32 (n : Int)).getLsbD i = _
  rw [BitVec.ofInt_natCast, BitVec.getLsbD_ofNat]; simp [hi]
theorem jr_nat {n : Nat} (h : n < 2147483648) : jr (n : Int) := ⟨by omega, by omega⟩
theorem jor_nat {a b : Nat} (ha : a < 2147483648) (hb : b < 2147483648) : jor (a : Int) (b : Int) = ((a ||| b : Nat) : Int) := by
  have h : a ||| b < 2 ^ 31 := Nat.or_lt_two_pow (show a < 2 ^ 31 from ha) (show b < 2 ^ 31 from hb)
  refine tb_ext (jr_or _ _) (jr_nat h) fun i hi => ?_
  rw [tb_or, tb_nat _ hi, tb_nat _ hi, tb_nat _ hi, Nat.testBit_or]
theorem jand_nat {a b : Nat} (ha : a < 2147483648) : jand (a : Int) (b : Int) = ((a &&& b : Nat) : Int) := by
  have h : a &&& b < 2 ^ 31 := Nat.lt_of_le_of_lt Nat.and_le_left ha
  refine tb_ext (jr_and _ _) (jr_nat h) fun i hi => ?_
  rw [tb_and, tb_nat _ hi, tb_nat _ hi, tb_nat _ hi, Nat.testBit_and]
/-- a set of customs -/
def cs (x : Int) : Prop := 0 ≤ x ∧ x < 1024
theorem cs_jr {x : Int} (h : cs x) : jr x := ⟨by have := h.1; omega, by have := h.2; omega⟩
theorem cs_or {x y : Int} (hx : cs x) (hy : cs y) : cs (jor x y) := by
  obtain ⟨a, rfl⟩ := jnat hx.1
  obtain ⟨b, rfl⟩ := jnat hy.1
  have h1 := hx.2
  have h2 := hy.2
  rw [jor_nat (by omega) (by omega)]
  have h : a ||| b < 2 ^ 10 := Nat.or_lt_two_pow (show a < 2 ^ 10 by omega) (show b < 2 ^ 10 by omega)
  exact ⟨by omega, by omega⟩
theorem cs_and {x : Int} (hx : cs x) (y : Int) (hy : jr y) : cs (jand x y) := by
  obtain ⟨a, rfl⟩ := jnat hx.1
  have h1 := hx.2
  have e : jand (a : Int) y = ((a &&& (Int32.ofInt y).toBitVec.toNat : Nat) : Int) := by
    have hl : a &&& (Int32.ofInt y).toBitVec.toNat ≤ a := Nat.and_le_left
    refine tb_ext (jr_and _ _) (jr_nat (by omega)) fun i hi => ?_
    rw [tb_and, tb_nat _ hi, tb_nat _ hi, Nat.testBit_and]
    rfl
  rw [e]
  have hl : a &&& (Int32.ofInt y).toBitVec.toNat ≤ a := Nat.and_le_left
  exact ⟨by omega, by omega⟩
theorem cs_0 : cs 0 := ⟨by decide, by decide⟩
theorem jor_0 {x : Int} (h : jr x) : jor x 0 = x := tb_ext (jr_or _ _) h fun i hi => by rw [tb_or, tb_0 i hi, Bool.or_false]
theorem j0_or {x : Int} (h : jr x) : jor 0 x = x := tb_ext (jr_or _ _) h fun i hi => by rw [tb_or, tb_0 i hi, Bool.false_or]
theorem tb_cs {x : Int} (h : cs x) {i : Nat} (h10 : 10 ≤ i) (hi : i < 32) : tb x i = false := by
  obtain ⟨a, rfl⟩ := jnat h.1
  have h1 := h.2
  rw [tb_nat _ hi]
  exact Nat.testBit_lt_two_pow (Nat.lt_of_lt_of_le (show a < 2 ^ 10 by omega) (Nat.pow_le_pow_right (by decide) h10))

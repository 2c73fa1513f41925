-- A small machine over numbers: its memory is what the cells hold, place by place; a place is (kind, which, part): kind 0 the four Shelves (part 0 the object, 1 .. 5 its arrays), kind 1 LarderAges (object, letters, rowNumbers, refusals), kind 2 the law's own array v, kind 4 the script (never written; what is read of it may be any int), kind 9 the text constants.
abbrev jV : Type := Int ⊕ Int ⊕ (Nat × Nat × Nat)
abbrev jI (x : Int) : jV := Sum.inl x
abbrev jL (x : Int) : jV := Sum.inr (Sum.inl x)
abbrev jR (k i c : Nat) : jV := Sum.inr (Sum.inr (k, i, c))
abbrev jM : Type := Nat → Nat → Nat → Nat → Int
abbrev jRt : Type := Option jV → jM → Prop
abbrev jLo : Type := List (Option jV)
abbrev jK : Type := Nat → jLo → List jV → jM → Prop
abbrev jC : Type := Nat → List jV → jM → jRt → Prop
abbrev jEn : Type := ClassFile.Instr × Nat × Nat × List (Int × Nat)
/-- an int; a long -/
def jr (x : Int) : Prop := -2147483648 ≤ x ∧ x < 2147483648
def jrl (x : Int) : Prop := -9223372036854775808 ≤ x ∧ x < 9223372036854775808
def jwr (x : Int) : Int := (Int32.ofInt x).toInt
def jand (x y : Int) : Int := (Int32.ofInt x &&& Int32.ofInt y).toInt
def jor (x y : Int) : Int := (Int32.ofInt x ||| Int32.ofInt y).toInt
def jxor (x y : Int) : Int := (Int32.ofInt x ^^^ Int32.ofInt y).toInt
def jwrl (x : Int) : Int := (Int64.ofInt x).toInt
def jshl (x y : Int) : Int := (Int32.ofInt x <<< (Int32.ofInt y &&& 31)).toInt
def jshr (x y : Int) : Int := (Int32.ofInt x >>> (Int32.ofInt y &&& 31)).toInt
def jupd (M : jM) (k i c j : Nat) (x : Int) : jM := fun k' i' c' j' => if k' = k ∧ i' = i ∧ c' = c ∧ j' = j then x else M k' i' c' j'
-- shapes: an int array of n, a boolean array of n, an object of a class with its fields (false an int, true a boolean, a place)
abbrev jF : Type := Bool ⊕ (Nat → Nat × Nat × Nat)
abbrev jSh : Type := Nat ⊕ Nat ⊕ Nat
abbrev jfi : jF := Sum.inl false
abbrev jfz : jF := Sum.inl true
abbrev jfr (f : Nat → Nat × Nat × Nat) : jF := Sum.inr f
def jshp : Nat → Nat → jSh
  | 0, 0 => .inr (.inr 0)
  | 0, 1 => .inl 9
  | 0, 2 => .inl 9
  | 0, 3 => .inl 9
  | 0, 4 => .inl 9
  | 0, 5 => .inr (.inl 9)
  | 1, 0 => .inr (.inr 1)
  | 1, 1 => .inl 96
  | 1, 2 => .inl 16
  | 1, 3 => .inl 7
  | 2, 0 => .inl 64
  | _, _ => .inl 0
def jfs : Nat → List jF
  | 0 => [jfr (fun i => (0, i, 1)), jfr (fun i => (0, i, 2)), jfr (fun i => (0, i, 3)), jfr (fun i => (0, i, 4)), jfr (fun i => (0, i, 5)), jfi, jfi, jfi, jfi]
  | 1 => [jfr (fun _ => (0, 0, 0)), jfr (fun _ => (0, 1, 0)), jfz, jfr (fun _ => (0, 2, 0)), jfr (fun _ => (0, 3, 0)), jfr (fun _ => (1, 0, 1)), jfi, jfr (fun _ => (1, 0, 2)), jfi, jfr (fun _ => (1, 0, 3))]
  | _ => []
/-- the texts: how long, which letters -/
def jsl (k : Nat) : Nat := match k with
  | 0 => 6
  | 1 => 2
  | 2 => 3
  | 4 => 6
  | _ => 0
def jst : Nat → List Int
  | 0 => [107, 48, 48, 48, 48, 59]
  | 1 => [48, 59]
  | 2 => [48, 48, 59]
  | 4 => [106, 99, 112, 98, 104, 100]
  | _ => []
/-- how many of the first ten bits are set -/
def jpc : Nat → Int → Int
  | 0, _ => 0
  | n + 1, x => x % 2 + jpc n (x / 2)
-- what a method answers, by its kind
def jqv (k : jM → Prop) : jRt := fun r M => r = none ∧ k M
def jqi (k : Int → jM → Prop) : jRt := fun r M => ∃ x, r = some (jI x) ∧ k x M
def jql (k : Int → jM → Prop) : jRt := fun r M => ∃ x, r = some (jL x) ∧ k x M
def jqr (k : Nat → Nat → Nat → jM → Prop) : jRt := fun r M => ∃ a b c, r = some (jR a b c) ∧ k a b c M
def jcat : jV → Nat
  | .inr (.inl _) => 2
  | _ => 1
def jcats : List jV → Nat
  | [] => 0
  | v :: r => jcat v + jcats r
/-- a store at i: a long that stood just below is no more -/
def jdrop (L : jLo) : Nat → jLo
  | 0 => L
  | j + 1 => match L.getD j none with
    | some (.inr (.inl _)) => L.set j none
    | _ => L
-- the operations
def jo_iload (i nx : Nat) (L : jLo) (S : List jV) (M : jM) (K : jK) : Prop := match L.getD i none with
  | some (.inl x) => K nx L (.inl x :: S) M
  | _ => False
def jo_lload (i nx : Nat) (L : jLo) (S : List jV) (M : jM) (K : jK) : Prop := match L.getD i none with
  | some (.inr (.inl x)) => K nx L (.inr (.inl x) :: S) M
  | _ => False
def jo_aload (i nx : Nat) (L : jLo) (S : List jV) (M : jM) (K : jK) : Prop := match L.getD i none with
  | some (.inr (.inr x)) => K nx L (.inr (.inr x) :: S) M
  | _ => False
def jo_istore (i nx : Nat) (L : jLo) (S : List jV) (M : jM) (K : jK) : Prop := match S with
  | .inl x :: S => bif Nat.blt i L.length then K nx ((jdrop L i).set i (some (.inl x))) S M else False
  | _ => False
def jo_lstore (i nx : Nat) (L : jLo) (S : List jV) (M : jM) (K : jK) : Prop := match S with
  | .inr (.inl x) :: S => bif Nat.blt (i + 1) L.length then K nx (((jdrop L i).set i (some (.inr (.inl x)))).set (i + 1) none) S M else False
  | _ => False
def jo_astore (i nx : Nat) (L : jLo) (S : List jV) (M : jM) (K : jK) : Prop := match S with
  | .inr (.inr x) :: S => bif Nat.blt i L.length then K nx ((jdrop L i).set i (some (.inr (.inr x)))) S M else False
  | _ => False
def jo_iinc (i : Nat) (n : Int) (nx : Nat) (L : jLo) (S : List jV) (M : jM) (K : jK) : Prop := match L.getD i none with
  | some (.inl x) => jr (x + n) ∧ bif Nat.blt i L.length then K nx ((jdrop L i).set i (some (.inl (x + n)))) S M else False
  | _ => False
/-- two ints to one: g is asked first -/
def jo_ii (f : Int → Int → Int) (g : Int → Int → Prop) (nx : Nat) (L : jLo) (S : List jV) (M : jM) (K : jK) : Prop := match S with
  | .inl y :: .inl x :: S => g x y ∧ K nx L (.inl (f x y) :: S) M
  | _ => False
def jo_i2 (f : Int → Int → Int) (nx : Nat) (L : jLo) (S : List jV) (M : jM) (K : jK) : Prop := match S with
  | .inl y :: .inl x :: S => K nx L (.inl (f x y) :: S) M
  | _ => False
def jo_ll (f : Int → Int → Int) (g : Int → Int → Prop) (nx : Nat) (L : jLo) (S : List jV) (M : jM) (K : jK) : Prop := match S with
  | .inr (.inl y) :: .inr (.inl x) :: S => g x y ∧ K nx L (.inr (.inl (f x y)) :: S) M
  | _ => False
def jo_if (p : Int → Prop) (tg nx : Nat) (L : jLo) (S : List jV) (M : jM) (K : jK) : Prop := match S with
  | .inl x :: S => (p x → K tg L S M) ∧ (¬ p x → K nx L S M)
  | _ => False
def jo_icmp (p : Int → Int → Prop) (tg nx : Nat) (L : jLo) (S : List jV) (M : jM) (K : jK) : Prop := match S with
  | .inl y :: .inl x :: S => (p x y → K tg L S M) ∧ (¬ p x y → K nx L S M)
  | _ => False
def jo_sw (x : Int) (tg : Nat) (L : jLo) (S : List jV) (M : jM) (K : jK) : List (Int × Nat) → Prop
  | [] => K tg L S M
  | (k, t) :: r => (x = k → K t L S M) ∧ (¬ x = k → jo_sw x tg L S M K r)
def jo_switch (tg : Nat) (sw : List (Int × Nat)) (L : jLo) (S : List jV) (M : jM) (K : jK) : Prop := match S with
  | .inl x :: S => jo_sw x tg L S M K sw
  | _ => False
def jo_get (ci f nx : Nat) (L : jLo) (S : List jV) (M : jM) (K : jK) : Prop := match S with
  | .inr (.inr (k, i, c)) :: S => match jshp k c with
    | .inr (.inr cj) => bif Nat.beq cj ci then (match (jfs ci).getD f (jfr fun _ => (8, 0, 0)) with
      | .inl _ => K nx L (.inl (M k i c f) :: S) M
      | .inr g => bif Nat.beq (g i).1 8 then False else K nx L (.inr (.inr (g i)) :: S) M) else False
    | _ => False
  | _ => False
def jo_put (ci f nx : Nat) (L : jLo) (S : List jV) (M : jM) (K : jK) : Prop := match S with
  | .inl x :: .inr (.inr (k, i, c)) :: S => match jshp k c with
    | .inr (.inr cj) => bif Nat.beq cj ci then (match (jfs ci).getD f (jfr fun _ => (8, 0, 0)) with
      | .inl false => K nx L S (jupd M k i c f x)
      | .inl true => (x = 0 ∨ x = 1) ∧ K nx L S (jupd M k i c f x)
      | .inr _ => False) else False
    | _ => False
  | _ => False
def jo_iald (nx : Nat) (L : jLo) (S : List jV) (M : jM) (K : jK) : Prop := match S with
  | .inl j :: .inr (.inr (k, i, c)) :: S => match jshp k c with
    | .inl n => (0 ≤ j ∧ j < n) ∧ K nx L (.inl (M k i c j.toNat) :: S) M
    | _ => False
  | _ => False
def jo_zald (nx : Nat) (L : jLo) (S : List jV) (M : jM) (K : jK) : Prop := match S with
  | .inl j :: .inr (.inr (k, i, c)) :: S => match jshp k c with
    | .inr (.inl n) => (0 ≤ j ∧ j < n) ∧ K nx L (.inl (M k i c j.toNat) :: S) M
    | _ => False
  | _ => False
def jo_iast (nx : Nat) (L : jLo) (S : List jV) (M : jM) (K : jK) : Prop := match S with
  | .inl x :: .inl j :: .inr (.inr (k, i, c)) :: S => match jshp k c with
    | .inl n => (0 ≤ j ∧ j < n) ∧ K nx L S (jupd M k i c j.toNat x)
    | _ => False
  | _ => False
def jo_zast (nx : Nat) (L : jLo) (S : List jV) (M : jM) (K : jK) : Prop := match S with
  | .inl x :: .inl j :: .inr (.inr (k, i, c)) :: S => match jshp k c with
    | .inr (.inl n) => ((0 ≤ j ∧ j < n) ∧ (x = 0 ∨ x = 1)) ∧ K nx L S (jupd M k i c j.toNat x)
    | _ => False
  | _ => False
def jo_dup (nx : Nat) (L : jLo) (S : List jV) (M : jM) (K : jK) : Prop := match S with
  | v :: S => bif Nat.beq (jcat v) 1 then K nx L (v :: v :: S) M else False
  | _ => False
def jo_dup2 (nx : Nat) (L : jLo) (S : List jV) (M : jM) (K : jK) : Prop := match S with
  | v :: w :: S => bif Nat.beq (jcat v) 1 && Nat.beq (jcat w) 1 then K nx L (v :: w :: v :: w :: S) M else False
  | _ => False
/-- a call: na values are taken; its own class is class ci of the first of them where it isn't static (ci 3: static); r tells what it answers -/
def jo_call (mid na ci rk ml nx : Nat) (L : jLo) (S : List jV) (M : jM) (K : jK) (C : jC) : Prop :=
  bif Nat.ble na S.length && Nat.ble (jcats (S.drop na)) 8 && Nat.ble (jcats (S.take na)) ml && (Nat.beq ci 3 || (match (S.take na).reverse with
    | .inr (.inr (k, _, c)) :: _ => (match jshp k c with
      | .inr (.inr cj) => Nat.beq cj ci
      | _ => false)
    | _ => false)) then (match rk with
    | 0 => C mid (S.take na).reverse M (jqv fun M' => K nx L (S.drop na) M')
    | 1 => C mid (S.take na).reverse M (jqi fun x M' => K nx L (.inl x :: S.drop na) M')
    | 2 => C mid (S.take na).reverse M (jql fun x M' => K nx L (.inr (.inl x) :: S.drop na) M')
    | _ => C mid (S.take na).reverse M (jqr fun a b c M' => K nx L (.inr (.inr (a, b, c)) :: S.drop na) M')) else False
/-- the library's own: greater, less, bits, a text's length, whether it is empty, its letter -/
def jo_prim (n nx : Nat) (L : jLo) (S : List jV) (M : jM) (K : jK) : Prop := match n, S with
  | 0, .inl y :: .inl x :: S => bif Nat.ble (jcats S) 8 then K nx L (.inl (max x y) :: S) M else False
  | 1, .inl y :: .inl x :: S => bif Nat.ble (jcats S) 8 then K nx L (.inl (min x y) :: S) M else False
  | 2, .inl x :: S => bif Nat.ble (jcats S) 8 then (0 ≤ x ∧ x < 1024) ∧ K nx L (.inl (jpc 10 x) :: S) M else False
  | 3, .inr (.inr (9, k, 0)) :: S => bif Nat.ble (jcats S) 8 then K nx L (.inl (jsl k) :: S) M else False
  | 4, .inr (.inr (9, k, 0)) :: S => bif Nat.ble (jcats S) 8 then K nx L (.inl (if jsl k = 0 then 1 else 0) :: S) M else False
  | 5, .inl j :: .inr (.inr (9, k, 0)) :: S => bif Nat.ble (jcats S) 8 then (0 ≤ j ∧ j < jsl k) ∧ K nx L (.inl ((jst k).getD j.toNat 0) :: S) M else False
  | 6, .inl i :: .inr (.inr (4, 0, 0)) :: S => bif Nat.ble (jcats S) 8 then 0 ≤ i ∧ ∀ x, jr x → K nx L (.inl x :: S) M else False
  | _, _ => False
/-- how long the script is: any int -/
def jo_alen (nx : Nat) (L : jLo) (S : List jV) (M : jM) (K : jK) : Prop := match S with
  | .inr (.inr (4, 0, 0)) :: S => ∀ x, jr x → K nx L (.inl x :: S) M
  | _ => False
def jo_ret (rk : Nat) (S : List jV) (M : jM) (Q : jRt) : Prop := match rk, S with
  | 1, [.inl x] => Q (some (.inl x)) M
  | 4, [.inl x] => (x = 0 ∨ x = 1) ∧ Q (some (.inl x)) M
  | _, _ => False
def jo_lret (S : List jV) (M : jM) (Q : jRt) : Prop := match S with
  | [.inr (.inl x)] => Q (some (.inr (.inl x))) M
  | _ => False
def jo_aret (S : List jV) (M : jM) (Q : jRt) : Prop := match S with
  | [.inr (.inr x)] => Q (some (.inr (.inr x))) M
  | _ => False
def jo_vret (S : List jV) (M : jM) (Q : jRt) : Prop := match S with
  | [] => Q none M
  | _ => False
def jo_nonnull (tg : Nat) (L : jLo) (S : List jV) (M : jM) (K : jK) : Prop := match S with
  | .inr (.inr _) :: S => K tg L S M
  | _ => False
def jo_i2l (nx : Nat) (L : jLo) (S : List jV) (M : jM) (K : jK) : Prop := match S with
  | .inl x :: S => K nx L (.inr (.inl x) :: S) M
  | _ => False
def jo_ineg (nx : Nat) (L : jLo) (S : List jV) (M : jM) (K : jK) : Prop := match S with
  | .inl x :: S => jr (-x) ∧ K nx L (.inl (-x) :: S) M
  | _ => False
def jo_lcmp (nx : Nat) (L : jLo) (S : List jV) (M : jM) (K : jK) : Prop := match S with
  | .inr (.inl y) :: .inr (.inl x) :: S => K nx L (.inl (if y < x then 1 else if x = y then 0 else -1) :: S) M
  | _ => False
def jpos (x y : Int) : Prop := 0 ≤ x ∧ 0 < y
/-- what an instruction does. en: the instruction, the next place, its target (a jump's), the callee (a call's; the library's stand in the cases), the field's number (1000 times its class and its slot), a constant's number, or 1 (an addition that wraps), and a switch's cases. rk: what the method answers. mc: of a method how many values it takes, its class, what it answers, its locals -/
def jsem (rk : Nat) (mc : Nat → Nat × Nat × Nat × Nat) (en : jEn) (L : jLo) (S : List jV) (M : jM) (K : jK) (C : jC) (Q : jRt) : Prop :=
  match en with
  | (ins, nx, tg, sw) => match ins with
    | .iload i => jo_iload i nx L S M K
    | .iload_n i => jo_iload i.val nx L S M K
    | .lload i => jo_lload i nx L S M K
    | .lload_n i => jo_lload i.val nx L S M K
    | .aload i => jo_aload i nx L S M K
    | .aload_n i => jo_aload i.val nx L S M K
    | .istore i => jo_istore i nx L S M K
    | .istore_n i => jo_istore i.val nx L S M K
    | .lstore i => jo_lstore i nx L S M K
    | .lstore_n i => jo_lstore i.val nx L S M K
    | .astore i => jo_astore i nx L S M K
    | .astore_n i => jo_astore i.val nx L S M K
    | .iinc i n => jo_iinc i n nx L S M K
    | .iconst n => K nx L (.inl n :: S) M
    | .bipush n => K nx L (.inl n :: S) M
    | .sipush n => K nx L (.inl n :: S) M
    | .lconst n => K nx L (.inr (.inl n.val) :: S) M
    | .ldc _ => (match sw with
      | [(0, k)] => K nx L (.inr (.inr (9, k, 0)) :: S) M
      | [(v, _)] => K nx L (.inl v :: S) M
      | _ => False)
    | .ldc_w _ => (match sw with
      | [(v, _)] => K nx L (.inl v :: S) M
      | _ => False)
    | .ldc2_w _ => (match sw with
      | [(v, _)] => K nx L (.inr (.inl v) :: S) M
      | _ => False)
    | .iadd => (match tg with
      | 1 => jo_i2 (fun x y => jwr (x + y)) nx L S M K
      | _ => jo_ii (fun x y => x + y) (fun x y => jr (x + y)) nx L S M K)
    | .isub => jo_ii (fun x y => x - y) (fun x y => jr (x - y)) nx L S M K
    | .imul => (match tg with
      | 1 => jo_i2 (fun x y => jwr (x * y)) nx L S M K
      | _ => jo_ii (fun x y => x * y) (fun x y => jr (x * y)) nx L S M K)
    | .idiv => jo_ii (fun x y => x / y) jpos nx L S M K
    | .irem => jo_ii (fun x y => x % y) jpos nx L S M K
    | .ineg => jo_ineg nx L S M K
    | .iand => jo_i2 jand nx L S M K
    | .ior => jo_i2 jor nx L S M K
    | .ixor => jo_i2 jxor nx L S M K
    | .ishl => jo_i2 jshl nx L S M K
    | .ishr => jo_i2 jshr nx L S M K
    | .ladd => (match tg with
      | 1 => jo_ll (fun x y => jwrl (x + y)) (fun _ _ => True) nx L S M K
      | _ => jo_ll (fun x y => x + y) (fun x y => jrl (x + y)) nx L S M K)
    | .lsub => jo_ll (fun x y => x - y) (fun x y => jrl (x - y)) nx L S M K
    | .lmul => (match tg with
      | 1 => jo_ll (fun x y => jwrl (x * y)) (fun _ _ => True) nx L S M K
      | _ => jo_ll (fun x y => x * y) (fun x y => jrl (x * y)) nx L S M K)
    | .ldiv => jo_ll (fun x y => x / y) jpos nx L S M K
    | .lrem => jo_ll (fun x y => x % y) jpos nx L S M K
    | .lcmp => jo_lcmp nx L S M K
    | .i2l => jo_i2l nx L S M K
    | .dup => jo_dup nx L S M K
    | .dup2 => jo_dup2 nx L S M K
    | .ifCond cd _ => (match cd with
      | .eq => jo_if (fun x => x = 0) tg nx L S M K
      | .ne => jo_if (fun x => ¬ x = 0) tg nx L S M K
      | .lt => jo_if (fun x => x < 0) tg nx L S M K
      | .ge => jo_if (fun x => 0 ≤ x) tg nx L S M K
      | .gt => jo_if (fun x => 0 < x) tg nx L S M K
      | .le => jo_if (fun x => x ≤ 0) tg nx L S M K)
    | .if_icmp cd _ => (match cd with
      | .eq => jo_icmp (fun x y => x = y) tg nx L S M K
      | .ne => jo_icmp (fun x y => ¬ x = y) tg nx L S M K
      | .lt => jo_icmp (fun x y => x < y) tg nx L S M K
      | .ge => jo_icmp (fun x y => y ≤ x) tg nx L S M K
      | .gt => jo_icmp (fun x y => y < x) tg nx L S M K
      | .le => jo_icmp (fun x y => x ≤ y) tg nx L S M K)
    | .goto _ => K tg L S M
    | .tableswitch _ _ _ _ => jo_switch tg sw L S M K
    | .lookupswitch _ _ => jo_switch tg sw L S M K
    | .getfield _ => jo_get (tg / 1000) (tg % 1000) nx L S M K
    | .putfield _ => jo_put (tg / 1000) (tg % 1000) nx L S M K
    | .arraylength => jo_alen nx L S M K
    | .iaload => jo_iald nx L S M K
    | .baload => jo_zald nx L S M K
    | .iastore => jo_iast nx L S M K
    | .bastore => jo_zast nx L S M K
    | .invokestatic _ => (match sw with
      | [] => jo_call tg (mc tg).1 3 (mc tg).2.2.1 (mc tg).2.2.2 nx L S M K C
      | (_, n) :: _ => jo_prim n nx L S M K)
    | .invokevirtual _ => (match sw with
      | [] => jo_call tg (mc tg).1 (mc tg).2.1 (mc tg).2.2.1 (mc tg).2.2.2 nx L S M K C
      | (_, n) :: _ => jo_prim n nx L S M K)
    | .ireturn => jo_ret rk S M Q
    | .lreturn => bif Nat.beq rk 2 then jo_lret S M Q else False
    | .areturn => bif Nat.beq rk 3 then jo_aret S M Q else False
    | .return_ => bif Nat.beq rk 0 then jo_vret S M Q else False
    | .ifnonnull _ => jo_nonnull tg L S M K
    | _ => False
/-- the locals with which a method begins -/
def jsl2 : List jV → jLo
  | [] => []
  | v :: r => match v with
    | .inr (.inl x) => some (.inr (.inl x)) :: none :: jsl2 r
    | v => some v :: jsl2 r
def jent (as : List jV) (n : Nat) : jLo := jsl2 as ++ List.replicate (n - (jsl2 as).length) none

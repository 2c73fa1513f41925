-- A run of the machine: the least relation that its steps close. jAt k pc L S M Q: from there method k comes to its end, and Q holds of its answer and of the memory then.
abbrev jX : Type := Nat → Nat → jLo → List jV → jM → jRt → Prop
def jstep (X : jX) (k pc : Nat) (L : jLo) (S : List jV) (M : jM) (Q : jRt) : Prop := match jcode k pc with
  | none => False
  | some en => jsem (jrk k) jmc en L S M (fun p' L' S' M' => X k p' L' S' M' Q) (fun k' as M' Q' => X k' 0 (jent as (jml k')) [] M' Q') Q
def jgood (X : jX) : Prop := (∀ (k pc : Nat) (L : jLo) (S : List jV) (M : jM) (Q Q' : jRt), X k pc L S M Q → (∀ r M', Q r M' → Q' r M') → X k pc L S M Q') ∧ ∀ (k pc : Nat) (L : jLo) (S : List jV) (M : jM) (Q : jRt), jstep X k pc L S M Q → X k pc L S M Q
def jAt : jX := fun k pc L S M Q => ∀ X : jX, jgood X → X k pc L S M Q
def jCall (k : Nat) (as : List jV) (M : jM) (Q : jRt) : Prop := jAt k 0 (jent as (jml k)) [] M Q
section JMono
variable {K K' : jK} {C C' : jC} {L : jLo} {S : List jV} {M : jM} {Q : jRt}
theorem jm_c {b : Bool} {A A' B B' : Prop} (hA : A → A') (hB : B → B') : cond b A B → cond b A' B' := by cases b <;> assumption
theorem jm_iload {i nx : Nat} (hK : ∀ pc L S M, K pc L S M → K' pc L S M) : jo_iload i nx L S M K → jo_iload i nx L S M K' := by
  unfold jo_iload; rcases L.getD i none with _ | x | x | x <;> first | exact id | exact hK _ _ _ _
theorem jm_lload {i nx : Nat} (hK : ∀ pc L S M, K pc L S M → K' pc L S M) : jo_lload i nx L S M K → jo_lload i nx L S M K' := by
  unfold jo_lload; rcases L.getD i none with _ | x | x | x <;> first | exact id | exact hK _ _ _ _
theorem jm_aload {i nx : Nat} (hK : ∀ pc L S M, K pc L S M → K' pc L S M) : jo_aload i nx L S M K → jo_aload i nx L S M K' := by
  unfold jo_aload; rcases L.getD i none with _ | x | x | x <;> first | exact id | exact hK _ _ _ _
theorem jm_istore {i nx : Nat} (hK : ∀ pc L S M, K pc L S M → K' pc L S M) : jo_istore i nx L S M K → jo_istore i nx L S M K' := by
  unfold jo_istore; rcases S with _ | ⟨x | x | x, S⟩ <;> first | exact id | exact jm_c (hK _ _ _ _) id
theorem jm_lstore {i nx : Nat} (hK : ∀ pc L S M, K pc L S M → K' pc L S M) : jo_lstore i nx L S M K → jo_lstore i nx L S M K' := by
  unfold jo_lstore; rcases S with _ | ⟨x | x | x, S⟩ <;> first | exact id | exact jm_c (hK _ _ _ _) id
theorem jm_astore {i nx : Nat} (hK : ∀ pc L S M, K pc L S M → K' pc L S M) : jo_astore i nx L S M K → jo_astore i nx L S M K' := by
  unfold jo_astore; rcases S with _ | ⟨x | x | x, S⟩ <;> first | exact id | exact jm_c (hK _ _ _ _) id
theorem jm_iinc {i nx : Nat} {n : Int} (hK : ∀ pc L S M, K pc L S M → K' pc L S M) : jo_iinc i n nx L S M K → jo_iinc i n nx L S M K' := by
  unfold jo_iinc; rcases L.getD i none with _ | x | x | x <;> first | exact id | exact fun h => ⟨h.1, jm_c (hK _ _ _ _) id h.2⟩
theorem jm_ii {f : Int → Int → Int} {g : Int → Int → Prop} {nx : Nat} (hK : ∀ pc L S M, K pc L S M → K' pc L S M) : jo_ii f g nx L S M K → jo_ii f g nx L S M K' := by
  unfold jo_ii; rcases S with _ | ⟨x | x | x, _ | ⟨y | y | y, S⟩⟩ <;> first | exact id | exact fun h => ⟨h.1, hK _ _ _ _ h.2⟩
theorem jm_i2 {f : Int → Int → Int} {nx : Nat} (hK : ∀ pc L S M, K pc L S M → K' pc L S M) : jo_i2 f nx L S M K → jo_i2 f nx L S M K' := by
  unfold jo_i2; rcases S with _ | ⟨x | x | x, _ | ⟨y | y | y, S⟩⟩ <;> first | exact id | exact hK _ _ _ _
theorem jm_ll {f : Int → Int → Int} {g : Int → Int → Prop} {nx : Nat} (hK : ∀ pc L S M, K pc L S M → K' pc L S M) : jo_ll f g nx L S M K → jo_ll f g nx L S M K' := by
  unfold jo_ll; rcases S with _ | ⟨x | x | x, _ | ⟨y | y | y, S⟩⟩ <;> first | exact id | exact fun h => ⟨h.1, hK _ _ _ _ h.2⟩
theorem jm_if {p : Int → Prop} {tg nx : Nat} (hK : ∀ pc L S M, K pc L S M → K' pc L S M) : jo_if p tg nx L S M K → jo_if p tg nx L S M K' := by
  unfold jo_if; rcases S with _ | ⟨x | x | x, S⟩ <;> first | exact id | exact fun h => ⟨fun c => hK _ _ _ _ (h.1 c), fun c => hK _ _ _ _ (h.2 c)⟩
theorem jm_icmp {p : Int → Int → Prop} {tg nx : Nat} (hK : ∀ pc L S M, K pc L S M → K' pc L S M) : jo_icmp p tg nx L S M K → jo_icmp p tg nx L S M K' := by
  unfold jo_icmp; rcases S with _ | ⟨x | x | x, _ | ⟨y | y | y, S⟩⟩ <;> first | exact id | exact fun h => ⟨fun c => hK _ _ _ _ (h.1 c), fun c => hK _ _ _ _ (h.2 c)⟩
theorem jm_sw {x : Int} {tg : Nat} (hK : ∀ pc L S M, K pc L S M → K' pc L S M) : ∀ sw : List (Int × Nat), jo_sw x tg L S M K sw → jo_sw x tg L S M K' sw
  | [], h => hK _ _ _ _ h
  | (k, t) :: r, h => ⟨fun c => hK _ _ _ _ (h.1 c), fun c => jm_sw hK r (h.2 c)⟩
theorem jm_switch {tg : Nat} {sw : List (Int × Nat)} (hK : ∀ pc L S M, K pc L S M → K' pc L S M) : jo_switch tg sw L S M K → jo_switch tg sw L S M K' := by
  unfold jo_switch; rcases S with _ | ⟨x | x | x, S⟩ <;> first | exact id | exact jm_sw hK _
theorem jm_get {ci f nx : Nat} (hK : ∀ pc L S M, K pc L S M → K' pc L S M) : jo_get ci f nx L S M K → jo_get ci f nx L S M K' := by
  unfold jo_get; rcases S with _ | ⟨x | x | ⟨k, i, c⟩, S⟩ <;> try exact id
  dsimp only
  rcases jshp k c with n | n | cj <;> try exact id
  refine jm_c ?_ id
  rcases (jfs ci).getD f (jfr fun _ => (8, 0, 0)) with b | g
  · exact hK _ _ _ _
  · exact jm_c id (hK _ _ _ _)
theorem jm_put {ci f nx : Nat} (hK : ∀ pc L S M, K pc L S M → K' pc L S M) : jo_put ci f nx L S M K → jo_put ci f nx L S M K' := by
  unfold jo_put; rcases S with _ | ⟨x | x | x, _ | ⟨y | y | ⟨k, i, c⟩, S⟩⟩ <;> try exact id
  dsimp only
  rcases jshp k c with n | n | cj <;> try exact id
  refine jm_c ?_ id
  rcases (jfs ci).getD f (jfr fun _ => (8, 0, 0)) with (_ | _) | g
  · exact hK _ _ _ _
  · exact fun h => ⟨h.1, hK _ _ _ _ h.2⟩
  · exact id
theorem jm_iald {nx : Nat} (hK : ∀ pc L S M, K pc L S M → K' pc L S M) : jo_iald nx L S M K → jo_iald nx L S M K' := by
  unfold jo_iald; rcases S with _ | ⟨x | x | x, _ | ⟨y | y | ⟨k, i, c⟩, S⟩⟩ <;> try exact id
  dsimp only
  rcases jshp k c with n | n | n <;> first | exact id | exact fun h => ⟨h.1, hK _ _ _ _ h.2⟩
theorem jm_zald {nx : Nat} (hK : ∀ pc L S M, K pc L S M → K' pc L S M) : jo_zald nx L S M K → jo_zald nx L S M K' := by
  unfold jo_zald; rcases S with _ | ⟨x | x | x, _ | ⟨y | y | ⟨k, i, c⟩, S⟩⟩ <;> try exact id
  dsimp only
  rcases jshp k c with n | n | n <;> first | exact id | exact fun h => ⟨h.1, hK _ _ _ _ h.2⟩
theorem jm_iast {nx : Nat} (hK : ∀ pc L S M, K pc L S M → K' pc L S M) : jo_iast nx L S M K → jo_iast nx L S M K' := by
  unfold jo_iast; rcases S with _ | ⟨x | x | x, _ | ⟨y | y | y, _ | ⟨z | z | ⟨k, i, c⟩, S⟩⟩⟩ <;> try exact id
  dsimp only
  rcases jshp k c with n | n | n <;> first | exact id | exact fun h => ⟨h.1, hK _ _ _ _ h.2⟩
theorem jm_zast {nx : Nat} (hK : ∀ pc L S M, K pc L S M → K' pc L S M) : jo_zast nx L S M K → jo_zast nx L S M K' := by
  unfold jo_zast; rcases S with _ | ⟨x | x | x, _ | ⟨y | y | y, _ | ⟨z | z | ⟨k, i, c⟩, S⟩⟩⟩ <;> try exact id
  dsimp only
  rcases jshp k c with n | n | n <;> first | exact id | exact fun h => ⟨h.1, hK _ _ _ _ h.2⟩
theorem jm_dup {nx : Nat} (hK : ∀ pc L S M, K pc L S M → K' pc L S M) : jo_dup nx L S M K → jo_dup nx L S M K' := by
  unfold jo_dup; rcases S with _ | ⟨x, S⟩ <;> first | exact id | exact jm_c (hK _ _ _ _) id
theorem jm_dup2 {nx : Nat} (hK : ∀ pc L S M, K pc L S M → K' pc L S M) : jo_dup2 nx L S M K → jo_dup2 nx L S M K' := by
  unfold jo_dup2; rcases S with _ | ⟨x, _ | ⟨y, S⟩⟩ <;> first | exact id | exact jm_c (hK _ _ _ _) id
theorem jm_nonnull {tg : Nat} (hK : ∀ pc L S M, K pc L S M → K' pc L S M) : jo_nonnull tg L S M K → jo_nonnull tg L S M K' := by
  unfold jo_nonnull; rcases S with _ | ⟨x | x | x, S⟩ <;> first | exact id | exact hK _ _ _ _
theorem jm_i2l {nx : Nat} (hK : ∀ pc L S M, K pc L S M → K' pc L S M) : jo_i2l nx L S M K → jo_i2l nx L S M K' := by
  unfold jo_i2l; rcases S with _ | ⟨x | x | x, S⟩ <;> first | exact id | exact hK _ _ _ _
theorem jm_ineg {nx : Nat} (hK : ∀ pc L S M, K pc L S M → K' pc L S M) : jo_ineg nx L S M K → jo_ineg nx L S M K' := by
  unfold jo_ineg; rcases S with _ | ⟨x | x | x, S⟩ <;> first | exact id | exact fun h => ⟨h.1, hK _ _ _ _ h.2⟩
theorem jm_lcmp {nx : Nat} (hK : ∀ pc L S M, K pc L S M → K' pc L S M) : jo_lcmp nx L S M K → jo_lcmp nx L S M K' := by
  unfold jo_lcmp; rcases S with _ | ⟨x | x | x, _ | ⟨y | y | y, S⟩⟩ <;> first | exact id | exact hK _ _ _ _
theorem jm_qv {k k' : jM → Prop} (h : ∀ M, k M → k' M) : ∀ r M, jqv k r M → jqv k' r M := fun _ _ q => ⟨q.1, h _ q.2⟩
theorem jm_qi {k k' : Int → jM → Prop} (h : ∀ x M, k x M → k' x M) : ∀ r M, jqi k r M → jqi k' r M := fun _ _ ⟨x, e, q⟩ => ⟨x, e, h _ _ q⟩
theorem jm_ql {k k' : Int → jM → Prop} (h : ∀ x M, k x M → k' x M) : ∀ r M, jql k r M → jql k' r M := fun _ _ ⟨x, e, q⟩ => ⟨x, e, h _ _ q⟩
theorem jm_qr {k k' : Nat → Nat → Nat → jM → Prop} (h : ∀ a b c M, k a b c M → k' a b c M) : ∀ r M, jqr k r M → jqr k' r M := fun _ _ ⟨a, b, c, e, q⟩ => ⟨a, b, c, e, h _ _ _ _ q⟩
theorem jm_call {mid na ci rk ml nx : Nat} (hK : ∀ pc L S M, K pc L S M → K' pc L S M) (hC : ∀ k as M P P', C k as M P → (∀ r M', P r M' → P' r M') → C' k as M P') : jo_call mid na ci rk ml nx L S M K C → jo_call mid na ci rk ml nx L S M K' C' := by
  unfold jo_call
  refine jm_c ?_ id
  rcases rk with _ | _ | _ | n
  · exact fun h => hC _ _ _ _ _ h (jm_qv fun _ => hK _ _ _ _)
  · exact fun h => hC _ _ _ _ _ h (jm_qi fun _ _ => hK _ _ _ _)
  · exact fun h => hC _ _ _ _ _ h (jm_ql fun _ _ => hK _ _ _ _)
  · exact fun h => hC _ _ _ _ _ h (jm_qr fun _ _ _ _ => hK _ _ _ _)
theorem jm_prim {n nx : Nat} (hK : ∀ pc L S M, K pc L S M → K' pc L S M) : jo_prim n nx L S M K → jo_prim n nx L S M K' := by
  unfold jo_prim
  split <;> first
    | exact id
    | exact jm_c (hK _ _ _ _) id
    | exact jm_c (fun h => ⟨h.1, hK _ _ _ _ h.2⟩) id
theorem jsem_mono {rk : Nat} {mc : Nat → Nat × Nat × Nat × Nat} {en : jEn} (hK : ∀ pc L S M, K pc L S M → K' pc L S M) (hC : ∀ k as M P P', C k as M P → (∀ r M', P r M' → P' r M') → C' k as M P') :
    jsem rk mc en L S M K C Q → jsem rk mc en L S M K' C' Q := by
  obtain ⟨ins, nx, tg, sw⟩ := en
  cases ins
  case iload => exact jm_iload hK
  case iload_n => exact jm_iload hK
  case lload => exact jm_lload hK
  case lload_n => exact jm_lload hK
  case aload => exact jm_aload hK
  case aload_n => exact jm_aload hK
  case istore => exact jm_istore hK
  case istore_n => exact jm_istore hK
  case lstore => exact jm_lstore hK
  case lstore_n => exact jm_lstore hK
  case astore => exact jm_astore hK
  case astore_n => exact jm_astore hK
  case iinc => exact jm_iinc hK
  case iconst => exact hK _ _ _ _
  case bipush => exact hK _ _ _ _
  case sipush => exact hK _ _ _ _
  case lconst => exact hK _ _ _ _
  case ldc => show (match sw with | [(0, k)] => _ | [(v, _)] => _ | _ => False : Prop) → (match sw with | [(0, k)] => _ | [(v, _)] => _ | _ => False : Prop); split <;> first | exact id | exact hK _ _ _ _
  case ldc_w => show (match sw with | [(v, _)] => _ | _ => False : Prop) → (match sw with | [(v, _)] => _ | _ => False : Prop); split <;> first | exact id | exact hK _ _ _ _
  case ldc2_w => show (match sw with | [(v, _)] => _ | _ => False : Prop) → (match sw with | [(v, _)] => _ | _ => False : Prop); split <;> first | exact id | exact hK _ _ _ _
  case iadd => show (match tg with | 1 => _ | _ => _ : Prop) → (match tg with | 1 => _ | _ => _ : Prop); split <;> first | exact jm_i2 hK | exact jm_ii hK
  case isub => exact jm_ii hK
  case imul => show (match tg with | 1 => _ | _ => _ : Prop) → (match tg with | 1 => _ | _ => _ : Prop); split <;> first | exact jm_i2 hK | exact jm_ii hK
  case idiv => exact jm_ii hK
  case irem => exact jm_ii hK
  case ineg => exact jm_ineg hK
  case iand => exact jm_i2 hK
  case ior => exact jm_i2 hK
  case ixor => exact jm_i2 hK
  case ishl => exact jm_i2 hK
  case ishr => exact jm_i2 hK
  case ladd => exact jm_ll hK
  case lsub => exact jm_ll hK
  case lmul => exact jm_ll hK
  case ldiv => exact jm_ll hK
  case lrem => exact jm_ll hK
  case lcmp => exact jm_lcmp hK
  case i2l => exact jm_i2l hK
  case dup => exact jm_dup hK
  case dup2 => exact jm_dup2 hK
  case ifCond cd off => cases cd <;> exact jm_if hK
  case if_icmp cd off => cases cd <;> exact jm_icmp hK
  case goto => exact hK _ _ _ _
  case tableswitch => exact jm_switch hK
  case lookupswitch => exact jm_switch hK
  case getfield => exact jm_get hK
  case putfield => exact jm_put hK
  case iaload => exact jm_iald hK
  case baload => exact jm_zald hK
  case iastore => exact jm_iast hK
  case bastore => exact jm_zast hK
  case invokestatic => rcases sw with _ | ⟨⟨a, n⟩, r⟩ <;> first | exact jm_call hK hC | exact jm_prim hK
  case invokevirtual => rcases sw with _ | ⟨⟨a, n⟩, r⟩ <;> first | exact jm_call hK hC | exact jm_prim hK
  case ireturn => exact id
  case lreturn => exact id
  case areturn => exact id
  case return_ => exact id
  case ifnonnull => exact jm_nonnull hK
  all_goals exact False.elim
end JMono
theorem jAt_mono {k pc : Nat} {L : jLo} {S : List jV} {M : jM} {Q Q' : jRt} (h : jAt k pc L S M Q) (hq : ∀ r M', Q r M' → Q' r M') : jAt k pc L S M Q' := fun X hX => hX.1 _ _ _ _ _ _ _ (h X hX) hq
theorem jAt_intro {k pc : Nat} {L : jLo} {S : List jV} {M : jM} {Q : jRt} (h : jstep jAt k pc L S M Q) : jAt k pc L S M Q := by
  intro X hX
  refine hX.2 _ _ _ _ _ _ ?_
  unfold jstep at h ⊢
  split at h
  · exact h
  · exact jsem_mono (fun _ _ _ _ q => q X hX) (fun _ _ _ _ _ q hq => hX.1 _ _ _ _ _ _ _ (q X hX) hq) h
theorem jCall_mono {k : Nat} {as : List jV} {M : jM} {Q Q' : jRt} (h : jCall k as M Q) (hq : ∀ r M', Q r M' → Q' r M') : jCall k as M Q' := jAt_mono h hq
/-- a stretch of a method: its steps one behind another, up to a place of cuts (or n steps) -/
def jin (cuts : List Nat) (p : Nat) : Bool := match cuts with
  | [] => false
  | c :: r => Nat.beq c p || jin r p
def jseg (cuts : List Nat) (k : Nat) (rk : Nat) (cd : Nat → Option jEn) : Nat → Nat → jLo → List jV → jM → jRt → Prop
  | 0, pc, L, S, M, Q => jAt k pc L S M Q
  | n + 1, pc, L, S, M, Q => match cd pc with
    | none => False
    | some en => jsem rk jmc en L S M (fun p' L' S' M' => bif jin cuts p' then jAt k p' L' S' M' Q else jseg cuts k rk cd n p' L' S' M' Q) jCall Q
theorem jseg_at {cuts : List Nat} {k : Nat} : ∀ (n pc : Nat) (L : jLo) (S : List jV) (M : jM) (Q : jRt), jseg cuts k (jrk k) (jcode k) n pc L S M Q → jAt k pc L S M Q := by
  intro n
  induction n with
  | zero => exact fun _ _ _ _ _ h => h
  | succ n ih =>
    intro pc L S M Q h
    refine jAt_intro ?_
    unfold jseg at h
    unfold jstep
    cases hc : jcode k pc with
    | none => rw [hc] at h; exact h
    | some en =>
      rw [hc] at h
      refine jsem_mono (fun p' L' S' M' q => ?_) (fun _ _ _ _ _ q hq => jCall_mono q hq) h
      cases hb : jin cuts p' with
      | true => rw [hb] at q; exact q
      | false => rw [hb] at q; exact ih _ _ _ _ _ q
/-- the same, with the method's own code and answer's kind -/
theorem jgo (cuts : List Nat) (n : Nat) {k pc rk : Nat} {cd : Nat → Option jEn} {L : jLo} {S : List jV} {M : jM} {Q : jRt} (hc : jcode k = cd) (hr : jrk k = rk) (h : jseg cuts k rk cd n pc L S M Q) : jAt k pc L S M Q := by
  subst hc; subst hr; exact jseg_at n pc L S M Q h

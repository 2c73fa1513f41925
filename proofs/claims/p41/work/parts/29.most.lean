-- Calls, side by side: dearest, fullest, leak
def de (s : jT) : Nat → Int
  | 0 => -9
  | j + 1 => if 0 < s 4 j ∧ (de s j < 0 ∨ jpc 10 (al s (de s j).toNat) < jpc 10 (al s j)) then (j : Int) else de s j
def dv (s : jT) (j : Nat) : Int := if de s j < 0 then -9 else jpc 10 (al s (de s j).toNat)
theorem de_or (s : jT) : ∀ j, de s j = -9 ∨ ∃ f, f < j ∧ de s j = (f : Int)
  | 0 => Or.inl rfl
  | j + 1 => by
    rw [de]
    split
    · exact Or.inr ⟨j, by omega, rfl⟩
    · rcases de_or s j with h | ⟨f, h1, h2⟩
      · exact Or.inl h
      · exact Or.inr ⟨f, by omega, h2⟩
theorem jc10 (x : Int) : 0 ≤ jpc 10 x ∧ jpc 10 x ≤ 10 := jc_r 10 x
def fu (s : jT) : Nat → Int
  | 0 => 0
  | k + 1 => if fo s (fu s k) < fo s (k : Int) then (k : Int) else fu s k
def lw (s : jT) (x : Int) : Int := jpc 10 (kb s (bs (fun j => !decide (s 3 j = x)) (nj s)) (nj s))
def lk (s : jT) : Nat → Int
  | 0 => 0
  | k + 1 => if lw s (k : Int) < lw s (lk s k) then (k : Int) else lk s k
section Most
variable {M : jM} {s : jT} {t : Int} {K : Int → jM → Prop} {V : jM → Prop}
end Most

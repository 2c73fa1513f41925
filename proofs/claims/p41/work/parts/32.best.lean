-- Calls, side by side: shutBest, move, folkFor, fill
/-- how many are KNOWN -/
def kc (s : jT) : Int := jpc 10 (kw s)
/-- SHUT just so, n years on -/
def sj (s : jT) (x : Int) : jT := pu s 5 (fun j => if tb x j = true then 1 else 0) (nj s)
def xb (s : jT) (n : Nat) (q : Int) : Nat → Int × Int
  | 0 => (-9, -9)
  | k + 1 => if it ye n (sj s (k : Int)) 0 7 - s 0 7 ≤ q ∧ (xb s n q k).2 < kc (it ye n (sj s (k : Int))) then ((k : Int), kc (it ye n (sj s (k : Int)))) else xb s n q k
theorem xb_or (s : jT) (n : Nat) (q : Int) : ∀ k, xb s n q k = (-9, -9) ∨ 0 ≤ (xb s n q k).1 ∧ 0 ≤ (xb s n q k).2
  | 0 => Or.inl rfl
  | k + 1 => by
    rw [xb]
    split
    · exact Or.inr ⟨show (0 : Int) ≤ (k : Int) by omega, (jc10 _).1⟩
    · exact xb_or s n q k
theorem wf_sj {s : jT} (w : wf s) (x : Int) : wf (sj s x) := wf_pu w _ (fun j _ => by
  refine Or.inr (Or.inr (Or.inr (Or.inr ⟨rfl, ?_⟩)))
  split <;> simp)
theorem nj_sj (s : jT) (x : Int) : nj (sj s x) = nj s := nj_pu (by decide)
theorem sj_8 (s : jT) (x : Int) : sj s x 0 8 = s 0 8 := pu_nc s _ (by decide)
def mv (s : jT) (n c : Nat) : jT := it ye n (su s 3 (c / 6) ((c % 6 : Nat) : Int))
def xm (s : jT) (n : Nat) : Nat → Int × Int
  | 0 => (-9, kc (it ye n s))
  | c + 1 => if (xm s n c).2 < kc (mv s n c) then ((10 * (c / 6) + c % 6 : Nat), kc (mv s n c)) else xm s n c
def fs (s : jT) (n : Nat) (v : Int) : jT := it ye n (su s 0 6 v)
def fl (s : jT) (n : Nat) (k f sh : Int) : jT := it ye n (ad s k f sh 9)
def xf (s : jT) (n : Nat) (f sh : Int) : Nat → Int × Int
  | 0 => (-9, -9)
  | k + 1 => if (xf s n f sh k).2 < kc (fl s n (k : Int) f sh) then ((k : Int), kc (fl s n (k : Int) f sh)) else xf s n f sh k
theorem xf_or (s : jT) (n : Nat) (f sh : Int) : ∀ k, xf s n f sh k = (-9, -9) ∨ 0 ≤ (xf s n f sh k).1 ∧ 0 ≤ (xf s n f sh k).2
  | 0 => Or.inl rfl
  | k + 1 => by
    rw [xf]
    split
    · exact Or.inr ⟨show (0 : Int) ≤ (k : Int) by omega, (jc10 _).1⟩
    · exact xf_or s n f sh k
theorem xf_1 (s : jT) (n : Nat) (f sh : Int) : ∀ k, 0 ≤ (xf s n f sh (k + 1)).1 ∧ 0 ≤ (xf s n f sh (k + 1)).2
  | 0 => by
    rw [xf]
    rw [if_pos (show (xf s n f sh 0).2 < kc (fl s n ((0 : Nat) : Int) f sh) by have := (jc10 (kw (fl s n ((0 : Nat) : Int) f sh))).1; show (-9 : Int) < jpc 10 _; omega)]
    exact ⟨show (0 : Int) ≤ ((0 : Nat) : Int) by omega, (jc10 _).1⟩
  | k + 1 => by
    rw [xf]
    split
    · exact ⟨show (0 : Int) ≤ ((k + 1 : Nat) : Int) by omega, (jc10 _).1⟩
    · exact xf_1 s n f sh k
section Best
variable {M : jM} {s : jT} {t : Int} {K : Int → jM → Prop} {V : jM → Prop}
end Best

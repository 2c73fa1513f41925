-- Calls, side by side: first; which jars keep what
section First
variable {M : jM} {s : jT} {t : Int} {K : Int → jM → Prop} {V : jM → Prop}
-- which jars keep what
theorem kp_0 {j : Nat} (h : s 4 j ≤ 0) : kp s j = 0 := by unfold kp; rw [if_pos h]
theorem kp_1 {j : Nat} (h : 0 < s 4 j) : kp s j = kd s j := by unfold kp; rw [if_neg (by omega)]
def ag (s : jT) (c : Nat) : Nat → Int
  | 0 => 6
  | j + 1 => if tb (kp s j) c = true then min (ag s c j) (s 3 j) else ag s c j
theorem ag_r (w : wf s) (c : Nat) : ∀ j, j ≤ nj s → 0 ≤ ag s c j ∧ ag s c j ≤ 6
  | 0, _ => ⟨show (0 : Int) ≤ 6 by decide, show (6 : Int) ≤ 6 by decide⟩
  | j + 1, h => by
    have q := ag_r w c j (by omega)
    have q2 := (w.2.2.2 j (nj_lt (by omega))).2.2.1
    rw [ag]
    split <;> omega
def aa (s : jT) (c j : Nat) : Int := if 6 ≤ ag s c j then -9 else ag s c j
end First

-- The reference's methods over a row
def bc (x : Int) : Nat → Int
  | 0 => 0
  | k + 1 => bc x k + jand (jshr x (k : Int)) 1
theorem bc_all : (List.range 1024).all (fun n => decide (bc (n : Int) 10 = jpc 10 (n : Int))) = true := by decide +kernel
theorem bc_10 {x : Int} (h : cs x) : bc x 10 = jpc 10 x := by
  obtain ⟨n, rfl⟩ := jnat h.1
  have h2 := h.2
  exact of_decide_eq_true (List.all_eq_true.mp bc_all n (List.mem_range.mpr (by omega)))
theorem bc_r (x : Int) : ∀ k, k ≤ 32 → 0 ≤ bc x k ∧ bc x k ≤ k
  | 0, _ => ⟨Int.le_refl _, Int.le_refl _⟩
  | k + 1, h => by
    have q := bc_r x k (by omega)
    rw [bc, hb_tb (by omega)]
    split <;> omega
theorem jc_r (n : Nat) (x : Int) : 0 ≤ jpc n x ∧ jpc n x ≤ n := jpc_r n x
theorem h54 {x : Int} (h : 0 ≤ x ∧ x < 54) : 0 ≤ x ∧ x < ((54 : Nat) : Int) := h
/-- CUSTOMS that j alone KEEPS -/
def al (s : jT) (j : Nat) : Int := jand (kp s j) (jxor (kb s (jxor (jshl 1 (j : Int)) (-1)) (nj s)) (-1))
theorem ja_0 (y : Int) : jand 0 y = 0 := tb_ext (jr_and _ _) jr_0 fun i hi => by rw [tb_and, tb_0 i hi, Bool.false_and]
theorem cs_al {s : jT} {j : Nat} (w : wj s j) : cs (al s j) := cs_and (cs_kp w) _ (jr_xor _ _)
section Rows1
variable {M : jM} {a : Nat} {s : jT} {K : Int → jM → Prop} {V : jM → Prop}
/-- FOOD on a SHELF -/
def fo (s : jT) (x : Int) : Int := fi s (jxor (bs (fun j => !decide (s 3 j = x)) (nj s)) (-1)) (nj s)
theorem tb_fo {s : jT} (w : wf s) (x : Int) {j : Nat} (hj : j < nj s) : tb (jxor (bs (fun j => !decide (s 3 j = x)) (nj s)) (-1)) j = decide (s 3 j = x) := by
  have h9 := nj_9 w
  rw [tb_not _ (by omega), tb_bs _ _ (by omega) _ (by omega), decide_eq_true hj, Bool.true_and, Bool.not_not]
end Rows1

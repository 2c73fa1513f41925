-- Calls, side by side: what is, letters, the ROW, the image
section Pairs2
variable {M : jM} {s : jT} {t : Int} {K : Int → jM → Prop} {V : jM → Prop}
theorem sm_e {c : Int} (hc : c = 0 ∨ c = 1) {j : Nat} (hj : j < 31) : jshl c (j : Int) = if c = 0 then 0 else jshl 1 (j : Int) := by
  rcases hc with rfl | rfl
  · have : ∀ j : Nat, j < 31 → jshl 0 (j : Int) = 0 := by decide +kernel
    rw [this j hj]; rfl
  · rfl
end Pairs2

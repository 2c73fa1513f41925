-- Calls, side by side: what is done
section Pairs1
variable {M : jM} {s : jT} {t : Int} {K : Int → jM → Prop} {V : jM → Prop}
theorem yr_u {n : Int} {c j : Nat} {x : Int} (h : ¬ (c = 0 ∧ j = 8)) (y : yr n s) : yr n (su s c j x) := by
  unfold yr at y ⊢
  rw [su_ne s x (by omega)]; exact y
theorem q1_thinkAhead (R : cR M 0 s) (w : wf s) (y : yr 999 s) {n : Nat} (hn : n ≤ 60) (h : ∀ M', cR M' 2 (it ye n s) → jfm 0 2 M M' → V M') : jCall 51 [jR 1 0 0, jI (n : Int)] M (jqv V) :=
  vX1_thinkAhead (q0_become (by decide) R w (fun M1 R1 F1 => q0_pass R1 w ⟨y.1, by have := y.2; omega⟩ hn (fun M2 R2 F2 => qv_ (h M2 R2 (jfm_tr F1 F2)))))
theorem q1_moreHunger {A : jT} (R : cR M 0 s) (R2 : cR M 2 A) (w : wf s) (w2 : wf A) (h : K (A 0 7 - s 0 7) M) : jCall 52 [jR 1 0 0] M (jqi K) := by
  have e := (cR_f R).2.2.1
  have e2 := (cR_f R2).2.2.1
  have w3 := w.2.2.1
  have w4 := w2.2.2.1
  refine vX1_moreHunger ?_
  rw [e, e2]
  exact ⟨jr_i (by omega), qi_ h⟩
end Pairs1

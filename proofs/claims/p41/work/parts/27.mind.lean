-- Calls, side by side: years in mind, what is first
theorem fst_or {P : Nat → Prop} (hd : ∀ n, P n ∨ ¬ P n) : ∀ b : Nat, (∀ n, n < b → ¬ P n) ∨ ∃ n, n < b ∧ P n ∧ ∀ m, m < n → ¬ P m
  | 0 => Or.inl (fun n h => absurd h (Nat.not_lt_zero n))
  | b + 1 => by
    rcases fst_or hd b with h | ⟨n, h1, h2, h3⟩
    · rcases hd b with q | q
      · exact Or.inr ⟨b, Nat.lt_succ_self b, q, h⟩
      · refine Or.inl (fun n hn => ?_)
        by_cases z : n = b
        · rw [z]; exact q
        · exact h n (by omega)
    · exact Or.inr ⟨n, by omega, h2, h3⟩
/-- what is KNOWN now and not n years on -/
def gn (s : jT) (n : Nat) : Int := jand (kw s) (jxor (kw (it ye n s)) (-1))
section Mind
variable {M : jM} {s : jT} {t : Int} {K : Int → jM → Prop} {V : jM → Prop}
theorem th_R {M' : jM} (R : rR M 0 s) (T : jth M M') : rR M' 0 s := rR_e R (fun _ _ => T _ _ _ _ (by unfold jex; omega))
theorem th_C {M' : jM} (R : cR M 0 s) (T : jth M M') : cR M' 0 s := cR_e R (fun _ _ => T _ _ _ _ (by unfold jex; omega))
theorem y_in (y : yr 999 s) : 0 ≤ s 0 8 ∧ s 0 8 ≤ 2000 := ⟨y.1, by have := y.2; omega⟩
theorem y_n (y : yr 999 s) {n : Nat} (h : n ≤ 100) : 0 ≤ it ye n s 0 8 ∧ it ye n s 0 8 ≤ 5000 := by
  have y1 := y.1
  have y2 := y.2
  rw [yn_8]; omega
-- first: which CUSTOM, when; HUNGRY; BARE
theorem q1_forgotten {n : Nat} (R : cR M 0 s) (R2 : cR M 2 (it ye n s)) (w : wf s) (h : K (gn s n) M) : jCall 55 [jR 1 0 0] M (jqi K) :=
  vX1_forgottenInThought (q0_knownBits R w (q0_knownBits R2 (wf_yn n w) (qi_ h)))
theorem q1_yearOf (R : cR M 0 s) (w : wf s) (y : yr 999 s) {m : Nat} {a : Int} (hm : ∀ n, 1 ≤ n → n < m → gn s n = 0) (ha : 1 ≤ m ∧ m ≤ 60 ∧ ¬ gn s m = 0 ∧ a = (m : Int) ∨ m = 61 ∧ a = -9) (h : ∀ M', cR M' 2 (it ye (min m 60) s) → jth M M' → K a M') : jCall 53 [jR 1 0 0] M (jqi K) := by
  refine vX1_yearOfForgetting (q0_become (by decide) R w (fun M2 R2 F2 => ?_))
  have L := lp_n (X := fun n => ∀ M', cR M' 2 (it ye n s) → jth M M' → jAt 53 13 [some (jR 1 0 0), some (jI (((n + 1 : Nat)) : Int))] [] M' (jqi K)) (min (m - 1) 60) ?_ ?_ M2 R2 (jth_c F2 (Or.inl rfl))
  · exact L
  · intro M' R3 T3
    rcases ha with ⟨h0, h1, h2, rfl⟩ | ⟨h1, rfl⟩
    · have e : min (m - 1) 60 = m - 1 := by omega
      have e2 : min m 60 = m := by omega
      have e3 : m - 1 + 1 = m := by omega
      rw [e] at R3 ⊢
      rw [e2] at h
      rw [e3]
      refine vX1_yearOfForgetting_13 (jif0 (by omega) (q0_passYear R3 (wf_yn _ w) (y_n y (by omega)) (fun M4 R4 F4 => ?_)))
      rw [← it_s ye, e3] at R4
      have T4 := jth_tr T3 (jth_c F4 (Or.inl rfl))
      exact q1_forgotten (th_C R T4) R4 w (jif0 h2 (qi_ (h M4 R4 T4)))
    · subst h1
      exact vX1_yearOfForgetting_13 (jif1 (by decide) (qi_ (h M' R3 T3)))
  · intro n hn ih M' R3 T3
    refine vX1_yearOfForgetting_13 (jif0 (by omega) (q0_passYear R3 (wf_yn _ w) (y_n y (by omega)) (fun M4 R4 F4 => ?_)))
    rw [← it_s ye] at R4
    have T4 := jth_tr T3 (jth_c F4 (Or.inl rfl))
    exact q1_forgotten (th_C R T4) R4 w (jif1 (hm (n + 1) (by omega) (by omega)) ⟨jr_i (by omega), ih M4 R4 T4⟩)
theorem cs_gn (w : wf s) (n : Nat) : cs (gn s n) := cs_and (cs_kw w) _ (jr_xor _ _)
/-- some custom stands in what is not nothing -/
theorem cs_bit {x : Int} (h : cs x) (hx : ¬ x = 0) : ∃ c, c < 10 ∧ tb x c = true ∧ ∀ d, d < c → ¬ tb x d = true := by
  rcases fst_or (P := fun c => tb x c = true) (fun n => Decidable.em _) 10 with q | ⟨c, h1, h2, h3⟩
  · refine absurd (tb_ext (cs_jr h) jr_0 fun i hi => ?_) hx
    rw [tb_0 i hi]
    by_cases z : i < 10
    · exact Bool.eq_false_iff.mpr (q i z)
    · exact tb_cs h (by omega) hi
  · exact ⟨c, h1, h2, h3⟩
theorem q1_least {x : Int} {c : Nat} (hc : c < 10) (h1 : tb x c = true) (h2 : ∀ d, d < c → ¬ tb x d = true) (h : K (c : Int) M) : jAt 54 7 [none, some (jI x), some (jI 0)] [] M (jqi K) := by
  refine lp_n (X := fun d => jAt 54 7 [none, some (jI x), some (jI (d : Int))] [] M (jqi K)) c ?_ ?_
  · exact vX1_leastForgotten_7 (jif0 (by omega) (q1_hasBit (by omega) (fun _ => jif0 (by decide) (qi_ h)) (fun z => by rw [h1] at z; cases z)))
  · intro d hd ih
    exact vX1_leastForgotten_7 (jif0 (by omega) (q1_hasBit (by omega) (fun z => absurd z (h2 d hd)) (fun _ => jif1 rfl ⟨jr_i (by omega), ih⟩)))
end Mind

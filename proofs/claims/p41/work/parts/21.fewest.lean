-- Shelves: a jar more; the fewest
def ad (s : jT) (a b c d : Int) : jT := fun q j => if q = 0 ∧ j = 5 then s 0 5 + 1 else if j = nj s then (if q = 1 then a else if q = 2 then b else if q = 3 then c else if q = 4 then d else if q = 5 then 0 else s q j) else s q j
theorem ad_n (s : jT) (a b c d : Int) : ad s a b c d 0 5 = s 0 5 + 1 := by simp [ad]
theorem ad_f (s : jT) (a b c d : Int) {f : Nat} (h : f ≠ 5) : ad s a b c d 0 f = s 0 f := by simp [ad, h]
theorem ad_1 (s : jT) (a b c d : Int) : ad s a b c d 1 (nj s) = a := by simp [ad]
theorem ad_2 (s : jT) (a b c d : Int) : ad s a b c d 2 (nj s) = b := by simp [ad]
theorem ad_3 (s : jT) (a b c d : Int) : ad s a b c d 3 (nj s) = c := by simp [ad]
theorem ad_4 (s : jT) (a b c d : Int) : ad s a b c d 4 (nj s) = d := by simp [ad]
theorem ad_5 (s : jT) (a b c d : Int) : ad s a b c d 5 (nj s) = 0 := by simp [ad]
theorem ad_o (s : jT) (a b c d : Int) {q j : Nat} (hq : q ≠ 0) (h : j ≠ nj s) : ad s a b c d q j = s q j := by simp [ad, h, hq]
theorem wf_ad {s : jT} (w : wf s) (h : s 0 5 < 9) {a b c d : Int} (ha : 0 ≤ a ∧ a ≤ 5) (hb : 0 ≤ b ∧ b ≤ 9) (hc : 0 ≤ c ∧ c ≤ 5) (hd : 0 ≤ d ∧ d ≤ 20) : wf (ad s a b c d) := by
  have hn := nj_n w
  have w1 := w.1
  refine ⟨by rw [ad_n]; omega, by rw [ad_f s a b c d (by decide)]; exact w.2.1, by rw [ad_f s a b c d (by decide)]; exact w.2.2.1, fun j hj => ?_⟩
  rw [ad_n] at hj
  unfold wj
  by_cases e : j = nj s
  · subst e
    rw [ad_1, ad_2, ad_3, ad_4, ad_5]
    exact ⟨ha, hb, hc, hd, Or.inl rfl⟩
  · rw [ad_o s a b c d (by decide) e, ad_o s a b c d (by decide) e, ad_o s a b c d (by decide) e, ad_o s a b c d (by decide) e, ad_o s a b c d (by decide) e]
    exact w.2.2.2 j (by omega)
theorem pw_2 : ∀ n : Nat, n < 31 → jshl 1 (n : Int) = ((2 ^ n : Nat) : Int) := by decide +kernel
theorem p2_9 {n : Nat} (h : n ≤ 9) : 2 ^ n ≤ 512 := Nat.pow_le_pow_right (by decide) h
/-- of the sets ahead of n, of those within F that with B keep all, the one of the fewest (of several the least); else F -/
def fw (s : jT) (F B : Int) : Nat → Int
  | 0 => F
  | k + 1 => if (jand (k : Int) (jxor F (-1)) = 0 ∧ jpc 10 (k : Int) < jpc 10 (fw s F B k)) ∧ jor B (kb s (k : Int) (nj s)) = kw s then (k : Int) else fw s F B k
theorem cs_fw {s : jT} {F B : Int} (hF : cs F) : ∀ k, k ≤ 512 → cs (fw s F B k)
  | 0, _ => hF
  | k + 1, h => by
    rw [fw]
    split
    · exact ⟨by omega, by omega⟩
    · exact cs_fw hF k (by omega)
section Shelves4
variable {M : jM} {i : Nat} {s : jT} {K : Int → jM → Prop} {V : jM → Prop}
theorem q0_add (R : cR M i s) (w : wf s) {a b c d : Int} (hf : s 0 5 < 9) (h : ∀ M', cR M' i (ad s a b c d) → jfm 0 i M M' → V M') : jCall 3 [jR 0 i 0, jI a, jI b, jI c, jI d] M (jqv V) := by
  have w1 := w.1
  have hn := nj_n w
  obtain ⟨e5, e6, e7, e8⟩ := cR_f R
  refine vX0_add (q0_isFull R (fun c => by omega) (fun _ => ?_))
  have hj : (M 0 i 0 5).toNat = nj s := by rw [e5]; rfl
  have hb : 0 ≤ M 0 i 0 5 ∧ M 0 i 0 5 < ((9 : Nat) : Int) := ⟨by omega, by omega⟩
  refine jif1 rfl ⟨hb, ?_⟩
  intro m1
  have d1 : m1 0 i 0 5 = M 0 i 0 5 := jupd_ne M _ (by omega)
  refine ⟨by rw [d1]; exact hb, ?_⟩
  intro m2
  have d2 : m2 0 i 0 5 = M 0 i 0 5 := (jupd_ne m1 _ (by omega)).trans d1
  refine ⟨by rw [d2]; exact hb, ?_⟩
  intro m3
  have d3 : m3 0 i 0 5 = M 0 i 0 5 := (jupd_ne m2 _ (by omega)).trans d2
  refine ⟨by rw [d3]; exact hb, ?_⟩
  intro m4
  have d4 : m4 0 i 0 5 = M 0 i 0 5 := (jupd_ne m3 _ (by omega)).trans d3
  refine ⟨⟨by rw [d4]; exact hb, jz0⟩, ?_⟩
  intro m5
  have d5 : m5 0 i 0 5 = M 0 i 0 5 := (jupd_ne m4 _ (by omega)).trans d4
  refine ⟨by rw [d5]; exact jr_i (by omega), ?_⟩
  intro m6
  refine qv_ (h m6 ⟨fun f h1 h2 => ?_, fun q j h1 h2 h3 => ?_⟩ (jfm_u2 (jfm_u2 (jfm_u2 (jfm_u2 (jfm_u2 jfm_u))))))
  · by_cases z : f = 5
    · subst z
      rw [ad_n]
      refine (jupd_at _ _ _ _ _ _).trans ?_
      rw [d5, e5]
    · rw [ad_f s a b c d z]
      exact (((((jupd_ne m5 _ (by omega)).trans (jupd_ne m4 _ (by omega))).trans (jupd_ne m3 _ (by omega))).trans (jupd_ne m2 _ (by omega))).trans (jupd_ne m1 _ (by omega))).trans ((jupd_ne M _ (by omega)).trans (R.1 f h1 h2))
  · rw [ad_n] at h3
    by_cases z : j = nj s
    · subst z
      rcases (show q = 1 ∨ q = 2 ∨ q = 3 ∨ q = 4 ∨ q = 5 by omega) with rfl | rfl | rfl | rfl | rfl
      · rw [ad_1]
        refine (((((jupd_ne m5 _ (by omega)).trans (jupd_ne m4 _ (by omega))).trans (jupd_ne m3 _ (by omega))).trans (jupd_ne m2 _ (by omega))).trans (jupd_ne m1 _ (by omega))).trans ?_
        rw [← hj]; exact jupd_at _ _ _ _ _ _
      · rw [ad_2]
        refine ((((jupd_ne m5 _ (by omega)).trans (jupd_ne m4 _ (by omega))).trans (jupd_ne m3 _ (by omega))).trans (jupd_ne m2 _ (by omega))).trans ?_
        rw [← hj, ← d1]; exact jupd_at _ _ _ _ _ _
      · rw [ad_3]
        refine (((jupd_ne m5 _ (by omega)).trans (jupd_ne m4 _ (by omega))).trans (jupd_ne m3 _ (by omega))).trans ?_
        rw [← hj, ← d2]; exact jupd_at _ _ _ _ _ _
      · rw [ad_4]
        refine ((jupd_ne m5 _ (by omega)).trans (jupd_ne m4 _ (by omega))).trans ?_
        rw [← hj, ← d3]; exact jupd_at _ _ _ _ _ _
      · rw [ad_5]
        refine (jupd_ne m5 _ (by omega)).trans ?_
        rw [← hj, ← d4]; exact jupd_at _ _ _ _ _ _
    · rw [ad_o s a b c d (by omega) z]
      refine (((((jupd_ne m5 _ (by omega)).trans (jupd_ne m4 _ ?_)).trans (jupd_ne m3 _ ?_)).trans (jupd_ne m2 _ ?_)).trans (jupd_ne m1 _ ?_)).trans ((jupd_ne M _ ?_).trans (R.2 q j h1 h2 (by omega)))
      · rw [d4, hj]; omega
      · rw [d3, hj]; omega
      · rw [d2, hj]; omega
      · rw [d1, hj]; omega
      · rw [hj]; omega
theorem q0_fewestOf (R : cR M i s) (w : wf s) {F B : Int} (hF : cs F) (hB : cs B) (h : K (fw s F B (2 ^ nj s)) M) : jCall 22 [jR 0 i 0, jI F, jI B] M (jqi K) := by
  have w1 := w.1
  have hn := nj_n w
  have e5 := (cR_f R).1
  have h9 := p2_9 (nj_9 w)
  have hp : jshl 1 (M 0 i 0 5) = ((2 ^ nj s : Nat) : Int) := by rw [e5, ← hn]; exact pw_2 _ (by omega)
  refine vX0_fewestOf (q0_knownBits R w ?_)
  refine lp_n (X := fun k => jAt 22 11 [some (jR 0 i 0), some (jI F), some (jI B), some (jI (kw s)), some (jI (fw s F B k)), some (jI (k : Int)), none] [] M (jqi K)) (2 ^ nj s) ?_ ?_
  · refine vX0_fewestOf_11 ?_
    rw [hp]
    exact jif1 (Int.le_refl _) (qi_ h)
  · intro k hk ih
    have hq : jr ((k : Int) + 1) := jr_i (by omega)
    have c1 := cs_fw (s := s) (B := B) hF k (by omega)
    rw [fw] at ih
    refine vX0_fewestOf_11 ?_
    rw [hp]
    refine jif0 (by omega) (jite (fun c => ?_) (fun c => ⟨⟨by omega, by omega⟩, c1, jite (fun c2 => ?_) (fun c2 => ?_)⟩))
    · rw [if_neg (fun z => c z.1.1)] at ih
      exact vX0_fewestOf_49 (jif1 rfl ⟨hq, ih⟩)
    · rw [if_neg (fun z => by have := z.1.2; omega)] at ih
      exact vX0_fewestOf_49 (jif1 rfl ⟨hq, ih⟩)
    · refine vX0_fewestOf_49 (jif0 (by decide) (q0_keptBy R w (jite (fun c3 => ⟨hq, ?_⟩) (fun c3 => ⟨hq, ?_⟩))))
      · rw [if_neg (fun z => c3 z.2)] at ih
        exact ih
      · rw [if_pos ⟨⟨Decidable.not_not.mp c, by omega⟩, Decidable.not_not.mp c3⟩] at ih
        exact ih
end Shelves4

-- What the class holds beside the larder now: thoughts, REFUSALS
/-- places that nothing rests on -/
def jex (k i _c _j : Nat) : Prop := k = 0 ∧ (i = 2 ∨ i = 3)
def jth (M M' : jM) : Prop := ∀ k i c j, ¬ jex k i c j → M' k i c j = M k i c j
theorem jth_rf {M : jM} : jth M M := fun _ _ _ _ _ => rfl
theorem jth_tr {M M' M'' : jM} (h : jth M M') (h' : jth M' M'') : jth M M'' := fun k i c j z => (h' k i c j z).trans (h k i c j z)
theorem jth_c {M M' : jM} {i : Nat} (F : jfm 0 i M M') (h : i = 2 ∨ i = 3) : jth M M' := fun k i' c j z => F k i' c j (fun e => z ⟨e.1, by rw [e.2]; exact h⟩)
theorem cR_e {M M' : jM} {i : Nat} {s : jT} (R : cR M i s) (h : ∀ c j, M' 0 i c j = M 0 i c j) : cR M' i s := ⟨fun f h1 h2 => (h _ _).trans (R.1 f h1 h2), fun c j h1 h2 h3 => (h _ _).trans (R.2 c j h1 h2 h3)⟩
theorem rR_e {M M' : jM} {a : Nat} {s : jT} (R : rR M a s) (h : ∀ c j, M' 3 a c j = M 3 a c j) : rR M' a s := ⟨⟨(h _ _).trans R.1.1, (h _ _).trans R.1.2.1, (h _ _).trans R.1.2.2.1, (h _ _).trans R.1.2.2.2⟩, fun c j h1 h2 => (h _ _).trans (R.2 c j h1 h2)⟩
def rfC (M : jM) (k : Nat) : jM := jupd M 1 0 3 k (M 1 0 3 k + 1)
def sref (t : Int) (M : jM) : Prop := ∀ j : Nat, j < 7 → 0 ≤ M 1 0 3 j ∧ M 1 0 3 j ≤ t
/-- now holds s, REFUSALS are few -/
def sim (t : Int) (M : jM) (s : jT) : Prop := cR M 0 s ∧ wf s ∧ sref t M ∧ t ≤ 1000000
theorem sref_e {M M' : jM} {t : Int} (S : sref t M) (h : ∀ j, M' 1 0 3 j = M 1 0 3 j) : sref t M' := fun j hj => by rw [h]; exact S j hj
theorem sref_r {M : jM} {t : Int} (S : sref t M) {k : Nat} : sref (t + 1) (rfC M k) := fun j hj => by
  have q := S j hj
  unfold rfC
  by_cases z : j = k
  · subst z; rw [jupd_at]; omega
  · rw [jupd_j _ _ _ _ _ _ z]; omega
theorem sref_w {M : jM} {t t' : Int} (S : sref t M) (h : t ≤ t') : sref t' M := fun j hj => by have q := S j hj; omega
theorem sim_w {M : jM} {t t' : Int} {s : jT} (H : sim t M s) (h : t ≤ t') (h2 : t' ≤ 1000000) : sim t' M s := ⟨H.1, H.2.1, sref_w H.2.2.1 h, h2⟩
/-- thoughts have changed, no more -/
theorem sim_t {M M' : jM} {t : Int} {s : jT} (H : sim t M s) (h : jth M M') : sim t M' s := ⟨cR_e H.1 (fun _ _ => h _ _ _ _ (by unfold jex; omega)), H.2.1, sref_e H.2.2.1 (fun _ => h _ _ _ _ (by unfold jex; omega)), H.2.2.2⟩
/-- the larder now has changed, no more -/
theorem sim_n {M M' : jM} {t : Int} {s s' : jT} (H : sim t M s) (F : jfm 0 0 M M') (R : cR M' 0 s') (w : wf s') : sim t M' s' := ⟨R, w, sref_e H.2.2.1 (fun _ => F _ _ _ _ (by omega)), H.2.2.2⟩
theorem sim_r {M : jM} {t : Int} {s : jT} (H : sim t M s) (ht : t < 1000000) {k : Nat} : sim (t + 1) (rfC M k) s := ⟨cR_e H.1 (fun _ _ => jupd_ne _ _ (by omega)), H.2.1, sref_r H.2.2.1, by omega⟩
section Sim1
variable {M : jM} {s : jT} {t : Int} {K : Int → jM → Prop} {V : jM → Prop}
theorem q1_refuse {k : Nat} (H : sim t M s) (hk : 1 ≤ k ∧ k ≤ 6) (h : K (-(k : Int)) (rfC M k)) : jCall 74 [jR 1 0 0, jI (-(k : Int))] M (jqi K) := by
  have e : - -(k : Int) = (k : Int) := Int.neg_neg _
  have hb : 0 ≤ (k : Int) ∧ (k : Int) < ((7 : Nat) : Int) := ⟨by omega, by omega⟩
  have q := H.2.2.1 k (by omega)
  have q2 := H.2.2.2
  refine vX1_refuse (jif0 (by omega) (jif0 (by omega) ?_))
  rw [e]
  exact ⟨jr_i (by omega), hb, jr_i (show -2147483648 ≤ M 1 0 3 k + 1 ∧ M 1 0 3 k + 1 < 2147483648 by omega), hb, qi_ h⟩
theorem q1_isShelf {x : Int} (h1 : 0 ≤ x → x ≤ 5 → K 1 M) (h0 : ¬ (0 ≤ x ∧ x ≤ 5) → K 0 M) : jCall 75 [jI x] M (jqi K) :=
  vX1_isShelf (jite (fun c => ⟨jz0, qi_ (h0 (by omega))⟩) (fun c => jite (fun c => ⟨jz0, qi_ (h0 (by omega))⟩) (fun c => ⟨jz1, qi_ (h1 (by omega) (by omega))⟩)))
theorem q1_isCustom {x : Int} (h1 : 0 ≤ x → x ≤ 9 → K 1 M) (h0 : ¬ (0 ≤ x ∧ x ≤ 9) → K 0 M) : jCall 76 [jI x] M (jqi K) :=
  vX1_isCustom (jite (fun c => ⟨jz0, qi_ (h0 (by omega))⟩) (fun c => jite (fun c => ⟨jz0, qi_ (h0 (by omega))⟩) (fun c => ⟨jz1, qi_ (h1 (by omega) (by omega))⟩)))
theorem q1_isNeither {x : Int} (h1 : ¬ (x = 0 ∨ x = 1) → K 1 M) (h0 : x = 0 ∨ x = 1 → K 0 M) : jCall 77 [jI x] M (jqi K) :=
  vX1_isNeither (jite (fun c => ⟨jz0, qi_ (h0 (Or.inl c))⟩) (fun c => jite (fun c => ⟨jz0, qi_ (h0 (Or.inr c))⟩) (fun c2 => ⟨jz1, qi_ (h1 (by omega))⟩)))
end Sim1

-- The class and the reference side by side: now and s hold one larder, the image and its row another, letters, the ROW, REFUSALS are the same
/-- places that nothing rests on -/
def jex (k i c j : Nat) : Prop := (k = 0 ∧ (i = 2 ∨ i = 3)) ∨ (k = 3 ∧ (i = 1 ∨ i = 3)) ∨ (k = 2 ∧ c = 0 ∧ (j = 10 ∨ j = 12)) ∨ (k = 2 ∧ c = 4)
def jth (M M' : jM) : Prop := ∀ k i c j, ¬ jex k i c j → M' k i c j = M k i c j
theorem jth_rf {M : jM} : jth M M := fun _ _ _ _ _ => rfl
theorem jth_tr {M M' M'' : jM} (h : jth M M') (h' : jth M' M'') : jth M M'' := fun k i c j z => (h' k i c j z).trans (h k i c j z)
theorem jth_c {M M' : jM} {i : Nat} (F : jfm 0 i M M') (h : i = 2 ∨ i = 3) : jth M M' := fun k i' c j z => F k i' c j (fun e => z (Or.inl ⟨e.1, by rw [e.2]; exact h⟩))
theorem jth_r {M M' : jM} {i : Nat} (F : jfm 3 i M M') (h : i = 1 ∨ i = 3) : jth M M' := fun k i' c j z => F k i' c j (fun e => z (Or.inr (Or.inl ⟨e.1, by rw [e.2]; exact h⟩)))
theorem jth_u {M : jM} {j : Nat} {x : Int} (h : j = 10 ∨ j = 12) : jth M (jupd M 2 0 0 j x) := fun k i c j' z => jupd_ne M x (fun e => z (Or.inr (Or.inr (Or.inl ⟨e.1, e.2.2.1, by rw [e.2.2.2]; exact h⟩))))
theorem jth_n {M : jM} {j : Nat} {x : Int} : jth M (jupd M 2 0 4 j x) := fun k i c j' z => jupd_ne M x (fun e => z (Or.inr (Or.inr (Or.inr ⟨e.1, e.2.2.1⟩))))
/-- letters: how many, the same, what they are -/
def slet (M : jM) : Prop := (0 ≤ M 1 0 0 6 ∧ M 1 0 0 6 ≤ 96) ∧ M 2 0 0 8 = M 1 0 0 6 ∧ ∀ j : Nat, (j : Int) < M 1 0 0 6 → M 2 0 1 j = M 1 0 1 j ∧ 0 ≤ M 1 0 1 j ∧ M 1 0 1 j ≤ 255
def srow (M : jM) : Prop := (0 ≤ M 1 0 0 8 ∧ M 1 0 0 8 ≤ 16) ∧ M 2 0 0 9 = M 1 0 0 8 ∧ ∀ j : Nat, (j : Int) < M 1 0 0 8 → M 2 0 2 j = M 1 0 2 j ∧ 0 ≤ M 1 0 2 j ∧ M 1 0 2 j ≤ 99
def sref (t : Int) (M : jM) : Prop := ∀ j : Nat, j < 7 → M 2 0 3 j = M 1 0 3 j ∧ 0 ≤ M 1 0 3 j ∧ M 1 0 3 j ≤ t
def simg (M : jM) : Prop := (M 1 0 0 2 = 0 ∨ M 1 0 0 2 = 1) ∧ M 2 0 0 4 = M 1 0 0 2 ∧ (M 1 0 0 2 = 1 → ∃ s, cR M 1 s ∧ rR M 2 s ∧ wf s ∧ yr 999 s)
def sother (t : Int) (M : jM) : Prop := slet M ∧ srow M ∧ sref t M ∧ simg M
def sim (t : Int) (M : jM) (s : jT) : Prop := (cR M 0 s ∧ rR M 0 s ∧ wf s ∧ yr 999 s) ∧ sother t M ∧ 0 ≤ t ∧ t ≤ 1000
theorem cR_e {M M' : jM} {i : Nat} {s : jT} (R : cR M i s) (h : ∀ c j, M' 0 i c j = M 0 i c j) : cR M' i s := ⟨fun f h1 h2 => (h _ _).trans (R.1 f h1 h2), fun c j h1 h2 h3 => (h _ _).trans (R.2 c j h1 h2 h3)⟩
theorem rR_e {M M' : jM} {a : Nat} {s : jT} (R : rR M a s) (h : ∀ c j, M' 3 a c j = M 3 a c j) : rR M' a s := ⟨⟨(h _ _).trans R.1.1, (h _ _).trans R.1.2.1, (h _ _).trans R.1.2.2.1, (h _ _).trans R.1.2.2.2⟩, fun c j h1 h2 => (h _ _).trans (R.2 c j h1 h2)⟩
theorem slet_e {M M' : jM} (S : slet M) (h1 : M' 1 0 0 6 = M 1 0 0 6) (h2 : M' 2 0 0 8 = M 2 0 0 8) (h3 : ∀ j, M' 1 0 1 j = M 1 0 1 j) (h4 : ∀ j, M' 2 0 1 j = M 2 0 1 j) : slet M' := by
  unfold slet at S ⊢
  rw [h1, h2]
  exact ⟨S.1, S.2.1, fun j hj => by rw [h3, h4]; exact S.2.2 j hj⟩
theorem srow_e {M M' : jM} (S : srow M) (h1 : M' 1 0 0 8 = M 1 0 0 8) (h2 : M' 2 0 0 9 = M 2 0 0 9) (h3 : ∀ j, M' 1 0 2 j = M 1 0 2 j) (h4 : ∀ j, M' 2 0 2 j = M 2 0 2 j) : srow M' := by
  unfold srow at S ⊢
  rw [h1, h2]
  exact ⟨S.1, S.2.1, fun j hj => by rw [h3, h4]; exact S.2.2 j hj⟩
theorem sref_e {M M' : jM} {t : Int} (S : sref t M) (h3 : ∀ j, M' 1 0 3 j = M 1 0 3 j) (h4 : ∀ j, M' 2 0 3 j = M 2 0 3 j) : sref t M' := fun j hj => by rw [h3, h4]; exact S j hj
theorem simg_e {M M' : jM} (S : simg M) (h1 : M' 1 0 0 2 = M 1 0 0 2) (h2 : M' 2 0 0 4 = M 2 0 0 4) (h3 : ∀ c j, M' 0 1 c j = M 0 1 c j) (h4 : ∀ c j, M' 3 2 c j = M 3 2 c j) : simg M' := by
  unfold simg at S ⊢
  rw [h1, h2]
  refine ⟨S.1, S.2.1, fun z => ?_⟩
  obtain ⟨s, a, b, c⟩ := S.2.2 z
  exact ⟨s, cR_e a h3, rR_e b h4, c⟩
theorem sref_s {M : jM} {t : Int} (S : sref t M) : sref (t + 1) M := fun j hj => ⟨(S j hj).1, (S j hj).2.1, by have := (S j hj).2.2; omega⟩
/-- other places: kinds 0 (now), 3 (s), thoughts may have changed -/
theorem soth_e {M M' : jM} {t : Int} (S : sother t M) (h : ∀ k i c j, ¬ jex k i c j → ¬ (k = 0 ∧ i = 0) → ¬ (k = 3 ∧ i = 0) → M' k i c j = M k i c j) : sother (t + 1) M' := by
  obtain ⟨a, b, c, d⟩ := S
  refine ⟨slet_e a ?_ ?_ (fun _ => ?_) (fun _ => ?_), srow_e b ?_ ?_ (fun _ => ?_) (fun _ => ?_), sref_s (sref_e c (fun _ => ?_) (fun _ => ?_)), simg_e d ?_ ?_ (fun _ _ => ?_) (fun _ _ => ?_)⟩ <;> exact h _ _ _ _ (by unfold jex; omega) (by omega) (by omega)
theorem sim_e {M M' : jM} {t : Int} {s s' : jT} (H : sim t M s) (ht : t < 1000) (R : cR M' 0 s') (R' : rR M' 0 s') (w : wf s') (y : yr 999 s') (h : ∀ k i c j, ¬ jex k i c j → ¬ (k = 0 ∧ i = 0) → ¬ (k = 3 ∧ i = 0) → M' k i c j = M k i c j) : sim (t + 1) M' s' := by
  have h1 := H.2.2
  exact ⟨⟨R, R', w, y⟩, soth_e H.2.1 h, by omega, by omega⟩
/-- nothing has changed but in thought -/
theorem sim_t {M M' : jM} {t : Int} {s : jT} (H : sim t M s) (ht : t < 1000) (h : jth M M') : sim (t + 1) M' s := by
  obtain ⟨a, b, c, d⟩ := H.1
  exact sim_e H ht (cR_e a (fun _ _ => h _ _ _ _ (by unfold jex; omega))) (rR_e b (fun _ _ => h _ _ _ _ (by unfold jex; omega))) c d (fun k i q j z _ _ => h k i q j z)
def rfC (M : jM) (k : Nat) : jM := jupd M 1 0 3 k (M 1 0 3 k + 1)
def rfR (M : jM) (k : Nat) : jM := jupd M 2 0 3 k (M 2 0 3 k + 1)
theorem sim_r {M : jM} {t : Int} {s : jT} (H : sim t M s) (ht : t < 1000) {k : Nat} (hk : 1 ≤ k ∧ k ≤ 6) : sim (t + 1) (rfR (rfC M k) k) s := by
  have h1 := H.2.2
  obtain ⟨⟨a, b, c, d⟩, ⟨e, f, g, i⟩, _⟩ := H
  have hn : ∀ k' i' c' j', ¬ (c' = 3) → rfR (rfC M k) k k' i' c' j' = M k' i' c' j' := fun k' i' c' j' z => by
    unfold rfR rfC
    rw [jupd_ne _ _ (by omega), jupd_ne _ _ (by omega)]
  have hn2 : ∀ k' i' c' j', ¬ (k' = 1 ∨ k' = 2) → rfR (rfC M k) k k' i' c' j' = M k' i' c' j' := fun k' i' c' j' z => by
    unfold rfR rfC
    rw [jupd_ne _ _ (by omega), jupd_ne _ _ (by omega)]
  refine ⟨⟨cR_e a (fun _ _ => hn2 _ _ _ _ (by omega)), rR_e b (fun _ _ => hn2 _ _ _ _ (by omega)), c, d⟩, ⟨slet_e e ?_ ?_ (fun _ => ?_) (fun _ => ?_), srow_e f ?_ ?_ (fun _ => ?_) (fun _ => ?_), fun j hj => ?_, simg_e i ?_ ?_ (fun _ _ => hn2 _ _ _ _ (by omega)) (fun _ _ => hn2 _ _ _ _ (by omega))⟩, by omega, by omega⟩
  any_goals exact hn _ _ _ _ (by decide)
  have q := g j hj
  by_cases z : j = k
  · subst z
    have e1 : rfR (rfC M j) j 2 0 3 j = M 2 0 3 j + 1 := by
      unfold rfR
      rw [jupd_at]
      unfold rfC
      rw [jupd_ne _ _ (by omega)]
    have e2 : rfR (rfC M j) j 1 0 3 j = M 1 0 3 j + 1 := by
      unfold rfR
      rw [jupd_ne _ _ (by omega)]
      exact jupd_at _ _ _ _ _ _
    rw [e1, e2]; omega
  · have e1 : rfR (rfC M k) k 2 0 3 j = M 2 0 3 j := by
      unfold rfR
      rw [jupd_ne _ _ (by omega)]
      unfold rfC
      rw [jupd_ne _ _ (by omega)]
    have e2 : rfR (rfC M k) k 1 0 3 j = M 1 0 3 j := by
      unfold rfR
      rw [jupd_ne _ _ (by omega)]
      unfold rfC
      rw [jupd_ne _ _ (by omega)]
    rw [e1, e2]; omega
/-- the same answer, and side by side again -/
def en (t y : Int) : Int → jM → Prop := fun y' M' => y = y' ∧ ∃ s', sim (t + 1) M' s'
/-- a call of the class, then the same of the reference -/
def pP (t : Int) (k k' : Nat) (as : List jV) (M : jM) : Prop := jCall k (jR 1 0 0 :: as) M (jqi fun y M1 => jCall k' (jR 2 0 0 :: as) M1 (jqi (en t y)))
def pL (t : Int) (k k' : Nat) (as : List jV) (M : jM) : Prop := jCall k (jR 1 0 0 :: as) M (jql fun y M1 => jCall k' (jR 2 0 0 :: as) M1 (jql (en t y)))
section Sim1
variable {M : jM} {s : jT} {t : Int} {K : Int → jM → Prop} {V : jM → Prop}
theorem q1_refuse {k : Nat} (H : sim t M s) (hk : 1 ≤ k ∧ k ≤ 6) (h : K (-(k : Int)) (rfC M k)) : jCall 99 [jR 1 0 0, jI (-(k : Int))] M (jqi K) := by
  have e : - -(k : Int) = (k : Int) := Int.neg_neg _
  have hb : 0 ≤ (k : Int) ∧ (k : Int) < ((7 : Nat) : Int) := ⟨by omega, by omega⟩
  have q := H.2.1.2.2.1 k (by omega)
  have q2 := H.2.2
  refine vX1_refuse (jif0 (by omega) (jif0 (by omega) ?_))
  rw [e]
  exact ⟨jr_i (by omega), hb, jr_i (show -2147483648 ≤ M 1 0 3 k + 1 ∧ M 1 0 3 k + 1 < 2147483648 by omega), hb, qi_ h⟩
theorem q1_refuseLong {k : Nat} (H : sim t M s) (hk : 1 ≤ k ∧ k ≤ 6) (h : K (4000000000000000000 - -(k : Int)) (rfC M k)) : jCall 100 [jR 1 0 0, jI (-(k : Int))] M (jql K) :=
  vX1_refuseLong (q1_refuse H hk ⟨⟨by omega, by omega⟩, ql_ h⟩)
theorem fin_r {k : Nat} (H : sim t M s) (ht : t < 1000) (hk : 1 ≤ k ∧ k ≤ 6) : jCall 108 [jR 2 0 0, jI (-(k : Int))] (rfC M k) (jqi fun y2 M2 => jqi (en t (-(k : Int))) (some (jI y2)) M2) := by
  have q := H.2.1.2.2.1 k (by omega)
  have q2 := H.2.2
  have e : rfC M k 2 0 3 k = M 2 0 3 k := jupd_ne _ _ (by omega)
  exact q2_no hk (by rw [e]; omega) (qi_ ⟨rfl, s, sim_r H ht hk⟩)
theorem fin_rL {k : Nat} (H : sim t M s) (ht : t < 1000) (hk : 1 ≤ k ∧ k ≤ 6) : jCall 109 [jR 2 0 0, jI (-(k : Int))] (rfC M k) (jql fun y2 M2 => jql (en t (4000000000000000000 - -(k : Int))) (some (jL y2)) M2) := by
  have q := H.2.1.2.2.1 k (by omega)
  have q2 := H.2.2
  have e : rfC M k 2 0 3 k = M 2 0 3 k := jupd_ne _ _ (by omega)
  exact q2_noWide hk (by rw [e]; omega) (ql_ ⟨rfl, s, sim_r H ht hk⟩)
theorem rR_rf {k : Nat} {a : Nat} (R : rR M a s) : rR (rfC M k) a s := rR_e R (fun _ _ => jupd_ne _ _ (by omega))
theorem q1_isShelf {x : Int} (h1 : 0 ≤ x → x ≤ 5 → K 1 M) (h0 : ¬ (0 ≤ x ∧ x ≤ 5) → K 0 M) : jCall 101 [jI x] M (jqi K) :=
  vX1_isShelf (jite (fun c => ⟨jz0, qi_ (h0 (by omega))⟩) (fun c => jite (fun c => ⟨jz0, qi_ (h0 (by omega))⟩) (fun c => ⟨jz1, qi_ (h1 (by omega) (by omega))⟩)))
theorem q1_isCustom {x : Int} (h1 : 0 ≤ x → x ≤ 9 → K 1 M) (h0 : ¬ (0 ≤ x ∧ x ≤ 9) → K 0 M) : jCall 102 [jI x] M (jqi K) :=
  vX1_isCustom (jite (fun c => ⟨jz0, qi_ (h0 (by omega))⟩) (fun c => jite (fun c => ⟨jz0, qi_ (h0 (by omega))⟩) (fun c => ⟨jz1, qi_ (h1 (by omega) (by omega))⟩)))
theorem q1_isNeither {x : Int} (h1 : ¬ (x = 0 ∨ x = 1) → K 1 M) (h0 : x = 0 ∨ x = 1 → K 0 M) : jCall 103 [jI x] M (jqi K) :=
  vX1_isNeither (jite (fun c => ⟨jz0, qi_ (h0 (Or.inl c))⟩) (fun c => jite (fun c => ⟨jz0, qi_ (h0 (Or.inr c))⟩) (fun c2 => ⟨jz1, qi_ (h1 (by omega))⟩)))
end Sim1

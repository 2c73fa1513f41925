-- The methods of Shelves, the small ones: what they answer, in words of the larder
theorem lp_n {X : Nat → Prop} (n : Nat) (h0 : X n) (hs : ∀ j, j < n → X (j + 1) → X j) : X 0 := by
  suffices H : ∀ d j, j + d = n → X j from H n 0 (by omega)
  intro d
  induction d with
  | zero => intro j h; rw [← h] at h0; exact h0
  | succ d ih => intro j h; exact hs j (by omega) (ih (j + 1) (by omega))
/-- by how much FOOD is less in a YEAR -/
def sp (kind shelf : Int) : Int := if kind = 1 then (if shelf < 3 then 0 else 1) else if kind = 2 then 1 else if kind = 3 then (if shelf < 3 then 1 else 2) else if kind = 4 then (if shelf = 0 then 0 else 1) else if kind = 5 then 1 else 0
theorem sp_r (kind shelf : Int) : 0 ≤ sp kind shelf ∧ sp kind shelf ≤ 2 := by
  unfold sp
  repeat' split
  all_goals exact ⟨by decide, by decide⟩
/-- CUSTOMS by the KIND -/
def cu (kind f shelf : Int) : Int := if kind = 3 then jor (jshl 1 f) (jshl 1 ((f + 1) % 10)) else if kind = 4 then jor (jshl 1 f) (jshl 1 shelf) else if kind = 5 then jor (jor (jshl 1 f) (jshl 1 ((f + 1) % 10))) 512 else jshl 1 f
theorem cs_sh : ∀ f : Nat, f < 10 → 0 ≤ jshl 1 (f : Int) ∧ jshl 1 (f : Int) < 1024 := by decide +kernel
theorem cs_s {f : Int} (h : 0 ≤ f ∧ f ≤ 9) : cs (jshl 1 f) := by
  obtain ⟨n, rfl⟩ := jnat h.1
  exact cs_sh n (by omega)
theorem cs_cu {kind f shelf : Int} (hf : 0 ≤ f ∧ f ≤ 9) (hs : 0 ≤ shelf ∧ shelf ≤ 5) : cs (cu kind f shelf) := by
  have h1 := cs_s hf
  have h2 : cs (jshl 1 ((f + 1) % 10)) := cs_s (by omega)
  have h3 : cs (jshl 1 shelf) := cs_s (by omega)
  unfold cu
  split
  · exact cs_or h1 h2
  · split
    · exact cs_or h1 h3
    · split
      · exact cs_or (cs_or h1 h2) ⟨by decide, by decide⟩
      · exact h1
def kd (s : jT) (j : Nat) : Int := cu (s 1 j) (s 2 j) (s 3 j)
/-- CUSTOMS that jar j KEEPS -/
def kp (s : jT) (j : Nat) : Int := if s 4 j ≤ 0 then 0 else kd s j
/-- of the first n those of a set -/
def kb (s : jT) (x : Int) : Nat → Int
  | 0 => 0
  | n + 1 => if tb x n = true then jor (kb s x n) (kp s n) else kb s x n
/-- KNOWN -/
def kw (s : jT) : Int := kb s (-1) (nj s)
theorem cs_kd {s : jT} {j : Nat} (w : wj s j) : cs (kd s j) := cs_cu w.2.1 w.2.2.1
theorem cs_kp {s : jT} {j : Nat} (w : wj s j) : cs (kp s j) := by
  unfold kp
  split
  · exact cs_0
  · exact cs_kd w
theorem cs_kb {s : jT} (w : wf s) (x : Int) : ∀ n, n ≤ nj s → cs (kb s x n)
  | 0, _ => cs_0
  | n + 1, h => by
    have q := cs_kb w x n (by omega)
    rw [kb]
    split
    · exact cs_or q (cs_kp (w.2.2.2 n (nj_lt (by omega))))
    · exact q
theorem cs_kw {s : jT} (w : wf s) : cs (kw s) := cs_kb w _ _ (Nat.le_refl _)
section Shelves1
variable {M : jM} {i : Nat} {s : jT} {K : Int → jM → Prop} {V : jM → Prop}
theorem q1_hasBit {x : Int} {k : Nat} (hk : k < 32) (h1 : tb x k = true → K 1 M) (h0 : tb x k = false → K 0 M) : jCall 78 [jI x, jI (k : Int)] M (jqi K) := by
  refine vX1_hasBit (jite (fun c => ⟨jz0, qi_ (h0 ?_)⟩) (fun c => ⟨jz1, qi_ (h1 ?_)⟩))
  · rw [hb_tb hk] at c
    cases hb : tb x k
    · rfl
    · rw [hb, if_pos rfl] at c; exact absurd rfl c
  · rw [hb_tb hk] at c
    cases hb : tb x k
    · rw [hb, if_neg (by decide)] at c; exact absurd (by decide) c
    · rfl
theorem q0_has (R : cR M i s) (w : wf s) {x : Int} (h1 : 0 ≤ x → x < s 0 5 → K 1 M) (h0 : ¬ (0 ≤ x ∧ x < s 0 5) → K 0 M) : jCall 1 [jR 0 i 0, jI x] M (jqi K) := by
  have e := (cR_f R).1
  have w1 := w.1
  exact vX0_has (jite (fun c => ⟨jz0, qi_ (h0 (by omega))⟩) (fun c => jite (fun c => ⟨jz0, qi_ (h0 (by omega))⟩) (fun c => jite (fun c => by omega) (fun c => ⟨jz1, qi_ (h1 (by omega) (by omega))⟩))))
theorem q0_hasj (R : cR M i s) (w : wf s) {j : Nat} (hj : (j : Int) < s 0 5) (h1 : K 1 M) : jCall 1 [jR 0 i 0, jI (j : Int)] M (jqi K) := q0_has R w (fun _ _ => h1) (fun c => by omega)
theorem q0_isFull (R : cR M i s) (h1 : ¬ s 0 5 < 9 → K 1 M) (h0 : s 0 5 < 9 → K 0 M) : jCall 2 [jR 0 i 0] M (jqi K) := by
  have e := (cR_f R).1
  exact vX0_isFull (jite (fun c => ⟨jz0, qi_ (h0 (by omega))⟩) (fun c => ⟨jz1, qi_ (h1 (by omega))⟩))
theorem q0_spoilsOf {x0 x1 : Int} (h : K (sp x0 x1) M) : jCall 5 [jI x0, jI x1] M (jqi K) := by
  refine vX0_spoilsOf ?_
  unfold sp at h
  have j1 : jr (0 + 1) := ⟨by decide, by decide⟩
  have j2 : jr (1 + 1) := ⟨by decide, by decide⟩
  have j3 : jr (1 - 1) := ⟨by decide, by decide⟩
  repeat' first | refine jite (fun c => ?_) (fun c => ?_) | refine And.intro (by assumption) ?_
  all_goals (refine qi_ ?_; simp_all)
theorem q0_customsOf {x0 x1 x2 : Int} (hf : 0 ≤ x1 ∧ x1 ≤ 9) (h : K (cu x0 x1 x2) M) : jCall 6 [jI x0, jI x1, jI x2] M (jqi K) := by
  refine vX0_customsOf ⟨jr_i (by omega), ⟨by omega, by decide⟩, ?_⟩
  unfold cu at h
  repeat' first | refine jite (fun c => ?_) (fun c => ?_)
  all_goals (refine qi_ ?_; simp_all)
theorem q0_spoils (R : cR M i s) (w : wf s) {j : Nat} (hj : (j : Int) < s 0 5) (h : K (sp (s 1 j) (s 3 j)) M) : jCall 7 [jR 0 i 0, jI (j : Int)] M (jqi K) := by
  obtain ⟨e1, e2, e3, e4, e5⟩ := cR_j R hj
  have w1 := w.1
  have hb : 0 ≤ (j : Int) ∧ (j : Int) < ((9 : Nat) : Int) := ⟨by omega, by omega⟩
  refine vX0_spoils (q0_hasj R w hj (jif0 (by decide) ⟨hb, hb, ?_⟩))
  rw [e1, e3]
  exact q0_spoilsOf (qi_ h)
theorem q0_kept (R : cR M i s) (w : wf s) {j : Nat} (hj : (j : Int) < s 0 5) (h : K (kp s j) M) : jCall 8 [jR 0 i 0, jI (j : Int)] M (jqi K) := by
  obtain ⟨e1, e2, e3, e4, e5⟩ := cR_j R hj
  have w1 := w.1
  have hb : 0 ≤ (j : Int) ∧ (j : Int) < ((9 : Nat) : Int) := ⟨by omega, by omega⟩
  unfold kp at h
  refine vX0_kept (q0_hasj R w hj (jif0 (by decide) ⟨hb, ?_⟩))
  rw [e4]
  refine jite (fun c => ?_) (fun c => ?_)
  · rw [if_pos c] at h; exact qi_ h
  · rw [if_neg c] at h
    refine ⟨hb, hb, hb, ?_⟩
    rw [e1, e2, e3]
    exact q0_customsOf (w.2.2.2 j hj).2.1 (qi_ h)
theorem q0_keptBy (R : cR M i s) (w : wf s) {x : Int} (h : K (kb s x (nj s)) M) : jCall 15 [jR 0 i 0, jI x] M (jqi K) := by
  have e := (cR_f R).1
  have w1 := w.1
  have hn := nj_n w
  refine vX0_keptBy ?_
  refine lp_n (X := fun j => jAt 15 4 [some (jR 0 i 0), some (jI x), some (jI (kb s x j)), some (jI (j : Int))] [] M (jqi K)) (nj s) ?_ ?_
  · exact vX0_keptBy_4 (jif1 (by omega) (qi_ h))
  · intro j hj ih
    have hj' := nj_lt hj
    have hq : jr ((j : Int) + 1) := jr_i (by omega)
    refine vX0_keptBy_4 (jif0 (by omega) (q1_hasBit (by omega) (fun c => ?_) (fun c => ?_)))
    · refine jif0 (by decide) (q0_kept R w hj' ⟨hq, ?_⟩)
      rw [kb, if_pos c] at ih
      exact ih
    · refine jif1 rfl ⟨hq, ?_⟩
      rw [kb, if_neg (by rw [c]; decide)] at ih
      exact ih
theorem q0_knownBits (R : cR M i s) (w : wf s) (h : K (kw s) M) : jCall 13 [jR 0 i 0] M (jqi K) := vX0_knownBits (q0_keptBy R w (qi_ h))
theorem q0_knownCount (R : cR M i s) (w : wf s) (h : K (jpc 10 (kw s)) M) : jCall 14 [jR 0 i 0] M (jqi K) := vX0_knownCount (q0_knownBits R w ⟨cs_kw w, qi_ h⟩)
theorem q0_keptAlone (R : cR M i s) (w : wf s) {j : Nat} (hj : (j : Int) < s 0 5) (h : K (jand (kp s j) (jxor (kb s (jxor (jshl 1 (j : Int)) (-1)) (nj s)) (-1))) M) : jCall 16 [jR 0 i 0, jI (j : Int)] M (jqi K) :=
  vX0_keptAlone (q0_kept R w hj (q0_keptBy R w (qi_ h)))
end Shelves1

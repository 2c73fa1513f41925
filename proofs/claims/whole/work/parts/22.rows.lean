-- The reference's methods over a row
def bc (x : Int) : Nat → Int
  | 0 => 0
  | k + 1 => bc x k + jand (jshr x (k : Int)) 1
theorem bc_all : (List.range 1024).all (fun n => decide (bc (n : Int) 10 = jpc 10 (n : Int))) = true := by decide +kernel
theorem bc_10 {x : Int} (h : cs x) : bc x 10 = jpc 10 x := by
  obtain ⟨n, rfl⟩ := jnat h.1
  have h2 := h.2
  exact of_decide_eq_true (List.all_eq_true.mp bc_all n (List.mem_range.mpr (by omega)))
theorem bc_r (x : Int) : ∀ k, k ≤ 32 → 0 ≤ bc x k ∧ bc x k ≤ k
  | 0, _ => ⟨Int.le_refl _, Int.le_refl _⟩
  | k + 1, h => by
    have q := bc_r x k (by omega)
    rw [bc, hb_tb (by omega)]
    split <;> omega
theorem jc_r (n : Nat) (x : Int) : 0 ≤ jpc n x ∧ jpc n x ≤ n := jpc_r n x
theorem h54 {x : Int} (h : 0 ≤ x ∧ x < 54) : 0 ≤ x ∧ x < ((54 : Nat) : Int) := h
/-- CUSTOMS that j alone KEEPS -/
def al (s : jT) (j : Nat) : Int := jand (kp s j) (jxor (kb s (jxor (jshl 1 (j : Int)) (-1)) (nj s)) (-1))
theorem ja_0 (y : Int) : jand 0 y = 0 := tb_ext (jr_and _ _) jr_0 fun i hi => by rw [tb_and, tb_0 i hi, Bool.false_and]
theorem cs_al {s : jT} {j : Nat} (w : wj s j) : cs (al s j) := cs_and (cs_kp w) _ (jr_xor _ _)
section Rows1
variable {M : jM} {a : Nat} {s : jT} {K : Int → jM → Prop} {V : jM → Prop}
theorem q2_isIn {x l m : Int} (h1 : l ≤ x → x ≤ m → K 1 M) (h0 : ¬ (l ≤ x ∧ x ≤ m) → K 0 M) : jCall 105 [jI x, jI l, jI m] M (jqi K) :=
  vX2_isIn (jite (fun c => ⟨jz0, qi_ (h0 (by omega))⟩) (fun c => jite (fun c => ⟨jz0, qi_ (h0 (by omega))⟩) (fun c => ⟨jz1, qi_ (h1 (by omega) (by omega))⟩)))
theorem q2_isShelf {x : Int} (h1 : 0 ≤ x → x ≤ 5 → K 1 M) (h0 : ¬ (0 ≤ x ∧ x ≤ 5) → K 0 M) : jCall 135 [jI x] M (jqi K) := vX2_isShelf (q2_isIn (fun c c2 => ⟨jz1, qi_ (h1 c c2)⟩) (fun c => ⟨jz0, qi_ (h0 c)⟩))
theorem q2_isCustom {x : Int} (h1 : 0 ≤ x → x ≤ 9 → K 1 M) (h0 : ¬ (0 ≤ x ∧ x ≤ 9) → K 0 M) : jCall 136 [jI x] M (jqi K) := vX2_isCustom (q2_isIn (fun c c2 => ⟨jz1, qi_ (h1 c c2)⟩) (fun c => ⟨jz0, qi_ (h0 c)⟩))
theorem q2_most {x y : Int} (h : K (max x y) M) : jCall 106 [jI x, jI y] M (jqi K) :=
  vX2_most (jite (fun c => qi_ (by rw [show max x y = y by omega] at h; exact h)) (fun c => qi_ (by rw [show max x y = x by omega] at h; exact h)))
theorem q2_of {j : Nat} (hj : j ≤ 1000) (c : Nat) (hc : c < 5) (h : K ((4 + 5 * j + c : Nat) : Int) M) : jCall 110 [jI (j : Int), jI (c : Int)] M (jqi K) := by
  refine vX2_of ⟨jr_i (by omega), jr_i (by omega), jr_i (by omega), qi_ ?_⟩
  rw [show (4 : Int) + 5 * (j : Int) + (c : Int) = ((4 + 5 * j + c : Nat) : Int) by omega]
  exact h
theorem q2_wrongBy {x l m : Int} (hl : x < l → K (-4) M) (hm : l ≤ x → m < x → K (-6) M) (h0 : l ≤ x → x ≤ m → K 0 M) : jCall 139 [jI x, jI l, jI m] M (jqi K) :=
  vX2_wrongBy (jite (fun c => jite (fun c2 => qi_ (h0 c c2)) (fun c2 => qi_ (hm c (by omega)))) (fun c => qi_ (hl (by omega))))
theorem q2_has {x : Int} {k : Nat} (hk : k < 32) (h1 : tb x k = true → K 1 M) (h0 : tb x k = false → K 0 M) : jCall 112 [jI x, jI (k : Int)] M (jqi K) := by
  refine vX2_has (jite (fun c => ⟨jz0, qi_ (h0 ?_)⟩) (fun c => ⟨jz1, qi_ (h1 ?_)⟩))
  · rw [hb_tb hk] at c
    cases hb : tb x k
    · rfl
    · rw [hb, if_pos rfl] at c; exact absurd rfl c
  · rw [hb_tb hk] at c
    cases hb : tb x k
    · rw [hb, if_neg (by decide)] at c; exact absurd (by decide) c
    · rfl
theorem q2_bits {x : Int} (hx : cs x) (h : K (jpc 10 x) M) : jCall 113 [jI x] M (jqi K) := by
  rw [← bc_10 hx] at h
  refine vX2_bits ?_
  refine lp_n (X := fun j => jAt 113 4 [some (jI x), some (jI (bc x j)), some (jI (j : Int))] [] M (jqi K)) 10 ?_ ?_
  · exact vX2_bits_4 (jif1 (by omega) (qi_ h))
  · intro j hj ih
    have q := bc_r x j (by omega)
    have q2 := bc_r x (j + 1) (by omega)
    rw [bc] at ih q2
    exact vX2_bits_4 (jif0 (by omega) ⟨jr_i (by omega), jr_i (by omega), ih⟩)
theorem q2_no {k : Nat} (hk : 1 ≤ k ∧ k ≤ 6) (hr : 0 ≤ M 2 0 3 k ∧ M 2 0 3 k ≤ 5000) (h : K (-(k : Int)) (jupd M 2 0 3 k (M 2 0 3 k + 1))) : jCall 108 [jR 2 0 0, jI (-(k : Int))] M (jqi K) := by
  have e : - -(k : Int) = (k : Int) := Int.neg_neg _
  have hb : 0 ≤ (k : Int) ∧ (k : Int) < ((7 : Nat) : Int) := ⟨by omega, by omega⟩
  refine vX2_no ?_
  rw [e]
  exact ⟨jr_i (by omega), hb, jr_i (show -2147483648 ≤ M 2 0 3 k + 1 ∧ M 2 0 3 k + 1 < 2147483648 by omega), hb, qi_ h⟩
theorem q2_noWide {k : Nat} (hk : 1 ≤ k ∧ k ≤ 6) (hr : 0 ≤ M 2 0 3 k ∧ M 2 0 3 k ≤ 5000) (h : K (4000000000000000000 - -(k : Int)) (jupd M 2 0 3 k (M 2 0 3 k + 1))) : jCall 109 [jR 2 0 0, jI (-(k : Int))] M (jql K) :=
  vX2_noWide (q2_no hk hr ⟨⟨by omega, by omega⟩, ql_ h⟩)
theorem q2_isJar (R : rR M 0 s) (w : wf s) {x : Int} (h1 : 0 ≤ x → x < s 0 5 → K 1 M) (h0 : ¬ (0 ≤ x ∧ x < s 0 5) → K 0 M) : jCall 111 [jR 2 0 0, jI x] M (jqi K) := by
  have e := (rR_f R).1
  have w1 := w.1
  refine vX2_isJar ⟨h54 ⟨by decide, by decide⟩, ?_⟩
  rw [e]
  exact ⟨jr_i (by omega), q2_isIn (fun c c2 => ⟨jz1, qi_ (h1 c (by omega))⟩) (fun c => ⟨jz0, qi_ (h0 (by omega))⟩)⟩
theorem q2_hasFood (R : rR M a s) (w : wf s) {j : Nat} (hj : (j : Int) < s 0 5) (h1 : 0 < s 4 j → K 1 M) (h0 : s 4 j ≤ 0 → K 0 M) : jCall 117 [jR 3 a 0, jI (j : Int)] M (jqi K) := by
  obtain ⟨e1, e2, e3, e4, e5⟩ := rR_j R hj
  have w1 := w.1
  refine vX2_hasFood (q2_of (by omega) 3 (by decide) ⟨h54 (by omega), ?_⟩)
  rw [e4]
  exact jite (fun c => ⟨jz0, qi_ (h0 c)⟩) (fun c => ⟨jz1, qi_ (h1 (by omega))⟩)
theorem q2_keepsBy {x0 x1 x2 : Int} (hf : 0 ≤ x1 ∧ x1 ≤ 9) (h : K (cu x0 x1 x2) M) : jCall 115 [jI x0, jI x1, jI x2] M (jqi K) := by
  refine vX2_keepsBy ⟨jr_i (by omega), ⟨by omega, by decide⟩, ?_⟩
  unfold cu at h
  repeat' first | refine jite (fun c => ?_) (fun c => ?_)
  all_goals (refine qi_ ?_; simp_all)
theorem q2_spoilsBy {x0 x1 : Int} (h : K (sp x0 x1) M) : jCall 114 [jI x0, jI x1] M (jqi K) := by
  refine vX2_spoilsBy ?_
  unfold sp at h
  have j1 : jr (0 + 1) := ⟨by decide, by decide⟩
  have j2 : jr (1 + 1) := ⟨by decide, by decide⟩
  repeat' first | refine jite (fun c => ?_) (fun c => ?_) | refine And.intro (by assumption) ?_
  all_goals (refine qi_ ?_; simp_all)
theorem q2_keepsIn (R : rR M a s) (w : wf s) {j : Nat} (hj : (j : Int) < s 0 5) (h : K (kd s j) M) : jCall 116 [jR 3 a 0, jI (j : Int)] M (jqi K) := by
  obtain ⟨e1, e2, e3, e4, e5⟩ := rR_j R hj
  have w1 := w.1
  refine vX2_keepsIn (q2_of (by omega) 0 (by decide) ⟨h54 (by omega), q2_of (by omega) 1 (by decide) ⟨h54 (by omega), q2_of (by omega) 2 (by decide) ⟨h54 (by omega), ?_⟩⟩⟩)
  rw [e1, e2, e3]
  exact q2_keepsBy (w.2.2.2 j hj).2.1 (qi_ h)
theorem q2_knownIn (R : rR M a s) (w : wf s) (h : K (kw s) M) : jCall 118 [jR 3 a 0] M (jqi K) := by
  have e := (rR_f R).1
  have w1 := w.1
  have hn := nj_n w
  refine vX2_knownIn ?_
  refine lp_n (X := fun j => jAt 118 4 [some (jR 3 a 0), some (jI (kb s (-1) j)), some (jI (j : Int))] [] M (jqi K)) (nj s) ?_ ?_
  · refine vX2_knownIn_4 ⟨h54 ⟨by decide, by decide⟩, ?_⟩
    rw [e]
    exact jif1 (by omega) (qi_ h)
  · intro j hj ih
    have hj' := nj_lt hj
    have hq : jr ((j : Int) + 1) := jr_i (by omega)
    have c0 := cs_jr (cs_kb w (-1) j (by omega))
    rw [kb, if_pos (tb_m1 j (by omega)), kp] at ih
    refine vX2_knownIn_4 ⟨h54 ⟨by decide, by decide⟩, ?_⟩
    rw [e]
    refine jif0 (by omega) (q2_hasFood R w hj' (fun c => jif0 (by decide) (q2_keepsIn R w hj' ⟨hq, ?_⟩)) (fun c => jif1 rfl ⟨hq, ?_⟩))
    · rw [if_neg (by omega)] at ih; exact ih
    · rw [if_pos c] at ih; exact ih
theorem q2_knownBy (R : rR M 0 s) (w : wf s) {x : Int} (h : K (kb s x (nj s)) M) : jCall 159 [jR 2 0 0, jI x] M (jqi K) := by
  have e := (rR_f R).1
  have w1 := w.1
  have hn := nj_n w
  refine vX2_knownBy ?_
  refine lp_n (X := fun j => jAt 159 4 [some (jR 2 0 0), some (jI x), some (jI (kb s x j)), some (jI (j : Int))] [] M (jqi K)) (nj s) ?_ ?_
  · refine vX2_knownBy_4 ⟨h54 ⟨by decide, by decide⟩, ?_⟩
    rw [e]
    exact jif1 (by omega) (qi_ h)
  · intro j hj ih
    have hj' := nj_lt hj
    have hq : jr ((j : Int) + 1) := jr_i (by omega)
    have c0 := cs_jr (cs_kb w x j (by omega))
    rw [kb, kp] at ih
    refine vX2_knownBy_4 ⟨h54 ⟨by decide, by decide⟩, ?_⟩
    rw [e]
    refine jif0 (by omega) (q2_has (by omega) (fun c => jif0 (by decide) (q2_hasFood R w hj' (fun c2 => jif0 (by decide) (q2_keepsIn R w hj' ⟨hq, ?_⟩)) (fun c2 => jif1 rfl ⟨hq, ?_⟩))) (fun c => jif1 rfl ⟨hq, ?_⟩))
    · rw [if_pos c, if_neg (by omega)] at ih; exact ih
    · rw [if_pos c, if_pos c2] at ih; exact ih
    · rw [if_neg (by rw [c]; decide)] at ih; rw [jor_0 c0]; exact ih
theorem q2_leaner (R : rR M 0 s) (w : wf s) {x : Int} (h : K (bs (fun j => tb x j && !decide (s 4 j ≤ 0)) (nj s)) M) : jCall 161 [jR 2 0 0, jI x] M (jqi K) := by
  have e := (rR_f R).1
  have w1 := w.1
  have hn := nj_n w
  refine vX2_leaner ?_
  refine lp_n (X := fun j => jAt 161 4 [some (jR 2 0 0), some (jI x), some (jI (bs (fun j => tb x j && !decide (s 4 j ≤ 0)) j)), some (jI (j : Int))] [] M (jqi K)) (nj s) ?_ ?_
  · refine vX2_leaner_4 ⟨h54 ⟨by decide, by decide⟩, ?_⟩
    rw [e]
    exact jif1 (by omega) (qi_ h)
  · intro j hj ih
    have hj' := nj_lt hj
    have hq : jr ((j : Int) + 1) := jr_i (by omega)
    have c0 := bs_jr (fun j => tb x j && !decide (s 4 j ≤ 0)) j
    rw [bs] at ih
    refine vX2_leaner_4 ⟨h54 ⟨by decide, by decide⟩, ?_⟩
    rw [e]
    refine jif0 (by omega) (q2_has (by omega) (fun c => jif0 (by decide) (q2_hasFood R w hj' (fun c2 => jif0 (by decide) ⟨hq, ?_⟩) (fun c2 => jif1 rfl ⟨hq, ?_⟩))) (fun c => jif1 rfl ⟨hq, ?_⟩))
    · rw [if_pos (by rw [c, decide_eq_false (by omega)]; rfl)] at ih; exact ih
    · rw [if_neg (by rw [c, decide_eq_true c2]; decide)] at ih; rw [jor_0 c0]; exact ih
    · rw [if_neg (by rw [c, Bool.false_and]; decide)] at ih; rw [jor_0 c0]; exact ih
theorem q2_keptByOthers (R : rR M 0 s) (w : wf s) {k : Nat} (hk : k < 31) (h : K (kb s (jxor (jshl 1 (k : Int)) (-1)) (nj s)) M) : jCall 155 [jR 2 0 0, jI (k : Int)] M (jqi K) := by
  have e := (rR_f R).1
  have w1 := w.1
  have hn := nj_n w
  refine vX2_keptByOthers ?_
  refine lp_n (X := fun j => jAt 155 4 [some (jR 2 0 0), some (jI (k : Int)), some (jI (kb s (jxor (jshl 1 (k : Int)) (-1)) j)), some (jI (j : Int))] [] M (jqi K)) (nj s) ?_ ?_
  · refine vX2_keptByOthers_4 ⟨h54 ⟨by decide, by decide⟩, ?_⟩
    rw [e]
    exact jif1 (by omega) (qi_ h)
  · intro j hj ih
    have hj' := nj_lt hj
    have hq : jr ((j : Int) + 1) := jr_i (by omega)
    have c0 := cs_jr (cs_kb w (jxor (jshl 1 (k : Int)) (-1)) j (by omega))
    have ht : tb (jxor (jshl 1 (k : Int)) (-1)) j = !decide (j = k) := by rw [tb_not _ (by omega), tb_shl1 k hk j (by omega)]
    rw [kb, kp, ht] at ih
    refine vX2_keptByOthers_4 ⟨h54 ⟨by decide, by decide⟩, ?_⟩
    rw [e]
    refine jif0 (by omega) (jite (fun c => ⟨hq, ?_⟩) (fun c => q2_hasFood R w hj' (fun c2 => jif0 (by decide) (q2_keepsIn R w hj' ⟨hq, ?_⟩)) (fun c2 => jif1 rfl ⟨hq, ?_⟩)))
    · rw [if_neg (by rw [decide_eq_true (by omega)]; decide)] at ih; rw [jor_0 c0]; exact ih
    · rw [if_pos (by rw [decide_eq_false (by omega)]; rfl), if_neg (by omega)] at ih; exact ih
    · rw [if_pos (by rw [decide_eq_false (by omega)]; rfl), if_pos c2] at ih; exact ih
theorem q2_alone (R : rR M 0 s) (w : wf s) {j : Nat} (hj : (j : Int) < s 0 5) (h : K (al s j) M) : jCall 156 [jR 2 0 0, jI (j : Int)] M (jqi K) := by
  have w1 := w.1
  unfold al kp at h
  refine vX2_alone (q2_hasFood R w hj (fun c => jif0 (by decide) (q2_keepsIn R w hj (q2_keptByOthers R w (by omega) (qi_ ?_)))) (fun c => jif1 rfl (qi_ ?_)))
  · rw [if_neg (by omega)] at h; exact h
  · rw [if_pos c, ja_0] at h; exact h
theorem q2_allFood (R : rR M a s) (w : wf s) (h : K (fi s (-1) (nj s)) M) : jCall 123 [jR 3 a 0] M (jqi K) := by
  have e := (rR_f R).1
  have w1 := w.1
  have hn := nj_n w
  refine vX2_allFood ?_
  refine lp_n (X := fun j => jAt 123 4 [some (jR 3 a 0), some (jI (fi s (-1) j)), some (jI (j : Int))] [] M (jqi K)) (nj s) ?_ ?_
  · refine vX2_allFood_4 ⟨h54 ⟨by decide, by decide⟩, ?_⟩
    rw [e]
    exact jif1 (by omega) (qi_ h)
  · intro j hj ih
    have hj' := nj_lt hj
    have hq : jr ((j : Int) + 1) := jr_i (by omega)
    obtain ⟨e1, e2, e3, e4, e5⟩ := rR_j R hj'
    have b1 := fi_r (s := s) (-1) j (fun j' hj' => wf_4 w j' (by omega))
    have b2 := wf_4 w j hj
    rw [fi, if_pos (tb_m1 j (by omega))] at ih
    refine vX2_allFood_4 ⟨h54 ⟨by decide, by decide⟩, ?_⟩
    rw [e]
    refine jif0 (by omega) (q2_of (by omega) 3 (by decide) ⟨h54 (by omega), ?_⟩)
    rw [e4]
    exact ⟨jr_i (by omega), hq, ih⟩
/-- FOOD on a SHELF -/
def fo (s : jT) (x : Int) : Int := fi s (jxor (bs (fun j => !decide (s 3 j = x)) (nj s)) (-1)) (nj s)
theorem tb_fo {s : jT} (w : wf s) (x : Int) {j : Nat} (hj : j < nj s) : tb (jxor (bs (fun j => !decide (s 3 j = x)) (nj s)) (-1)) j = decide (s 3 j = x) := by
  have h9 := nj_9 w
  rw [tb_not _ (by omega), tb_bs _ _ (by omega) _ (by omega), decide_eq_true hj, Bool.true_and, Bool.not_not]
theorem q2_foodOn (R : rR M 0 s) (w : wf s) {x : Int} (h : K (fo s x) M) : jCall 163 [jR 2 0 0, jI x] M (jqi K) := by
  have e := (rR_f R).1
  have w1 := w.1
  have hn := nj_n w
  have ht := fun j hj => tb_fo w x (j := j) hj
  unfold fo at h
  generalize (jxor (bs (fun j => !decide (s 3 j = x)) (nj s)) (-1)) = y at h ht
  refine vX2_foodOn ?_
  refine lp_n (X := fun j => jAt 163 4 [some (jR 2 0 0), some (jI x), some (jI (fi s y j)), some (jI (j : Int))] [] M (jqi K)) (nj s) ?_ ?_
  · refine vX2_foodOn_4 ⟨h54 ⟨by decide, by decide⟩, ?_⟩
    rw [e]
    exact jif1 (by omega) (qi_ h)
  · intro j hj ih
    have hj' := nj_lt hj
    have hq : jr ((j : Int) + 1) := jr_i (by omega)
    obtain ⟨e1, e2, e3, e4, e5⟩ := rR_j R hj'
    have b1 := fi_r (s := s) y j (fun j' hj' => wf_4 w j' (by omega))
    have b2 := wf_4 w j hj
    rw [fi, ht j hj] at ih
    refine vX2_foodOn_4 ⟨h54 ⟨by decide, by decide⟩, ?_⟩
    rw [e]
    refine jif0 (by omega) (q2_of (by omega) 2 (by decide) ⟨h54 (by omega), ?_⟩)
    rw [e3]
    refine jite (fun c => ?_) (fun c => q2_of (by omega) 3 (by decide) ⟨h54 (by omega), ?_⟩)
    · rw [if_neg (by rw [decide_eq_false c]; decide)] at ih
      rw [Int.add_zero]
      exact ⟨jr_i (by omega), hq, ih⟩
    · rw [if_pos (by rw [decide_eq_true (Decidable.not_not.mp c)])] at ih
      rw [e4]
      exact ⟨jr_i (by omega), hq, ih⟩
theorem q2_leftWithout (R : rR M 0 s) (w : wf s) {x : Int} (h : K (jpc 10 (kb s (bs (fun j => !decide (s 3 j = x)) (nj s)) (nj s))) M) : jCall 166 [jR 2 0 0, jI x] M (jqi K) := by
  have e := (rR_f R).1
  have w1 := w.1
  have hn := nj_n w
  refine vX2_leftWithout ?_
  refine lp_n (X := fun j => jAt 166 4 [some (jR 2 0 0), some (jI x), some (jI (bs (fun j => !decide (s 3 j = x)) j)), some (jI (j : Int))] [] M (jqi K)) (nj s) ?_ ?_
  · refine vX2_leftWithout_4 ⟨h54 ⟨by decide, by decide⟩, ?_⟩
    rw [e]
    exact jif1 (by omega) (q2_knownBy R w (q2_bits (cs_kb w _ _ (Nat.le_refl _)) (qi_ h)))
  · intro j hj ih
    have hj' := nj_lt hj
    have hq : jr ((j : Int) + 1) := jr_i (by omega)
    obtain ⟨e1, e2, e3, e4, e5⟩ := rR_j R hj'
    have c0 := bs_jr (fun j => !decide (s 3 j = x)) j
    rw [bs] at ih
    refine vX2_leftWithout_4 ⟨h54 ⟨by decide, by decide⟩, ?_⟩
    rw [e]
    refine jif0 (by omega) (q2_of (by omega) 2 (by decide) ⟨h54 (by omega), ?_⟩)
    rw [e3]
    refine jite (fun c => ⟨hq, ?_⟩) (fun c => ⟨hq, ?_⟩)
    · rw [if_neg (by rw [decide_eq_true c]; decide)] at ih; rw [jor_0 c0]; exact ih
    · rw [if_pos (by rw [decide_eq_false c]; rfl)] at ih; exact ih
end Rows1

-- What the law asks of a larder, in thought alone
theorem ea_4 {s : jT} (w : wf s) {j : Nat} : ea s 4 j ≤ s 4 j := by
  unfold ea
  split
  · split
    · rw [su_nc s _ (by decide)]; exact Int.le_refl _
    · exact Int.le_refl _
  · rename_i h
    rcases ne_spec s (nj s) with ⟨q1, q2⟩ | ⟨f, q1, q2, q3, q4⟩
    · omega
    · rw [q2]
      have e : (f : Int).toNat = f := rfl
      rw [e]
      have q := wf_4 w f q1
      by_cases z : j = f
      · subst z; rw [su_at]; omega
      · rw [su_nj s _ z]; exact Int.le_refl _
theorem ea_5 {s : jT} {j : Nat} (h5 : ¬ s 5 j = 0) : ea s 4 j = s 4 j := by
  unfold ea
  split
  · split
    · exact su_nc s _ (by decide)
    · rfl
  · rename_i h
    rcases ne_spec s (nj s) with ⟨q1, q2⟩ | ⟨f, q1, q2, q3, q4⟩
    · omega
    · rw [q2]
      have e : (f : Int).toNat = f := rfl
      rw [e]
      exact su_nj s _ (fun z => h5 (by rw [z]; exact q3.2))
theorem it_4 (n : Nat) : ∀ {s : jT}, wf s → ∀ j : Nat, it ea n s 4 j ≤ s 4 j := by
  induction n with
  | zero => intro s _ j; exact Int.le_refl _
  | succ n ih => intro s w j; exact Int.le_trans (ih (wf_ea w) j) (ea_4 w)
theorem it_5 (n : Nat) : ∀ {s : jT} {j : Nat}, ¬ s 5 j = 0 → it ea n s 4 j = s 4 j := by
  induction n with
  | zero => intro s j _; rfl
  | succ n ih => intro s j h; exact (ih (by rw [ea_k s (by decide) (by omega)]; exact h)).trans (ea_5 h)
theorem sy_4 {s : jT} {j : Nat} (hj : j < nj s) : sy s 4 j = max 0 (s 4 j - sp (s 1 j) (s 3 j)) := pu_at s 4 _ hj
theorem ye_4 {s : jT} (w : wf s) {j : Nat} (hj : j < nj s) : ye s 4 j ≤ s 4 j := by
  have wa : wf (su s 0 8 (s 0 8 + 1)) := wf_v w (Or.inr (Or.inr rfl))
  have q := it_4 (s 0 6).toNat (wf_sy wa) j
  have e : sy (su s 0 8 (s 0 8 + 1)) 4 j = max 0 (su s 0 8 (s 0 8 + 1) 4 j - sp (su s 0 8 (s 0 8 + 1) 1 j) (su s 0 8 (s 0 8 + 1) 3 j)) := sy_4 (by rw [nj_su (by omega)]; exact hj)
  rw [su_nc s _ (by decide), su_nc s _ (by decide), su_nc s _ (by decide)] at e
  have r := sp_r (s 1 j) (s 3 j)
  have r4 := wf_4 w j hj
  rw [e] at q
  have q' : ye s 4 j ≤ max 0 (s 4 j - sp (s 1 j) (s 3 j)) := q
  omega
theorem ye_5 {s : jT} {j : Nat} (hj : j < nj s) (h5 : ¬ s 5 j = 0) : ye s 4 j = max 0 (s 4 j - sp (s 1 j) (s 3 j)) := by
  have e : sy (su s 0 8 (s 0 8 + 1)) 4 j = max 0 (su s 0 8 (s 0 8 + 1) 4 j - sp (su s 0 8 (s 0 8 + 1) 1 j) (su s 0 8 (s 0 8 + 1) 3 j)) := sy_4 (by rw [nj_su (by omega)]; exact hj)
  rw [su_nc s _ (by decide), su_nc s _ (by decide), su_nc s _ (by decide)] at e
  rw [← e]
  exact it_5 _ (by rw [sy_k _ (by decide), su_nc s _ (by decide)]; exact h5)
theorem yn_4 (n : Nat) {s : jT} (w : wf s) {j : Nat} (hj : j < nj s) : it ye n s 4 j ≤ s 4 j := by
  induction n with
  | zero => exact Int.le_refl _
  | succ n ih =>
    rw [it_s]
    exact Int.le_trans (ye_4 (wf_yn n w) (by rw [nj_yn]; exact hj)) ih
theorem yn_5 (n : Nat) {s : jT} (w : wf s) {j : Nat} (hj : j < nj s) (h5 : ¬ s 5 j = 0) : it ye n s 4 j = max 0 (s 4 j - (n : Int) * sp (s 1 j) (s 3 j)) := by
  induction n with
  | zero =>
    have r4 := wf_4 w j hj
    show s 4 j = max 0 (s 4 j - 0 * sp (s 1 j) (s 3 j))
    rw [Int.zero_mul]; omega
  | succ n ih =>
    have r := sp_r (s 1 j) (s 3 j)
    rw [it_s, ye_5 (by rw [nj_yn]; exact hj) (by rw [yn_k n s (by decide) (by omega) (by omega)]; exact h5), ih, yn_k n s (by decide) (by omega) (by omega), yn_k n s (by decide) (by omega) (by omega)]
    have e : ((n + 1 : Nat) : Int) * sp (s 1 j) (s 3 j) = (n : Int) * sp (s 1 j) (s 3 j) + sp (s 1 j) (s 3 j) := by
      show ((n : Int) + 1) * _ = _
      rw [Int.add_mul, Int.one_mul]
    rw [e]
    generalize (n : Int) * sp (s 1 j) (s 3 j) = q
    omega
theorem kp_sub {s s' : jT} {j : Nat} (h1 : s' 1 j = s 1 j) (h2 : s' 2 j = s 2 j) (h3 : s' 3 j = s 3 j) (h4 : s' 4 j ≤ s 4 j) {c : Nat} (hc : c < 32) (h : tb (kp s' j) c = true) : tb (kp s j) c = true := by
  have f := kp_f hc h
  rw [kp_1 f] at h
  rw [kp_1 (by omega)]
  unfold kd at h ⊢
  rw [← h1, ← h2, ← h3]
  exact h
theorem kb_in {s : jT} (w : wf s) {x : Int} {c : Nat} (hc : c < 32) (h : tb (kb s x (nj s)) c = true) : tb (kw s) c = true := by
  have h9 := nj_9 w
  obtain ⟨j, hj, _, hk⟩ := (tb_kb x c hc (nj s) (by omega)).mp h
  exact (tb_kb (-1) c hc (nj s) (by omega)).mpr ⟨j, hj, tb_m1 j (by omega), hk⟩
theorem kw_yn {s : jT} (w : wf s) (n : Nat) : jand (kw (it ye n s)) (jxor (kw s) (-1)) = 0 := by
  have wn := wf_yn n w
  have h9 := nj_9 w
  refine (sub_tb (cs_jr (cs_kw wn))).mpr (fun c hc h => ?_)
  obtain ⟨j, hj, _, hk⟩ := (tb_kb (s := it ye n s) (-1) c hc (nj (it ye n s)) (by rw [nj_yn]; omega)).mp h
  rw [nj_yn] at hj
  exact (tb_kb (-1) c hc (nj s) (by omega)).mpr ⟨j, hj, tb_m1 j (by omega), kp_sub (yn_k n s (by decide) (by omega) (by omega)) (yn_k n s (by decide) (by omega) (by omega)) (yn_k n s (by decide) (by omega) (by omega)) (yn_4 n w hj) hc hk⟩
-- food
theorem fi_le {s s' : jT} {x y : Int} : ∀ n : Nat, (∀ j, j < n → s' 4 j ≤ s 4 j) → (∀ j, j < n → 0 ≤ s 4 j) → (∀ j, j < n → tb x j = true → tb y j = true) → fi s' x n ≤ fi s y n
  | 0, _, _, _ => Int.le_refl _
  | n + 1, h, h0, hx => by
    have ih := fi_le (x := x) (y := y) n (fun j hj => h j (by omega)) (fun j hj => h0 j (by omega)) (fun j hj => hx j (by omega))
    have a := h n (by omega)
    have b := h0 n (by omega)
    rw [fi, fi]
    by_cases c : tb x n = true
    · rw [if_pos c, if_pos (hx n (by omega) c)]; omega
    · rw [if_neg c]
      split <;> omega
theorem fi_eq {s s' : jT} {x : Int} : ∀ n : Nat, (∀ j, j < n → s' 4 j = s 4 j) → fi s' x n = fi s x n
  | 0, _ => rfl
  | n + 1, h => by rw [fi, fi, h n (by omega), fi_eq n (fun j hj => h j (by omega))]
theorem fi_su {s : jT} {j : Nat} {v : Int} : ∀ n : Nat, n ≤ 32 → j < n → fi (su s 4 j v) (-1) n = fi s (-1) n - s 4 j + v
  | 0, _, h => by omega
  | n + 1, h32, h => by
    rw [fi, fi, if_pos (tb_m1 n (by omega)), if_pos (tb_m1 n (by omega))]
    by_cases e : j = n
    · subst e
      rw [su_at, fi_eq j (s' := su s 4 j v) (s := s) (fun k hk => su_nj s v (by omega))]
      omega
    · rw [fi_su n (by omega) (by omega), su_nj s v (show n ≠ j by omega)]
      omega
theorem fi_bc {s : jT} {x : Int} : ∀ n : Nat, n ≤ 32 → (∀ j, j < n → 0 ≤ s 4 j) → (∀ j, j < n → tb x j = true → 0 < s 4 j) → bc x n ≤ fi s x n
  | 0, _, _, _ => Int.le_refl _
  | n + 1, h32, h0, h => by
    have ih := fi_bc (x := x) n (by omega) (fun j hj => h0 j (by omega)) (fun j hj => h j (by omega))
    rw [fi, bc, hb_tb (by omega)]
    by_cases c : tb x n = true
    · have := h n (by omega) c
      rw [if_pos c, if_pos c]; omega
    · rw [if_neg c, if_neg c]; omega
theorem fea_r {s : jT} (w : wf s) : 0 ≤ fea s ∧ fea s ≤ fi s (-1) (nj s) ∧ fea s ≤ 180 := by
  have h9 := nj_9 w
  have h4 := wf_4 w
  have b1 := fi_g w (oq s)
  have b2 := jc10 (fw s (oq s) (kb s (sh s) (nj s)) (2 ^ nj s))
  have l1 : fi s (oq s) (nj s) ≤ fi s (-1) (nj s) := fi_le (nj s) (fun _ _ => Int.le_refl _) (fun j hj => (h4 j hj).1) (fun j hj _ => tb_m1 j (by omega))
  have l2 : bc (oq s) (nj s) ≤ fi s (oq s) (nj s) := fi_bc (nj s) (by omega) (fun j hj => (h4 j hj).1) (fun j hj c => by
    rw [tb_oq w (by omega)] at c
    simp only [Bool.and_eq_true, Bool.not_eq_true', decide_eq_true_eq, decide_eq_false_iff_not] at c
    omega)
  have l3 : jpc 10 (fw s (oq s) (kb s (sh s) (nj s)) (2 ^ nj s)) ≤ jpc 10 (oq s) := by
    rw [fw_gm]
    exact (gm_spec _ _ _).1.1
  have e1 : bc (oq s) 10 = jpc 10 (oq s) := bc_10 (cs_oq w)
  have e2 : bc (oq s) (nj s + (10 - nj s)) = bc (oq s) (nj s) := bc_hi (fun i h1 h2 => by
    rw [tb_oq w h2, decide_eq_false (by omega), Bool.false_and]) _ (by omega)
  rw [show nj s + (10 - nj s) = 10 by omega] at e2
  unfold fea
  omega
-- the fewest
theorem few_kw {s : jT} (w : wf s) : kb s (fw s (fd s) 0 (2 ^ nj s)) (nj s) = kw s := by
  have h9 := nj_9 w
  rw [fw_gm]
  rcases (gm_spec (fun k => decide (jand (k : Int) (jxor (fd s) (-1)) = 0) && decide (jor 0 (kb s (k : Int) (nj s)) = kw s)) (fd s) (2 ^ nj s)).2 with h | ⟨m, _, h1, h2, _⟩
  · rw [h]
    refine kb_all w (fun j hj hf => ?_)
    rw [tb_fd w (by omega), decide_eq_true hj, decide_eq_false (by omega)]
    rfl
  · rw [h1]
    have h3 := of_decide_eq_true (jand_t h2).2
    rw [j0_or (cs_jr (cs_kb w _ _ (Nat.le_refl _)))] at h3
    exact h3
theorem only_few {s : jT} (w : wf s) : jand (bs (fun j => !decide (al s j = 0)) (nj s)) (jxor (fw s (fd s) 0 (2 ^ nj s)) (-1)) = 0 := by
  have h9 := nj_9 w
  refine (sub_tb (bs_jr _ _)).mpr (fun j hj h => ?_)
  rw [tb_bs _ _ (by omega) j hj] at h
  obtain ⟨a, b⟩ := jand_t h
  have hjn : j < nj s := of_decide_eq_true a
  have hal : ¬ al s j = 0 := by
    intro z
    rw [decide_eq_true z] at b
    cases b
  obtain ⟨c, c1, c2, _⟩ := cs_bit (cs_al (w.2.2.2 j (nj_lt hjn))) hal
  unfold al at c2
  rw [tb_and, tb_not _ (by omega)] at c2
  obtain ⟨c3, c4⟩ := jand_t c2
  have hk : tb (kw s) c = true := (tb_kb (-1) c (by omega) (nj s) (by omega)).mpr ⟨j, hjn, tb_m1 j hj, c3⟩
  rw [← few_kw w] at hk
  obtain ⟨j', hj', hF, hk'⟩ := (tb_kb _ c (by omega) (nj s) (by omega)).mp hk
  by_cases z : j' = j
  · rw [← z]; exact hF
  · have hno : tb (kb s (jxor (jshl 1 (j : Int)) (-1)) (nj s)) c = true := (tb_kb _ c (by omega) (nj s) (by omega)).mpr ⟨j', hj', by rw [tb_not _ (by omega), tb_shl1 j (by omega) j' (by omega), decide_eq_false z]; rfl, hk'⟩
    rw [hno] at c4
    cases c4
theorem lk_r (s : jT) : ∀ k : Nat, 0 ≤ lk s k ∧ lk s k ≤ k
  | 0 => ⟨Int.le_refl _, Int.le_refl _⟩
  | k + 1 => by
    have ih := lk_r s k
    rw [lk]
    split <;> omega
theorem lw_le {s : jT} (w : wf s) (x : Int) : lw s x ≤ jpc 10 (kw s) :=
  (pc_sub (cs_kb w _ _ (Nat.le_refl _)) (cs_kw w) (fun c hc h => kb_in w (by omega) h)).1
-- keepers, age
theorem ke_1 {s : jT} (w : wf s) {c : Nat} (hc : c ≤ 9) (h : tb (kw s) c = true) : ¬ bs (fun j => tb (kp s j) c) (nj s) = 0 := by
  intro z
  have h9 := nj_9 w
  obtain ⟨j, hj, _, hk⟩ := (tb_kb (-1) c (by omega) (nj s) (by omega)).mp h
  have q := tb_bs (fun j => tb (kp s j) c) (nj s) (by omega) j (by omega)
  rw [z, tb_0 j (by omega), decide_eq_true hj] at q
  have q2 : false = (true && tb (kp s j) c) := q
  rw [hk] at q2
  cases q2
theorem ke_0 {s : jT} (w : wf s) {c : Nat} (hc : c ≤ 9) (h : tb (kw s) c = false) : bs (fun j => tb (kp s j) c) (nj s) = 0 := by
  have h9 := nj_9 w
  refine tb_ext (bs_jr _ _) jr_0 (fun i hi => ?_)
  rw [tb_0 i hi, tb_bs _ _ (by omega) i hi]
  by_cases hin : i < nj s
  · rw [decide_eq_true hin, Bool.true_and]
    cases q : tb (kp s i) c
    · rfl
    · have := (tb_kb (-1) c (by omega) (nj s) (by omega)).mpr ⟨i, hin, tb_m1 i hi, q⟩
      have h2 : tb (kw s) c = true := this
      rw [h] at h2; cases h2
  · rw [decide_eq_false hin, Bool.false_and]
theorem ag_i {s : jT} (w : wf s) (c : Nat) : ∀ n : Nat, n ≤ nj s → (ag s c n < 6 ↔ ∃ j, j < n ∧ tb (kp s j) c = true)
  | 0, _ => ⟨fun h => absurd h (by show ¬ (6 : Int) < 6; decide), fun ⟨j, h, _⟩ => absurd h (Nat.not_lt_zero j)⟩
  | n + 1, h => by
    have ih := ag_i w c n (by omega)
    have q := (w.2.2.2 n (nj_lt (by omega))).2.2.1
    rw [ag]
    by_cases z : tb (kp s n) c = true
    · rw [if_pos z]
      exact ⟨fun _ => ⟨n, by omega, z⟩, fun _ => by omega⟩
    · rw [if_neg z, ih]
      refine ⟨fun ⟨j, h1, h2⟩ => ⟨j, by omega, h2⟩, fun ⟨j, h1, h2⟩ => ⟨j, ?_, h2⟩⟩
      by_cases e : j = n
      · subst e; exact absurd h2 z
      · omega
theorem aa_1 {s : jT} (w : wf s) {c : Nat} (hc : c ≤ 9) (h : tb (kw s) c = true) : 0 ≤ aa s c (nj s) := by
  have h9 := nj_9 w
  have r := ag_r w c (nj s) (Nat.le_refl _)
  obtain ⟨j, hj, _, hk⟩ := (tb_kb (-1) c (by omega) (nj s) (by omega)).mp h
  have q := (ag_i w c (nj s) (Nat.le_refl _)).mpr ⟨j, hj, hk⟩
  unfold aa
  rw [if_neg (by omega)]; omega
theorem aa_0 {s : jT} (w : wf s) {c : Nat} (hc : c ≤ 9) (h : tb (kw s) c = false) : aa s c (nj s) = -9 := by
  have h9 := nj_9 w
  unfold aa
  refine if_pos ?_
  rcases Int.lt_or_le (ag s c (nj s)) 6 with q | q
  · obtain ⟨j, hj, hk⟩ := (ag_i w c (nj s) (Nat.le_refl _)).mp q
    have h2 : tb (kw s) c = true := (tb_kb (-1) c (by omega) (nj s) (by omega)).mpr ⟨j, hj, tb_m1 j (by omega), hk⟩
    rw [h] at h2; cases h2
  · exact q
/-- the jars' own customs, one by one -/
def ow (s : jT) (j : Nat) : Int := if 0 < s 4 j then kp s j else 0
theorem ow_kp (s : jT) (j : Nat) : ow s j = kp s j := by
  unfold ow
  split
  · rfl
  · exact (kp_0 (by omega)).symm
theorem cs_b {x : Int} (h : cs x) {c : Nat} (hc : c < 32) : jand (jshr x (c : Int)) 1 = if tb x c = true then 1 else 0 := hb_tb hc x

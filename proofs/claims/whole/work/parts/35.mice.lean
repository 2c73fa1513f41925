-- Calls, side by side: mice, mean
theorem lc_0 (b : Nat) : (if ((0 : Nat) : Int) < (b : Int) then (1 : Int) else if (b : Int) = ((0 : Nat) : Int) then 0 else -1) = 0 ↔ b = 0 := by
  split
  · constructor
    · intro h; omega
    · intro h; omega
  · split
    · constructor
      · intro h; omega
      · intro h; rfl
    · constructor
      · intro h; omega
      · intro h; omega
theorem gcd_st (a b : Nat) : Nat.gcd b (a % b) = Nat.gcd a b := by rw [Nat.gcd_comm b (a % b), ← Nat.gcd_rec b a, Nat.gcd_comm]
/-- a fraction in least terms -/
def pf (a b : Nat) (q : Int) : Int := if q = 0 then ((a / Nat.gcd a b : Nat) : Int) else ((b / Nat.gcd a b : Nat) : Int)
def mi (s : jT) (x : Int) : Nat → jT
  | 0 => s
  | k + 1 => ye (if tb x k = true then lm (mi s x k) else mi s x k)
def bcn (x : Int) : Nat → Nat
  | 0 => 0
  | k + 1 => bcn x k + (if tb x k = true then 1 else 0)
def wg (T : Nat) (x : Int) : Nat → Nat
  | 0 => 1
  | k + 1 => wg T x k * (if tb x k = true then 1 else T)
def ml (s : jT) (c n T : Nat) : Nat → Nat
  | 0 => 0
  | k + 1 => ml s c n T k + (if tb (kw (mi s (k : Int) n)) c = true then wg T (k : Int) n else 0)
theorem bcn_le (x : Int) : ∀ k, bcn x k ≤ k
  | 0 => Nat.le_refl 0
  | k + 1 => by
    have := bcn_le x k
    rw [bcn]
    split <;> omega
theorem bcn_bc (x : Int) : ∀ k, k ≤ 32 → (bcn x k : Int) = bc x k
  | 0, _ => rfl
  | k + 1, h => by
    have ih := bcn_bc x k (by omega)
    rw [bcn, bc, hb_tb (by omega), ← ih]
    split <;> omega
theorem wg_pow (T : Nat) (x : Int) : ∀ k, wg T x k = T ^ (k - bcn x k)
  | 0 => rfl
  | k + 1 => by
    have h := bcn_le x k
    rw [wg, bcn, wg_pow T x k]
    split
    · rw [show k + 1 - (bcn x k + 1) = k - bcn x k by omega, Nat.mul_one]
    · rw [show k + 1 - (bcn x k + 0) = (k - bcn x k) + 1 by omega, Nat.pow_succ]
theorem pow_le_m {b e : Nat} (hb : b ≤ 20) (he : e ≤ 7) : b ^ e ≤ 1280000000 :=
  Nat.le_trans (Nat.pow_le_pow_left hb e) (Nat.le_trans (Nat.pow_le_pow_right (by decide) he) (Nat.le_of_ble_eq_true rfl))
theorem wg_le {T : Nat} (hT : T ≤ 20) (x : Int) {k : Nat} (h : k ≤ 7) : wg T x k ≤ 1280000000 := by
  rw [wg_pow]
  exact pow_le_m hT (by omega)
theorem ml_le {s : jT} {c n T : Nat} (hT : T ≤ 20) (hn : n ≤ 7) : ∀ k, ml s c n T k ≤ 1280000000 * k
  | 0 => Nat.le_refl 0
  | k + 1 => by
    have ih := ml_le (s := s) (c := c) hT hn k
    have h := wg_le hT (k : Int) hn
    rw [ml]
    split <;> omega
theorem wf_lm {s : jT} (w : wf s) : wf (lm s) := by
  refine wf_pu w _ (fun j hj => Or.inr (Or.inr (Or.inr (Or.inl ⟨rfl, ?_⟩))))
  have := wf_4 w j hj
  split <;> omega
theorem lm_k (s : jT) {c j : Nat} (h : c ≠ 4) : lm s c j = s c j := pu_nc s _ h
theorem wf_mi {s : jT} (w : wf s) (x : Int) : ∀ k, wf (mi s x k)
  | 0 => w
  | k + 1 => by
    have ih := wf_mi w x k
    rw [mi]
    split
    · exact wf_ye (wf_lm ih)
    · exact wf_ye ih
theorem mi_8 (s : jT) (x : Int) : ∀ k, mi s x k 0 8 = s 0 8 + k
  | 0 => by show s 0 8 = _; omega
  | k + 1 => by
    have ih := mi_8 s x k
    rw [mi, ye_8]
    split
    · rw [lm_k _ (by decide)]; omega
    · omega
section Mice
variable {M : jM} {s : jT} {t : Int} {K : Int → jM → Prop} {V : jM → Prop}
theorem q2_gcd : ∀ (b a : Nat), (∀ v, v = Nat.gcd a b → K (v : Int) M) → jAt 172 6 [none, none, none, none, some (jL (a : Int)), none, some (jL (b : Int)), none, none, none] [] M (jql K) := by
  intro b
  induction b using Nat.strongRecOn with
  | ind b ih =>
    intro a h
    by_cases hb : b = 0
    · subst hb
      exact vX2_gcd_6 (jif1 ((lc_0 0).mpr rfl) (ql_ (h a (by rw [Nat.gcd_zero_right]))))
    · have hp : 0 < b := by omega
      exact vX2_gcd_6 (jif0 (fun z => hb ((lc_0 b).mp z)) ⟨⟨by omega, by omega⟩, ih (a % b) (Nat.mod_lt a hp) b (fun v hv => h v (by rw [hv, gcd_st]))⟩)
theorem q1_gcd : ∀ (d a b i : Nat), b < 2 ^ d → i + 2 * d ≤ 990 → (∀ v, v = Nat.gcd a b → K (v : Int) M) → jAt 84 9 [none, none, none, none, some (jL (a : Int)), none, some (jL (b : Int)), none, some (jI (i : Int)), none, none] [] M (jql K)
  | 0, a, b, i, hb, hi, h => by
    obtain rfl : b = 0 := by omega
    exact vX1_greatestDivisor_9 (jif0 (by omega) (jif1 ((lc_0 0).mpr rfl) (ql_ (h a (by rw [Nat.gcd_zero_right])))))
  | d + 1, a, b, i, hb, hi, h => by
    by_cases z : b = 0
    · subst z
      exact vX1_greatestDivisor_9 (jif0 (by omega) (jif1 ((lc_0 0).mpr rfl) (ql_ (h a (by rw [Nat.gcd_zero_right])))))
    · have hp : 0 < b := by omega
      refine vX1_greatestDivisor_9 (jif0 (by omega) (jif0 (fun q => z ((lc_0 b).mp q)) ⟨⟨by omega, by omega⟩, jr_i (by omega), ?_⟩))
      have hr := Nat.mod_lt a hp
      have hg := gcd_st a b
      show jAt 84 9 [none, none, none, none, some (jL (b : Int)), none, some (jL ((a % b : Nat) : Int)), none, some (jI ((i + 1 : Nat) : Int)), none, none] [] M (jql K)
      generalize a % b = r at hr hg
      by_cases y : r = 0
      · subst y
        exact vX1_greatestDivisor_9 (jif0 (by omega) (jif1 ((lc_0 0).mpr rfl) (ql_ (h b (by rw [← hg, Nat.gcd_zero_right])))))
      · have hp2 : 0 < r := by omega
        refine vX1_greatestDivisor_9 (jif0 (by omega) (jif0 (fun q => y ((lc_0 r).mp q)) ⟨⟨by omega, by omega⟩, jr_i (by omega), ?_⟩))
        have hr2 := Nat.mod_lt b hp2
        have hm := Nat.div_add_mod b r
        have hd : 1 ≤ b / r := (Nat.one_le_div_iff hp2).mpr (by omega)
        have hmul : r * 1 ≤ r * (b / r) := Nat.mul_le_mul_left r hd
        have hlt : b % r < 2 ^ d := by
          have : 2 ^ (d + 1) = 2 ^ d * 2 := Nat.pow_succ _ _
          omega
        exact q1_gcd d r (b % r) (i + 2) hlt (by omega) (fun v hv => h v (by rw [hv, gcd_st, hg]))
theorem q1_partOf {a b : Nat} (hb : 0 < b) (hb2 : b < 2 ^ 40) {q : Int} (hq : q = 0 ∨ q = 1) (h : K (pf a b q) M) : jCall 83 [jL (a : Int), jL (b : Int), jI q] M (jql K) := by
  refine vX1_partOf (vX1_greatestDivisor (q1_gcd 40 a b 0 hb2 (by decide) (fun v hv => ?_)))
  have hv0 : 0 < v := by rw [hv]; exact Nat.gcd_pos_of_pos_right a hb
  unfold pf at h
  rw [← hv] at h
  refine jif1 (fun z => by have := (lc_0 v).mp z; omega) (jite (fun c => ⟨⟨by omega, by omega⟩, ql_ ?_⟩) (fun c => ⟨⟨by omega, by omega⟩, ql_ ?_⟩))
  · rw [if_neg c] at h; exact h
  · rw [if_pos (Decidable.not_not.mp c)] at h; exact h
theorem q2_partOf {a b : Nat} (hb : 0 < b) {q : Int} (hq : q = 0 ∨ q = 1) (h : K (pf a b q) M) : jCall 173 [jL (a : Int), jL (b : Int), jI q] M (jql K) := by
  unfold pf at h
  by_cases ha : a = 0
  · subst ha
    refine vX2_partOf (jif0 (fun z => z ((lc_0 0).mpr rfl)) (ql_ ?_))
    rw [Nat.gcd_zero_left, Nat.zero_div, Nat.div_self hb] at h
    rcases hq with rfl | rfl
    · exact h
    · exact h
  · refine vX2_partOf (jif1 (fun z => ha ((lc_0 a).mp z)) (jite (fun c => vX2_gcd (q2_gcd b a (fun v hv => ⟨⟨by omega, ?_⟩, ql_ ?_⟩))) (fun c => vX2_gcd (q2_gcd b a (fun v hv => ⟨⟨by omega, ?_⟩, ql_ ?_⟩)))))
    · have hv0 : 0 < v := by rw [hv]; exact Nat.gcd_pos_of_pos_right a hb
      omega
    · rw [if_neg c, ← hv] at h; exact h
    · have hv0 : 0 < v := by rw [hv]; exact Nat.gcd_pos_of_pos_right a hb
      omega
    · rw [if_pos (Decidable.not_not.mp c), ← hv] at h; exact h
theorem p_mean (H : sim t M s) (ht : t < 1000) (x1 : Int) : pL t 80 176 [jI x1] M := by
  obtain ⟨R, R', w, y⟩ := H.1
  have w1 := w.1
  have hn := nj_n w
  have h9 := nj_9 w
  have hz : 0 ≤ (0 : Int) ∧ (0 : Int) < ((54 : Nat) : Int) := ⟨by decide, by decide⟩
  by_cases hc : x1 = 0 ∨ x1 = 1
  · obtain ⟨a, ha⟩ := jnat (fi_g w (-1)).1
    have hmax : max 1 (s 0 5) = ((max 1 (nj s) : Nat) : Int) := by omega
    have h2 : (2 : Nat) ^ 40 = 1099511627776 := rfl
    have L : jCall 176 (jR 2 0 0 :: [jI x1]) M (jql (en t (pf a (max 1 (nj s)) x1))) := by
      refine vX2_mean (q2_isIn (fun _ _ => jif0 (by decide) (q2_allFood R' w ⟨hz, ?_⟩)) (fun z => absurd ⟨by omega, by omega⟩ z))
      rw [(rR_f R').1, ← hn, ha]
      by_cases h0 : nj s = 0
      · have a0 : a = 0 := by
          rw [h0] at ha
          have : (0 : Int) = (a : Int) := ha
          omega
        rw [a0, h0]
        have e : pf 0 (max 1 0) x1 = x1 := by
          rcases hc with rfl | rfl <;> rfl
        rw [e]
        exact vX2_partOf (jif0 (fun z => z ((lc_0 0).mpr rfl)) (ql_ (ql_ (fin_t H ht jth_rf))))
      · rw [show max 1 (nj s) = nj s by omega]
        exact q2_partOf (by omega) hc (ql_ (fin_t H ht jth_rf))
    refine vX1_mean (q1_isNeither (fun z => absurd hc z) (fun _ => jif1 rfl (q0_allFood R w ?_)))
    rw [(cR_f R).1, hmax, ha]
    exact q1_partOf (by omega) (by omega) hc (ql_ L)
  · have L : jCall 176 (jR 2 0 0 :: [jI x1]) (rfC M 2) (jql (en t (4000000000000000000 - -((2 : Nat) : Int)))) := vX2_mean (q2_isIn (fun _ _ => by omega) (fun _ => jif1 rfl (fin_rL (k := 2) H ht ⟨by decide, by decide⟩)))
    exact vX1_mean (q1_isNeither (fun _ => jif0 (by decide) (q1_refuseLong (k := 2) H ⟨by decide, by decide⟩ (ql_ L))) (fun z => absurd z hc))
theorem q1_power {b e : Nat} (hb : b ≤ 20) (he : e ≤ 7) (h : K ((b ^ e : Nat) : Int) M) : jCall 82 [jI (b : Int), jI (e : Int)] M (jql K) := by
  refine vX1_power ?_
  refine lp_n (X := fun j => jAt 82 5 [some (jI (b : Int)), some (jI (e : Int)), some (jL ((b ^ j : Nat) : Int)), none, some (jI (j : Int))] [] M (jql K)) e ?_ ?_
  · exact vX1_power_5 (jif1 (by omega) (ql_ h))
  · intro j hj ih
    have hm := pow_le_m hb (show j + 1 ≤ 7 by omega)
    have e1 : ((b ^ j : Nat) : Int) * (b : Int) = ((b ^ (j + 1) : Nat) : Int) := rfl
    refine vX1_power_5 (jif0 (by omega) ?_)
    rw [e1]
    exact ⟨⟨by omega, by omega⟩, jr_i (by omega), ih⟩
theorem q1_thinkOfMice (R : cR M 0 s) (w : wf s) (y : yr 999 s) {n : Nat} (hn : n ≤ 7) {x : Int} (h : ∀ M', cR M' 2 (mi s x n) → jth M M' → V M') : jCall 81 [jR 1 0 0, jI (n : Int), jI x] M (jqv V) := by
  have y1 := y.1
  have y2 := y.2
  refine vX1_thinkOfMice (q0_become (by decide) R w (fun M1 R1 F1 => ?_))
  refine lp_n (X := fun k => ∀ M', cR M' 2 (mi s x k) → jth M M' → jAt 81 13 [some (jR 1 0 0), some (jI (n : Int)), some (jI x), some (jI (k : Int))] [] M' (jqv V)) n ?_ ?_ M1 R1 (jth_c F1 (Or.inl rfl))
  · intro M' R' T'
    exact vX1_thinkOfMice_13 (jif1 (by omega) (qv_ (h M' R' T')))
  · intro k hk ih M' R' T'
    have wk := wf_mi w x k
    have yk := mi_8 s x k
    rw [mi] at ih
    refine vX1_thinkOfMice_13 (jif0 (by omega) (q1_hasBit (by omega) (fun z => jif0 (by decide) ?_) (fun z => jif1 rfl ?_)))
    · rw [if_pos z] at ih
      refine q0_letMiceIn R' wk (fun M2 R2 F2 => q0_passYear R2 (wf_lm wk) (by rw [lm_k _ (by decide)]; omega) (fun M3 R3 F3 => ⟨jr_i (by omega), ih M3 R3 (jth_tr T' (jth_c (jfm_tr F2 F3) (Or.inl rfl)))⟩))
    · rw [if_neg (by rw [z]; decide)] at ih
      exact q0_passYear R' wk (by omega) (fun M3 R3 F3 => ⟨jr_i (by omega), ih M3 R3 (jth_tr T' (jth_c F3 (Or.inl rfl)))⟩)
theorem p_mice (H : sim t M s) (ht : t < 1000) (x1 x2 x3 x4 : Int) : pL t 79 175 [jI x1, jI x2, jI x3, jI x4] M := by
  obtain ⟨R, R', w, y⟩ := H.1
  have y1 := y.1
  have y2 := y.2
  by_cases hcu : 0 ≤ x1 ∧ x1 ≤ 9
  · by_cases h4 : 0 ≤ x2 ∧ 2 ≤ x3
    · by_cases h6 : x2 ≤ 7 ∧ x3 ≤ 20
      · by_cases hp : x4 = 0 ∨ x4 = 1
        · obtain ⟨c, rfl⟩ := jnat hcu.1
          obtain ⟨n, rfl⟩ := jnat h4.1
          obtain ⟨q, hq⟩ := jnat (show 0 ≤ x3 by omega)
          subst hq
          obtain ⟨T, hT⟩ : ∃ T : Nat, q = T + 1 := ⟨q - 1, by omega⟩
          subst hT
          have hn : n ≤ 7 := by omega
          have hT : T ≤ 20 := by omega
          have hs : jshl 1 (n : Int) = ((2 ^ n : Nat) : Int) := pw_2 _ (by omega)
          have h2n : 2 ^ n ≤ 128 := Nat.pow_le_pow_right (by decide) hn
          have hpw := pow_le_m (show T + 1 ≤ 20 by omega) hn
          have hpp : 0 < (T + 1) ^ n := Nat.pow_pos (by omega)
          have h240 : (2 : Nat) ^ 40 = 1099511627776 := rfl
          have hcast : ((T + 1 : Nat) : Int) - 1 = (T : Int) := by omega
          have G : ∀ a, a = pf (ml s c n T (2 ^ n)) ((T + 1) ^ n) x4 → pL t 79 175 [jI (c : Int), jI (n : Int), jI ((T + 1 : Nat) : Int), jI x4] M := by
            intro a ha
            have L : ∀ M1, jth M M1 → jCall 175 (jR 2 0 0 :: [jI (c : Int), jI (n : Int), jI ((T + 1 : Nat) : Int), jI x4]) M1 (jql (en t a)) := by
              intro M1 T1
              refine vX2_mice (q2_isCustom (fun _ _ => jif1 (by decide) (jif0 (by omega) (jif1 h4.2 (jif0 (by omega) (jif1 h6.2 (q2_isIn (fun _ _ => jif1 (by decide) ?_) (fun z => absurd ⟨by omega, by omega⟩ z))))))) (fun z => absurd hcu z))
              refine lp_n (X := fun j => jAt 175 74 [some (jR 2 0 0), some (jI (c : Int)), some (jI (n : Int)), some (jI ((T + 1 : Nat) : Int)), some (jI x4), some (jL ((0 : Nat) : Int)), none, some (jL (((T + 1) ^ j : Nat) : Int)), none, some (jI (j : Int)), none, none, none] [] M1 (jql (en t a))) n ?_ ?_
              · refine vX2_mice_74 (jif1 (by omega) ?_)
                refine lp_n (X := fun k => ∀ M', jth M M' → jAt 175 96 [some (jR 2 0 0), some (jI (c : Int)), some (jI (n : Int)), some (jI ((T + 1 : Nat) : Int)), some (jI x4), some (jL ((ml s c n T k : Nat) : Int)), none, some (jL (((T + 1) ^ n : Nat) : Int)), none, some (jI (k : Int)), none, none, none] [] M' (jql (en t a))) (2 ^ n) ?_ ?_ M1 T1
                · intro M' T'
                  refine vX2_mice_96 ?_
                  rw [hs]
                  exact jif1 (Int.le_refl _) (q2_partOf hpp hp (ql_ (by rw [← ha]; exact fin_t H ht T')))
                · intro k hk ih M' T'
                  have hmk := ml_le (s := s) (c := c) hT hn k
                  have hwk := wg_le hT (k : Int) hn
                  rw [ml] at ih
                  refine vX2_mice_96 ?_
                  rw [hs]
                  refine jif0 (by omega) (q2_copies (by decide) (th_R R' T') w (fun M2 R2 F2 => ?_))
                  refine lp_n (X := fun i => ∀ M3, rR M3 1 (mi s (k : Int) i) → jth M M3 → jAt 175 121 [some (jR 2 0 0), some (jI (c : Int)), some (jI (n : Int)), some (jI ((T + 1 : Nat) : Int)), some (jI x4), some (jL ((ml s c n T k : Nat) : Int)), none, some (jL (((T + 1) ^ n : Nat) : Int)), none, some (jI (k : Int)), some (jL ((wg T (k : Int) i : Nat) : Int)), none, some (jI (i : Int))] [] M3 (jql (en t a))) n ?_ ?_ M2 R2 (jth_tr T' (jth_r F2 (Or.inl rfl)))
                  · intro M3 R3 T3
                    refine vX2_mice_121 (jif1 (by omega) (q2_knownIn R3 (wf_mi w _ n) (q2_has (by omega) (fun z => jif0 (by decide) ⟨⟨by omega, by omega⟩, jr_i (by omega), ?_⟩) (fun z => jif1 rfl ⟨⟨by omega, by omega⟩, jr_i (by omega), ?_⟩))))
                    · rw [if_pos z] at ih; exact ih M3 T3
                    · rw [if_neg (by rw [z]; decide)] at ih; exact ih M3 T3
                  · intro i hi ih2 M3 R3 T3
                    have wk := wf_mi w (k : Int) i
                    have yk := mi_8 s (k : Int) i
                    have hw1 := wg_le hT (k : Int) (show i + 1 ≤ 7 by omega)
                    rw [mi] at ih2
                    have fin : ∀ M4, rR M4 1 (if tb (k : Int) i = true then lm (mi s (k : Int) i) else mi s (k : Int) i) → jth M M4 → jAt 175 167 [some (jR 2 0 0), some (jI (c : Int)), some (jI (n : Int)), some (jI ((T + 1 : Nat) : Int)), some (jI x4), some (jL ((ml s c n T k : Nat) : Int)), none, some (jL (((T + 1) ^ n : Nat) : Int)), none, some (jI (k : Int)), some (jL ((wg T (k : Int) (i + 1) : Nat) : Int)), none, some (jI (i : Int))] [] M4 (jql (en t a)) := by
                      intro M4 R4 T4
                      have w4 : wf (if tb (k : Int) i = true then lm (mi s (k : Int) i) else mi s (k : Int) i) := by
                        split
                        · exact wf_lm wk
                        · exact wk
                      refine vX2_mice_167 (q2_year R4 w4 ?_ (fun M5 R5 F5 => ⟨jr_i (by omega), ih2 M5 R5 (jth_tr T4 (jth_r F5 (Or.inl rfl)))⟩))
                      split
                      · rw [lm_k _ (by decide)]; omega
                      · omega
                    have mid : ∀ z : Nat, z = (if tb (k : Int) i = true then 1 else T) → jAt 175 147 [some (jR 2 0 0), some (jI (c : Int)), some (jI (n : Int)), some (jI ((T + 1 : Nat) : Int)), some (jI x4), some (jL ((ml s c n T k : Nat) : Int)), none, some (jL (((T + 1) ^ n : Nat) : Int)), none, some (jI (k : Int)), none, none, some (jI (i : Int))] [jL (z : Int), jL ((wg T (k : Int) i : Nat) : Int)] M3 (jql (en t a)) := by
                      intro z hz
                      have e1 : ((wg T (k : Int) i : Nat) : Int) * (z : Int) = ((wg T (k : Int) (i + 1) : Nat) : Int) := by
                        rw [wg, ← hz]; rfl
                      refine vX2_mice_147 ?_
                      rw [e1]
                      refine ⟨⟨by omega, by omega⟩, q2_has (by omega) (fun v => jif0 (by decide) (q2_areMice R3 wk (fun M4 R4 F4 => fin M4 ?_ (jth_tr T3 (jth_r F4 (Or.inl rfl)))))) (fun v => jif1 rfl (fin M3 ?_ T3))⟩
                      · rw [if_pos v]; exact R4
                      · rw [if_neg (by rw [v]; decide)]; exact R3
                    refine vX2_mice_121 (jif0 (by omega) (q2_has (by omega) (fun v => jif0 (by decide) (mid 1 ?_)) (fun v => jif1 rfl ?_)))
                    · rw [if_pos v]
                    · rw [hcast]
                      exact ⟨jr_i (by omega), mid T (by rw [if_neg (by rw [v]; decide)])⟩
              · intro j hj ih
                have hm := pow_le_m (show T + 1 ≤ 20 by omega) (show j + 1 ≤ 7 by omega)
                have e1 : (((T + 1) ^ j : Nat) : Int) * ((T + 1 : Nat) : Int) = (((T + 1) ^ (j + 1) : Nat) : Int) := rfl
                refine vX2_mice_74 (jif0 (by omega) ?_)
                rw [e1]
                exact ⟨⟨by omega, by omega⟩, jr_i (by omega), ih⟩
            refine vX1_mice (q1_isCustom (fun _ _ => jif1 (by decide) (jif0 (by omega) (jif1 h4.2 (jif0 (by omega) (jif1 h6.2 (q1_isNeither (fun z => absurd hp z) (fun _ => jif1 rfl ?_))))))) (fun z => absurd hcu z))
            refine lp_n (X := fun k => ∀ M', jth M M' → jAt 79 69 [some (jR 1 0 0), some (jI (c : Int)), some (jI (n : Int)), some (jI ((T + 1 : Nat) : Int)), some (jI x4), some (jL ((ml s c n T k : Nat) : Int)), none, some (jI (k : Int))] [] M' (jql fun y M1 => jCall 175 (jR 2 0 0 :: [jI (c : Int), jI (n : Int), jI ((T + 1 : Nat) : Int), jI x4]) M1 (jql (en t y)))) (2 ^ n) ?_ ?_ M jth_rf
            · intro M' T'
              refine vX1_mice_69 ?_
              rw [hs]
              exact jif1 (Int.le_refl _) (q1_power (by omega) hn (q1_partOf hpp (by omega) hp (ql_ (by rw [← ha]; exact L M' T'))))
            · intro k hk ih M' T'
              have hmk := ml_le (s := s) (c := c) hT hn k
              have hwk := wg_le hT (k : Int) hn
              have hb1 := bcn_le (k : Int) n
              have e0 : jpc 10 (k : Int) = (bcn (k : Int) n : Int) := by
                rw [← bc_10 ⟨by omega, by omega⟩, bcn_bc _ _ (by omega)]
                have := bc_hi (x := (k : Int)) (n := n) (fun i h1 h2 => tb_lt hk h1 h2) (10 - n) (by omega)
                rw [show n + (10 - n) = 10 by omega] at this
                exact this
              have e2 : (n : Int) - (bcn (k : Int) n : Int) = ((n - bcn (k : Int) n : Nat) : Int) := by omega
              rw [ml] at ih
              refine vX1_mice_69 ?_
              rw [hs, hcast, e0, e2]
              refine jif0 (by omega) (q1_thinkOfMice (th_C R T') w y hn (fun M2 R2 T2 => q0_knownBits R2 (wf_mi w _ n) (q1_hasBit (by omega) (fun z => jif0 (by decide) ⟨jr_i (by omega), ⟨by omega, by omega⟩, jr_i (by omega), q1_power hT (by omega) ?_⟩) (fun z => jif1 rfl ⟨jr_i (by omega), ?_⟩))))
              · rw [if_pos z] at ih
                rw [← wg_pow]
                exact ⟨⟨by omega, by omega⟩, jr_i (by omega), ih M2 (jth_tr T' T2)⟩
              · rw [if_neg (by rw [z]; decide)] at ih; exact ih M2 (jth_tr T' T2)
          exact G _ rfl
        · have L : jCall 175 (jR 2 0 0 :: [jI x1, jI x2, jI x3, jI x4]) (rfC M 2) (jql (en t (4000000000000000000 - -((2 : Nat) : Int)))) := vX2_mice (q2_isCustom (fun _ _ => jif1 (by decide) (jif0 (by omega) (jif1 h4.2 (jif0 (by omega) (jif1 h6.2 (q2_isIn (fun _ _ => by omega) (fun _ => jif0 (by decide) (fin_rL (k := 2) H ht ⟨by decide, by decide⟩)))))))) (fun z => absurd hcu z))
          exact vX1_mice (q1_isCustom (fun _ _ => jif1 (by decide) (jif0 (by omega) (jif1 h4.2 (jif0 (by omega) (jif1 h6.2 (q1_isNeither (fun _ => jif0 (by decide) (q1_refuseLong (k := 2) H ⟨by decide, by decide⟩ (ql_ L))) (fun z => absurd z hp))))))) (fun z => absurd hcu z))
      · have L : jCall 175 (jR 2 0 0 :: [jI x1, jI x2, jI x3, jI x4]) (rfC M 6) (jql (en t (4000000000000000000 - -((6 : Nat) : Int)))) := vX2_mice (q2_isCustom (fun _ _ => jif1 (by decide) (jif0 (by omega) (jif1 h4.2 (jite (fun _ => fin_rL (k := 6) H ht ⟨by decide, by decide⟩) (fun c => jif0 (by omega) (fin_rL (k := 6) H ht ⟨by decide, by decide⟩)))))) (fun z => absurd hcu z))
        exact vX1_mice (q1_isCustom (fun _ _ => jif1 (by decide) (jif0 (by omega) (jif1 h4.2 (jite (fun _ => q1_refuseLong (k := 6) H ⟨by decide, by decide⟩ (ql_ L)) (fun c => jif0 (by omega) (q1_refuseLong (k := 6) H ⟨by decide, by decide⟩ (ql_ L))))))) (fun z => absurd hcu z))
    · have L : jCall 175 (jR 2 0 0 :: [jI x1, jI x2, jI x3, jI x4]) (rfC M 4) (jql (en t (4000000000000000000 - -((4 : Nat) : Int)))) := vX2_mice (q2_isCustom (fun _ _ => jif1 (by decide) (jite (fun _ => fin_rL (k := 4) H ht ⟨by decide, by decide⟩) (fun c => jif0 (by omega) (fin_rL (k := 4) H ht ⟨by decide, by decide⟩)))) (fun z => absurd hcu z))
      exact vX1_mice (q1_isCustom (fun _ _ => jif1 (by decide) (jite (fun _ => q1_refuseLong (k := 4) H ⟨by decide, by decide⟩ (ql_ L)) (fun c => jif0 (by omega) (q1_refuseLong (k := 4) H ⟨by decide, by decide⟩ (ql_ L))))) (fun z => absurd hcu z))
  · have L : jCall 175 (jR 2 0 0 :: [jI x1, jI x2, jI x3, jI x4]) (rfC M 1) (jql (en t (4000000000000000000 - -((1 : Nat) : Int)))) := vX2_mice (q2_isCustom (fun a b => absurd ⟨a, b⟩ hcu) (fun _ => jif0 (by decide) (fin_rL (k := 1) H ht ⟨by decide, by decide⟩)))
    exact vX1_mice (q1_isCustom (fun a b => absurd ⟨a, b⟩ hcu) (fun _ => jif0 (by decide) (q1_refuseLong (k := 1) H ⟨by decide, by decide⟩ (ql_ L))))
end Mice

-- The law's own larder: jars told letter by letter, its array beside
theorem ja_r (x : Int) (m : Nat) (hm : m < 2147483648) : 0 ≤ jand x (m : Int) ∧ jand x (m : Int) ≤ m := by
  have e : jand x (m : Int) = jand (m : Int) x := tb_ext (jr_and _ _) (jr_and _ _) fun i hi => by rw [tb_and, tb_and, Bool.and_comm]
  have e2 : jand (m : Int) x = ((m &&& (Int32.ofInt x).toBitVec.toNat : Nat) : Int) := by
    have hl : m &&& (Int32.ofInt x).toBitVec.toNat ≤ m := Nat.and_le_left
    refine tb_ext (jr_and _ _) (jr_nat (by omega)) fun i hi => ?_
    rw [tb_and, tb_nat _ hi, tb_nat _ hi, Nat.testBit_and]
    rfl
  have hl : m &&& (Int32.ofInt x).toBitVec.toNat ≤ m := Nat.and_le_left
  rw [e, e2]
  omega
theorem j11 : jand 1 1 = 1 := by decide +kernel
theorem sim_f {M M' : jM} {s : jT} {t : Int} (H : sim t M s) (F : ∀ k i c j, ¬ k = 2 → M' k i c j = M k i c j) : sim t M' s := ⟨cR_e H.1 (fun _ _ => F _ _ _ _ (by decide)), H.2.1, sref_e H.2.2.1 (fun _ => F _ _ _ _ (by decide)), H.2.2.2⟩
theorem vR_f {M M' : jM} {s : jT} (V : vR M s) (F : ∀ j, M' 2 0 0 j = M 2 0 0 j) : vR M' s := by
  unfold vR
  rw [F, F, F]
  refine ⟨V.1, V.2.1, fun j hj => ?_⟩
  rw [F, F, F]
  exact V.2.2 j hj
theorem vB_f {M M' : jM} {y : Int} (B : vB M y) (F : ∀ j, M' 2 0 0 j = M 2 0 0 j) : vB M' y := by
  unfold vB
  rw [F, F]
  exact B
/-- no bit from n on is set in the law's set of shut jars -/
def vZ (M : jM) (n : Nat) : Prop := ∀ i, n ≤ i → i < 32 → tb (M 2 0 0 27) i = false
/-- the first n letters are those of c -/
def ltr (M0 M : jM) (n : Nat) (c : Nat → Int) : Prop := M 1 0 0 6 = (n : Int) ∧ (∀ p, p < n → M 1 0 1 p = c p) ∧ ∀ k i q j, ¬ (k = 1 ∧ i = 0 ∧ q = 0 ∧ j = 6) → ¬ (k = 1 ∧ i = 0 ∧ q = 1) → M k i q j = M0 k i q j
theorem ltr_s {M0 M : jM} {n : Nat} {c : Nat → Int} {s : jT} {t : Int} (T : ltr M0 M n c) (H : sim t M0 s) : sim t M s := ⟨cR_e H.1 (fun _ _ => T.2.2 _ _ _ _ (by omega) (by omega)), H.2.1, sref_e H.2.2.1 (fun _ => T.2.2 _ _ _ _ (by omega) (by omega)), H.2.2.2⟩
/-- one jar's letters -/
def ltx (k f g d : Int) : Nat → Int := fun p => if p = 0 then 106 else if p = 1 then (jst 4).getD k.toNat 0 else if p = 2 then 48 + f else if p = 3 then 48 + g else if p = 4 then 48 + d / 10 else if p = 5 then 48 + d % 10 else if p = 6 then 59 else -1
theorem kx5 : ∀ n : Nat, n < 6 → kx ((jst 4).getD n 0) = (n : Int) ∧ 0 ≤ (jst 4).getD n 0 ∧ (jst 4).getD n 0 ≤ 255 := by decide +kernel
section Text
variable {k f g d : Int} {s : jT}
theorem ltx_k (hk : 0 ≤ k ∧ k ≤ 5) : kx (ltx k f g d 1) = k ∧ 0 ≤ ltx k f g d 1 ∧ ltx k f g d 1 ≤ 255 := by
  have q := kx5 k.toNat (by omega)
  rw [Int.toNat_of_nonneg hk.1] at q
  exact q
theorem ltx_gd (hk : 0 ≤ k ∧ k ≤ 5) (hf : 0 ≤ f ∧ f ≤ 9) (hg : 0 ≤ g ∧ g ≤ 5) (hd : 0 ≤ d ∧ d ≤ 20) : gd (ltx k f g d) 0 := by
  have q := (ltx_k (f := f) (g := g) (d := d) hk).1
  refine ⟨(show sx 106 ≠ 3 by decide), fun i hi => ?_⟩
  have hi6 : i < 6 := hi
  rcases (show i = 0 ∨ i = 1 ∨ i = 2 ∨ i = 3 ∨ i = 4 ∨ i = 5 by omega) with rfl | rfl | rfl | rfl | rfl | rfl
  · rw [okf_k (c := ltx k f g d) rfl]
    refine decide_eq_true (fun z => ?_)
    have z' : kx (ltx k f g d 1) = -1 := z
    omega
  · rw [okf_sg (c := ltx k f g d) (g := 48) rfl, ft_48]
    exact decide_eq_true (show 48 ≤ 48 + f ∧ 48 + f ≤ 57 by omega)
  · rw [okf_sg (c := ltx k f g d) (g := 48) rfl, ft_48]
    exact decide_eq_true (show 48 ≤ 48 + g ∧ 48 + g ≤ 57 by omega)
  · rw [okf_sg (c := ltx k f g d) (g := 48) rfl, ft_48]
    exact decide_eq_true (show 48 ≤ 48 + d / 10 ∧ 48 + d / 10 ≤ 57 by omega)
  · rw [okf_sg (c := ltx k f g d) (g := 48) rfl, ft_48]
    exact decide_eq_true (show 48 ≤ 48 + d % 10 ∧ 48 + d % 10 ≤ 57 by omega)
  · rw [okf_sg (c := ltx k f g d) (g := 59) rfl, ft_59]
    exact decide_eq_true (show (59 : Int) = 59 from rfl)
theorem ltx_dd : dd (ltx k f g d) 4 = d := by
  show 10 * (48 + d / 10 - 48) + (48 + d % 10 - 48) = d
  omega
theorem ltx_tk (hg : 0 ≤ g ∧ g ≤ 5) (hd : 0 ≤ d ∧ d ≤ 20) (h9 : s 0 5 < 9) : tk (ltx k f g d) 0 s := by
  have no : ∀ x : Int, ¬ 106 = x → ∀ p : Prop, ltx k f g d 0 = x → p := fun x h p z => absurd z h
  refine ⟨fun _ => ⟨?_, ?_, h9⟩, no 109 (by decide) _, no 101 (by decide) _, no 120 (by decide) _, no 102 (by decide) _, no 121 (by decide) _⟩
  · show 48 + g - 48 ≤ 5
    omega
  · have e := ltx_dd (k := k) (f := f) (g := g) (d := d)
    show dd (ltx k f g d) 4 ≤ 20
    omega
theorem ltx_te (hk : 0 ≤ k ∧ k ≤ 5) : te (ltx k f g d) 0 s = ad s k f g d := by
  have e1 : kx (ltx k f g d (0 + 1)) = k := (ltx_k hk).1
  have e2 : dg (ltx k f g d) (0 + 2) = f := by show 48 + f - 48 = f; omega
  have e3 : dg (ltx k f g d) (0 + 3) = g := by show 48 + g - 48 = g; omega
  have e4 : dd (ltx k f g d) (0 + 4) = d := ltx_dd
  unfold te
  rw [if_pos (show ltx k f g d 0 = 106 from rfl), e1, e2, e3, e4]
end Text
section Larder1
variable {M M0 : jM} {s : jT} {t : Int} {K : Int → jM → Prop} {n : Nat} {c : Nat → Int}
theorem l_sayC (T : ltr M0 M n c) (hn : n < 96) {x : Int} (hx : 0 ≤ x ∧ x ≤ 255) (e : x = c n) (h : ∀ M', ltr M0 M' (n + 1) c → K 1 M') : jCall 85 [jR 1 0 0, jI x] M (jqi K) := by
  refine l_say n T.1 hn hx (fun M' a b F => h M' ⟨a, fun p hp => ?_, fun k i q j z z1 => (F k i q j z (by omega)).trans (T.2.2 k i q j z z1)⟩)
  by_cases z : p = n
  · subst z; exact b.trans e
  · exact (F _ _ _ _ (by omega) (by omega)).trans (T.2.1 p (by omega))
theorem l_twoC (T : ltr M0 M n c) (hn : n < 90) {x : Int} (hx : 0 ≤ x ∧ x ≤ 20) (e : 48 + x / 10 = c n) (e2 : 48 + x % 10 = c (n + 1)) (h : ∀ M', ltr M0 M' (n + 1 + 1) c → K 1 M') : jCall 86 [jR 1 0 0, jI x] M (jqi K) :=
  vL_two ⟨⟨hx.1, by decide⟩, jr_i (by omega), l_sayC T (by omega) (by omega) e (fun M1 T1 => jif0 (by decide) ⟨⟨hx.1, by decide⟩, jr_i (by omega), l_sayC T1 (by omega) (by omega) e2 (fun M2 T2 => jif0 (by decide) (vL_two_33 ⟨jz1, qi_ (h M2 T2)⟩))⟩)⟩
theorem ltx_tx {k f g d : Int} (hk : 0 ≤ k ∧ k ≤ 5) (hf : 0 ≤ f ∧ f ≤ 9) (hg : 0 ≤ g ∧ g ≤ 5) (hd : 0 ≤ d ∧ d ≤ 20) (T : ltr M0 M 7 (ltx k f g d)) : tx M (ltx k f g d) 7 := by
  have q := (ltx_k (f := f) (g := g) (d := d) hk).2
  refine ⟨T.1, by decide, fun p => ⟨fun h => ⟨T.2.1 p h, ?_⟩, fun h => ?_⟩⟩
  · rcases (show p = 0 ∨ p = 1 ∨ p = 2 ∨ p = 3 ∨ p = 4 ∨ p = 5 ∨ p = 6 by omega) with rfl | rfl | rfl | rfl | rfl | rfl | rfl
    · exact ⟨(show (0 : Int) ≤ 106 by decide), (show (106 : Int) ≤ 255 by decide)⟩
    · exact q
    · show 0 ≤ 48 + f ∧ 48 + f ≤ 255; omega
    · show 0 ≤ 48 + g ∧ 48 + g ≤ 255; omega
    · show 0 ≤ 48 + d / 10 ∧ 48 + d / 10 ≤ 255; omega
    · show 0 ≤ 48 + d % 10 ∧ 48 + d % 10 ≤ 255; omega
    · exact ⟨(show (0 : Int) ≤ 59 by decide), (show (59 : Int) ≤ 255 by decide)⟩
  · unfold ltx
    rw [if_neg (by omega), if_neg (by omega), if_neg (by omega), if_neg (by omega), if_neg (by omega), if_neg (by omega), if_neg (by omega)]
/-- the law's array with one jar more -/
theorem vR_ad {M' : jM} {k f g d : Int} {j : Nat} (V : vR M s) (hj : s 0 5 = (j : Int)) (h9 : j < 9) (Z : vZ M j) (a0 : M' 2 0 0 j = k + 10 * f) (a9 : M' 2 0 0 (9 + j) = g) (a18 : M' 2 0 0 (18 + j) = d) (a28 : M' 2 0 0 28 = (j : Int) + 1) (F : ∀ q, q ≠ j → q ≠ 9 + j → q ≠ 18 + j → q ≠ 28 → M' 2 0 0 q = M 2 0 0 q) : vR M' (ad s k f g d) := by
  have hn : nj s = j := by unfold nj; omega
  refine ⟨by rw [a28, ad_n, hj], by rw [ad_f s _ _ _ _ (by decide), F 31 (by omega) (by omega) (by omega) (by decide)]; exact V.2.1, fun j' hj' => ?_⟩
  rw [ad_n, hj] at hj'
  rw [F 27 (by omega) (by omega) (by omega) (by decide)]
  by_cases z : j' = j
  · subst z
    have e1 := ad_1 s k f g d
    have e2 := ad_2 s k f g d
    have e3 := ad_3 s k f g d
    have e4 := ad_4 s k f g d
    have e5 := ad_5 s k f g d
    rw [hn] at e1 e2 e3 e4 e5
    rw [e1, e2, e3, e4, e5]
    exact ⟨a0, a9, a18, by rw [hb_tb (by omega), Z j' (Nat.le_refl _) (by omega)]; rfl⟩
  · have q := V.2.2 j' (by omega)
    rw [ad_o s _ _ _ _ (by decide) (by rw [hn]; exact z), ad_o s _ _ _ _ (by decide) (by rw [hn]; exact z), ad_o s _ _ _ _ (by decide) (by rw [hn]; exact z), ad_o s _ _ _ _ (by decide) (by rw [hn]; exact z), ad_o s _ _ _ _ (by decide) (by rw [hn]; exact z)]
    rw [F j' (by omega) (by omega) (by omega) (by omega), F (9 + j') (by omega) (by omega) (by omega) (by omega), F (18 + j') (by omega) (by omega) (by omega) (by omega)]
    exact q
/-- the law's array with a jar shut -/
theorem vR_sh {M' : jM} {j : Nat} (V : vR M s) (h5 : s 0 5 ≤ 9) (h9 : j < 9) (e27 : M' 2 0 0 27 = jor (M 2 0 0 27) (jshl 1 (j : Int))) (F : ∀ q, q ≠ 27 → M' 2 0 0 q = M 2 0 0 q) : vR M' (su s 5 j 1) := by
  refine ⟨by rw [F 28 (by decide), su_nc s _ (by decide)]; exact V.1, by rw [F 31 (by decide), su_nc s _ (by decide)]; exact V.2.1, fun j' hj' => ?_⟩
  rw [su_nc s _ (by decide)] at hj'
  obtain ⟨a, b, c, d⟩ := V.2.2 j' hj'
  rw [su_nc s _ (show (1 : Nat) ≠ 5 by decide), su_nc s _ (show (2 : Nat) ≠ 5 by decide), su_nc s _ (show (3 : Nat) ≠ 5 by decide), su_nc s _ (show (4 : Nat) ≠ 5 by decide), F j' (by omega), F (9 + j') (by omega), F (18 + j') (by omega), e27]
  refine ⟨a, b, c, ?_⟩
  rw [hb_tb (by omega), tb_or, tb_shl1 j (by omega) j' (by omega)]
  by_cases z : j' = j
  · subst z
    rw [su_at, decide_eq_true rfl, Bool.or_true]
    rfl
  · rw [su_nj s _ z, decide_eq_false z, Bool.or_false, ← hb_tb (by omega)]
    exact d
theorem vZ_sh {M' : jM} {j : Nat} (h9 : j < 9) (Z : vZ M j) (e27 : M' 2 0 0 27 = jor (M 2 0 0 27) (jshl 1 (j : Int))) : vZ M' (j + 1) := fun i h1 h2 => by
  rw [e27, tb_or, tb_shl1 j (by omega) i h2, Z i (by omega) h2, decide_eq_false (by omega)]
  rfl
end Larder1

-- Calls, side by side: lots, image, on
def ns (z : Int) : Int := jwr (jwr (z * 1664525) + 1013904223)
def zs (z : Int) : Nat → Int
  | 0 => z
  | k + 1 => ns (zs z k)
def dr (z m : Int) : Int := jand z 2147483647 / 256 % m
/-- of the first j jars SHELF and FOOD are drawn -/
def dj (s : jT) (z : Int) : Nat → jT
  | 0 => s
  | j + 1 => su (su (dj s z j) 3 j (dr (zs z (2 * j + 1)) 6)) 4 j (dr (zs z (2 * j + 2)) 21)
/-- the seed ahead of century k -/
def lz (s : jT) (z : Int) : Nat → Int
  | 0 => z
  | k + 1 => zs (lz s z k) (2 * nj s)
def lc (s : jT) (z : Int) (k : Nat) : jT := it ye 10 (dj s (lz s z k) (nj s))
def lt (s : jT) (z q : Int) : Nat → Int
  | 0 => 0
  | k + 1 => lt s z q k + (if q = 0 then kc (lc s z k) else lc s z k 0 7 - s 0 7)
theorem jn_nn (z : Int) : 0 ≤ jand z 2147483647 := by
  have e : jand z 2147483647 = jand 2147483647 z := tb_ext (jr_and _ _) (jr_and _ _) fun i hi => by rw [tb_and, tb_and, Bool.and_comm]
  rw [e]
  have e2 : jand ((2147483647 : Nat) : Int) z = ((2147483647 &&& (Int32.ofInt z).toBitVec.toNat : Nat) : Int) := by
    have hl : 2147483647 &&& (Int32.ofInt z).toBitVec.toNat ≤ 2147483647 := Nat.and_le_left
    refine tb_ext (jr_and _ _) (jr_nat (by omega)) fun i hi => ?_
    rw [tb_and, tb_nat _ hi, tb_nat _ hi, Nat.testBit_and]
    rfl
  have e3 : jand 2147483647 z = jand ((2147483647 : Nat) : Int) z := rfl
  rw [e3, e2]
  omega
theorem dr_6 (z : Int) : 0 ≤ dr z 6 ∧ dr z 6 ≤ 5 := by unfold dr; omega
theorem dr_21 (z : Int) : 0 ≤ dr z 21 ∧ dr z 21 ≤ 20 := by unfold dr; omega
theorem dj_k (s : jT) (z : Int) {c q : Nat} (h3 : c ≠ 3) (h4 : c ≠ 4) : ∀ j, dj s z j c q = s c q
  | 0 => rfl
  | j + 1 => by rw [dj, su_nc _ _ h4, su_nc _ _ h3]; exact dj_k s z h3 h4 j
theorem wf_dj {s : jT} (w : wf s) (z : Int) : ∀ j, wf (dj s z j)
  | 0 => w
  | j + 1 => by
    have h1 := dr_6 (zs z (2 * j + 1))
    have h2 := dr_21 (zs z (2 * j + 2))
    rw [dj]
    exact wf_u (wf_u (wf_dj w z j) (by omega)) (by omega)
section Lots
variable {M : jM} {s : jT} {t : Int} {K : Int → jM → Prop} {V : jM → Prop}
theorem q1_nextSeed {z : Int} (h : K (ns z) M) : jCall 69 [jI z] M (jqi K) := vX1_nextSeed (qi_ h)
theorem q1_drawn {z m : Int} (hm : 1 ≤ m) (h : K (dr z m) M) : jCall 70 [jI z, jI m] M (jqi K) := by
  have h0 := jn_nn z
  exact vX1_drawn (jif1 hm ⟨⟨h0, by decide⟩, ⟨by omega, by omega⟩, qi_ h⟩)
theorem q1_drawJars (R : cR M 0 s) (w : wf s) {z : Int} (h : ∀ M', cR M' 2 (dj s z (nj s)) → jth M M' → K (zs z (2 * nj s)) M') : jCall 68 [jR 1 0 0, jI z] M (jqi K) := by
  have w1 := w.1
  have hn := nj_n w
  refine vX1_drawJars (q0_become (by decide) R w (fun M1 R1 F1 => ?_))
  refine lp_n (X := fun j => ∀ M', cR M' 2 (dj s z j) → jth M M' → jAt 68 15 [some (jR 1 0 0), none, some (jI (zs z (2 * j))), some (jI (j : Int))] [] M' (jqi K)) (nj s) ?_ ?_ M1 R1 (jth_c F1 (Or.inl rfl))
  · intro M' R' T'
    have e := (cR_f R').1
    rw [dj_k s z (by decide) (by decide)] at e
    exact vX1_drawJars_15 (jif1 (by omega) (qi_ (h M' R' T')))
  · intro j hj ih M' R' T'
    have hj' := nj_lt hj
    have e := (cR_f R').1
    rw [dj_k s z (by decide) (by decide)] at e
    have hb : 0 ≤ (j : Int) ∧ (j : Int) < ((9 : Nat) : Int) := ⟨by omega, by omega⟩
    have e1 : ns (zs z (2 * j)) = zs z (2 * j + 1) := rfl
    have e2 : ns (zs z (2 * j + 1)) = zs z (2 * j + 2) := rfl
    refine vX1_drawJars_15 (jif0 (by omega) (q1_nextSeed (q1_drawn (by decide) ⟨hb, ?_⟩)))
    intro m3
    rw [e1]
    have R3 : cR m3 2 (su (dj s z j) 3 j (dr (zs z (2 * j + 1)) 6)) := cR_u R' (by decide)
    have T3 : jth M m3 := jth_tr T' (jth_c jfm_u (Or.inl rfl))
    clear_value m3
    refine q1_nextSeed (q1_drawn (by decide) ⟨hb, ?_⟩)
    intro m6
    rw [e2]
    have R6 : cR m6 2 (dj s z (j + 1)) := cR_u R3 (by decide)
    have T6 : jth M m6 := jth_tr T3 (jth_c jfm_u (Or.inl rfl))
    refine ⟨jr_i (by omega), ?_⟩
    have ih2 := ih m6 R6 T6
    rw [show 2 * (j + 1) = 2 * j + 2 by omega] at ih2
    exact ih2
theorem lc_r (w : wf s) (z q : Int) (k : Nat) : wf (lc s z k) ∧ 0 ≤ (if q = 0 then kc (lc s z k) else lc s z k 0 7 - s 0 7) ∧ (if q = 0 then kc (lc s z k) else lc s z k 0 7 - s 0 7) ≤ 9999 := by
  have w2 : wf (lc s z k) := wf_yn _ (wf_dj w _ _)
  have w7 := w.2.2.1
  have w8 := w2.2.2.1
  have c := jc10 (kw (lc s z k))
  have g := yn_g 10 (dj s (lz s z k) (nj s))
  rw [dj_k s _ (by decide) (by decide)] at g
  have g' : s 0 7 ≤ lc s z k 0 7 := g
  refine ⟨w2, ?_⟩
  split
  · show 0 ≤ jpc 10 _ ∧ jpc 10 _ ≤ 9999; omega
  · omega
theorem lt_r (w : wf s) (z q : Int) : ∀ k : Nat, 0 ≤ lt s z q k ∧ lt s z q k ≤ 9999 * k
  | 0 => ⟨Int.le_refl _, Int.le_refl _⟩
  | k + 1 => by
    have ih := lt_r w z q k
    have h := (lc_r w z q k).2
    rw [lt]
    omega
end Lots

-- The machine's memory as cells. ad: the address of each place.
def jix (k i c : Nat) : Nat := match k with
  | 0 => 6 * i + c
  | 1 => 24 + c
  | 2 => 28 + c
  | 4 => 200 + i
  | _ => 100 + i
def jplc (q : Nat) : Nat × Nat × Nat := if q < 24 then (0, q / 6, q % 6) else if q < 28 then (1, 0, q - 24) else (2, 0, q - 28)
def jok (k i c : Nat) : Prop := (k = 0 ∧ i < 4 ∧ c < 6) ∨ (k = 1 ∧ i = 0 ∧ c < 4) ∨ (k = 2 ∧ i = 0 ∧ c = 0)
def jokr (q : Nat × Nat × Nat) : Prop := jok q.1 q.2.1 q.2.2 ∨ (q.1 = 9 ∧ q.2.1 < 5 ∧ q.2.2 = 0) ∨ q = (4, 0, 0)
def jvk : jV → Prop
  | .inl x => jr x
  | .inr (.inl x) => jrl x
  | .inr (.inr q) => jokr q
def jMr (M : jM) : Prop := ∀ k i c j, jr (M k i c j)
def jva (ad : Nat → Nat) : jV → Value
  | .inl x => .int (Int32.ofInt x)
  | .inr (.inl x) => .long (Int64.ofInt x)
  | .inr (.inr (k, i, c)) => .ref (ad (jix k i c))
def jfv (ad : Nat → Nat) (M : jM) (k i c : Nat) (fs : List jF) (n : Nat) : Value := match fs.getD n jfi with
  | .inl _ => .int (Int32.ofInt (M k i c n))
  | .inr g => jva ad (.inr (.inr (g i)))
def jcell (cI cZ : ClassId) (ad : Nat → Nat) (M : jM) : Nat × Nat × Nat → va_E
  | (k, i, c) => match jshp k c with
    | .inl n => .inl (cI, n, .inl (fun j => Int32.ofInt (M k i c j)))
    | .inr (.inl n) => .inl (cZ, n, .inl (fun j => Int32.ofInt (M k i c j)))
    | .inr (.inr ci) => .inr (ci, (List.range (jfs ci).length).map (jfv ad M k i c (jfs ci)))
def jws (cI cZ : ClassId) (ad : Nat → Nat) (M : jM) : va_W := (List.range 29).map (fun q => (ad q, jcell cI cZ ad M (jplc q)))
def jA (ad : Nat → Nat) (sz : Nat) : Nat → Prop := fun q => (∃ k, k < 29 ∧ q = ad k) ∨ sz ≤ q
theorem jok_ix {k i c : Nat} (h : jok k i c) : jix k i c < 29 ∧ jplc (jix k i c) = (k, i, c) := by
  rcases h with ⟨rfl, h1, h2⟩ | ⟨rfl, rfl, h2⟩ | ⟨rfl, rfl, rfl⟩
  · refine ⟨by show 6 * i + c < 29; omega, ?_⟩
    show jplc (6 * i + c) = _
    unfold jplc
    rw [if_pos (by omega), show (6 * i + c) / 6 = i by omega, show (6 * i + c) % 6 = c by omega]
  · refine ⟨by show 24 + c < 29; omega, ?_⟩
    show jplc (24 + c) = _
    unfold jplc
    rw [if_neg (by omega), if_pos (by omega), show 24 + c - 24 = c by omega]
  · exact ⟨by decide, rfl⟩
theorem jplc_ok {q : Nat} (h : q < 29) : jok (jplc q).1 (jplc q).2.1 (jplc q).2.2 ∧ jix (jplc q).1 (jplc q).2.1 (jplc q).2.2 = q := by
  unfold jplc
  by_cases h1 : q < 24
  · rw [if_pos h1]
    exact ⟨Or.inl ⟨rfl, by show q / 6 < 4; omega, by show q % 6 < 6; omega⟩, by show 6 * (q / 6) + q % 6 = q; omega⟩
  · rw [if_neg h1]
    by_cases h2 : q < 28
    · rw [if_pos h2]
      exact ⟨Or.inr (Or.inl ⟨rfl, rfl, by show q - 24 < 4; omega⟩), by show 24 + (q - 24) = q; omega⟩
    · rw [if_neg h2]
      exact ⟨Or.inr (Or.inr ⟨rfl, rfl, by show q - 28 = 0; omega⟩), by show 28 + (q - 28) = q; omega⟩
theorem jws_len (cI cZ : ClassId) (ad : Nat → Nat) (M : jM) : (jws cI cZ ad M).length = 29 := by simp [jws]
theorem jws_get (cI cZ : ClassId) (ad : Nat → Nat) (M : jM) {q : Nat} (h : q < 29) : (jws cI cZ ad M)[q]? = some (ad q, jcell cI cZ ad M (jplc q)) := by
  simp [jws, List.getElem?_map, List.getElem?_range h]
theorem jws_at (cI cZ : ClassId) (ad : Nat → Nat) (M : jM) {k i c : Nat} (h : jok k i c) : (jws cI cZ ad M)[jix k i c]? = some (ad (jix k i c), jcell cI cZ ad M (k, i, c)) := by
  rw [jws_get cI cZ ad M (jok_ix h).1, (jok_ix h).2]
theorem jws_inv {cI cZ : ClassId} {ad : Nat → Nat} {M : jM} {k : Nat} {q : Nat × va_E} (h : (jws cI cZ ad M)[k]? = some q) : k < 29 ∧ q.1 = ad k := by
  have hk : k < 29 := by
    have := (List.getElem?_eq_some_iff.mp h).1
    rwa [jws_len] at this
  rw [jws_get cI cZ ad M hk] at h
  cases h
  exact ⟨hk, rfl⟩
theorem jupd_at (M : jM) (k i c j : Nat) (x : Int) : jupd M k i c j x k i c j = x := by simp [jupd]
theorem jupd_j (M : jM) (k i c j : Nat) (x : Int) {j' : Nat} (h : j' ≠ j) : jupd M k i c j x k i c j' = M k i c j' := by simp [jupd, h]
theorem jupd_n (M : jM) {k i c j : Nat} {x : Int} {k' i' c' j' : Nat} (h : (k', i', c') ≠ (k, i, c)) : jupd M k i c j x k' i' c' j' = M k' i' c' j' := by
  unfold jupd
  rw [if_neg]
  rintro ⟨rfl, rfl, rfl, -⟩
  exact h rfl
theorem jcell_ne (cI cZ : ClassId) (ad : Nat → Nat) {M M' : jM} {q : Nat × Nat × Nat} (h : ∀ j, M q.1 q.2.1 q.2.2 j = M' q.1 q.2.1 q.2.2 j) : jcell cI cZ ad M q = jcell cI cZ ad M' q := by
  obtain ⟨k, i, c⟩ := q
  have h2 : M k i c = M' k i c := funext h
  unfold jcell
  dsimp only
  have h3 : ∀ fs n, jfv ad M k i c fs n = jfv ad M' k i c fs n := fun fs n => by unfold jfv; rw [h2]
  rw [h2, show jfv ad M k i c = jfv ad M' k i c from funext fun fs => funext fun n => h3 fs n]
theorem jws_set (cI cZ : ClassId) (ad : Nat → Nat) (M : jM) {k i c j : Nat} {x : Int} (h : jok k i c) : (jws cI cZ ad M).set (jix k i c) (ad (jix k i c), jcell cI cZ ad (jupd M k i c j x) (k, i, c)) = jws cI cZ ad (jupd M k i c j x) := by
  obtain ⟨h1, h2⟩ := jok_ix h
  apply List.ext_getElem?
  intro q
  by_cases hq : q < 29
  · rw [jws_get _ _ _ (jupd M k i c j x) hq]
    by_cases e : jix k i c = q
    · subst e
      rw [List.getElem?_set_self (by rw [jws_len]; exact h1), h2]
    · rw [List.getElem?_set_ne e, jws_get _ _ _ _ hq]
      refine congrArg (fun z => some (ad q, z)) (jcell_ne cI cZ ad fun j' => ?_)
      refine (jupd_n M ?_).symm
      intro z
      have hz := (jplc_ok hq).2
      apply e
      rw [← hz]
      have z' : jplc q = (k, i, c) := z
      rw [z']
  · rw [List.getElem?_eq_none (by rw [List.length_set, jws_len]; omega), List.getElem?_eq_none (by rw [jws_len]; omega)]
theorem jMr_upd {M : jM} {k i c j : Nat} {x : Int} (h : jMr M) (hx : jr x) : jMr (jupd M k i c j x) := by
  intro a b d e
  unfold jupd
  split
  · exact hx
  · exact h a b d e
theorem jA_of {cI cZ : ClassId} {ad : Nat → Nat} {M : jM} {sz : Nat} {k : Nat} {q : Nat × va_E} (h : (jws cI cZ ad M)[k]? = some q) : jA ad sz q.1 := Or.inl ⟨k, (jws_inv h).1, (jws_inv h).2⟩
theorem jD {cI cZ : ClassId} {ad : Nat → Nat} {M : jM} {sz : Nat} (hi : ∀ i j, i < 29 → j < 29 → ad i = ad j → i = j) : va_D (jA ad sz) (jws cI cZ ad M) := by
  refine ⟨fun i j p q hp hq e => ?_, fun k q h => jA_of h⟩
  obtain ⟨h1, h2⟩ := jws_inv hp
  obtain ⟨h3, h4⟩ := jws_inv hq
  exact hi i j h1 h3 (by rw [← h2, ← h4]; exact e)
-- the numbers
theorem jr_t {x : Int} (h : jr x) : (Int32.ofInt x).toInt = x := Int32.toInt_ofInt_of_le h.1 h.2
theorem jrl_wr (x : Int) : Int64.ofInt (jwrl x) = Int64.ofInt x ∧ jrl (jwrl x) := ⟨Int64.ofInt_toInt _, Int64.le_toInt _, Int64.toInt_lt _⟩
theorem jrl_t {x : Int} (h : jrl x) : (Int64.ofInt x).toInt = x := Int64.toInt_ofInt_of_le h.1 h.2
theorem jr_r (x : Int32) : jr x.toInt := ⟨Int32.le_toInt x, Int32.toInt_lt x⟩
theorem jrl_r (x : Int64) : jrl x.toInt := ⟨Int64.le_toInt x, Int64.toInt_lt x⟩
theorem jr_o (x : Int32) : Int32.ofInt x.toInt = x := Int32.ofInt_toInt x
theorem jr_lt {x y : Int} (hx : jr x) (hy : jr y) : Int32.ofInt x < Int32.ofInt y ↔ x < y := by rw [Int32.lt_iff_toInt_lt, jr_t hx, jr_t hy]
theorem jr_le {x y : Int} (hx : jr x) (hy : jr y) : Int32.ofInt x ≤ Int32.ofInt y ↔ x ≤ y := by rw [Int32.le_iff_toInt_le, jr_t hx, jr_t hy]
theorem jr_eq {x y : Int} (hx : jr x) (hy : jr y) : Int32.ofInt x = Int32.ofInt y ↔ x = y := by rw [← Int32.toInt_inj, jr_t hx, jr_t hy]
theorem jrl_lt {x y : Int} (hx : jrl x) (hy : jrl y) : Int64.ofInt x < Int64.ofInt y ↔ x < y := by rw [Int64.lt_iff_toInt_lt, jrl_t hx, jrl_t hy]
theorem jrl_eq {x y : Int} (hx : jrl x) (hy : jrl y) : Int64.ofInt x = Int64.ofInt y ↔ x = y := by rw [← Int64.toInt_inj, jrl_t hx, jrl_t hy]
theorem jr_0 : jr 0 := ⟨by decide, by decide⟩
theorem jr_o0 : (0 : Int32) = Int32.ofInt 0 := rfl
theorem jr_cl {x : Int} (h : jr x) : (Int32.ofInt x).toNatClampNeg = x.toNat := by show (Int32.ofInt x).toInt.toNat = _; rw [jr_t h]
theorem jr_in {x : Int} {n : Nat} (h : jr x) (h0 : 0 ≤ x) (hn : x < n) : vp_in (Int32.ofInt x) n := by
  rw [vp_in_iff, jr_t h]
  exact ⟨h0, hn⟩

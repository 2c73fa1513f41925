-- A YEAR, in thought alone
/-- the first n places of a row of places are written -/
def pu (s : jT) (c0 : Nat) (f : Nat → Int) (n : Nat) : jT := fun c j => if c = c0 ∧ j < n then f j else s c j
theorem pu_0 (s : jT) (c0 : Nat) (f : Nat → Int) : pu s c0 f 0 = s := by
  funext c j
  unfold pu
  rw [if_neg (by omega)]
theorem pu_s (s : jT) (c0 : Nat) (f : Nat → Int) (n : Nat) : pu s c0 f (n + 1) = su (pu s c0 f n) c0 n (f n) := by
  funext c j
  unfold pu su
  by_cases h : c = c0 ∧ j = n
  · obtain ⟨rfl, rfl⟩ := h
    rw [if_pos ⟨rfl, by omega⟩, if_pos ⟨rfl, rfl⟩]
  · rw [if_neg h]
    by_cases h2 : c = c0 ∧ j < n
    · show _ = if c = c0 ∧ j < n then f j else s c j
      rw [if_pos h2, if_pos ⟨h2.1, by omega⟩]
    · show _ = if c = c0 ∧ j < n then f j else s c j
      rw [if_neg h2, if_neg (by omega)]
theorem pu_k (s : jT) (c0 : Nat) (f : Nat → Int) (n : Nat) (h : f n = s c0 n) : pu s c0 f (n + 1) = pu s c0 f n := by
  rw [pu_s, h]
  funext c j
  unfold su
  by_cases h : c = c0 ∧ j = n
  · obtain ⟨rfl, rfl⟩ := h
    rw [if_pos ⟨rfl, rfl⟩]
    unfold pu
    rw [if_neg (by omega)]
  · rw [if_neg h]
theorem pu_at (s : jT) (c0 : Nat) (f : Nat → Int) {n j : Nat} (h : j < n) : pu s c0 f n c0 j = f j := by unfold pu; rw [if_pos ⟨rfl, h⟩]
theorem pu_ge (s : jT) (c0 : Nat) (f : Nat → Int) {n c j : Nat} (h : n ≤ j) : pu s c0 f n c j = s c j := by unfold pu; rw [if_neg (by omega)]
theorem pu_nc (s : jT) {c0 c : Nat} (f : Nat → Int) {n j : Nat} (h : c ≠ c0) : pu s c0 f n c j = s c j := by unfold pu; rw [if_neg (by omega)]
theorem wf_pu {s : jT} {c : Nat} {f : Nat → Int} (w : wf s) : ∀ n : Nat, (∀ j, j < n → c = 1 ∧ 0 ≤ f j ∧ f j ≤ 5 ∨ c = 2 ∧ 0 ≤ f j ∧ f j ≤ 9 ∨ c = 3 ∧ 0 ≤ f j ∧ f j ≤ 5 ∨ c = 4 ∧ 0 ≤ f j ∧ f j ≤ 20 ∨ c = 5 ∧ (f j = 0 ∨ f j = 1)) → wf (pu s c f n)
  | 0, _ => by rw [pu_0]; exact w
  | n + 1, h => by rw [pu_s]; exact wf_u (wf_pu w n (fun j hj => h j (by omega))) (h n (by omega))
theorem nj_pu {s : jT} {c : Nat} {f : Nat → Int} {n : Nat} (h : c ≠ 0) : nj (pu s c f n) = nj s := by unfold nj; rw [pu_nc s f (by omega)]
def it {α : Type} (f : α → α) : Nat → α → α
  | 0, s => s
  | n + 1, s => it f n (f s)
theorem it_s {α : Type} (f : α → α) : ∀ (n : Nat) (s : α), it f (n + 1) s = f (it f n s)
  | 0, _ => rfl
  | n + 1, s => it_s f n (f s)
theorem it_a {α : Type} (f : α → α) : ∀ (a b : Nat) (s : α), it f (a + b) s = it f b (it f a s)
  | 0, b, s => by rw [Nat.zero_add]; rfl
  | a + 1, b, s => by rw [Nat.add_right_comm]; exact it_a f a b (f s)
/-- an open jar with FOOD -/
def oj (s : jT) (j : Nat) : Prop := 0 < s 4 j ∧ s 5 j = 0
/-- of the first m the jar that is eaten from next; -9 -/
def ne (s : jT) : Nat → Int
  | 0 => -9
  | j + 1 => if (0 < s 4 j ∧ s 5 j = 0) ∧ (ne s j < 0 ∨ s 3 (ne s j).toNat < s 3 j) then (j : Int) else ne s j
/-- one of 1 FOOD is eaten, or one more goes hungry -/
def ea (s : jT) : jT := if ne s (nj s) < 0 then (if s 0 7 < 9999 then su s 0 7 (s 0 7 + 1) else s) else su s 4 (ne s (nj s)).toNat (max 0 (s 4 (ne s (nj s)).toNat - 1))
def sy (s : jT) : jT := pu s 4 (fun j => max 0 (s 4 j - sp (s 1 j) (s 3 j))) (nj s)
/-- A YEAR -/
def ye (s : jT) : jT := it ea (s 0 6).toNat (sy (su s 0 8 (s 0 8 + 1)))
/-- FOOD of the first m that are not SHUT -/
def op (s : jT) : Nat → Int
  | 0 => 0
  | j + 1 => if s 5 j = 0 then op s j + s 4 j else op s j
theorem ne_spec (s : jT) : ∀ m : Nat, (ne s m = -9 ∧ ∀ j, j < m → ¬ oj s j) ∨ ∃ f, f < m ∧ ne s m = (f : Int) ∧ oj s f ∧ ∀ j, j < m → oj s j → s 3 j < s 3 f ∨ (s 3 j = s 3 f ∧ f ≤ j)
  | 0 => Or.inl ⟨rfl, fun j h => by omega⟩
  | m + 1 => by
    have q := ne_spec s m
    rw [ne]
    by_cases h : 0 < s 4 m ∧ s 5 m = 0
    · rcases q with ⟨q1, q2⟩ | ⟨f, q1, q2, q3, q4⟩
      · rw [if_pos ⟨h, Or.inl (by omega)⟩]
        refine Or.inr ⟨m, by omega, rfl, h, fun j hj ho => ?_⟩
        by_cases e : j = m
        · subst e; exact Or.inr ⟨rfl, Nat.le_refl _⟩
        · exact absurd ho (q2 j (by omega))
      · rw [q2]
        by_cases h2 : s 3 (f : Int).toNat < s 3 m
        · rw [if_pos ⟨h, Or.inr h2⟩]
          refine Or.inr ⟨m, by omega, rfl, h, fun j hj ho => ?_⟩
          by_cases e : j = m
          · subst e; exact Or.inr ⟨rfl, Nat.le_refl _⟩
          · have h3 : s 3 f < s 3 m := h2
            rcases q4 j (by omega) ho with z | z
            · exact Or.inl (by omega)
            · exact Or.inl (by omega)
        · rw [if_neg (fun z => by rcases z.2 with z | z; omega; exact h2 z)]
          refine Or.inr ⟨f, by omega, rfl, q3, fun j hj ho => ?_⟩
          by_cases e : j = m
          · subst e
            have h3 : ¬ s 3 f < s 3 j := h2
            omega
          · exact q4 j (by omega) ho
    · rw [if_neg (fun z => h z.1)]
      rcases q with ⟨q1, q2⟩ | ⟨f, q1, q2, q3, q4⟩
      · refine Or.inl ⟨q1, fun j hj ho => ?_⟩
        by_cases e : j = m
        · subst e; exact h ho
        · exact q2 j (by omega) ho
      · refine Or.inr ⟨f, by omega, q2, q3, fun j hj ho => ?_⟩
        by_cases e : j = m
        · subst e; exact absurd ho h
        · exact q4 j (by omega) ho
/-- the one that is eaten from, told by what it is -/
theorem ne_is {s : jT} {m f : Nat} (hf : f < m) (h : oj s f) (hq : ∀ j, j < m → oj s j → s 3 j < s 3 f ∨ (s 3 j = s 3 f ∧ f ≤ j)) : ne s m = (f : Int) := by
  rcases ne_spec s m with ⟨q1, q2⟩ | ⟨g, q1, q2, q3, q4⟩
  · exact absurd h (q2 f hf)
  · have a := hq g q1 q3
    have b := q4 f hf h
    rw [q2]
    omega
theorem op_ge {s : jT} : ∀ m : Nat, (∀ j, j < m → 0 ≤ s 4 j) → 0 ≤ op s m
  | 0, _ => Int.le_refl 0
  | m + 1, h => by
    have q := op_ge m (fun j hj => h j (by omega))
    have q2 := h m (by omega)
    rw [op]
    split <;> omega
theorem op_le {s : jT} : ∀ m : Nat, (∀ j, j < m → 0 ≤ s 4 j ∧ s 4 j ≤ 20) → op s m ≤ 20 * m
  | 0, _ => Int.le_refl 0
  | m + 1, h => by
    have q := op_le m (fun j hj => h j (by omega))
    have q2 := h m (by omega)
    rw [op]
    split <;> omega
theorem op_0 {s : jT} : ∀ m : Nat, (∀ j, j < m → 0 ≤ s 4 j) → (∀ j, j < m → ¬ oj s j) → op s m = 0
  | 0, _, _ => rfl
  | m + 1, h, h2 => by
    have q := op_0 m (fun j hj => h j (by omega)) (fun j hj => h2 j (by omega))
    have q2 := h m (by omega)
    have q3 := h2 m (by omega)
    unfold oj at q3
    rw [op]
    split <;> omega
theorem op_p {s : jT} {f : Nat} : ∀ m : Nat, (∀ j, j < m → 0 ≤ s 4 j) → f < m → oj s f → 0 < op s m
  | 0, _, h, _ => by omega
  | m + 1, h, hf, ho => by
    have q2 := h m (by omega)
    rw [op]
    by_cases e : f = m
    · subst e
      have q := op_ge f (fun j hj => h j (by omega))
      have ho1 := ho.1
      rw [if_pos ho.2]; omega
    · have q := op_p m (fun j hj => h j (by omega)) (by omega) ho
      split <;> omega
theorem op_e {s s' : jT} : ∀ m : Nat, (∀ j, j < m → s' 4 j = s 4 j ∧ s' 5 j = s 5 j) → op s' m = op s m
  | 0, _ => rfl
  | m + 1, h => by
    rw [op, op, (h m (by omega)).1, (h m (by omega)).2, op_e m (fun j hj => h j (by omega))]
theorem op_su {s : jT} {f : Nat} {v : Int} : ∀ m : Nat, f < m → s 5 f = 0 → op (su s 4 f v) m = op s m - s 4 f + v
  | 0, h, _ => by omega
  | m + 1, h, ho => by
    rw [op, op]
    by_cases e : f = m
    · subst e
      rw [su_nc s v (show (5 : Nat) ≠ 4 by decide), su_at, if_pos ho, if_pos ho, op_e f (s' := su s 4 f v) (s := s) (fun j hj => ⟨su_nj s v (by omega), su_nc s v (by decide)⟩)]
      omega
    · rw [op_su m (by omega) ho, su_nc s v (show (5 : Nat) ≠ 4 by decide), su_nj s v (show m ≠ f by omega)]
      split <;> omega
theorem wf_4 {s : jT} (w : wf s) : ∀ j, j < nj s → 0 ≤ s 4 j ∧ s 4 j ≤ 20 := fun j hj => (w.2.2.2 j (nj_lt hj)).2.2.2.1
theorem op_g {s : jT} (w : wf s) : 0 ≤ op s (nj s) ∧ op s (nj s) ≤ 180 := by
  have a := op_ge (nj s) (fun j hj => (wf_4 w j hj).1)
  have b := op_le (nj s) (fun j hj => wf_4 w j hj)
  have c := nj_9 w
  exact ⟨a, by omega⟩
/-- what of the larder ea leaves as it was -/
theorem ea_k (s : jT) {c j : Nat} (h4 : c ≠ 4) (h7 : ¬ (c = 0 ∧ j = 7)) : ea s c j = s c j := by
  unfold ea
  split
  · split
    · exact su_ne s _ h7
    · rfl
  · exact su_nc s _ h4
theorem nj_ea (s : jT) : nj (ea s) = nj s := by unfold nj; rw [ea_k s (by decide) (by decide)]
theorem wf_ea {s : jT} (w : wf s) : wf (ea s) := by
  unfold ea
  split
  · split
    · have w3 := w.2.2.1
      exact wf_v w (Or.inr (Or.inl ⟨rfl, by omega, by omega⟩))
    · exact w
  · rename_i h
    rcases ne_spec s (nj s) with ⟨q1, q2⟩ | ⟨f, q1, q2, q3, q4⟩
    · omega
    · rw [q2]
      have q := wf_4 w f q1
      have e : (f : Int).toNat = f := rfl
      rw [e]
      exact wf_u w (Or.inr (Or.inr (Or.inr (Or.inl ⟨rfl, by omega, by omega⟩))))
theorem ea_f {s : jT} {f : Nat} (hf : f < nj s) (h : oj s f) (hq : ∀ j, j < nj s → oj s j → s 3 j < s 3 f ∨ (s 3 j = s 3 f ∧ f ≤ j)) : ea s = su s 4 f (s 4 f - 1) := by
  unfold ea
  rw [ne_is hf h hq, if_neg (by omega)]
  have e : (f : Int).toNat = f := rfl
  have h1 := h.1
  rw [e, show max 0 (s 4 f - 1) = s 4 f - 1 by omega]
theorem ea_o {s : jT} (w : wf s) (h : 0 < op s (nj s)) : op (ea s) (nj s) = op s (nj s) - 1 ∧ ea s 0 7 = s 0 7 := by
  rcases ne_spec s (nj s) with ⟨q1, q2⟩ | ⟨f, q1, q2, q3, q4⟩
  · rw [op_0 (nj s) (fun j hj => (wf_4 w j hj).1) q2] at h
    omega
  · rw [ea_f q1 q3 q4]
    exact ⟨by rw [op_su (nj s) q1 q3.2]; omega, su_nc s _ (by decide)⟩
theorem ea_h {s : jT} (w : wf s) (h : op s (nj s) = 0) : ea s = su s 0 7 (min 9999 (s 0 7 + 1)) := by
  have w3 := w.2.2.1
  rcases ne_spec s (nj s) with ⟨q1, q2⟩ | ⟨f, q1, q2, q3, q4⟩
  · unfold ea
    rw [q1, if_pos (by decide)]
    split
    · rw [show min 9999 (s 0 7 + 1) = s 0 7 + 1 by omega]
    · rw [show min 9999 (s 0 7 + 1) = s 0 7 by omega]
      funext c j
      unfold su
      split
      · rename_i e; rw [e.1, e.2]
      · rfl
  · have := op_p (nj s) (fun j hj => (wf_4 w j hj).1) q1 q3
    omega
theorem su_su (s : jT) (c j : Nat) (x y : Int) : su (su s c j x) c j y = su s c j y := by
  funext a b
  unfold su
  split <;> rfl
theorem su_id (s : jT) (c j : Nat) : su s c j (s c j) = s := by
  funext a b
  unfold su
  split
  · rename_i e; rw [e.1, e.2]
  · rfl
theorem su_cm (s : jT) {c j c' j' : Nat} (x y : Int) (h : ¬ (c = c' ∧ j = j')) : su (su s c j x) c' j' y = su (su s c' j' y) c j x := by
  funext a b
  unfold su
  by_cases h1 : a = c' ∧ b = j'
  · rw [if_pos h1]
    by_cases h2 : a = c ∧ b = j
    · exact absurd ⟨h2.1.symm.trans h1.1, h2.2.symm.trans h1.2⟩ h
    · rw [if_neg h2, if_pos h1]
  · rw [if_neg h1]
    by_cases h2 : a = c ∧ b = j
    · rw [if_pos h2, if_pos h2]
    · rw [if_neg h2, if_neg h2, if_neg h1]
theorem nj_it (n : Nat) : ∀ s : jT, nj (it ea n s) = nj s := by
  induction n with
  | zero => exact fun _ => rfl
  | succ n ih => exact fun s => (ih (ea s)).trans (nj_ea s)
theorem wf_it (n : Nat) : ∀ {s : jT}, wf s → wf (it ea n s) := by
  induction n with
  | zero => exact fun w => w
  | succ n ih => exact fun w => ih (wf_ea w)
theorem it_k (n : Nat) : ∀ (s : jT) {c j : Nat}, c ≠ 4 → ¬ (c = 0 ∧ j = 7) → it ea n s c j = s c j := by
  induction n with
  | zero => exact fun _ _ _ _ _ => rfl
  | succ n ih => exact fun s c j h h' => (ih (ea s) h h').trans (ea_k s h h')
/-- as long as there is any, FOOD is eaten, and nobody goes hungry -/
theorem it_o (n : Nat) : ∀ {s : jT}, wf s → (n : Int) ≤ op s (nj s) → op (it ea n s) (nj s) = op s (nj s) - n ∧ it ea n s 0 7 = s 0 7 := by
  induction n with
  | zero => exact fun _ _ => ⟨by show op _ _ = _; simp [it], rfl⟩
  | succ n ih =>
    intro s w h
    obtain ⟨h1, h2⟩ := ea_o w (by omega)
    obtain ⟨h3, h4⟩ := ih (wf_ea w) (by rw [nj_ea, h1]; omega)
    rw [nj_ea] at h3
    exact ⟨by show op (it ea n (ea s)) (nj s) = _; rw [h3, h1]; omega, by show it ea n (ea s) 0 7 = _; rw [h4, h2]⟩
/-- then all go hungry -/
theorem it_h (n : Nat) : ∀ {s : jT}, wf s → op s (nj s) = 0 → it ea n s = su s 0 7 (min 9999 (s 0 7 + n)) := by
  induction n with
  | zero =>
    intro s w h
    have w3 := w.2.2.1
    show s = _
    rw [show min 9999 (s 0 7 + (0 : Nat)) = s 0 7 by omega, su_id]
  | succ n ih =>
    intro s w h
    have w3 := w.2.2.1
    show it ea n (ea s) = _
    have e := ea_h w h
    have hop : op (ea s) (nj (ea s)) = 0 := by
      rw [nj_ea, e, op_e (nj s) (s' := su s 0 7 (min 9999 (s 0 7 + 1))) (s := s) (fun j _ => ⟨su_nc s _ (by decide), su_nc s _ (by decide)⟩), h]
    rw [ih (wf_ea w) hop, e, su_at, su_su, show min 9999 (min 9999 (s 0 7 + 1) + n) = min 9999 (s 0 7 + ((n + 1 : Nat) : Int)) by omega]
/-- what is eaten does not look at HUNGER -/
theorem ne_7 (s : jT) (x : Int) : ∀ m, ne (su s 0 7 x) m = ne s m
  | 0 => rfl
  | m + 1 => by
    rw [ne, ne, ne_7 s x m, su_nc s x (show (4 : Nat) ≠ 0 by decide), su_nc s x (show (5 : Nat) ≠ 0 by decide), su_nc s x (show (3 : Nat) ≠ 0 by decide), su_nc s x (show (3 : Nat) ≠ 0 by decide)]
theorem ea_7 {s : jT} (w : wf s) (x : Int) (h : 0 < op s (nj s)) : ea (su s 0 7 x) = su (ea s) 0 7 x := by
  rcases ne_spec s (nj s) with ⟨q1, q2⟩ | ⟨f, q1, q2, q3, q4⟩
  · rw [op_0 (nj s) (fun j hj => (wf_4 w j hj).1) q2] at h
    omega
  · unfold ea
    rw [nj_su (by decide), ne_7, q2, if_neg (by omega), if_neg (by omega), su_nc s x (show (4 : Nat) ≠ 0 by decide), su_cm s _ _ (by omega)]
theorem it_7 (n : Nat) (x : Int) : ∀ {s : jT}, wf s → (n : Int) ≤ op s (nj s) → it ea n (su s 0 7 x) = su (it ea n s) 0 7 x := by
  induction n with
  | zero => exact fun _ _ => rfl
  | succ n ih =>
    intro s w h
    show it ea n (ea (su s 0 7 x)) = _
    rw [ea_7 w x (by omega)]
    exact ih (wf_ea w) (by rw [nj_ea, (ea_o w (by omega)).1]; omega)
/-- all eaten at once, HUNGER ahead of it -/
theorem it_year {s : jT} (w : wf s) {e : Nat} (he : (e : Int) = min (s 0 6) (op s (nj s))) : it ea (s 0 6).toNat s = it ea e (su s 0 7 (min 9999 (s 0 7 + s 0 6 - e))) := by
  have w2 := w.2.1
  have w3 := w.2.2.1
  have wo := (op_g w).1
  have h1 := it_o e w (by omega)
  rw [it_7 e _ w (by omega)]
  obtain ⟨d, hd⟩ : ∃ d : Nat, (s 0 6).toNat = e + d := ⟨(s 0 6).toNat - e, by omega⟩
  rw [hd, it_a]
  rcases Nat.eq_zero_or_pos d with z | z
  · subst z
    show it ea e s = _
    rw [show min 9999 (s 0 7 + s 0 6 - e) = s 0 7 by omega, ← h1.2, su_id]
  · have hz : op (it ea e s) (nj (it ea e s)) = 0 := by rw [nj_it, h1.1]; omega
    rw [it_h d (wf_it e w) hz, h1.2, show min 9999 (s 0 7 + (d : Int)) = min 9999 (s 0 7 + s 0 6 - e) by omega]
theorem wf_sy {s : jT} (w : wf s) : wf (sy s) := by
  refine wf_pu w _ (fun j hj => Or.inr (Or.inr (Or.inr (Or.inl ⟨rfl, ?_⟩))))
  have q := wf_4 w j hj
  have q2 := sp_r (s 1 j) (s 3 j)
  omega
theorem sy_k (s : jT) {c j : Nat} (h : c ≠ 4) : sy s c j = s c j := pu_nc s _ h
theorem nj_sy (s : jT) : nj (sy s) = nj s := nj_pu (by decide)
theorem ye_k (s : jT) {c j : Nat} (h4 : c ≠ 4) (h7 : ¬ (c = 0 ∧ j = 7)) (h8 : ¬ (c = 0 ∧ j = 8)) : ye s c j = s c j := by
  unfold ye
  rw [it_k _ _ h4 h7, sy_k _ h4, su_ne s _ h8]
theorem ye_8 (s : jT) : ye s 0 8 = s 0 8 + 1 := by
  unfold ye
  rw [it_k _ _ (by decide) (by decide), sy_k _ (by decide), su_at]
theorem nj_ye (s : jT) : nj (ye s) = nj s := by unfold nj; rw [ye_k s (by decide) (by decide) (by decide)]
theorem wf_ye {s : jT} (w : wf s) : wf (ye s) := wf_it _ (wf_sy (wf_v w (Or.inr (Or.inr rfl))))
theorem nj_yn (n : Nat) : ∀ s : jT, nj (it ye n s) = nj s := by
  induction n with
  | zero => exact fun _ => rfl
  | succ n ih => exact fun s => (ih (ye s)).trans (nj_ye s)
theorem wf_yn (n : Nat) : ∀ {s : jT}, wf s → wf (it ye n s) := by
  induction n with
  | zero => exact fun w => w
  | succ n ih => exact fun w => ih (wf_ye w)
theorem yn_k (n : Nat) : ∀ (s : jT) {c j : Nat}, c ≠ 4 → ¬ (c = 0 ∧ j = 7) → ¬ (c = 0 ∧ j = 8) → it ye n s c j = s c j := by
  induction n with
  | zero => exact fun _ _ _ _ _ _ => rfl
  | succ n ih => exact fun s c j h h' h'' => (ih (ye s) h h' h'').trans (ye_k s h h' h'')
theorem yn_8 (n : Nat) : ∀ s : jT, it ye n s 0 8 = s 0 8 + n := by
  induction n with
  | zero => exact fun s => by show s 0 8 = _; omega
  | succ n ih => exact fun s => (ih (ye s)).trans (by rw [ye_8]; omega)
/-- HUNGER only grows -/
theorem ea_g (s : jT) : s 0 7 ≤ ea s 0 7 := by
  unfold ea
  split
  · split
    · rw [su_at]; omega
    · exact Int.le_refl _
  · rw [su_nc s _ (by decide)]; exact Int.le_refl _
theorem it_g (n : Nat) : ∀ s : jT, s 0 7 ≤ it ea n s 0 7 := by
  induction n with
  | zero => exact fun _ => Int.le_refl _
  | succ n ih => exact fun s => Int.le_trans (ea_g s) (ih (ea s))
theorem ye_g (s : jT) : s 0 7 ≤ ye s 0 7 := by
  have h := it_g (s 0 6).toNat (sy (su s 0 8 (s 0 8 + 1)))
  rw [sy_k _ (by decide), su_nj s _ (by decide)] at h
  exact h
theorem yn_g (n : Nat) : ∀ s : jT, s 0 7 ≤ it ye n s 0 7 := by
  induction n with
  | zero => exact fun _ => Int.le_refl _
  | succ n ih => exact fun s => Int.le_trans (ye_g s) (ih (ye s))

-- Calls, side by side: dearest, fullest, leak
def de (s : jT) : Nat → Int
  | 0 => -9
  | j + 1 => if 0 < s 4 j ∧ (de s j < 0 ∨ jpc 10 (al s (de s j).toNat) < jpc 10 (al s j)) then (j : Int) else de s j
def dv (s : jT) (j : Nat) : Int := if de s j < 0 then -9 else jpc 10 (al s (de s j).toNat)
theorem de_or (s : jT) : ∀ j, de s j = -9 ∨ ∃ f, f < j ∧ de s j = (f : Int)
  | 0 => Or.inl rfl
  | j + 1 => by
    rw [de]
    split
    · exact Or.inr ⟨j, by omega, rfl⟩
    · rcases de_or s j with h | ⟨f, h1, h2⟩
      · exact Or.inl h
      · exact Or.inr ⟨f, by omega, h2⟩
theorem jc10 (x : Int) : 0 ≤ jpc 10 x ∧ jpc 10 x ≤ 10 := jc_r 10 x
def fu (s : jT) : Nat → Int
  | 0 => 0
  | k + 1 => if fo s (fu s k) < fo s (k : Int) then (k : Int) else fu s k
def lw (s : jT) (x : Int) : Int := jpc 10 (kb s (bs (fun j => !decide (s 3 j = x)) (nj s)) (nj s))
def lk (s : jT) : Nat → Int
  | 0 => 0
  | k + 1 => if lw s (k : Int) < lw s (lk s k) then (k : Int) else lk s k
section Most
variable {M : jM} {s : jT} {t : Int} {K : Int → jM → Prop} {V : jM → Prop}
theorem p_dearest (H : sim t M s) (ht : t < 1000) : pP t 71 162 [] M := by
  obtain ⟨R, R', w, y⟩ := H.1
  have w1 := w.1
  have hn := nj_n w
  have hz : 0 ≤ (0 : Int) ∧ (0 : Int) < ((54 : Nat) : Int) := ⟨by decide, by decide⟩
  have e := (cR_f R).1
  have e' := (rR_f R').1
  have L : jCall 162 (jR 2 0 0 :: []) M (jqi (en t (de s (nj s)))) := by
    refine vX2_dearest ?_
    have G : ∀ a, a = de s (nj s) → jAt 162 5 [some (jR 2 0 0), some (jI (-9)), some (jI 0)] [] M (jqi (en t a)) := by
      intro a ha
      refine lp_n (X := fun j => jAt 162 5 [some (jR 2 0 0), some (jI (de s j)), some (jI (j : Int))] [] M (jqi (en t a))) (nj s) ?_ ?_
      · refine vX2_dearest_5 ⟨hz, ?_⟩
        rw [e']
        exact jif1 (by omega) (qi_ (by rw [← ha]; exact fin_t H ht jth_rf))
      · intro j hj ih
        have hj' := nj_lt hj
        have hq : jr ((j : Int) + 1) := jr_i (by omega)
        rw [de] at ih
        refine vX2_dearest_5 ⟨hz, ?_⟩
        rw [e']
        refine jif0 (by omega) (q2_hasFood R' w hj' (fun f => jif0 (by decide) ?_) (fun f => jif1 rfl ⟨hq, ?_⟩))
        · rcases de_or s j with h | ⟨g, g1, g2⟩
          · rw [h] at ih ⊢
            rw [if_pos ⟨f, Or.inl (by decide)⟩] at ih
            exact jif1 (by decide) ⟨hq, ih⟩
          · rw [g2] at ih ⊢
            have eg : (g : Int).toNat = g := rfl
            rw [eg] at ih
            have hg : (g : Int) < s 0 5 := by omega
            refine jif0 (by omega) (q2_alone R' w hj' (q2_bits (cs_al (w.2.2.2 j hj')) (q2_alone R' w hg (q2_bits (cs_al (w.2.2.2 g hg)) (jite (fun c => ⟨hq, ?_⟩) (fun c => ⟨hq, ?_⟩))))))
            · rw [if_neg (fun z => by rcases z.2 with q | q <;> omega)] at ih; exact ih
            · rw [if_pos ⟨f, Or.inr (by omega)⟩] at ih; exact ih
        · rw [if_neg (fun z => by have := z.1; omega)] at ih; exact ih
    exact G _ rfl
  refine vX1_dearest ?_
  have G : ∀ a, a = de s (nj s) → jCall 162 (jR 2 0 0 :: []) M (jqi (en t a)) → jAt 71 8 [some (jR 1 0 0), some (jI (-9)), some (jI (-9)), some (jI 0), none] [] M (jqi fun y M1 => jCall 162 (jR 2 0 0 :: []) M1 (jqi (en t y))) := by
    intro a ha L
    refine lp_n (X := fun j => jAt 71 8 [some (jR 1 0 0), some (jI (de s j)), some (jI (dv s j)), some (jI (j : Int)), none] [] M _) (nj s) ?_ ?_
    · exact vX1_dearest_8 (jif1 (by omega) (qi_ (by rw [← ha]; exact L)))
    · intro j hj ih
      have hj' := nj_lt hj
      have hq : jr ((j : Int) + 1) := jr_i (by omega)
      obtain ⟨g1, g2, g3, g4, g5⟩ := cR_j R hj'
      have hb := (jc10 (al s j)).1
      have cv : (0 < s 4 j ∧ (de s j < 0 ∨ jpc 10 (al s (de s j).toNat) < jpc 10 (al s j))) ↔ (0 < s 4 j ∧ dv s j < jpc 10 (al s j)) := by
        unfold dv
        refine and_congr_right fun _ => ?_
        split
        · rename_i q; exact ⟨fun _ => by omega, fun _ => Or.inl q⟩
        · rename_i q; exact ⟨fun z => z.resolve_left q, Or.inr⟩
      have e1 : 0 < s 4 j ∧ dv s j < jpc 10 (al s j) → de s (j + 1) = (j : Int) ∧ dv s (j + 1) = jpc 10 (al s j) := by
        intro z
        have q : de s (j + 1) = (j : Int) := by rw [de, if_pos (cv.mpr z)]
        refine ⟨q, ?_⟩
        unfold dv
        rw [q, if_neg (by omega)]; rfl
      have e2 : ¬ (0 < s 4 j ∧ dv s j < jpc 10 (al s j)) → de s (j + 1) = de s j ∧ dv s (j + 1) = dv s j := by
        intro z
        have q : de s (j + 1) = de s j := by rw [de, if_neg (fun h => z (cv.mp h))]
        refine ⟨q, ?_⟩
        unfold dv
        rw [q]
      refine vX1_dearest_8 (jif0 (by omega) (q0_keptAlone R w hj' ⟨cs_al (w.2.2.2 j hj'), ⟨by omega, by omega⟩, ?_⟩))
      rw [g4]
      refine jite (fun c => ⟨hq, ?_⟩) (fun c => jite (fun d => ⟨hq, ?_⟩) (fun d => ⟨hq, ?_⟩))
      · obtain ⟨a1, a2⟩ := e2 (fun z => by omega)
        rw [a1, a2] at ih; exact ih
      · have d' : jpc 10 (al s j) ≤ dv s j := d
        obtain ⟨a1, a2⟩ := e2 (fun z => by omega)
        rw [a1, a2] at ih; exact ih
      · have d' : ¬ jpc 10 (al s j) ≤ dv s j := d
        obtain ⟨a1, a2⟩ := e1 ⟨by omega, by omega⟩
        rw [a1, a2] at ih; exact ih
  exact G _ rfl L
theorem p_fullest (H : sim t M s) (ht : t < 1000) (x1 : Int) : pP t 72 164 [jI x1] M := by
  obtain ⟨R, R', w, y⟩ := H.1
  have hr : ∀ x, 0 ≤ fo s x ∧ fo s x ≤ 180 := fun x => fi_g w _
  by_cases hc : x1 = 0 ∨ x1 = 1
  · have G : ∀ a, a = (if x1 = 0 then fu s 6 else fo s (fu s 6)) → pP t 72 164 [jI x1] M := by
      intro a ha
      have L : jCall 164 (jR 2 0 0 :: [jI x1]) M (jqi (en t a)) := by
        refine vX2_fullest (q2_isIn (fun _ _ => jif1 (by decide) ?_) (fun z => absurd ⟨by omega, by omega⟩ z))
        refine lp_n (X := fun k => jAt 164 20 [some (jR 2 0 0), some (jI x1), some (jI (fu s k)), some (jI (k : Int))] [] M _) 6 ?_ ?_
        · refine vX2_fullest_20 (jif1 (by decide) (jite (fun z => q2_foodOn R' w (qi_ ?_)) (fun z => qi_ ?_)))
          · rw [if_neg z] at ha; rw [← ha]; exact fin_t H ht jth_rf
          · rw [if_pos (Decidable.not_not.mp z)] at ha; rw [← ha]; exact fin_t H ht jth_rf
        · intro k hk ih
          have hq : jr ((k : Int) + 1) := jr_i (by omega)
          rw [fu] at ih
          refine vX2_fullest_20 (jif0 (by omega) (q2_foodOn R' w (q2_foodOn R' w (jite (fun c => ⟨hq, ?_⟩) (fun c => ⟨hq, ?_⟩)))))
          · rw [if_neg (by omega)] at ih; exact ih
          · rw [if_pos (by omega)] at ih; exact ih
      refine vX1_fullest (q1_isNeither (fun z => absurd hc z) (fun _ => jif1 rfl ?_))
      have h0 := hr 0
      refine vX1_fullest_23 (jif0 (by decide) (q0_foodOn R w (jif0 (show ¬ fo s 0 ≤ -9 by omega) ⟨jr_i (by decide), ?_⟩)))
      have e0 : fu s 1 = 0 := by
        show (if fo s 0 < fo s ((0 : Nat) : Int) then ((0 : Nat) : Int) else 0) = 0
        split <;> rfl
      have T := lp_n (X := fun k => jAt 72 23 [some (jR 1 0 0), some (jI x1), some (jI (fu s (k + 1))), some (jI (fo s (fu s (k + 1)))), some (jI (((k + 1 : Nat)) : Int)), none] [] M (jqi fun y M1 => jCall 164 (jR 2 0 0 :: [jI x1]) M1 (jqi (en t y)))) 5 ?_ ?_
      · rw [show (0 : Nat) + 1 = 1 from rfl, e0] at T
        exact T
      · refine vX1_fullest_23 (jif1 (by decide) (jite (fun z => qi_ ?_) (fun z => qi_ ?_)))
        · rw [if_neg z] at ha; rw [← ha]; exact L
        · rw [if_pos (Decidable.not_not.mp z)] at ha; rw [← ha]; exact L
      · intro k hk ih
        have hq : jr (((k + 1 : Nat) : Int) + 1) := jr_i (by omega)
        have ef : fu s (k + 1 + 1) = if fo s (fu s (k + 1)) < fo s ((k + 1 : Nat) : Int) then ((k + 1 : Nat) : Int) else fu s (k + 1) := rfl
        rw [ef] at ih
        refine vX1_fullest_23 (jif0 (by omega) (q0_foodOn R w (jite (fun c => ⟨hq, ?_⟩) (fun c => ⟨hq, ?_⟩))))
        · have c' : fo s ((k + 1 : Nat) : Int) ≤ fo s (fu s (k + 1)) := c
          rw [if_neg (by omega)] at ih; exact ih
        · have c' : ¬ fo s ((k + 1 : Nat) : Int) ≤ fo s (fu s (k + 1)) := c
          rw [if_pos (by omega)] at ih; exact ih
    exact G _ rfl
  · have L : jCall 164 (jR 2 0 0 :: [jI x1]) (rfC M 2) (jqi (en t (-((2 : Nat) : Int)))) := vX2_fullest (q2_isIn (fun _ _ => by omega) (fun _ => jif0 (by decide) (fin_r (k := 2) H ht ⟨by decide, by decide⟩)))
    exact vX1_fullest (q1_isNeither (fun _ => jif0 (by decide) (q1_refuse (k := 2) H ⟨by decide, by decide⟩ (qi_ L))) (fun z => absurd z hc))
theorem p_leak (H : sim t M s) (ht : t < 1000) (x1 : Int) : pP t 74 167 [jI x1] M := by
  obtain ⟨R, R', w, y⟩ := H.1
  have hr : ∀ x, 0 ≤ lw s x ∧ lw s x ≤ 10 := fun x => jc10 _
  by_cases hc : x1 = 0 ∨ x1 = 1
  · have G : ∀ a, a = (if x1 = 0 then lk s 6 else lw s (lk s 6)) → pP t 74 167 [jI x1] M := by
      intro a ha
      have L : jCall 167 (jR 2 0 0 :: [jI x1]) M (jqi (en t a)) := by
        refine vX2_leak (q2_isIn (fun _ _ => jif1 (by decide) ?_) (fun z => absurd ⟨by omega, by omega⟩ z))
        refine lp_n (X := fun k => jAt 167 20 [some (jR 2 0 0), some (jI x1), some (jI (lk s k)), some (jI (k : Int))] [] M _) 6 ?_ ?_
        · refine vX2_leak_20 (jif1 (by decide) (jite (fun z => q2_leftWithout R' w (qi_ ?_)) (fun z => qi_ ?_)))
          · rw [if_neg z] at ha; rw [show jpc 10 (kb s (bs (fun j => !decide (s 3 j = lk s 6)) (nj s)) (nj s)) = a from ha.symm]; exact fin_t H ht jth_rf
          · rw [if_pos (Decidable.not_not.mp z)] at ha; rw [← ha]; exact fin_t H ht jth_rf
        · intro k hk ih
          have hq : jr ((k : Int) + 1) := jr_i (by omega)
          rw [lk] at ih
          refine vX2_leak_20 (jif0 (by omega) (q2_leftWithout R' w (q2_leftWithout R' w (jite (fun c => ⟨hq, ?_⟩) (fun c => ⟨hq, ?_⟩)))))
          · have c' : lw s (lk s k) ≤ lw s k := c
            rw [if_neg (by omega)] at ih; exact ih
          · have c' : ¬ lw s (lk s k) ≤ lw s k := c
            rw [if_pos (by omega)] at ih; exact ih
      refine vX1_leak (q1_isNeither (fun z => absurd hc z) (fun _ => jif1 rfl ?_))
      have h0 := hr 0
      have ck : ∀ x, cs (kb s x (nj s)) := fun x => cs_kb w x _ (Nat.le_refl _)
      refine vX1_leak_22 (jif0 (by decide) (q0_jarsNotOn R w (q0_keptBy R w ⟨ck _, jif0 (show ¬ 11 ≤ lw s 0 by omega) ⟨jr_i (by decide), ?_⟩⟩)))
      have e0 : lk s 1 = 0 := by
        show (if lw s ((0 : Nat) : Int) < lw s 0 then ((0 : Nat) : Int) else 0) = 0
        split <;> rfl
      have T := lp_n (X := fun k => jAt 74 22 [some (jR 1 0 0), some (jI x1), some (jI (lk s (k + 1))), some (jI (lw s (lk s (k + 1)))), some (jI (((k + 1 : Nat)) : Int)), none] [] M (jqi fun y M1 => jCall 167 (jR 2 0 0 :: [jI x1]) M1 (jqi (en t y)))) 5 ?_ ?_
      · rw [show (0 : Nat) + 1 = 1 from rfl, e0] at T
        exact T
      · refine vX1_leak_22 (jif1 (by decide) (jite (fun z => qi_ ?_) (fun z => qi_ ?_)))
        · rw [if_neg z] at ha; rw [← ha]; exact L
        · rw [if_pos (Decidable.not_not.mp z)] at ha; rw [← ha]; exact L
      · intro k hk ih
        have hq : jr (((k + 1 : Nat) : Int) + 1) := jr_i (by omega)
        have ef : lk s (k + 1 + 1) = if lw s ((k + 1 : Nat) : Int) < lw s (lk s (k + 1)) then ((k + 1 : Nat) : Int) else lk s (k + 1) := rfl
        rw [ef] at ih
        refine vX1_leak_22 (jif0 (by omega) (q0_jarsNotOn R w (q0_keptBy R w ⟨ck _, jite (fun c => ⟨hq, ?_⟩) (fun c => ⟨hq, ?_⟩)⟩)))
        · have c' : lw s (lk s (k + 1)) ≤ lw s ((k + 1 : Nat) : Int) := c
          rw [if_neg (by omega)] at ih; exact ih
        · have c' : ¬ lw s (lk s (k + 1)) ≤ lw s ((k + 1 : Nat) : Int) := c
          rw [if_pos (by omega)] at ih; exact ih
    exact G _ rfl
  · have L : jCall 167 (jR 2 0 0 :: [jI x1]) (rfC M 2) (jqi (en t (-((2 : Nat) : Int)))) := vX2_leak (q2_isIn (fun _ _ => by omega) (fun _ => jif0 (by decide) (fin_r (k := 2) H ht ⟨by decide, by decide⟩)))
    exact vX1_leak (q1_isNeither (fun _ => jif0 (by decide) (q1_refuse (k := 2) H ⟨by decide, by decide⟩ (qi_ L))) (fun z => absurd z hc))
end Most

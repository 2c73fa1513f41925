-- whole_start: an object and an array are made, then the law runs over the small machine; then the skeleton's end
def lwAd (lst : List Nat) (adK : Nat → Nat) (b : Nat) (k : Nat) : Nat := if k < 100 then lst.getD k 0 else if k < 200 then adK (k - 100) else b
def lwM0 : jM := fun k i c j => if k = 0 ∧ c = 0 ∧ j = 6 then 3 else 0
def lwS0 : jT := fun c j => if c = 0 ∧ j = 6 then 3 else 0
theorem lwMr : jMr lwM0 := by
  intro k i c j
  unfold lwM0
  split
  · exact ⟨by decide, by decide⟩
  · exact ⟨by decide, by decide⟩
theorem lwSim : sim 0 lwM0 lwS0 := by
  have v : ∀ j : Nat, ¬ ((j : Int) < 0) := fun j => by omega
  refine ⟨⟨fun f h1 h2 => ?_, fun c j _ _ h => absurd h (v j)⟩, ⟨⟨by decide, by decide⟩, ⟨by decide, by decide⟩, ⟨by decide, by decide⟩, fun j h => absurd h (v j)⟩, fun j hj => ⟨Int.le_refl 0, Int.le_refl 0⟩, by decide⟩
  rcases (show f = 5 ∨ f = 6 ∨ f = 7 ∨ f = 8 by omega) with rfl | rfl | rfl | rfl <;> rfl
theorem vk_Sc {len : List Nat} {byt : List (List Int32)} {adK adK' adV : Nat → Nat} {A : Nat → Prop} {U : State} {H : Heap} (h : vk_S 5 len byt adK adV A U H) (hk : ∀ k, k < 5 → adK' k = adK k) : vk_S 5 len byt adK' adV A U H :=
  ⟨fun i hi => by rw [hk i hi]; exact h.1 i hi, fun i j hi hj e => h.2 i j hi hj (by rw [hk i hi, hk j hj] at e; exact e)⟩
theorem lw_go {p : Program} {l : Launch} {e : Env} {s : State} {m : MethodId} {below : List Frame} {meth : Method} {c : Code} {b L : Nat} {xs : Nat → Int32} {D : va_G} {cI cZ : ClassId} {adK adV : Nat → Nat} {lst : List Nat} {a0 v0 : Nat} {H : Heap} {locs : List Loc} {ls : Array Slot} (hL : L ≤ 260) (C0 : lw_At p s m meth c b L xs) (hK : va_K D vwCl (lwKK cI cZ) s)
    (hN : va_Nw (.methodLinkNest RX0 55 yX1_hasBit RX1) s) (hR : ∀ k, k < 5 → vk_R (jcn (jsw k)) (jsx k) (jtx k) (adK k) s) (hV : vk_S 5 jslL jstL adK adV (fun q : Nat => s.heap.size ≤ q) s s.heap) (hZ : va_Z "java/lang/String" "COMPACT_STRINGS" "Z" (.int 1) (fun q : Nat => s.heap.size ≤ q) s s.heap) (hF : va_Zq "jdk/internal/util/Preconditions" "SIOOBE_FORMATTER" "Ljava/util/function/BiFunction;" (fun q : Nat => s.heap.size ≤ q) s s.heap)
    (hP : va_P D vwCl (jws cI cZ (lwAd lst adK b) lwM0) H) (hD : va_D (fun q : Nat => s.heap.size ≤ q) (jws cI cZ (lwAd lst adK b) lwM0)) (hS : va_S (fun q : Nat => s.heap.size ≤ q) s.heap H locs) (hl : lv_has ls 22 [(2, .ref v0), (1, .ref a0), (0, .ref b)]) (ha : lwAd lst adK b 24 = a0) (hv0 : lwAd lst adK b 28 = v0) : W p l e room_1 s m #[Value.ref b] below meth c H locs 29 409 (lw_Z below #[Value.ref b] s) (F0 m 13 ls []) := by
  have hge : ∀ k, k < 29 → s.heap.size ≤ lwAd lst adK b k := fun k hk => hD.2 k _ (jws_get cI cZ (lwAd lst adK b) lwM0 hk)
  have hinj : ∀ i j, i < 29 → j < 29 → lwAd lst adK b i = lwAd lst adK b j → i = j := fun i j h1 h2 z => hD.1 i j _ _ (jws_get cI cZ (lwAd lst adK b) lwM0 h1) (jws_get cI cZ (lwAd lst adK b) lwM0 h2) z
  have hin : ∀ q, jA (lwAd lst adK b) s.heap.size q → s.heap.size ≤ q := by
    rintro q (⟨k, h1, rfl⟩ | h)
    · exact hge k h1
    · exact h
  have hk : ∀ k, k < 5 → lwAd lst adK b (100 + k) = adK k := by
    intro k hk5
    unfold lwAd
    rw [if_neg (by omega), if_pos (by omega), show 100 + k - 100 = k by omega]
  have hb2 : lwAd lst adK b 200 = b := by
    unfold lwAd
    rw [if_neg (by omega), if_neg (by omega)]
  have hbl : b < s.heap.size := C0.2.2.2.2.2.2.2.1
  have hX : va_X b L xs s s.heap := C0.2.2.2.2.2.2.1
  have hE : jE (lwAd lst adK b) adV (jA (lwAd lst adK b) s.heap.size) s s.heap := by
    refine ⟨hN, fun k hk5 => ?_, ?_, hZ.narrow hin, hF.narrow hin, L, xs, hL, ?_, ?_, fun z => ?_⟩
    · rw [hk k hk5]
      exact hR k hk5
    · exact vk_Sc (hV.narrow hin) hk
    · rw [hb2]; exact hX
    · rw [hb2]; exact hbl
    · have q := hin _ z
      rw [hb2] at q
      omega
  have E : lwE p s m meth c b L xs D cI cZ (lwAd lst adK b) adV := ⟨C0, hK, hE, hinj, hge⟩
  have hS' : va_S (jA (lwAd lst adK b) s.heap.size) s.heap H locs := ⟨hS.1, fun q h1 h2 => hS.2.1 q h1 (fun z => h2 (Or.inr z)), fun q hq => Or.inr (hS.2.2 q hq)⟩
  have run : jAt 89 13 [some (jR 4 0 0), some (jR 1 0 0), some (jR 2 0 0), none, none, none, none, none, none, none, none, none, none, none, none, none, none, none, none, none, none, none] [] lwM0 (fun r _ => r = some (jI 1)) := l_law lwSim rfl rfl rfl rfl (fun _ => rfl)
  have rep : ∀ i, ([some (jR 4 0 0), some (jR 1 0 0), some (jR 2 0 0), none, none, none, none, none, none, none, none, none, none, none, none, none, none, none, none, none, none, none] : jLo).getD (i + 3) none = none := by
    intro i
    have e0 : ([some (jR 4 0 0), some (jR 1 0 0), some (jR 2 0 0), none, none, none, none, none, none, none, none, none, none, none, none, none, none, none, none, none, none, none] : jLo).getD (i + 3) none = (List.replicate 19 (none : Option jV)).getD i none := rfl
    rw [e0, List.getD_eq_getElem?_getD, List.getElem?_replicate]
    split <;> rfl
  refine (run _ (lw_good E)).2 rfl (fun r M' q => q) H locs ls ⟨lwMr, fun i v h => ?_, fun v h => absurd h List.not_mem_nil, hP, hS', hl.1, hl.2.1, rfl, fun i v h => ?_⟩
  · rcases i with _ | _ | _ | i
    · cases h; exact Or.inr (Or.inr rfl)
    · cases h; exact Or.inl (Or.inr (Or.inl ⟨rfl, rfl, by decide⟩))
    · cases h; exact Or.inl (Or.inr (Or.inr ⟨rfl, rfl, rfl⟩))
    · rw [rep i] at h; cases h
  · rcases i with _ | _ | _ | i
    · cases h
      show ls[0]? = some (.val (.ref (lwAd lst adK b 200)))
      rw [hb2]
      exact hl.2.2 (0, .ref b) (by simp)
    · cases h
      show ls[1]? = some (.val (.ref (lwAd lst adK b 24)))
      rw [ha]
      exact hl.2.2 (1, .ref a0) (by simp)
    · cases h
      show ls[2]? = some (.val (.ref (lwAd lst adK b 28)))
      rw [hv0]
      exact hl.2.2 (2, .ref v0) (by simp)
    · rw [rep i] at h; cases h
theorem lw_arr {s : State} {args : Array Value} (h1 : (Cond.arrayClass .int).before args s = true) (h2 : (Cond.arrayClass .boolean).before args s = true) : ∃ cI cZ : ClassId, ∀ (k : Nat) (q : ClassId × FieldType), (lwKK cI cZ)[k]? = some q → ArrOfT s q.1 q.2 ∧ va_RA s q.1 q.2 := by
  obtain ⟨cI, kI, compI, a1, a2, a3⟩ := Cond.arrayClass_spec h1
  obtain ⟨cZ, kZ, compZ, b1, b2, b3⟩ := Cond.arrayClass_spec h2
  refine ⟨cI, cZ, fun k q hq => ?_⟩
  rcases k with _ | _ | k
  · cases hq
    exact ⟨fun n z => ⟨fun k h => (by cases h), kI, a2, compI, a3⟩, a1⟩
  · cases hq
    exact ⟨fun n z => ⟨fun k h => (by cases h), kZ, b2, compZ, b3⟩, b1⟩
  · simp at hq
abbrev lwTm (i : Nat) : Term := Term.string (jcn (jsw i)) (jsx i)
theorem lw_txt {s : State} {b : Nat} (hgv : (Jvm.Cond.and given_1 narrow_1).before #[Value.ref b] s = true) : ∃ adK adV : Nat → Nat, vk_S 5 jslL jstL adK adV (fun q : Nat => s.heap.size ≤ q) s s.heap ∧ ∀ i : Nat, i < 5 → (lwTm i).eval #[Value.ref b] s none [] s = some (.ref (adK i)) := by
  have hs := flat_of_before _ hgv
  refine vk_Sof (tm := lwTm) (fun i hi => ?_) (fun i hi => ?_) (fun i hi => ?_) (fun i hi => ?_) (fun i hi => ?_) (fun i hi j hj => ?_) (fun i j hi hj hij => ?_) (fun a h9 => Nat.not_le.mpr h9)
  · rcases i with _ | _ | _ | _ | _ | i
    all_goals first | decide | omega
  · rcases i with _ | _ | _ | _ | _ | i
    all_goals first | exact hs _ (by decide +kernel) | omega
  · rcases i with _ | _ | _ | _ | _ | i
    all_goals first | exact hs _ (by decide +kernel) | omega
  · rcases i with _ | _ | _ | _ | _ | i
    all_goals first | exact hs _ (by decide +kernel) | omega
  · rcases i with _ | _ | _ | _ | _ | i
    all_goals first | exact hs _ (by decide +kernel) | omega
  · rcases i with _ | _ | _ | _ | _ | i
    · have hj : j < 6 := hj
      rcases (show j = 0 ∨ j = 1 ∨ j = 2 ∨ j = 3 ∨ j = 4 ∨ j = 5 by omega) with rfl | rfl | rfl | rfl | rfl | rfl
      all_goals exact hs _ (by decide +kernel)
    · have hj : j < 2 := hj
      rcases (show j = 0 ∨ j = 1 by omega) with rfl | rfl
      all_goals exact hs _ (by decide +kernel)
    · have hj : j < 3 := hj
      rcases (show j = 0 ∨ j = 1 ∨ j = 2 by omega) with rfl | rfl | rfl
      all_goals exact hs _ (by decide +kernel)
    · have hj : j < 0 := hj
      omega
    · have hj : j < 6 := hj
      rcases (show j = 0 ∨ j = 1 ∨ j = 2 ∨ j = 3 ∨ j = 4 ∨ j = 5 by omega) with rfl | rfl | rfl | rfl | rfl | rfl
      all_goals exact hs _ (by decide +kernel)
    · omega
  · rcases (show i = 0 ∨ i = 1 ∨ i = 2 ∨ i = 3 ∨ i = 4 by omega) with rfl | rfl | rfl | rfl | rfl <;> rcases (show j = 0 ∨ j = 1 ∨ j = 2 ∨ j = 3 ∨ j = 4 by omega) with rfl | rfl | rfl | rfl | rfl
    all_goals first | exact absurd rfl hij | exact Or.inl (hs _ (by decide +kernel)) | exact Or.inr (hs _ (by decide +kernel))
set_option maxHeartbeats 4000000 in
set_option maxRecDepth 100000 in
/-- THE LAW, from its entry -/
theorem whole_start {p : Program} {e : Env} {s : State} {m : MethodId} {below : List Frame} {meth : Method} {c : Code} (l : Launch) (hflags : l.flags = flags0) {b L : Nat} {xs : Nat → Int32} (hL : L ≤ 260) (C0 : lw_At p s m meth c b L xs) : W p l e room_1 s m #[Value.ref b] below meth c s.heap [] 0 0 (lw_Z below #[Value.ref b] s) (entryFrame m ([Value.ref b] : List Value).toArray 22) := by
  obtain ⟨hx, hb, hr, hml, hown, hts0, hX, hbl, hlocks, hgv⟩ := id C0
  have hts : ∀ w ∈ wsL_law, w.before #[Value.ref b] s = true := fun w h => hts0 w (wsL_law_in w h)
  have hown : s.vm.findClass RL = some m.cls := hown
  have hgs := flat_of_before _ hgv
  have hA : ∀ q : Nat, s.heap.size ≤ q → (fun q : Nat => s.heap.size ≤ q) q := fun _ h => h
  obtain ⟨c0, iS0, hKn0⟩ := u_known (C := RX0) (T := TX0) (N := 9) (n := 9) hts inlX0 (hts _ (jp_1 (Cond.instantiable RX0 9) (List.mem_of_getElem? (l := wsL_law_r1) (i := 11) rfl)))
  obtain ⟨c1, iS1, hKn1⟩ := u_known (C := RX1) (T := TX1) (N := 10) (n := 10) hts inlX1 (hts _ (jp_1 (Cond.instantiable RX1 10) (List.mem_of_getElem? (l := wsL_law_r1) (i := 1) rfl)))
  obtain ⟨dC, dI, hKc⟩ : ∃ (dC : Nat → ClassId) (dI : Nat → Nat → Nat), ∀ (k : Nat) (q : vw_C), vwCl[k]? = some q → u_Kn s q.1 q.2.1 q.2.2 (dC k) (dI k) := by
    refine ⟨fun k => if k = 0 then c0 else c1, fun k => if k = 0 then iS0 else iS1, ?_⟩
    intro k q hq
    rcases k with _ | _ | k
    · cases hq; exact hKn0
    · cases hq; exact hKn1
    · simp [vwCl] at hq
  obtain ⟨cI, cZ, hKa⟩ := lw_arr (hts _ (jp_1 (Cond.arrayClass .int) (List.mem_of_getElem? (l := wsL_law_r1) (i := 3) rfl))) (hts _ (jp_2 (Cond.arrayClass .boolean) (List.mem_of_getElem? (l := wsL_law_r2) (i := 7) rfl)))
  obtain ⟨adK, adV, hV, hEv⟩ := lw_txt hgv
  have hR : ∀ k, k < 5 → vk_R (jcn (jsw k)) (jsx k) (jtx k) (adK k) s := by
    intro k hk
    refine vk_R.of (A := #[Value.ref b]) ?_ (hEv k hk)
    rcases k with _ | _ | _ | _ | _ | k
    all_goals first | exact hts0 _ (by decide +kernel) | omega
  have hN : va_Nw (.methodLinkNest RX0 55 yX1_hasBit RX1) s := va_Nw.of rfl (hts0 _ (by decide +kernel))
  have hZ : va_Z "java/lang/String" "COMPACT_STRINGS" "Z" (.int 1) (fun q : Nat => s.heap.size ≤ q) s s.heap := va_Zof (args := #[Value.ref b]) (hts0 _ (by decide +kernel)) (hts0 _ (by decide +kernel)) (va_eqt (hgs (Cond.eq (Term.static "java/lang/String" "COMPACT_STRINGS" "Z") (Term.int 1)) (by decide +kernel))) (fun a h9 => Nat.not_le.mpr h9)
  have hF : va_Zq "jdk/internal/util/Preconditions" "SIOOBE_FORMATTER" "Ljava/util/function/BiFunction;" (fun q : Nat => s.heap.size ≤ q) s s.heap := va_Zqof (args := #[Value.ref b]) (hts0 _ (by decide +kernel)) (hts0 _ (by decide +kernel)) (hgs (Cond.isRef (Term.static "jdk/internal/util/Preconditions" "SIOOBE_FORMATTER" "Ljava/util/function/BiFunction;")) (by decide +kernel)) (fun a h9 => Nat.not_le.mpr h9)
  have hS : va_S (fun q : Nat => s.heap.size ≤ q) s.heap s.heap [] := va_S.rf
  obtain ⟨D, hDe⟩ : ∃ D : va_G, D = (dC, dI) := ⟨_, rfl⟩
  have hK : va_K D vwCl (lwKK cI cZ) s := by rw [hDe]; exact ⟨hKc, hKa⟩
  have hP : va_P D vwCl [] s.heap := fun k q h => by simp at h
  have hD : va_D (fun q : Nat => s.heap.size ≤ q) [] := ⟨fun i j p q h => by simp at h, fun k q h => by simp at h⟩
  have hl := lv_entry ([.ref b]) (n := 22) (Nat.le_of_ble_eq_true rfl)
  rw [lg_entry_eq]
  generalize (lg_sl ([.ref b]) ++ List.replicate (22 - (lg_sl ([.ref b])).length) Slot.unset).toArray = ls at hl ⊢
  have hl : lv_has ls 22 [(0, .ref b)] := hl
  refine va_new (ci := 1) (fs := [.null, .null, .int 0, .null, .null, .null, .int 0, .null, .int 0, .null]) (C := RX1) (T := TX1) (N := 10) hx hb hts inlX1 tyX1 tyX1_ok hown (hts _ (jp_1 (Cond.classLink RL 23 RX1) (List.mem_of_getElem? (l := wsL_law_r1) (i := 0) rfl))) (hts _ (jp_1 (Cond.instantiable RX1 10) (List.mem_of_getElem? (l := wsL_law_r1) (i := 1) rfl))) (hts _ (jp_1 (Cond.initialized RX1) (List.mem_of_getElem? (l := wsL_law_r1) (i := 2) rfl))) hK hP hD hS hA rfl (fun j hj => by rcases (show j = 0 ∨ j = 1 ∨ j = 2 ∨ j = 3 ∨ j = 4 ∨ j = 5 ∨ j = 6 ∨ j = 7 ∨ j = 8 ∨ j = 9 by omega) with rfl | rfl | rfl | rfl | rfl | rfl | rfl | rfl | rfl | rfl <;> rfl) (Nat.le_of_ble_eq_true rfl) (Nat.le_of_ble_eq_true rfl) dL_law_0 (fun a0 H hP hD hS => ?_)
  have hP : va_P D vwCl [(a0, .inr (1, [.null, .null, .int 0, .null, .null, .null, .int 0, .null, .int 0, .null]))] H := hP
  have hD : va_D (fun q : Nat => s.heap.size ≤ q) [(a0, .inr (1, [.null, .null, .int 0, .null, .null, .null, .int 0, .null, .int 0, .null]))] := hD
  refine W.widen (k := 1) (n := 10) (by omega) (by omega) ?_
  refine lv_dup hx hb dL_law_3 rfl ?_
  have hPc := hP.sub (ws' := [(a0, .inr (1, [.null, .null, .int 0, .null, .null, .null, .int 0, .null, .int 0, .null]))]) [0] rfl
  have hDc := hD.sub (ws' := [(a0, .inr (1, [.null, .null, .int 0, .null, .null, .null, .int 0, .null, .int 0, .null]))]) [0] (by decide) rfl
  have hFc := va_free (wc := [(a0, .inr (1, [.null, .null, .int 0, .null, .null, .null, .int 0, .null, .int 0, .null]))]) hD hS hA [0] rfl
  refine va_callv (va_runI (As := []) (rest := [.ref a0]) ⟨hx, hb, hml, hown, hts⟩ (ci_X1 l D cI cZ a0 H.size) (cwI 0 hts lw_gX1 rfl rfl rfl (hts _ (jp_1 (Cond.initialized RX1) (List.mem_of_getElem? (l := wsL_law_r1) (i := 2) rfl))) (hts _ (jp_1 (Cond.methodLink RL 79 yX1_init) (List.mem_of_getElem? (l := wsL_law_r1) (i := 4) rfl))) (hts _ (jp_1 (Cond.instanceMethod yX1_init) (List.mem_of_getElem? (l := wsL_law_r1) (i := 5) rfl))) rfl (by decide +kernel) ⟨Nat.le_of_ble_eq_true rfl, Nat.le_of_ble_eq_true rfl⟩) ⟨fun a U g mk q => by obtain ⟨q0, q1, qP, qK, qD⟩ := q; exact ⟨q0, q1, qP, va_K.moved (u := U) (U := U.calling g mk a) (Vm.Alike.refl U.vm) qK, qD⟩, fun U hU hW => ⟨rfl, by rw [hU], by rw [hU]; exact hPc, va_K.moved hW.alike hK, hDc.weaken (fun _ _ _ _ => trivial)⟩⟩ rfl rfl hl.1 rfl (lv_room (Nat.le_of_ble_eq_true rfl)) dL_law_4 ⟨Nat.le_of_ble_eq_true rfl, Nat.le_of_ble_eq_true rfl⟩) hS (fun q _ h => hFc q h) hFc (fun u t H1 locs ht hvm hw hB hz1 hk1 hS => ?_)
  obtain ⟨o0, s0_1, s0_2, s0_3, s0_4, s0_5, o1, s1_1, s1_2, s1_3, s1_4, s1_5, o2, s2_1, s2_2, s2_3, s2_4, s2_5, o3, s3_1, s3_2, s3_3, s3_4, s3_5, r56, r69, r82, hP1, hD1⟩ := hB
  rw [ht] at hP1
  obtain ⟨hP, hD⟩ := va_join (wr := []) (w1 := [(a0, .inr (1, [.ref o0, .ref o1, .int 0, .ref o2, .ref o3, .ref r56, .int 0, .ref r69, .int 0, .ref r82])), (o0, .inr (0, [.ref s0_1, .ref s0_2, .ref s0_3, .ref s0_4, .ref s0_5, .int 0, .int 3, .int 0, .int 0])), (s0_1, .inl (cI, 9, .inl (fun _ => 0))), (s0_2, .inl (cI, 9, .inl (fun _ => 0))), (s0_3, .inl (cI, 9, .inl (fun _ => 0))), (s0_4, .inl (cI, 9, .inl (fun _ => 0))), (s0_5, .inl (cZ, 9, .inl (fun _ => 0))), (o1, .inr (0, [.ref s1_1, .ref s1_2, .ref s1_3, .ref s1_4, .ref s1_5, .int 0, .int 3, .int 0, .int 0])), (s1_1, .inl (cI, 9, .inl (fun _ => 0))), (s1_2, .inl (cI, 9, .inl (fun _ => 0))), (s1_3, .inl (cI, 9, .inl (fun _ => 0))), (s1_4, .inl (cI, 9, .inl (fun _ => 0))), (s1_5, .inl (cZ, 9, .inl (fun _ => 0))), (o2, .inr (0, [.ref s2_1, .ref s2_2, .ref s2_3, .ref s2_4, .ref s2_5, .int 0, .int 3, .int 0, .int 0])), (s2_1, .inl (cI, 9, .inl (fun _ => 0))), (s2_2, .inl (cI, 9, .inl (fun _ => 0))), (s2_3, .inl (cI, 9, .inl (fun _ => 0))), (s2_4, .inl (cI, 9, .inl (fun _ => 0))), (s2_5, .inl (cZ, 9, .inl (fun _ => 0))), (o3, .inr (0, [.ref s3_1, .ref s3_2, .ref s3_3, .ref s3_4, .ref s3_5, .int 0, .int 3, .int 0, .int 0])), (s3_1, .inl (cI, 9, .inl (fun _ => 0))), (s3_2, .inl (cI, 9, .inl (fun _ => 0))), (s3_3, .inl (cI, 9, .inl (fun _ => 0))), (s3_4, .inl (cI, 9, .inl (fun _ => 0))), (s3_5, .inl (cZ, 9, .inl (fun _ => 0))), (r56, .inl (cI, 96, .inl (fun _ => 0))), (r69, .inl (cI, 16, .inl (fun _ => 0))), (r82, .inl (cI, 7, .inl (fun _ => 0)))]) hP hD [0] [] rfl rfl (by decide) (by decide) hk1 hFc hP1 hD1
  generalize H1 = H at hP hS ⊢
  have hP : va_P D vwCl [(a0, .inr (1, [.ref o0, .ref o1, .int 0, .ref o2, .ref o3, .ref r56, .int 0, .ref r69, .int 0, .ref r82])), (o0, .inr (0, [.ref s0_1, .ref s0_2, .ref s0_3, .ref s0_4, .ref s0_5, .int 0, .int 3, .int 0, .int 0])), (s0_1, .inl (cI, 9, .inl (fun _ => 0))), (s0_2, .inl (cI, 9, .inl (fun _ => 0))), (s0_3, .inl (cI, 9, .inl (fun _ => 0))), (s0_4, .inl (cI, 9, .inl (fun _ => 0))), (s0_5, .inl (cZ, 9, .inl (fun _ => 0))), (o1, .inr (0, [.ref s1_1, .ref s1_2, .ref s1_3, .ref s1_4, .ref s1_5, .int 0, .int 3, .int 0, .int 0])), (s1_1, .inl (cI, 9, .inl (fun _ => 0))), (s1_2, .inl (cI, 9, .inl (fun _ => 0))), (s1_3, .inl (cI, 9, .inl (fun _ => 0))), (s1_4, .inl (cI, 9, .inl (fun _ => 0))), (s1_5, .inl (cZ, 9, .inl (fun _ => 0))), (o2, .inr (0, [.ref s2_1, .ref s2_2, .ref s2_3, .ref s2_4, .ref s2_5, .int 0, .int 3, .int 0, .int 0])), (s2_1, .inl (cI, 9, .inl (fun _ => 0))), (s2_2, .inl (cI, 9, .inl (fun _ => 0))), (s2_3, .inl (cI, 9, .inl (fun _ => 0))), (s2_4, .inl (cI, 9, .inl (fun _ => 0))), (s2_5, .inl (cZ, 9, .inl (fun _ => 0))), (o3, .inr (0, [.ref s3_1, .ref s3_2, .ref s3_3, .ref s3_4, .ref s3_5, .int 0, .int 3, .int 0, .int 0])), (s3_1, .inl (cI, 9, .inl (fun _ => 0))), (s3_2, .inl (cI, 9, .inl (fun _ => 0))), (s3_3, .inl (cI, 9, .inl (fun _ => 0))), (s3_4, .inl (cI, 9, .inl (fun _ => 0))), (s3_5, .inl (cZ, 9, .inl (fun _ => 0))), (r56, .inl (cI, 96, .inl (fun _ => 0))), (r69, .inl (cI, 16, .inl (fun _ => 0))), (r82, .inl (cI, 7, .inl (fun _ => 0)))] H := hP
  have hD : va_D (fun q : Nat => s.heap.size ≤ q) [(a0, .inr (1, [.ref o0, .ref o1, .int 0, .ref o2, .ref o3, .ref r56, .int 0, .ref r69, .int 0, .ref r82])), (o0, .inr (0, [.ref s0_1, .ref s0_2, .ref s0_3, .ref s0_4, .ref s0_5, .int 0, .int 3, .int 0, .int 0])), (s0_1, .inl (cI, 9, .inl (fun _ => 0))), (s0_2, .inl (cI, 9, .inl (fun _ => 0))), (s0_3, .inl (cI, 9, .inl (fun _ => 0))), (s0_4, .inl (cI, 9, .inl (fun _ => 0))), (s0_5, .inl (cZ, 9, .inl (fun _ => 0))), (o1, .inr (0, [.ref s1_1, .ref s1_2, .ref s1_3, .ref s1_4, .ref s1_5, .int 0, .int 3, .int 0, .int 0])), (s1_1, .inl (cI, 9, .inl (fun _ => 0))), (s1_2, .inl (cI, 9, .inl (fun _ => 0))), (s1_3, .inl (cI, 9, .inl (fun _ => 0))), (s1_4, .inl (cI, 9, .inl (fun _ => 0))), (s1_5, .inl (cZ, 9, .inl (fun _ => 0))), (o2, .inr (0, [.ref s2_1, .ref s2_2, .ref s2_3, .ref s2_4, .ref s2_5, .int 0, .int 3, .int 0, .int 0])), (s2_1, .inl (cI, 9, .inl (fun _ => 0))), (s2_2, .inl (cI, 9, .inl (fun _ => 0))), (s2_3, .inl (cI, 9, .inl (fun _ => 0))), (s2_4, .inl (cI, 9, .inl (fun _ => 0))), (s2_5, .inl (cZ, 9, .inl (fun _ => 0))), (o3, .inr (0, [.ref s3_1, .ref s3_2, .ref s3_3, .ref s3_4, .ref s3_5, .int 0, .int 3, .int 0, .int 0])), (s3_1, .inl (cI, 9, .inl (fun _ => 0))), (s3_2, .inl (cI, 9, .inl (fun _ => 0))), (s3_3, .inl (cI, 9, .inl (fun _ => 0))), (s3_4, .inl (cI, 9, .inl (fun _ => 0))), (s3_5, .inl (cZ, 9, .inl (fun _ => 0))), (r56, .inl (cI, 96, .inl (fun _ => 0))), (r69, .inl (cI, 16, .inl (fun _ => 0))), (r82, .inl (cI, 7, .inl (fun _ => 0)))] := hD
  refine W.widen (k := 28) (n := 345) (by omega) (by omega) ?_
  refine lv_astore_n (lv' := [(1, .ref a0), (0, .ref b)]) hx hb dL_law_7 rfl hl (by decide) rfl (fun ls hl => ?_)
  refine lv_bipush (n := 64) (v := 64) hx hb dL_law_8 (by decide) ?_
  refine va_newa (atype := .int) (ty := .int) (N' := 64) (a0 := (64, .inl (fun _ => 0))) hx hb (hts _ (jp_1 (Cond.arrayClass .int) (List.mem_of_getElem? (l := wsL_law_r1) (i := 3) rfl))) rfl hK hP hD hS hA (fun _ => rfl) (by decide) (by decide) (by decide) (Nat.le_of_ble_eq_true rfl) (Nat.le_of_ble_eq_true rfl) dL_law_10 (fun v0 cA H hK9 hP hD hS => ?_)
  obtain rfl : cI = cA := va_Keq (ty := .int) (by first | exact Or.inl rfl | exact Or.inr rfl) hK hK9 0 2 rfl rfl
  have hP : va_P D vwCl [(a0, .inr (1, [.ref o0, .ref o1, .int 0, .ref o2, .ref o3, .ref r56, .int 0, .ref r69, .int 0, .ref r82])), (o0, .inr (0, [.ref s0_1, .ref s0_2, .ref s0_3, .ref s0_4, .ref s0_5, .int 0, .int 3, .int 0, .int 0])), (s0_1, .inl (cI, 9, .inl (fun _ => 0))), (s0_2, .inl (cI, 9, .inl (fun _ => 0))), (s0_3, .inl (cI, 9, .inl (fun _ => 0))), (s0_4, .inl (cI, 9, .inl (fun _ => 0))), (s0_5, .inl (cZ, 9, .inl (fun _ => 0))), (o1, .inr (0, [.ref s1_1, .ref s1_2, .ref s1_3, .ref s1_4, .ref s1_5, .int 0, .int 3, .int 0, .int 0])), (s1_1, .inl (cI, 9, .inl (fun _ => 0))), (s1_2, .inl (cI, 9, .inl (fun _ => 0))), (s1_3, .inl (cI, 9, .inl (fun _ => 0))), (s1_4, .inl (cI, 9, .inl (fun _ => 0))), (s1_5, .inl (cZ, 9, .inl (fun _ => 0))), (o2, .inr (0, [.ref s2_1, .ref s2_2, .ref s2_3, .ref s2_4, .ref s2_5, .int 0, .int 3, .int 0, .int 0])), (s2_1, .inl (cI, 9, .inl (fun _ => 0))), (s2_2, .inl (cI, 9, .inl (fun _ => 0))), (s2_3, .inl (cI, 9, .inl (fun _ => 0))), (s2_4, .inl (cI, 9, .inl (fun _ => 0))), (s2_5, .inl (cZ, 9, .inl (fun _ => 0))), (o3, .inr (0, [.ref s3_1, .ref s3_2, .ref s3_3, .ref s3_4, .ref s3_5, .int 0, .int 3, .int 0, .int 0])), (s3_1, .inl (cI, 9, .inl (fun _ => 0))), (s3_2, .inl (cI, 9, .inl (fun _ => 0))), (s3_3, .inl (cI, 9, .inl (fun _ => 0))), (s3_4, .inl (cI, 9, .inl (fun _ => 0))), (s3_5, .inl (cZ, 9, .inl (fun _ => 0))), (r56, .inl (cI, 96, .inl (fun _ => 0))), (r69, .inl (cI, 16, .inl (fun _ => 0))), (r82, .inl (cI, 7, .inl (fun _ => 0))), (v0, .inl (cI, 64, .inl (fun _ => 0)))] H := hP
  have hD : va_D (fun q : Nat => s.heap.size ≤ q) [(a0, .inr (1, [.ref o0, .ref o1, .int 0, .ref o2, .ref o3, .ref r56, .int 0, .ref r69, .int 0, .ref r82])), (o0, .inr (0, [.ref s0_1, .ref s0_2, .ref s0_3, .ref s0_4, .ref s0_5, .int 0, .int 3, .int 0, .int 0])), (s0_1, .inl (cI, 9, .inl (fun _ => 0))), (s0_2, .inl (cI, 9, .inl (fun _ => 0))), (s0_3, .inl (cI, 9, .inl (fun _ => 0))), (s0_4, .inl (cI, 9, .inl (fun _ => 0))), (s0_5, .inl (cZ, 9, .inl (fun _ => 0))), (o1, .inr (0, [.ref s1_1, .ref s1_2, .ref s1_3, .ref s1_4, .ref s1_5, .int 0, .int 3, .int 0, .int 0])), (s1_1, .inl (cI, 9, .inl (fun _ => 0))), (s1_2, .inl (cI, 9, .inl (fun _ => 0))), (s1_3, .inl (cI, 9, .inl (fun _ => 0))), (s1_4, .inl (cI, 9, .inl (fun _ => 0))), (s1_5, .inl (cZ, 9, .inl (fun _ => 0))), (o2, .inr (0, [.ref s2_1, .ref s2_2, .ref s2_3, .ref s2_4, .ref s2_5, .int 0, .int 3, .int 0, .int 0])), (s2_1, .inl (cI, 9, .inl (fun _ => 0))), (s2_2, .inl (cI, 9, .inl (fun _ => 0))), (s2_3, .inl (cI, 9, .inl (fun _ => 0))), (s2_4, .inl (cI, 9, .inl (fun _ => 0))), (s2_5, .inl (cZ, 9, .inl (fun _ => 0))), (o3, .inr (0, [.ref s3_1, .ref s3_2, .ref s3_3, .ref s3_4, .ref s3_5, .int 0, .int 3, .int 0, .int 0])), (s3_1, .inl (cI, 9, .inl (fun _ => 0))), (s3_2, .inl (cI, 9, .inl (fun _ => 0))), (s3_3, .inl (cI, 9, .inl (fun _ => 0))), (s3_4, .inl (cI, 9, .inl (fun _ => 0))), (s3_5, .inl (cZ, 9, .inl (fun _ => 0))), (r56, .inl (cI, 96, .inl (fun _ => 0))), (r69, .inl (cI, 16, .inl (fun _ => 0))), (r82, .inl (cI, 7, .inl (fun _ => 0))), (v0, .inl (cI, 64, .inl (fun _ => 0)))] := hD
  refine W.widen (k := 29) (n := 409) (by omega) (by omega) ?_
  refine lv_astore_n (lv' := [(2, .ref v0), (1, .ref a0), (0, .ref b)]) hx hb dL_law_12 rfl hl (by decide) rfl (fun ls hl => ?_)
  have hP := hP.sub (ws' := [(o0, .inr (0, [.ref s0_1, .ref s0_2, .ref s0_3, .ref s0_4, .ref s0_5, .int 0, .int 3, .int 0, .int 0])), (s0_1, .inl (cI, 9, .inl (fun _ => 0))), (s0_2, .inl (cI, 9, .inl (fun _ => 0))), (s0_3, .inl (cI, 9, .inl (fun _ => 0))), (s0_4, .inl (cI, 9, .inl (fun _ => 0))), (s0_5, .inl (cZ, 9, .inl (fun _ => 0))), (o1, .inr (0, [.ref s1_1, .ref s1_2, .ref s1_3, .ref s1_4, .ref s1_5, .int 0, .int 3, .int 0, .int 0])), (s1_1, .inl (cI, 9, .inl (fun _ => 0))), (s1_2, .inl (cI, 9, .inl (fun _ => 0))), (s1_3, .inl (cI, 9, .inl (fun _ => 0))), (s1_4, .inl (cI, 9, .inl (fun _ => 0))), (s1_5, .inl (cZ, 9, .inl (fun _ => 0))), (o2, .inr (0, [.ref s2_1, .ref s2_2, .ref s2_3, .ref s2_4, .ref s2_5, .int 0, .int 3, .int 0, .int 0])), (s2_1, .inl (cI, 9, .inl (fun _ => 0))), (s2_2, .inl (cI, 9, .inl (fun _ => 0))), (s2_3, .inl (cI, 9, .inl (fun _ => 0))), (s2_4, .inl (cI, 9, .inl (fun _ => 0))), (s2_5, .inl (cZ, 9, .inl (fun _ => 0))), (o3, .inr (0, [.ref s3_1, .ref s3_2, .ref s3_3, .ref s3_4, .ref s3_5, .int 0, .int 3, .int 0, .int 0])), (s3_1, .inl (cI, 9, .inl (fun _ => 0))), (s3_2, .inl (cI, 9, .inl (fun _ => 0))), (s3_3, .inl (cI, 9, .inl (fun _ => 0))), (s3_4, .inl (cI, 9, .inl (fun _ => 0))), (s3_5, .inl (cZ, 9, .inl (fun _ => 0))), (a0, .inr (1, [.ref o0, .ref o1, .int 0, .ref o2, .ref o3, .ref r56, .int 0, .ref r69, .int 0, .ref r82])), (r56, .inl (cI, 96, .inl (fun _ => 0))), (r69, .inl (cI, 16, .inl (fun _ => 0))), (r82, .inl (cI, 7, .inl (fun _ => 0))), (v0, .inl (cI, 64, .inl (fun _ => 0)))]) [1, 2, 3, 4, 5, 6, 7, 8, 9, 10, 11, 12, 13, 14, 15, 16, 17, 18, 19, 20, 21, 22, 23, 24, 0, 25, 26, 27, 28] rfl
  have hD := hD.sub (ws' := [(o0, .inr (0, [.ref s0_1, .ref s0_2, .ref s0_3, .ref s0_4, .ref s0_5, .int 0, .int 3, .int 0, .int 0])), (s0_1, .inl (cI, 9, .inl (fun _ => 0))), (s0_2, .inl (cI, 9, .inl (fun _ => 0))), (s0_3, .inl (cI, 9, .inl (fun _ => 0))), (s0_4, .inl (cI, 9, .inl (fun _ => 0))), (s0_5, .inl (cZ, 9, .inl (fun _ => 0))), (o1, .inr (0, [.ref s1_1, .ref s1_2, .ref s1_3, .ref s1_4, .ref s1_5, .int 0, .int 3, .int 0, .int 0])), (s1_1, .inl (cI, 9, .inl (fun _ => 0))), (s1_2, .inl (cI, 9, .inl (fun _ => 0))), (s1_3, .inl (cI, 9, .inl (fun _ => 0))), (s1_4, .inl (cI, 9, .inl (fun _ => 0))), (s1_5, .inl (cZ, 9, .inl (fun _ => 0))), (o2, .inr (0, [.ref s2_1, .ref s2_2, .ref s2_3, .ref s2_4, .ref s2_5, .int 0, .int 3, .int 0, .int 0])), (s2_1, .inl (cI, 9, .inl (fun _ => 0))), (s2_2, .inl (cI, 9, .inl (fun _ => 0))), (s2_3, .inl (cI, 9, .inl (fun _ => 0))), (s2_4, .inl (cI, 9, .inl (fun _ => 0))), (s2_5, .inl (cZ, 9, .inl (fun _ => 0))), (o3, .inr (0, [.ref s3_1, .ref s3_2, .ref s3_3, .ref s3_4, .ref s3_5, .int 0, .int 3, .int 0, .int 0])), (s3_1, .inl (cI, 9, .inl (fun _ => 0))), (s3_2, .inl (cI, 9, .inl (fun _ => 0))), (s3_3, .inl (cI, 9, .inl (fun _ => 0))), (s3_4, .inl (cI, 9, .inl (fun _ => 0))), (s3_5, .inl (cZ, 9, .inl (fun _ => 0))), (a0, .inr (1, [.ref o0, .ref o1, .int 0, .ref o2, .ref o3, .ref r56, .int 0, .ref r69, .int 0, .ref r82])), (r56, .inl (cI, 96, .inl (fun _ => 0))), (r69, .inl (cI, 16, .inl (fun _ => 0))), (r82, .inl (cI, 7, .inl (fun _ => 0))), (v0, .inl (cI, 64, .inl (fun _ => 0)))]) [1, 2, 3, 4, 5, 6, 7, 8, 9, 10, 11, 12, 13, 14, 15, 16, 17, 18, 19, 20, 21, 22, 23, 24, 0, 25, 26, 27, 28] (by decide) rfl
  have hP : va_P D vwCl (jws cI cZ (lwAd [o0, s0_1, s0_2, s0_3, s0_4, s0_5, o1, s1_1, s1_2, s1_3, s1_4, s1_5, o2, s2_1, s2_2, s2_3, s2_4, s2_5, o3, s3_1, s3_2, s3_3, s3_4, s3_5, a0, r56, r69, r82, v0] adK b) lwM0) H := hP
  have hD : va_D (fun q : Nat => s.heap.size ≤ q) (jws cI cZ (lwAd [o0, s0_1, s0_2, s0_3, s0_4, s0_5, o1, s1_1, s1_2, s1_3, s1_4, s1_5, o2, s2_1, s2_2, s2_3, s2_4, s2_5, o3, s3_1, s3_2, s3_3, s3_4, s3_5, a0, r56, r69, r82, v0] adK b) lwM0) := hD
  exact lw_go hL C0 hK hN hR hV hZ hF hP hD hS hl rfl rfl
-- ===== YOUR PART ENDS =====
set_option maxHeartbeats 4000000 in
theorem lw_walk (l : Launch) (hflags : l.flags = flags0) (b : Addr) (xs : List Int32) : MetFree l x (headSpec (Jvm.Cond.code x code maxLocals ret :: tables_1) room_1) (lw_P b xs) (fun _ _ _ _ _ => True) lw_Q := by
  refine MetFree.of_bodyS (code := code) (maxLocals := maxLocals) (ret := ret) (by decide) ?_ ?_
  · intro args s m h hn
    obtain ⟨meth, c, h1, h2, h3, h4, h5, h6, -, -⟩ := Cond.code_spec hn (atoms_spec (ws := Jvm.Cond.code x code maxLocals ret :: tables_1) h _ List.mem_cons_self)
    exact ⟨meth, c, h1, h2, h3, h4, h5, h6⟩
  · intro p e s m args below meth c s₁ B hml0 hP _
    obtain ⟨rfl, hx, hbd, hgv⟩ := hP
    obtain ⟨scr, harrAt, hlist, hof, hsmall⟩ := hx
    obtain ⟨hcb, hkn, -, -⟩ := State.arrayAt?_spec harrAt
    have hown : s.vm.findClass R_law = some m.cls := findClass_of_methodNamed B.named
    have hts0 : ∀ c ∈ (Jvm.Cond.code x code maxLocals ret :: tables_1), c.before #[Value.ref b] s = true := atoms_spec (ws := Jvm.Cond.code x code maxLocals ret :: tables_1) B.pre
    have hts : ∀ w ∈ lw_tbl, w.before #[Value.ref b] s = true := k2_hts_sels lw_privs (fun w hw => hts0 w (List.mem_cons_of_mem _ hw)) lw_privs_ok
    have hml : c.maxLocals = 22 := B.maxLocals_eq (hts0 _ List.mem_cons_self)
    have X₀ : Stand p l e room_1 s m #[Value.ref b] below meth c s₁ [] 0 0 := Stand.of_body B
    have hh0 : s₁.heap = s.heap := by rw [B.state]; rfl
    have hsz : scr.slots.size = xs.length := by rw [← Array.length_toList, hlist, List.length_map]
    have hval : ∀ j : Nat, j < xs.length → scr.slots[j]? = some (.int (xs.getD j 0)) := fun j hj => by
      rw [← Array.getElem?_toList, hlist]
      simp [hj]
    have hbl : b < s.heap.size := (Array.getElem?_eq_some_iff.mp hcb).1
    have hX : va_X b xs.length (fun j => xs.getD j 0) s s.heap := ⟨scr, hcb, hof, hkn, hsz, hval⟩
    have K : W p l e room_1 s m #[Value.ref b] below meth c s₁.heap [] 0 0 (lw_Z below #[Value.ref b] s) (entryFrame m ([Value.ref b] : List Value).toArray 22) := by
      rw [hh0]
      exact whole_start l hflags hbd ⟨B.exec, B.bytes, B.returns, hml, hown, hts, hX, hbl, B.notSynchronized, hgv⟩
    obtain ⟨t, a1, o, b1, b2, b3⟩ := K s₁ rfl X₀
    exact ⟨t, o, a1, b1, b2, b3⟩
theorem lw_pre_spec {args : Array Value} {s : State} (h : (Jvm.Cond.and given_1 narrow_1).before args s = true) (hr : rest_1_c.before args s = true) : ∃ (b : Addr) (xs : List Int32), lw_P b xs args s := by
  have hs := flat_of_before _ h
  have hq := flat_of_before _ hr
  have hc : (Cond.count 1).before args s = true := hs _ (by decide +kernel)
  have harr : (Cond.arrayOf (.arg 0) .int).before args s = true := hs _ (by decide +kernel)
  have hle : (Cond.le (.length (.arg 0)) (.int 260)).before args s = true := hs _ (by decide +kernel)
  have hlen : (Cond.isInt (.length (.arg 0))).before args s = true := hq _ (by decide +kernel)
  have hall : (Cond.all (.arg 0) (.isInt (.elem (.arg 0) (.index 0)))).before args s = true := hq _ (by decide +kernel)
  obtain ⟨b, xs, hb, hx⟩ := State.ints_of_pre rfl harr hlen hall
  have hsm : xs.length < 2 ^ 31 := hx.choose_spec.2.2.2
  have hev : (Term.length (.arg 0)).eval args s none [] s = some (.int xs.length.toInt32) := hx.length_eval hb
  have hv := Cond.le_ints hev (show (Term.int 260).eval args s none [] s = some (.int 260) from rfl)
  have hd : xs.length.toInt32 ≤ 260 := by
    simpa [Cond.before, Cond.holds, hv] using hle
  have hN : xs.length ≤ 260 := (Int32.ofNat_le_ofNat hsm (by decide)).mp (show Int32.ofNat xs.length ≤ Int32.ofNat 260 from hd)
  exact ⟨b, xs, Cond.one_arg hc (show args[0]? = some (.ref b) from hb), hx, hN, h⟩
theorem lw_comes (l : Launch) (hflags : l.flags = flags0) : Comes l x (Jvm.Cond.code x code maxLocals ret :: tables_1) room_1 (fun tb e args s => Calls_1 tb e args s ∧ rest_1 tb e args s ∧ Pre_1 tb e args s)
    (fun _ _ args s o t => lw_Q args s o t) := by
  intro p e ha hc hk s m args below hf hfit hheap happ hpre
  obtain ⟨b, xs, hP⟩ := lw_pre_spec hpre.2.2 hpre.2.1
  obtain ⟨k, o, h1, h2, h3, hQ⟩ := lw_walk l hflags b xs p e ha hc hk s m args below hf ((Spec.applies_iff_loose hf).mp happ).1 hP trivial
  exact ⟨k, o, h1, h2, h3, hQ⟩
theorem lw_frame {s t : State} {o : Outcome} {args : Array Value} (h : Framed s o t [] 29 409) :
    Framed s o t (fieldLocs frame_1_writes args s ++ arrayLocs frame_1_arrays args s ++ staticLocs frame_1_statics s) 29 409 := h
theorem lw_limb (L : Cond) (hL : ∀ (args : Array Value) (s t : State), L.after args s (.returned (some (.int 1))) t = true) :
    ArmFor flags0 classFile x code maxLocals ret World_1 tables_1 room_1 Calls_1 rest_1 Pre_1
      (fun tb e a s o t => postC L tb e a s o t ∧ Framed s o t (fieldLocs frame_1_writes a s ++ arrayLocs frame_1_arrays a s ++ staticLocs frame_1_statics s) 29 409) := by
  intro l hflags _ _ p e ha hc hk s m args below hf hfit hheap happ hpre
  obtain ⟨k, o, h1, h2, h3, rfl, hF⟩ := lw_comes l hflags p e ha hc hk s m args below hf hfit hheap happ hpre
  exact ⟨k, _, h1, h2, h3, hL args s _, lw_frame hF⟩
theorem i_vc : Claimed_1_1 ∧ Claimed_1_2 := ⟨lw_limb limb_1_1 (fun args s t => by simp [limb_1_1, Cond.after, Cond.holds, Cond.value]), lw_limb limb_1_2 (fun args s t => Cond.after_iff.mpr (by
  first | (rw [show limb_1_2 = Cond.eq .result (.int 1) from rfl, Cond.eq_ints (x := 1) (y := 1) rfl rfl]; simp; done) | (simp [limb_1_2, Cond.value, Term.eval]; done)))⟩

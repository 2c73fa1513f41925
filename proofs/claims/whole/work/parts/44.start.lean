-- whole_start: two objects are made, then the loop; then the skeleton's end
def lwAd (lst : List Nat) (adK : Nat → Nat) (k : Nat) : Nat := if k < 100 then lst.getD k 0 else adK (k - 100)
def lwM0 : jM := fun k i c j => if k = 0 ∧ c = 0 ∧ j = 6 then 3 else if k = 3 ∧ i = 0 ∧ j = 3 then 3 else 0
def lwS0 : jT := fun c j => if c = 0 ∧ j = 6 then 3 else 0
theorem lwU : upd (fun _ => 0) (3 : Int32).toNatClampNeg 3 = fun j => Int32.ofInt (lwM0 3 0 0 j) := by
  funext j
  have e1 : (3 : Int32).toNatClampNeg = 3 := by decide
  rw [e1]
  unfold upd lwM0
  by_cases h : j = 3
  · subst h; rfl
  · rw [if_neg h, if_neg (by omega), if_neg (by omega)]; rfl
theorem lwMr : jMr lwM0 := by
  intro k i c j
  unfold lwM0
  split
  · exact ⟨by decide, by decide⟩
  · split <;> exact ⟨by decide, by decide⟩
theorem lwSim : sim 0 lwM0 lwS0 := by
  have v : ∀ j : Nat, ¬ ((j : Int) < 0) := fun j => by omega
  refine ⟨⟨⟨fun f h1 h2 => ?_, fun c j _ _ h => absurd h (v j)⟩, ⟨⟨rfl, rfl, rfl, rfl⟩, fun c j _ h => absurd h (v j)⟩, ⟨⟨by decide, by decide⟩, ⟨by decide, by decide⟩, ⟨by decide, by decide⟩, fun j h => absurd h (v j)⟩, ⟨by decide, by decide⟩⟩, ⟨⟨⟨by decide, by decide⟩, rfl, fun j h => absurd h (v j)⟩, ⟨⟨by decide, by decide⟩, rfl, fun j h => absurd h (v j)⟩, fun j hj => ?_, ⟨Or.inl rfl, rfl, fun h => absurd h (by decide)⟩⟩, by omega, by omega⟩
  · rcases (show f = 5 ∨ f = 6 ∨ f = 7 ∨ f = 8 by omega) with rfl | rfl | rfl | rfl <;> rfl
  · exact ⟨rfl, Int.le_refl 0, Int.le_refl 0⟩
theorem lw_go {p : Program} {l : Launch} {e : Env} {s : State} {m : MethodId} {below : List Frame} {meth : Method} {c : Code} {b L : Nat} {xs : Nat → Int32} {D : va_G} {cI cZ : ClassId} {adK adV : Nat → Nat} {lst : List Nat} {a0 b0 : Nat} {H : Heap} {locs : List Loc} {ls : Array Slot} (hL : L ≤ 2560) (C0 : lw_At p s m meth c b L xs) (hK : va_K D vwCl (lwKK cI cZ) s)
    (hN : va_Nw (.methodLinkNest RX0 55 yX1_hasBit RX1) s) (hR : ∀ k, k < 4 → vk_R RX1 (jsx k) (jtx k) (adK k) s) (hV : vk_S 4 jslL jstL adK adV (fun q : Nat => s.heap.size ≤ q) s s.heap) (hZ : va_Z "java/lang/String" "COMPACT_STRINGS" "Z" (.int 1) (fun q : Nat => s.heap.size ≤ q) s s.heap) (hF : va_Zq "jdk/internal/util/Preconditions" "SIOOBE_FORMATTER" "Ljava/util/function/BiFunction;" (fun q : Nat => s.heap.size ≤ q) s s.heap)
    (hP : va_P D vwCl (jws cI cZ (lwAd lst adK) lwM0) H) (hD : va_D (fun q : Nat => s.heap.size ≤ q) (jws cI cZ (lwAd lst adK) lwM0)) (hS : va_S (fun q : Nat => s.heap.size ≤ q) s.heap H locs) (hl : lv_has ls 4 [(3, .int 0), (2, .ref b0), (1, .ref a0), (0, .ref b)]) (ha : lwAd lst adK 24 = a0) (hb0 : lwAd lst adK 28 = b0) : lwW p l e s m below meth c b 18 ls [] H locs := by
  have hge : ∀ k, k < 37 → s.heap.size ≤ lwAd lst adK k := fun k hk => hD.2 k _ (jws_get cI cZ (lwAd lst adK) lwM0 hk)
  have hinj : ∀ i j, i < 37 → j < 37 → lwAd lst adK i = lwAd lst adK j → i = j := fun i j h1 h2 z => hD.1 i j _ _ (jws_get cI cZ (lwAd lst adK) lwM0 h1) (jws_get cI cZ (lwAd lst adK) lwM0 h2) z
  have hin : ∀ q, jA (lwAd lst adK) s.heap.size q → s.heap.size ≤ q := by
    rintro q (⟨k, h1, rfl⟩ | h)
    · exact hge k h1
    · exact h
  have hk : (fun k => lwAd lst adK (100 + k)) = adK := by
    funext k
    unfold lwAd
    rw [if_neg (by omega), show 100 + k - 100 = k by omega]
  have hE : jE (lwAd lst adK) adV (jA (lwAd lst adK) s.heap.size) s s.heap := by
    refine ⟨hN, fun k hk4 => ?_, ?_, hZ.narrow hin, hF.narrow hin⟩
    · have e1 : lwAd lst adK (100 + k) = adK k := congrFun hk k
      rw [e1]
      exact hR k hk4
    · rw [hk]
      exact hV.narrow hin
  have E : lwE p s m meth c b L xs D cI cZ (lwAd lst adK) adV := ⟨C0, hL, hK, hE, hinj, hge⟩
  have hS' : va_S (jA (lwAd lst adK) s.heap.size) s.heap H locs := ⟨hS.1, fun q h1 h2 => hS.2.1 q h1 (fun z => h2 (Or.inr z)), fun q hq => Or.inr (hS.2.2 q hq)⟩
  refine lw_loop E (L + 1) 0 0 (by omega) rfl lwM0 lwS0 H locs ls ?_ lwSim lwMr hP hS' (by omega)
  unfold lwL
  rw [ha, hb0]
  exact lv_sub hl [3, 2, 1, 0] rfl
theorem lw_arr {s : State} {args : Array Value} (h1 : (Cond.arrayClass .int).before args s = true) (h2 : (Cond.arrayClass .boolean).before args s = true) : ∃ cI cZ : ClassId, ∀ (k : Nat) (q : ClassId × FieldType), (lwKK cI cZ)[k]? = some q → ArrOfT s q.1 q.2 ∧ va_RA s q.1 q.2 := by
  obtain ⟨cI, kI, compI, a1, a2, a3⟩ := Cond.arrayClass_spec h1
  obtain ⟨cZ, kZ, compZ, b1, b2, b3⟩ := Cond.arrayClass_spec h2
  refine ⟨cI, cZ, fun k q hq => ?_⟩
  rcases k with _ | _ | k
  · cases hq
    exact ⟨fun n z => ⟨fun k h => (by cases h), kI, a2, compI, a3⟩, a1⟩
  · cases hq
    exact ⟨fun n z => ⟨fun k h => (by cases h), kZ, b2, compZ, b3⟩, b1⟩
  · simp at hq
abbrev lwTm (i : Nat) : Term := Term.string RX1 (jsx i)
theorem lw_txt {s : State} {b : Nat} (hgv : (Jvm.Cond.and given_1 narrow_1).before #[Value.ref b] s = true) : ∃ adK adV : Nat → Nat, vk_S 4 jslL jstL adK adV (fun q : Nat => s.heap.size ≤ q) s s.heap ∧ ∀ i : Nat, i < 4 → (lwTm i).eval #[Value.ref b] s none [] s = some (.ref (adK i)) := by
  have hs := flat_of_before _ hgv
  refine vk_Sof (tm := lwTm) (fun i hi => ?_) (fun i hi => ?_) (fun i hi => ?_) (fun i hi => ?_) (fun i hi => ?_) (fun i hi j hj => ?_) (fun i j hi hj hij => ?_) (fun a h9 => Nat.not_le.mpr h9)
  · rcases i with _ | _ | _ | _ | i
    all_goals first | decide | omega
  · rcases i with _ | _ | _ | _ | i
    all_goals first | exact hs _ (by decide +kernel) | omega
  · rcases i with _ | _ | _ | _ | i
    all_goals first | exact hs _ (by decide +kernel) | omega
  · rcases i with _ | _ | _ | _ | i
    all_goals first | exact hs _ (by decide +kernel) | omega
  · rcases i with _ | _ | _ | _ | i
    all_goals first | exact hs _ (by decide +kernel) | omega
  · rcases i with _ | _ | _ | _ | i
    · have hj : j < 6 := hj
      rcases (show j = 0 ∨ j = 1 ∨ j = 2 ∨ j = 3 ∨ j = 4 ∨ j = 5 by omega) with rfl | rfl | rfl | rfl | rfl | rfl
      all_goals exact hs _ (by decide +kernel)
    · have hj : j < 2 := hj
      rcases (show j = 0 ∨ j = 1 by omega) with rfl | rfl
      all_goals exact hs _ (by decide +kernel)
    · have hj : j < 3 := hj
      rcases (show j = 0 ∨ j = 1 ∨ j = 2 by omega) with rfl | rfl | rfl
      all_goals exact hs _ (by decide +kernel)
    · have hj : j < 0 := hj
      omega
    · omega
  · rcases (show i = 0 ∨ i = 1 ∨ i = 2 ∨ i = 3 by omega) with rfl | rfl | rfl | rfl <;> rcases (show j = 0 ∨ j = 1 ∨ j = 2 ∨ j = 3 by omega) with rfl | rfl | rfl | rfl
    all_goals first | exact absurd rfl hij | exact Or.inl (hs _ (by decide +kernel)) | exact Or.inr (hs _ (by decide +kernel))
set_option maxHeartbeats 4000000 in
set_option maxRecDepth 100000 in
/-- THE LAW, from its entry -/
theorem whole_start {p : Program} {e : Env} {s : State} {m : MethodId} {below : List Frame} {meth : Method} {c : Code} (l : Launch) (hflags : l.flags = flags0) {b L : Nat} {xs : Nat → Int32} (hL : L ≤ 2560) (C0 : lw_At p s m meth c b L xs) : W p l e room_1 s m #[Value.ref b] below meth c s.heap [] 0 0 (lw_Z below #[Value.ref b] s) (entryFrame m ([Value.ref b] : List Value).toArray 4) := by
  obtain ⟨hx, hb, hr, hml, hown, hts0, hX, hbl, hlocks, hgv⟩ := id C0
  have hts : ∀ w ∈ wsL_law, w.before #[Value.ref b] s = true := fun w h => hts0 w (wsL_law_in w h)
  have hown : s.vm.findClass RL = some m.cls := hown
  have hgs := flat_of_before _ hgv
  have hA : ∀ q : Nat, s.heap.size ≤ q → (fun q : Nat => s.heap.size ≤ q) q := fun _ h => h
  obtain ⟨c0, iS0, hKn0⟩ := u_known (C := RX0) (T := TX0) (N := 9) (n := 9) hts inlX0 (hts _ (jp_1 (Cond.instantiable RX0 9) (List.mem_of_getElem? (l := wsL_law_r1) (i := 13) rfl)))
  obtain ⟨c1, iS1, hKn1⟩ := u_known (C := RX1) (T := TX1) (N := 10) (n := 10) hts inlX1 (hts _ (jp_1 (Cond.instantiable RX1 10) (List.mem_of_getElem? (l := wsL_law_r1) (i := 1) rfl)))
  obtain ⟨c2, iS2, hKn2⟩ := u_known (C := RX2) (T := TX2) (N := 13) (n := 13) hts inlX2 (hts _ (jp_1 (Cond.instantiable RX2 13) (List.mem_of_getElem? (l := wsL_law_r1) (i := 4) rfl)))
  obtain ⟨dC, dI, hKc⟩ : ∃ (dC : Nat → ClassId) (dI : Nat → Nat → Nat), ∀ (k : Nat) (q : vw_C), vwCl[k]? = some q → u_Kn s q.1 q.2.1 q.2.2 (dC k) (dI k) := by
    refine ⟨fun k => if k = 0 then c0 else if k = 1 then c1 else c2, fun k => if k = 0 then iS0 else if k = 1 then iS1 else iS2, ?_⟩
    intro k q hq
    rcases k with _ | _ | _ | k
    · cases hq; exact hKn0
    · cases hq; exact hKn1
    · cases hq; exact hKn2
    · simp [vwCl] at hq
  obtain ⟨cI, cZ, hKa⟩ := lw_arr (hts _ (jp_1 (Cond.arrayClass .int) (List.mem_of_getElem? (l := wsL_law_r1) (i := 20) rfl))) (hts _ (jp_2 (Cond.arrayClass .boolean) (List.mem_of_getElem? (l := wsL_law_r2) (i := 10) rfl)))
  obtain ⟨adK, adV, hV, hEv⟩ := lw_txt hgv
  have hR : ∀ k, k < 4 → vk_R RX1 (jsx k) (jtx k) (adK k) s := by
    intro k hk
    refine vk_R.of (A := #[Value.ref b]) ?_ (hEv k hk)
    rcases k with _ | _ | _ | _ | k
    all_goals first | exact hts0 _ (by decide +kernel) | omega
  have hN : va_Nw (.methodLinkNest RX0 55 yX1_hasBit RX1) s := va_Nw.of rfl (hts0 _ (by decide +kernel))
  have hZ : va_Z "java/lang/String" "COMPACT_STRINGS" "Z" (.int 1) (fun q : Nat => s.heap.size ≤ q) s s.heap := va_Zof (args := #[Value.ref b]) (hts0 _ (by decide +kernel)) (hts0 _ (by decide +kernel)) (va_eqt (hgs (Cond.eq (Term.static "java/lang/String" "COMPACT_STRINGS" "Z") (Term.int 1)) (by decide +kernel))) (fun a h9 => Nat.not_le.mpr h9)
  have hF : va_Zq "jdk/internal/util/Preconditions" "SIOOBE_FORMATTER" "Ljava/util/function/BiFunction;" (fun q : Nat => s.heap.size ≤ q) s s.heap := va_Zqof (args := #[Value.ref b]) (hts0 _ (by decide +kernel)) (hts0 _ (by decide +kernel)) (hgs (Cond.isRef (Term.static "jdk/internal/util/Preconditions" "SIOOBE_FORMATTER" "Ljava/util/function/BiFunction;")) (by decide +kernel)) (fun a h9 => Nat.not_le.mpr h9)
  have hS : va_S (fun q : Nat => s.heap.size ≤ q) s.heap s.heap [] := va_S.rf
  obtain ⟨D, hDe⟩ : ∃ D : va_G, D = (dC, dI) := ⟨_, rfl⟩
  have hK : va_K D vwCl (lwKK cI cZ) s := by rw [hDe]; exact ⟨hKc, hKa⟩
  have hP : va_P D vwCl [] s.heap := fun k q h => by simp at h
  have hD : va_D (fun q : Nat => s.heap.size ≤ q) [] := ⟨fun i j p q h => by simp at h, fun k q h => by simp at h⟩
  have hl := lv_entry ([.ref b]) (n := 4) (Nat.le_of_ble_eq_true rfl)
  rw [lg_entry_eq]
  generalize (lg_sl ([.ref b]) ++ List.replicate (4 - (lg_sl ([.ref b])).length) Slot.unset).toArray = ls at hl ⊢
  have hl : lv_has ls 4 [(0, .ref b)] := hl
  refine va_new (ci := 1) (fs := [.null, .null, .int 0, .null, .null, .null, .int 0, .null, .int 0, .null]) (C := RX1) (T := TX1) (N := 10) hx hb hts inlX1 tyX1 tyX1_ok hown (hts _ (jp_1 (Cond.classLink RL 7 RX1) (List.mem_of_getElem? (l := wsL_law_r1) (i := 0) rfl))) (hts _ (jp_1 (Cond.instantiable RX1 10) (List.mem_of_getElem? (l := wsL_law_r1) (i := 1) rfl))) (hts _ (jp_1 (Cond.initialized RX1) (List.mem_of_getElem? (l := wsL_law_r1) (i := 2) rfl))) hK hP hD hS hA rfl (fun j hj => by rcases (show j = 0 ∨ j = 1 ∨ j = 2 ∨ j = 3 ∨ j = 4 ∨ j = 5 ∨ j = 6 ∨ j = 7 ∨ j = 8 ∨ j = 9 by omega) with rfl | rfl | rfl | rfl | rfl | rfl | rfl | rfl | rfl | rfl <;> rfl) (Nat.le_of_ble_eq_true rfl) (Nat.le_of_ble_eq_true rfl) dL_law_0 (fun a0 H hP hD hS => ?_)
  have hP : va_P D vwCl [(a0, .inr (1, [.null, .null, .int 0, .null, .null, .null, .int 0, .null, .int 0, .null]))] H := hP
  have hD : va_D (fun q : Nat => s.heap.size ≤ q) [(a0, .inr (1, [.null, .null, .int 0, .null, .null, .null, .int 0, .null, .int 0, .null]))] := hD
  refine W.widen (k := 1) (n := 10) (by omega) (by omega) ?_
  refine lv_dup hx hb dL_law_3 rfl ?_
  have hPc := hP.sub (ws' := [(a0, .inr (1, [.null, .null, .int 0, .null, .null, .null, .int 0, .null, .int 0, .null]))]) [0] rfl
  have hDc := hD.sub (ws' := [(a0, .inr (1, [.null, .null, .int 0, .null, .null, .null, .int 0, .null, .int 0, .null]))]) [0] (by decide) rfl
  have hFc := va_free (wc := [(a0, .inr (1, [.null, .null, .int 0, .null, .null, .null, .int 0, .null, .int 0, .null]))]) hD hS hA [0] rfl
  refine va_callv (va_runI (As := []) (rest := [.ref a0]) ⟨hx, hb, hml, hown, hts⟩ (ci_X1 l D cI cZ a0 H.size) (cwI 0 hts lw_gX1 rfl rfl rfl (hts _ (jp_1 (Cond.initialized RX1) (List.mem_of_getElem? (l := wsL_law_r1) (i := 2) rfl))) (hts _ (jp_1 (Cond.methodLink RL 9 yX1_init) (List.mem_of_getElem? (l := wsL_law_r1) (i := 6) rfl))) (hts _ (jp_1 (Cond.instanceMethod yX1_init) (List.mem_of_getElem? (l := wsL_law_r1) (i := 7) rfl))) rfl (by decide +kernel) ⟨Nat.le_of_ble_eq_true rfl, Nat.le_of_ble_eq_true rfl⟩) ⟨fun a U g mk q => by obtain ⟨q0, q1, qP, qK, qD⟩ := q; exact ⟨q0, q1, qP, va_K.moved (u := U) (U := U.calling g mk a) (Vm.Alike.refl U.vm) qK, qD⟩, fun U hU hW => ⟨rfl, by rw [hU], by rw [hU]; exact hPc, va_K.moved hW.alike hK, hDc.weaken (fun _ _ _ _ => trivial)⟩⟩ rfl rfl hl.1 rfl (lv_room (Nat.le_of_ble_eq_true rfl)) dL_law_4 ⟨Nat.le_of_ble_eq_true rfl, Nat.le_of_ble_eq_true rfl⟩) hS (fun q _ h => hFc q h) hFc (fun u t H1 locs ht hvm hw hB hz1 hk1 hS => ?_)
  obtain ⟨o0, s0_1, s0_2, s0_3, s0_4, s0_5, o1, s1_1, s1_2, s1_3, s1_4, s1_5, o2, s2_1, s2_2, s2_3, s2_4, s2_5, o3, s3_1, s3_2, s3_3, s3_4, s3_5, r56, r69, r82, hP1, hD1⟩ := hB
  rw [ht] at hP1
  obtain ⟨hP, hD⟩ := va_join (wr := []) (w1 := [(a0, .inr (1, [.ref o0, .ref o1, .int 0, .ref o2, .ref o3, .ref r56, .int 0, .ref r69, .int 0, .ref r82])), (o0, .inr (0, [.ref s0_1, .ref s0_2, .ref s0_3, .ref s0_4, .ref s0_5, .int 0, .int 3, .int 0, .int 0])), (s0_1, .inl (cI, 9, .inl (fun _ => 0))), (s0_2, .inl (cI, 9, .inl (fun _ => 0))), (s0_3, .inl (cI, 9, .inl (fun _ => 0))), (s0_4, .inl (cI, 9, .inl (fun _ => 0))), (s0_5, .inl (cZ, 9, .inl (fun _ => 0))), (o1, .inr (0, [.ref s1_1, .ref s1_2, .ref s1_3, .ref s1_4, .ref s1_5, .int 0, .int 3, .int 0, .int 0])), (s1_1, .inl (cI, 9, .inl (fun _ => 0))), (s1_2, .inl (cI, 9, .inl (fun _ => 0))), (s1_3, .inl (cI, 9, .inl (fun _ => 0))), (s1_4, .inl (cI, 9, .inl (fun _ => 0))), (s1_5, .inl (cZ, 9, .inl (fun _ => 0))), (o2, .inr (0, [.ref s2_1, .ref s2_2, .ref s2_3, .ref s2_4, .ref s2_5, .int 0, .int 3, .int 0, .int 0])), (s2_1, .inl (cI, 9, .inl (fun _ => 0))), (s2_2, .inl (cI, 9, .inl (fun _ => 0))), (s2_3, .inl (cI, 9, .inl (fun _ => 0))), (s2_4, .inl (cI, 9, .inl (fun _ => 0))), (s2_5, .inl (cZ, 9, .inl (fun _ => 0))), (o3, .inr (0, [.ref s3_1, .ref s3_2, .ref s3_3, .ref s3_4, .ref s3_5, .int 0, .int 3, .int 0, .int 0])), (s3_1, .inl (cI, 9, .inl (fun _ => 0))), (s3_2, .inl (cI, 9, .inl (fun _ => 0))), (s3_3, .inl (cI, 9, .inl (fun _ => 0))), (s3_4, .inl (cI, 9, .inl (fun _ => 0))), (s3_5, .inl (cZ, 9, .inl (fun _ => 0))), (r56, .inl (cI, 96, .inl (fun _ => 0))), (r69, .inl (cI, 16, .inl (fun _ => 0))), (r82, .inl (cI, 7, .inl (fun _ => 0)))]) hP hD [0] [] rfl rfl (by decide) (by decide) hk1 hFc hP1 hD1
  generalize H1 = H at hP hS ⊢
  have hP : va_P D vwCl [(a0, .inr (1, [.ref o0, .ref o1, .int 0, .ref o2, .ref o3, .ref r56, .int 0, .ref r69, .int 0, .ref r82])), (o0, .inr (0, [.ref s0_1, .ref s0_2, .ref s0_3, .ref s0_4, .ref s0_5, .int 0, .int 3, .int 0, .int 0])), (s0_1, .inl (cI, 9, .inl (fun _ => 0))), (s0_2, .inl (cI, 9, .inl (fun _ => 0))), (s0_3, .inl (cI, 9, .inl (fun _ => 0))), (s0_4, .inl (cI, 9, .inl (fun _ => 0))), (s0_5, .inl (cZ, 9, .inl (fun _ => 0))), (o1, .inr (0, [.ref s1_1, .ref s1_2, .ref s1_3, .ref s1_4, .ref s1_5, .int 0, .int 3, .int 0, .int 0])), (s1_1, .inl (cI, 9, .inl (fun _ => 0))), (s1_2, .inl (cI, 9, .inl (fun _ => 0))), (s1_3, .inl (cI, 9, .inl (fun _ => 0))), (s1_4, .inl (cI, 9, .inl (fun _ => 0))), (s1_5, .inl (cZ, 9, .inl (fun _ => 0))), (o2, .inr (0, [.ref s2_1, .ref s2_2, .ref s2_3, .ref s2_4, .ref s2_5, .int 0, .int 3, .int 0, .int 0])), (s2_1, .inl (cI, 9, .inl (fun _ => 0))), (s2_2, .inl (cI, 9, .inl (fun _ => 0))), (s2_3, .inl (cI, 9, .inl (fun _ => 0))), (s2_4, .inl (cI, 9, .inl (fun _ => 0))), (s2_5, .inl (cZ, 9, .inl (fun _ => 0))), (o3, .inr (0, [.ref s3_1, .ref s3_2, .ref s3_3, .ref s3_4, .ref s3_5, .int 0, .int 3, .int 0, .int 0])), (s3_1, .inl (cI, 9, .inl (fun _ => 0))), (s3_2, .inl (cI, 9, .inl (fun _ => 0))), (s3_3, .inl (cI, 9, .inl (fun _ => 0))), (s3_4, .inl (cI, 9, .inl (fun _ => 0))), (s3_5, .inl (cZ, 9, .inl (fun _ => 0))), (r56, .inl (cI, 96, .inl (fun _ => 0))), (r69, .inl (cI, 16, .inl (fun _ => 0))), (r82, .inl (cI, 7, .inl (fun _ => 0)))] H := hP
  have hD : va_D (fun q : Nat => s.heap.size ≤ q) [(a0, .inr (1, [.ref o0, .ref o1, .int 0, .ref o2, .ref o3, .ref r56, .int 0, .ref r69, .int 0, .ref r82])), (o0, .inr (0, [.ref s0_1, .ref s0_2, .ref s0_3, .ref s0_4, .ref s0_5, .int 0, .int 3, .int 0, .int 0])), (s0_1, .inl (cI, 9, .inl (fun _ => 0))), (s0_2, .inl (cI, 9, .inl (fun _ => 0))), (s0_3, .inl (cI, 9, .inl (fun _ => 0))), (s0_4, .inl (cI, 9, .inl (fun _ => 0))), (s0_5, .inl (cZ, 9, .inl (fun _ => 0))), (o1, .inr (0, [.ref s1_1, .ref s1_2, .ref s1_3, .ref s1_4, .ref s1_5, .int 0, .int 3, .int 0, .int 0])), (s1_1, .inl (cI, 9, .inl (fun _ => 0))), (s1_2, .inl (cI, 9, .inl (fun _ => 0))), (s1_3, .inl (cI, 9, .inl (fun _ => 0))), (s1_4, .inl (cI, 9, .inl (fun _ => 0))), (s1_5, .inl (cZ, 9, .inl (fun _ => 0))), (o2, .inr (0, [.ref s2_1, .ref s2_2, .ref s2_3, .ref s2_4, .ref s2_5, .int 0, .int 3, .int 0, .int 0])), (s2_1, .inl (cI, 9, .inl (fun _ => 0))), (s2_2, .inl (cI, 9, .inl (fun _ => 0))), (s2_3, .inl (cI, 9, .inl (fun _ => 0))), (s2_4, .inl (cI, 9, .inl (fun _ => 0))), (s2_5, .inl (cZ, 9, .inl (fun _ => 0))), (o3, .inr (0, [.ref s3_1, .ref s3_2, .ref s3_3, .ref s3_4, .ref s3_5, .int 0, .int 3, .int 0, .int 0])), (s3_1, .inl (cI, 9, .inl (fun _ => 0))), (s3_2, .inl (cI, 9, .inl (fun _ => 0))), (s3_3, .inl (cI, 9, .inl (fun _ => 0))), (s3_4, .inl (cI, 9, .inl (fun _ => 0))), (s3_5, .inl (cZ, 9, .inl (fun _ => 0))), (r56, .inl (cI, 96, .inl (fun _ => 0))), (r69, .inl (cI, 16, .inl (fun _ => 0))), (r82, .inl (cI, 7, .inl (fun _ => 0)))] := hD
  refine W.widen (k := 28) (n := 345) (by omega) (by omega) ?_
  refine lv_astore_n (lv' := [(1, .ref a0), (0, .ref b)]) hx hb dL_law_7 rfl hl (by decide) rfl (fun ls hl => ?_)
  refine va_new (ci := 2) (fs := [.null, .null, .null, .null, .int 0, .null, .null, .null, .int 0, .int 0, .int 0, .null, .int 0]) (C := RX2) (T := TX2) (N := 13) hx hb hts inlX2 tyX2 tyX2_ok hown (hts _ (jp_1 (Cond.classLink RL 10 RX2) (List.mem_of_getElem? (l := wsL_law_r1) (i := 3) rfl))) (hts _ (jp_1 (Cond.instantiable RX2 13) (List.mem_of_getElem? (l := wsL_law_r1) (i := 4) rfl))) (hts _ (jp_1 (Cond.initialized RX2) (List.mem_of_getElem? (l := wsL_law_r1) (i := 5) rfl))) hK hP hD hS hA rfl (fun j hj => by rcases (show j = 0 ∨ j = 1 ∨ j = 2 ∨ j = 3 ∨ j = 4 ∨ j = 5 ∨ j = 6 ∨ j = 7 ∨ j = 8 ∨ j = 9 ∨ j = 10 ∨ j = 11 ∨ j = 12 by omega) with rfl | rfl | rfl | rfl | rfl | rfl | rfl | rfl | rfl | rfl | rfl | rfl | rfl <;> rfl) (Nat.le_of_ble_eq_true rfl) (Nat.le_of_ble_eq_true rfl) dL_law_8 (fun b0 H hP hD hS => ?_)
  have hP : va_P D vwCl [(a0, .inr (1, [.ref o0, .ref o1, .int 0, .ref o2, .ref o3, .ref r56, .int 0, .ref r69, .int 0, .ref r82])), (o0, .inr (0, [.ref s0_1, .ref s0_2, .ref s0_3, .ref s0_4, .ref s0_5, .int 0, .int 3, .int 0, .int 0])), (s0_1, .inl (cI, 9, .inl (fun _ => 0))), (s0_2, .inl (cI, 9, .inl (fun _ => 0))), (s0_3, .inl (cI, 9, .inl (fun _ => 0))), (s0_4, .inl (cI, 9, .inl (fun _ => 0))), (s0_5, .inl (cZ, 9, .inl (fun _ => 0))), (o1, .inr (0, [.ref s1_1, .ref s1_2, .ref s1_3, .ref s1_4, .ref s1_5, .int 0, .int 3, .int 0, .int 0])), (s1_1, .inl (cI, 9, .inl (fun _ => 0))), (s1_2, .inl (cI, 9, .inl (fun _ => 0))), (s1_3, .inl (cI, 9, .inl (fun _ => 0))), (s1_4, .inl (cI, 9, .inl (fun _ => 0))), (s1_5, .inl (cZ, 9, .inl (fun _ => 0))), (o2, .inr (0, [.ref s2_1, .ref s2_2, .ref s2_3, .ref s2_4, .ref s2_5, .int 0, .int 3, .int 0, .int 0])), (s2_1, .inl (cI, 9, .inl (fun _ => 0))), (s2_2, .inl (cI, 9, .inl (fun _ => 0))), (s2_3, .inl (cI, 9, .inl (fun _ => 0))), (s2_4, .inl (cI, 9, .inl (fun _ => 0))), (s2_5, .inl (cZ, 9, .inl (fun _ => 0))), (o3, .inr (0, [.ref s3_1, .ref s3_2, .ref s3_3, .ref s3_4, .ref s3_5, .int 0, .int 3, .int 0, .int 0])), (s3_1, .inl (cI, 9, .inl (fun _ => 0))), (s3_2, .inl (cI, 9, .inl (fun _ => 0))), (s3_3, .inl (cI, 9, .inl (fun _ => 0))), (s3_4, .inl (cI, 9, .inl (fun _ => 0))), (s3_5, .inl (cZ, 9, .inl (fun _ => 0))), (r56, .inl (cI, 96, .inl (fun _ => 0))), (r69, .inl (cI, 16, .inl (fun _ => 0))), (r82, .inl (cI, 7, .inl (fun _ => 0))), (b0, .inr (2, [.null, .null, .null, .null, .int 0, .null, .null, .null, .int 0, .int 0, .int 0, .null, .int 0]))] H := hP
  have hD : va_D (fun q : Nat => s.heap.size ≤ q) [(a0, .inr (1, [.ref o0, .ref o1, .int 0, .ref o2, .ref o3, .ref r56, .int 0, .ref r69, .int 0, .ref r82])), (o0, .inr (0, [.ref s0_1, .ref s0_2, .ref s0_3, .ref s0_4, .ref s0_5, .int 0, .int 3, .int 0, .int 0])), (s0_1, .inl (cI, 9, .inl (fun _ => 0))), (s0_2, .inl (cI, 9, .inl (fun _ => 0))), (s0_3, .inl (cI, 9, .inl (fun _ => 0))), (s0_4, .inl (cI, 9, .inl (fun _ => 0))), (s0_5, .inl (cZ, 9, .inl (fun _ => 0))), (o1, .inr (0, [.ref s1_1, .ref s1_2, .ref s1_3, .ref s1_4, .ref s1_5, .int 0, .int 3, .int 0, .int 0])), (s1_1, .inl (cI, 9, .inl (fun _ => 0))), (s1_2, .inl (cI, 9, .inl (fun _ => 0))), (s1_3, .inl (cI, 9, .inl (fun _ => 0))), (s1_4, .inl (cI, 9, .inl (fun _ => 0))), (s1_5, .inl (cZ, 9, .inl (fun _ => 0))), (o2, .inr (0, [.ref s2_1, .ref s2_2, .ref s2_3, .ref s2_4, .ref s2_5, .int 0, .int 3, .int 0, .int 0])), (s2_1, .inl (cI, 9, .inl (fun _ => 0))), (s2_2, .inl (cI, 9, .inl (fun _ => 0))), (s2_3, .inl (cI, 9, .inl (fun _ => 0))), (s2_4, .inl (cI, 9, .inl (fun _ => 0))), (s2_5, .inl (cZ, 9, .inl (fun _ => 0))), (o3, .inr (0, [.ref s3_1, .ref s3_2, .ref s3_3, .ref s3_4, .ref s3_5, .int 0, .int 3, .int 0, .int 0])), (s3_1, .inl (cI, 9, .inl (fun _ => 0))), (s3_2, .inl (cI, 9, .inl (fun _ => 0))), (s3_3, .inl (cI, 9, .inl (fun _ => 0))), (s3_4, .inl (cI, 9, .inl (fun _ => 0))), (s3_5, .inl (cZ, 9, .inl (fun _ => 0))), (r56, .inl (cI, 96, .inl (fun _ => 0))), (r69, .inl (cI, 16, .inl (fun _ => 0))), (r82, .inl (cI, 7, .inl (fun _ => 0))), (b0, .inr (2, [.null, .null, .null, .null, .int 0, .null, .null, .null, .int 0, .int 0, .int 0, .null, .int 0]))] := hD
  refine W.widen (k := 29) (n := 358) (by omega) (by omega) ?_
  refine lv_dup hx hb dL_law_11 rfl ?_
  have hPc := hP.sub (ws' := [(b0, .inr (2, [.null, .null, .null, .null, .int 0, .null, .null, .null, .int 0, .int 0, .int 0, .null, .int 0]))]) [28] rfl
  have hDc := hD.sub (ws' := [(b0, .inr (2, [.null, .null, .null, .null, .int 0, .null, .null, .null, .int 0, .int 0, .int 0, .null, .int 0]))]) [28] (by decide) rfl
  have hFc := va_free (wc := [(b0, .inr (2, [.null, .null, .null, .null, .int 0, .null, .null, .null, .int 0, .int 0, .int 0, .null, .int 0]))]) hD hS hA [28] rfl
  refine va_callv (va_runI (As := []) (rest := [.ref b0]) ⟨hx, hb, hml, hown, hts⟩ (ci_X2 l D cI cZ b0 H.size) (cwI 0 hts lw_gX2 rfl rfl rfl (hts _ (jp_1 (Cond.initialized RX2) (List.mem_of_getElem? (l := wsL_law_r1) (i := 5) rfl))) (hts _ (jp_2 (Cond.methodLink RL 12 yX2_init) (List.mem_of_getElem? (l := wsL_law_r2) (i := 16) rfl))) (hts _ (jp_2 (Cond.instanceMethod yX2_init) (List.mem_of_getElem? (l := wsL_law_r2) (i := 17) rfl))) rfl (by decide +kernel) ⟨Nat.le_of_ble_eq_true rfl, Nat.le_of_ble_eq_true rfl⟩) ⟨fun a U g mk q => by obtain ⟨q0, q1, qP, qK, qD⟩ := q; exact ⟨q0, q1, qP, va_K.moved (u := U) (U := U.calling g mk a) (Vm.Alike.refl U.vm) qK, qD⟩, fun U hU hW => ⟨rfl, by rw [hU], by rw [hU]; exact hPc, va_K.moved hW.alike hK, hDc.weaken (fun _ _ _ _ => trivial)⟩⟩ rfl rfl hl.1 rfl (lv_room (Nat.le_of_ble_eq_true rfl)) dL_law_12 ⟨Nat.le_of_ble_eq_true rfl, Nat.le_of_ble_eq_true rfl⟩) hS (fun q _ h => hFc q h) hFc (fun u t H1 locs ht hvm hw hB hz1 hk1 hS => ?_)
  obtain ⟨m7, m15, m23, m31, m39, m47, m55, m62, hP1, hD1⟩ := hB
  rw [ht] at hP1
  obtain ⟨hP, hD⟩ := va_join (wr := [(a0, .inr (1, [.ref o0, .ref o1, .int 0, .ref o2, .ref o3, .ref r56, .int 0, .ref r69, .int 0, .ref r82])), (o0, .inr (0, [.ref s0_1, .ref s0_2, .ref s0_3, .ref s0_4, .ref s0_5, .int 0, .int 3, .int 0, .int 0])), (s0_1, .inl (cI, 9, .inl (fun _ => 0))), (s0_2, .inl (cI, 9, .inl (fun _ => 0))), (s0_3, .inl (cI, 9, .inl (fun _ => 0))), (s0_4, .inl (cI, 9, .inl (fun _ => 0))), (s0_5, .inl (cZ, 9, .inl (fun _ => 0))), (o1, .inr (0, [.ref s1_1, .ref s1_2, .ref s1_3, .ref s1_4, .ref s1_5, .int 0, .int 3, .int 0, .int 0])), (s1_1, .inl (cI, 9, .inl (fun _ => 0))), (s1_2, .inl (cI, 9, .inl (fun _ => 0))), (s1_3, .inl (cI, 9, .inl (fun _ => 0))), (s1_4, .inl (cI, 9, .inl (fun _ => 0))), (s1_5, .inl (cZ, 9, .inl (fun _ => 0))), (o2, .inr (0, [.ref s2_1, .ref s2_2, .ref s2_3, .ref s2_4, .ref s2_5, .int 0, .int 3, .int 0, .int 0])), (s2_1, .inl (cI, 9, .inl (fun _ => 0))), (s2_2, .inl (cI, 9, .inl (fun _ => 0))), (s2_3, .inl (cI, 9, .inl (fun _ => 0))), (s2_4, .inl (cI, 9, .inl (fun _ => 0))), (s2_5, .inl (cZ, 9, .inl (fun _ => 0))), (o3, .inr (0, [.ref s3_1, .ref s3_2, .ref s3_3, .ref s3_4, .ref s3_5, .int 0, .int 3, .int 0, .int 0])), (s3_1, .inl (cI, 9, .inl (fun _ => 0))), (s3_2, .inl (cI, 9, .inl (fun _ => 0))), (s3_3, .inl (cI, 9, .inl (fun _ => 0))), (s3_4, .inl (cI, 9, .inl (fun _ => 0))), (s3_5, .inl (cZ, 9, .inl (fun _ => 0))), (r56, .inl (cI, 96, .inl (fun _ => 0))), (r69, .inl (cI, 16, .inl (fun _ => 0))), (r82, .inl (cI, 7, .inl (fun _ => 0)))]) (w1 := [(b0, .inr (2, [.ref m7, .ref m15, .ref m23, .ref m31, .int 0, .ref m39, .ref m47, .ref m55, .int 0, .int 0, .int 0, .ref m62, .int 0])), (m7, .inl (cI, 54, .inl (upd (fun _ => 0) (3 : Int32).toNatClampNeg 3))), (m15, .inl (cI, 54, .inl (fun _ => 0))), (m23, .inl (cI, 54, .inl (fun _ => 0))), (m31, .inl (cI, 54, .inl (fun _ => 0))), (m39, .inl (cI, 96, .inl (fun _ => 0))), (m47, .inl (cI, 16, .inl (fun _ => 0))), (m55, .inl (cI, 7, .inl (fun _ => 0))), (m62, .inl (cI, 4, .inl (fun _ => 0)))]) hP hD [28] [0, 1, 2, 3, 4, 5, 6, 7, 8, 9, 10, 11, 12, 13, 14, 15, 16, 17, 18, 19, 20, 21, 22, 23, 24, 25, 26, 27] rfl rfl (by decide) (by decide) hk1 hFc hP1 hD1
  generalize H1 = H at hP hS ⊢
  have hP : va_P D vwCl [(a0, .inr (1, [.ref o0, .ref o1, .int 0, .ref o2, .ref o3, .ref r56, .int 0, .ref r69, .int 0, .ref r82])), (o0, .inr (0, [.ref s0_1, .ref s0_2, .ref s0_3, .ref s0_4, .ref s0_5, .int 0, .int 3, .int 0, .int 0])), (s0_1, .inl (cI, 9, .inl (fun _ => 0))), (s0_2, .inl (cI, 9, .inl (fun _ => 0))), (s0_3, .inl (cI, 9, .inl (fun _ => 0))), (s0_4, .inl (cI, 9, .inl (fun _ => 0))), (s0_5, .inl (cZ, 9, .inl (fun _ => 0))), (o1, .inr (0, [.ref s1_1, .ref s1_2, .ref s1_3, .ref s1_4, .ref s1_5, .int 0, .int 3, .int 0, .int 0])), (s1_1, .inl (cI, 9, .inl (fun _ => 0))), (s1_2, .inl (cI, 9, .inl (fun _ => 0))), (s1_3, .inl (cI, 9, .inl (fun _ => 0))), (s1_4, .inl (cI, 9, .inl (fun _ => 0))), (s1_5, .inl (cZ, 9, .inl (fun _ => 0))), (o2, .inr (0, [.ref s2_1, .ref s2_2, .ref s2_3, .ref s2_4, .ref s2_5, .int 0, .int 3, .int 0, .int 0])), (s2_1, .inl (cI, 9, .inl (fun _ => 0))), (s2_2, .inl (cI, 9, .inl (fun _ => 0))), (s2_3, .inl (cI, 9, .inl (fun _ => 0))), (s2_4, .inl (cI, 9, .inl (fun _ => 0))), (s2_5, .inl (cZ, 9, .inl (fun _ => 0))), (o3, .inr (0, [.ref s3_1, .ref s3_2, .ref s3_3, .ref s3_4, .ref s3_5, .int 0, .int 3, .int 0, .int 0])), (s3_1, .inl (cI, 9, .inl (fun _ => 0))), (s3_2, .inl (cI, 9, .inl (fun _ => 0))), (s3_3, .inl (cI, 9, .inl (fun _ => 0))), (s3_4, .inl (cI, 9, .inl (fun _ => 0))), (s3_5, .inl (cZ, 9, .inl (fun _ => 0))), (r56, .inl (cI, 96, .inl (fun _ => 0))), (r69, .inl (cI, 16, .inl (fun _ => 0))), (r82, .inl (cI, 7, .inl (fun _ => 0))), (b0, .inr (2, [.ref m7, .ref m15, .ref m23, .ref m31, .int 0, .ref m39, .ref m47, .ref m55, .int 0, .int 0, .int 0, .ref m62, .int 0])), (m7, .inl (cI, 54, .inl (upd (fun _ => 0) (3 : Int32).toNatClampNeg 3))), (m15, .inl (cI, 54, .inl (fun _ => 0))), (m23, .inl (cI, 54, .inl (fun _ => 0))), (m31, .inl (cI, 54, .inl (fun _ => 0))), (m39, .inl (cI, 96, .inl (fun _ => 0))), (m47, .inl (cI, 16, .inl (fun _ => 0))), (m55, .inl (cI, 7, .inl (fun _ => 0))), (m62, .inl (cI, 4, .inl (fun _ => 0)))] H := hP
  have hD : va_D (fun q : Nat => s.heap.size ≤ q) [(a0, .inr (1, [.ref o0, .ref o1, .int 0, .ref o2, .ref o3, .ref r56, .int 0, .ref r69, .int 0, .ref r82])), (o0, .inr (0, [.ref s0_1, .ref s0_2, .ref s0_3, .ref s0_4, .ref s0_5, .int 0, .int 3, .int 0, .int 0])), (s0_1, .inl (cI, 9, .inl (fun _ => 0))), (s0_2, .inl (cI, 9, .inl (fun _ => 0))), (s0_3, .inl (cI, 9, .inl (fun _ => 0))), (s0_4, .inl (cI, 9, .inl (fun _ => 0))), (s0_5, .inl (cZ, 9, .inl (fun _ => 0))), (o1, .inr (0, [.ref s1_1, .ref s1_2, .ref s1_3, .ref s1_4, .ref s1_5, .int 0, .int 3, .int 0, .int 0])), (s1_1, .inl (cI, 9, .inl (fun _ => 0))), (s1_2, .inl (cI, 9, .inl (fun _ => 0))), (s1_3, .inl (cI, 9, .inl (fun _ => 0))), (s1_4, .inl (cI, 9, .inl (fun _ => 0))), (s1_5, .inl (cZ, 9, .inl (fun _ => 0))), (o2, .inr (0, [.ref s2_1, .ref s2_2, .ref s2_3, .ref s2_4, .ref s2_5, .int 0, .int 3, .int 0, .int 0])), (s2_1, .inl (cI, 9, .inl (fun _ => 0))), (s2_2, .inl (cI, 9, .inl (fun _ => 0))), (s2_3, .inl (cI, 9, .inl (fun _ => 0))), (s2_4, .inl (cI, 9, .inl (fun _ => 0))), (s2_5, .inl (cZ, 9, .inl (fun _ => 0))), (o3, .inr (0, [.ref s3_1, .ref s3_2, .ref s3_3, .ref s3_4, .ref s3_5, .int 0, .int 3, .int 0, .int 0])), (s3_1, .inl (cI, 9, .inl (fun _ => 0))), (s3_2, .inl (cI, 9, .inl (fun _ => 0))), (s3_3, .inl (cI, 9, .inl (fun _ => 0))), (s3_4, .inl (cI, 9, .inl (fun _ => 0))), (s3_5, .inl (cZ, 9, .inl (fun _ => 0))), (r56, .inl (cI, 96, .inl (fun _ => 0))), (r69, .inl (cI, 16, .inl (fun _ => 0))), (r82, .inl (cI, 7, .inl (fun _ => 0))), (b0, .inr (2, [.ref m7, .ref m15, .ref m23, .ref m31, .int 0, .ref m39, .ref m47, .ref m55, .int 0, .int 0, .int 0, .ref m62, .int 0])), (m7, .inl (cI, 54, .inl (upd (fun _ => 0) (3 : Int32).toNatClampNeg 3))), (m15, .inl (cI, 54, .inl (fun _ => 0))), (m23, .inl (cI, 54, .inl (fun _ => 0))), (m31, .inl (cI, 54, .inl (fun _ => 0))), (m39, .inl (cI, 96, .inl (fun _ => 0))), (m47, .inl (cI, 16, .inl (fun _ => 0))), (m55, .inl (cI, 7, .inl (fun _ => 0))), (m62, .inl (cI, 4, .inl (fun _ => 0)))] := hD
  refine W.widen (k := 37) (n := 697) (by omega) (by omega) ?_
  refine lv_astore_n (lv' := [(2, .ref b0), (1, .ref a0), (0, .ref b)]) hx hb dL_law_15 rfl hl (by decide) rfl (fun ls hl => ?_)
  refine lv_iconst (n := 0) (v := 0) hx hb dL_law_16 (by decide) ?_
  refine lv_istore_n (lv' := [(3, .int 0), (2, .ref b0), (1, .ref a0), (0, .ref b)]) hx hb dL_law_17 rfl hl (by decide) rfl (fun ls hl => ?_)
  have hP := hP.sub (ws' := [(o0, .inr (0, [.ref s0_1, .ref s0_2, .ref s0_3, .ref s0_4, .ref s0_5, .int 0, .int 3, .int 0, .int 0])), (s0_1, .inl (cI, 9, .inl (fun _ => 0))), (s0_2, .inl (cI, 9, .inl (fun _ => 0))), (s0_3, .inl (cI, 9, .inl (fun _ => 0))), (s0_4, .inl (cI, 9, .inl (fun _ => 0))), (s0_5, .inl (cZ, 9, .inl (fun _ => 0))), (o1, .inr (0, [.ref s1_1, .ref s1_2, .ref s1_3, .ref s1_4, .ref s1_5, .int 0, .int 3, .int 0, .int 0])), (s1_1, .inl (cI, 9, .inl (fun _ => 0))), (s1_2, .inl (cI, 9, .inl (fun _ => 0))), (s1_3, .inl (cI, 9, .inl (fun _ => 0))), (s1_4, .inl (cI, 9, .inl (fun _ => 0))), (s1_5, .inl (cZ, 9, .inl (fun _ => 0))), (o2, .inr (0, [.ref s2_1, .ref s2_2, .ref s2_3, .ref s2_4, .ref s2_5, .int 0, .int 3, .int 0, .int 0])), (s2_1, .inl (cI, 9, .inl (fun _ => 0))), (s2_2, .inl (cI, 9, .inl (fun _ => 0))), (s2_3, .inl (cI, 9, .inl (fun _ => 0))), (s2_4, .inl (cI, 9, .inl (fun _ => 0))), (s2_5, .inl (cZ, 9, .inl (fun _ => 0))), (o3, .inr (0, [.ref s3_1, .ref s3_2, .ref s3_3, .ref s3_4, .ref s3_5, .int 0, .int 3, .int 0, .int 0])), (s3_1, .inl (cI, 9, .inl (fun _ => 0))), (s3_2, .inl (cI, 9, .inl (fun _ => 0))), (s3_3, .inl (cI, 9, .inl (fun _ => 0))), (s3_4, .inl (cI, 9, .inl (fun _ => 0))), (s3_5, .inl (cZ, 9, .inl (fun _ => 0))), (a0, .inr (1, [.ref o0, .ref o1, .int 0, .ref o2, .ref o3, .ref r56, .int 0, .ref r69, .int 0, .ref r82])), (r56, .inl (cI, 96, .inl (fun _ => 0))), (r69, .inl (cI, 16, .inl (fun _ => 0))), (r82, .inl (cI, 7, .inl (fun _ => 0))), (b0, .inr (2, [.ref m7, .ref m15, .ref m23, .ref m31, .int 0, .ref m39, .ref m47, .ref m55, .int 0, .int 0, .int 0, .ref m62, .int 0])), (m39, .inl (cI, 96, .inl (fun _ => 0))), (m47, .inl (cI, 16, .inl (fun _ => 0))), (m55, .inl (cI, 7, .inl (fun _ => 0))), (m62, .inl (cI, 4, .inl (fun _ => 0))), (m7, .inl (cI, 54, .inl (upd (fun _ => 0) (3 : Int32).toNatClampNeg 3))), (m15, .inl (cI, 54, .inl (fun _ => 0))), (m23, .inl (cI, 54, .inl (fun _ => 0))), (m31, .inl (cI, 54, .inl (fun _ => 0)))]) [1, 2, 3, 4, 5, 6, 7, 8, 9, 10, 11, 12, 13, 14, 15, 16, 17, 18, 19, 20, 21, 22, 23, 24, 0, 25, 26, 27, 28, 33, 34, 35, 36, 29, 30, 31, 32] rfl
  have hD := hD.sub (ws' := [(o0, .inr (0, [.ref s0_1, .ref s0_2, .ref s0_3, .ref s0_4, .ref s0_5, .int 0, .int 3, .int 0, .int 0])), (s0_1, .inl (cI, 9, .inl (fun _ => 0))), (s0_2, .inl (cI, 9, .inl (fun _ => 0))), (s0_3, .inl (cI, 9, .inl (fun _ => 0))), (s0_4, .inl (cI, 9, .inl (fun _ => 0))), (s0_5, .inl (cZ, 9, .inl (fun _ => 0))), (o1, .inr (0, [.ref s1_1, .ref s1_2, .ref s1_3, .ref s1_4, .ref s1_5, .int 0, .int 3, .int 0, .int 0])), (s1_1, .inl (cI, 9, .inl (fun _ => 0))), (s1_2, .inl (cI, 9, .inl (fun _ => 0))), (s1_3, .inl (cI, 9, .inl (fun _ => 0))), (s1_4, .inl (cI, 9, .inl (fun _ => 0))), (s1_5, .inl (cZ, 9, .inl (fun _ => 0))), (o2, .inr (0, [.ref s2_1, .ref s2_2, .ref s2_3, .ref s2_4, .ref s2_5, .int 0, .int 3, .int 0, .int 0])), (s2_1, .inl (cI, 9, .inl (fun _ => 0))), (s2_2, .inl (cI, 9, .inl (fun _ => 0))), (s2_3, .inl (cI, 9, .inl (fun _ => 0))), (s2_4, .inl (cI, 9, .inl (fun _ => 0))), (s2_5, .inl (cZ, 9, .inl (fun _ => 0))), (o3, .inr (0, [.ref s3_1, .ref s3_2, .ref s3_3, .ref s3_4, .ref s3_5, .int 0, .int 3, .int 0, .int 0])), (s3_1, .inl (cI, 9, .inl (fun _ => 0))), (s3_2, .inl (cI, 9, .inl (fun _ => 0))), (s3_3, .inl (cI, 9, .inl (fun _ => 0))), (s3_4, .inl (cI, 9, .inl (fun _ => 0))), (s3_5, .inl (cZ, 9, .inl (fun _ => 0))), (a0, .inr (1, [.ref o0, .ref o1, .int 0, .ref o2, .ref o3, .ref r56, .int 0, .ref r69, .int 0, .ref r82])), (r56, .inl (cI, 96, .inl (fun _ => 0))), (r69, .inl (cI, 16, .inl (fun _ => 0))), (r82, .inl (cI, 7, .inl (fun _ => 0))), (b0, .inr (2, [.ref m7, .ref m15, .ref m23, .ref m31, .int 0, .ref m39, .ref m47, .ref m55, .int 0, .int 0, .int 0, .ref m62, .int 0])), (m39, .inl (cI, 96, .inl (fun _ => 0))), (m47, .inl (cI, 16, .inl (fun _ => 0))), (m55, .inl (cI, 7, .inl (fun _ => 0))), (m62, .inl (cI, 4, .inl (fun _ => 0))), (m7, .inl (cI, 54, .inl (upd (fun _ => 0) (3 : Int32).toNatClampNeg 3))), (m15, .inl (cI, 54, .inl (fun _ => 0))), (m23, .inl (cI, 54, .inl (fun _ => 0))), (m31, .inl (cI, 54, .inl (fun _ => 0)))]) [1, 2, 3, 4, 5, 6, 7, 8, 9, 10, 11, 12, 13, 14, 15, 16, 17, 18, 19, 20, 21, 22, 23, 24, 0, 25, 26, 27, 28, 33, 34, 35, 36, 29, 30, 31, 32] (by decide) rfl
  rw [lwU] at hP hD
  have hP : va_P D vwCl (jws cI cZ (lwAd [o0, s0_1, s0_2, s0_3, s0_4, s0_5, o1, s1_1, s1_2, s1_3, s1_4, s1_5, o2, s2_1, s2_2, s2_3, s2_4, s2_5, o3, s3_1, s3_2, s3_3, s3_4, s3_5, a0, r56, r69, r82, b0, m39, m47, m55, m62, m7, m15, m23, m31] adK) lwM0) H := hP
  have hD : va_D (fun q : Nat => s.heap.size ≤ q) (jws cI cZ (lwAd [o0, s0_1, s0_2, s0_3, s0_4, s0_5, o1, s1_1, s1_2, s1_3, s1_4, s1_5, o2, s2_1, s2_2, s2_3, s2_4, s2_5, o3, s3_1, s3_2, s3_3, s3_4, s3_5, a0, r56, r69, r82, b0, m39, m47, m55, m62, m7, m15, m23, m31] adK) lwM0) := hD
  exact lw_go hL C0 hK hN hR hV hZ hF hP hD hS hl rfl rfl
-- ===== YOUR PART ENDS =====
set_option maxHeartbeats 4000000 in
theorem lw_walk (l : Launch) (hflags : l.flags = flags0) (b : Addr) (xs : List Int32) : MetFree l x (headSpec (Jvm.Cond.code x code maxLocals ret :: tables_1) room_1) (lw_P b xs) (fun _ _ _ _ _ => True) lw_Q := by
  refine MetFree.of_bodyS (code := code) (maxLocals := maxLocals) (ret := ret) (by decide) ?_ ?_
  · intro args s m h hn
    obtain ⟨meth, c, h1, h2, h3, h4, h5, h6, -, -⟩ := Cond.code_spec hn (atoms_spec (ws := Jvm.Cond.code x code maxLocals ret :: tables_1) h _ List.mem_cons_self)
    exact ⟨meth, c, h1, h2, h3, h4, h5, h6⟩
  · intro p e s m args below meth c s₁ B hml0 hP _
    obtain ⟨rfl, hx, hbd, hgv⟩ := hP
    obtain ⟨scr, harrAt, hlist, hof, hsmall⟩ := hx
    obtain ⟨hcb, hkn, -, -⟩ := State.arrayAt?_spec harrAt
    have hown : s.vm.findClass R_law = some m.cls := findClass_of_methodNamed B.named
    have hts0 : ∀ c ∈ (Jvm.Cond.code x code maxLocals ret :: tables_1), c.before #[Value.ref b] s = true := atoms_spec (ws := Jvm.Cond.code x code maxLocals ret :: tables_1) B.pre
    have hts : ∀ w ∈ lw_tbl, w.before #[Value.ref b] s = true := k2_hts_sels lw_privs (fun w hw => hts0 w (List.mem_cons_of_mem _ hw)) lw_privs_ok
    have hml : c.maxLocals = 4 := B.maxLocals_eq (hts0 _ List.mem_cons_self)
    have X₀ : Stand p l e room_1 s m #[Value.ref b] below meth c s₁ [] 0 0 := Stand.of_body B
    have hh0 : s₁.heap = s.heap := by rw [B.state]; rfl
    have hsz : scr.slots.size = xs.length := by rw [← Array.length_toList, hlist, List.length_map]
    have hval : ∀ j : Nat, j < xs.length → scr.slots[j]? = some (.int (xs.getD j 0)) := fun j hj => by
      rw [← Array.getElem?_toList, hlist]
      simp [hj]
    have hbl : b < s.heap.size := (Array.getElem?_eq_some_iff.mp hcb).1
    have hX : va_X b xs.length (fun j => xs.getD j 0) s s.heap := ⟨scr, hcb, hof, hkn, hsz, hval⟩
    have K : W p l e room_1 s m #[Value.ref b] below meth c s₁.heap [] 0 0 (lw_Z below #[Value.ref b] s) (entryFrame m ([Value.ref b] : List Value).toArray 4) := by
      rw [hh0]
      exact whole_start l hflags hbd ⟨B.exec, B.bytes, B.returns, hml, hown, hts, hX, hbl, B.notSynchronized, hgv⟩
    obtain ⟨t, a1, o, b1, b2, b3⟩ := K s₁ rfl X₀
    exact ⟨t, o, a1, b1, b2, b3⟩
theorem lw_pre_spec {args : Array Value} {s : State} (h : (Jvm.Cond.and given_1 narrow_1).before args s = true) (hr : rest_1_c.before args s = true) : ∃ (b : Addr) (xs : List Int32), lw_P b xs args s := by
  have hs := flat_of_before _ h
  have hq := flat_of_before _ hr
  have hc : (Cond.count 1).before args s = true := hs _ (by decide +kernel)
  have harr : (Cond.arrayOf (.arg 0) .int).before args s = true := hs _ (by decide +kernel)
  have hle : (Cond.le (.length (.arg 0)) (.int 2560)).before args s = true := hs _ (by decide +kernel)
  have hlen : (Cond.isInt (.length (.arg 0))).before args s = true := hq _ (by decide +kernel)
  have hall : (Cond.all (.arg 0) (.isInt (.elem (.arg 0) (.index 0)))).before args s = true := hq _ (by decide +kernel)
  obtain ⟨b, xs, hb, hx⟩ := State.ints_of_pre rfl harr hlen hall
  have hsm : xs.length < 2 ^ 31 := hx.choose_spec.2.2.2
  have hev : (Term.length (.arg 0)).eval args s none [] s = some (.int xs.length.toInt32) := hx.length_eval hb
  have hv := Cond.le_ints hev (show (Term.int 2560).eval args s none [] s = some (.int 2560) from rfl)
  have hd : xs.length.toInt32 ≤ 2560 := by
    simpa [Cond.before, Cond.holds, hv] using hle
  have hN : xs.length ≤ 2560 := (Int32.ofNat_le_ofNat hsm (by decide)).mp (show Int32.ofNat xs.length ≤ Int32.ofNat 2560 from hd)
  exact ⟨b, xs, Cond.one_arg hc (show args[0]? = some (.ref b) from hb), hx, hN, h⟩
theorem lw_comes (l : Launch) (hflags : l.flags = flags0) : Comes l x (Jvm.Cond.code x code maxLocals ret :: tables_1) room_1 (fun tb e args s => Calls_1 tb e args s ∧ rest_1 tb e args s ∧ Pre_1 tb e args s)
    (fun _ _ args s o t => lw_Q args s o t) := by
  intro p e ha hc hk s m args below hf hfit hheap happ hpre
  obtain ⟨b, xs, hP⟩ := lw_pre_spec hpre.2.2 hpre.2.1
  obtain ⟨k, o, h1, h2, h3, hQ⟩ := lw_walk l hflags b xs p e ha hc hk s m args below hf ((Spec.applies_iff_loose hf).mp happ).1 hP trivial
  exact ⟨k, o, h1, h2, h3, hQ⟩
theorem lw_frame {s t : State} {o : Outcome} {args : Array Value} (h : Framed s o t [] 37 697) :
    Framed s o t (fieldLocs frame_1_writes args s ++ arrayLocs frame_1_arrays args s ++ staticLocs frame_1_statics s) 37 697 := h
theorem lw_limb (L : Cond) (hL : ∀ (args : Array Value) (s t : State), L.after args s (.returned (some (.int 1))) t = true) :
    ArmFor flags0 classFile x code maxLocals ret World_1 tables_1 room_1 Calls_1 rest_1 Pre_1
      (fun tb e a s o t => postC L tb e a s o t ∧ Framed s o t (fieldLocs frame_1_writes a s ++ arrayLocs frame_1_arrays a s ++ staticLocs frame_1_statics s) 37 697) := by
  intro l hflags _ _ p e ha hc hk s m args below hf hfit hheap happ hpre
  obtain ⟨k, o, h1, h2, h3, rfl, hF⟩ := lw_comes l hflags p e ha hc hk s m args below hf hfit hheap happ hpre
  exact ⟨k, _, h1, h2, h3, hL args s _, lw_frame hF⟩
theorem i_vc : Claimed_1_1 ∧ Claimed_1_2 := ⟨lw_limb limb_1_1 (fun args s t => by simp [limb_1_1, Cond.after, Cond.holds, Cond.value]), lw_limb limb_1_2 (fun args s t => Cond.after_iff.mpr (by
  first | (rw [show limb_1_2 = Cond.eq .result (.int 1) from rfl, Cond.eq_ints (x := 1) (y := 1) rfl rfl]; simp; done) | (simp [limb_1_2, Cond.value, Term.eval]; done)))⟩

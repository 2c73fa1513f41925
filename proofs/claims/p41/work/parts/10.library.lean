-- The library's own methods, walked by the kit's rows
theorem jcons_in {w0 : Cond} (h : w0 ∈ wsL_law) : ∀ w ∈ w0 :: wsL_law, w ∈ wsL_law := fun w hw => (List.mem_cons.mp hw).elim (fun e => e ▸ h) id
theorem jsl_len {k : Nat} (hk : k < 5) : Int32.ofNat (jslL.getD k 0) = Int32.ofInt (jsl k) := by
  rcases k with _ | _ | _ | _ | _ | k <;> first | rfl | omega
theorem jsl_0 {k : Nat} (hk : k < 5) : Int32.ofInt (jsl k) = 0 ↔ jsl k = 0 := by
  rcases k with _ | _ | _ | _ | _ | k <;> first | decide | omega
theorem jsl_jr {k : Nat} (hk : k < 5) {j : Nat} (hj : j < jsl k) : j < 6 ∧ jr j ∧ jr (jsl k) := by
  rcases k with _ | _ | _ | _ | _ | k
  · have h6 : j < 6 := hj
    exact ⟨h6, ⟨by omega, by omega⟩, ⟨by decide, by decide⟩⟩
  · have h6 : j < 2 := hj
    exact ⟨by omega, ⟨by omega, by omega⟩, ⟨by decide, by decide⟩⟩
  · have h6 : j < 3 := hj
    exact ⟨by omega, ⟨by omega, by omega⟩, ⟨by decide, by decide⟩⟩
  · have h6 : j < 0 := hj
    omega
  · have h6 : j < 6 := hj
    exact ⟨h6, ⟨by omega, by omega⟩, ⟨by decide, by decide⟩⟩
  · omega
theorem jsl_ge {k : Nat} (hk : k < 5) {j : Nat} (hj : j < jsl k) : ¬ Int32.ofInt j < 0 := by
  intro q
  have := (jr_lt (jsl_jr hk hj).2.1 jr_0).mp q
  omega
theorem jsl_lt {k : Nat} (hk : k < 5) {j : Nat} (hj : j < jsl k) : Int32.ofInt j < Int32.ofInt (jsl k) := (jr_lt (jsl_jr hk hj).2.1 (jsl_jr hk hj).2.2).mpr (by omega)
theorem jslL_eq {k : Nat} (hk : k < 5) : jslL.getD k 0 = jsl k := by
  rcases k with _ | _ | _ | _ | _ | k <;> first | rfl | omega
theorem jsl_in {k : Nat} (hk : k < 5) {j : Nat} (hj : j < jsl k) : vp_in (Int32.ofInt j) (jslL.getD k 0) := by
  rw [jslL_eq hk]
  exact jr_in (jsl_jr hk hj).2.1 (by omega) (by omega)
theorem jst_all : (List.range 5).all (fun k => (List.range 6).all (fun j => Nat.ble (jsl k) j || (decide ((jstL.getD k []).getD (Int32.ofInt (j : Int)).toNatClampNeg 0 = Int32.ofInt ((jst k).getD j 0)) && decide (((Int32.ofInt ((jst k).getD j 0) &&& 255).toUInt32 % 65536).toInt32 = Int32.ofInt ((jst k).getD j 0)) && decide (narrow .char (.int (Int32.ofInt ((jst k).getD j 0))) = .int (Int32.ofInt ((jst k).getD j 0)))))) = true := by decide +kernel
theorem jst_k {k : Nat} (hk : k < 5) {j : Nat} (hj : j < jsl k) : (jstL.getD k []).getD (Int32.ofInt (j : Int)).toNatClampNeg 0 = Int32.ofInt ((jst k).getD j 0) ∧ ((Int32.ofInt ((jst k).getD j 0) &&& 255).toUInt32 % 65536).toInt32 = Int32.ofInt ((jst k).getD j 0) ∧ narrow .char (.int (Int32.ofInt ((jst k).getD j 0))) = .int (Int32.ofInt ((jst k).getD j 0)) := by
  have h := List.all_eq_true.mp (List.all_eq_true.mp jst_all k (List.mem_range.mpr hk)) j (List.mem_range.mpr (jsl_jr hk hj).1)
  have hb : Nat.ble (jsl k) j = false := by
    cases hq : Nat.ble (jsl k) j with
    | false => rfl
    | true => have := Nat.le_of_ble_eq_true hq; omega
  rw [hb, Bool.false_or] at h
  obtain ⟨h, h3⟩ := jand_t h
  obtain ⟨h1, h2⟩ := jand_t h
  exact ⟨of_decide_eq_true h1, of_decide_eq_true h2, of_decide_eq_true h3⟩
theorem jst_at {k : Nat} (hk : k < 5) {j : Nat} (hj : j < jsl k) : Value.int ((jstL.getD k []).getD (Int32.ofInt (j : Int)).toNatClampNeg 0) = .int (Int32.ofInt ((jst k).getD j 0)) := by rw [(jst_k hk hj).1]
theorem jst_c {k : Nat} (hk : k < 5) {j : Nat} (hj : j < jsl k) : ((Int32.ofInt ((jst k).getD j 0) &&& 255).toUInt32 % 65536).toInt32 = Int32.ofInt ((jst k).getD j 0) := (jst_k hk hj).2.1
theorem jst_n {k : Nat} (hk : k < 5) {j : Nat} (hj : j < jsl k) : narrow .char (.int (Int32.ofInt ((jst k).getD j 0))) = .int (Int32.ofInt ((jst k).getD j 0)) := (jst_k hk hj).2.2
theorem jshr0 (x : Int32) : x >>> ((0 : Int32) &&& 31) = x := sb_shr0 x
theorem dqJ0_coder_7d493_0 : ClassFile.decode cJ0_coder_7d493 0 = .ok (.getstatic 38, 3) := by decide +kernel
theorem dqJ0_coder_7d493_3 : ClassFile.decode cJ0_coder_7d493 3 = .ok (.ifCond .eq 10, 3) := by decide +kernel
theorem dqJ0_coder_7d493_6 : ClassFile.decode cJ0_coder_7d493 6 = .ok (.aload_n 0, 1) := by decide +kernel
theorem dqJ0_coder_7d493_7 : ClassFile.decode cJ0_coder_7d493 7 = .ok (.getfield 15, 3) := by decide +kernel
theorem dqJ0_coder_7d493_10 : ClassFile.decode cJ0_coder_7d493 10 = .ok (.goto 4, 3) := by decide +kernel
theorem dqJ0_coder_7d493_13 : ClassFile.decode cJ0_coder_7d493 13 = .ok (.iconst 1, 1) := by decide +kernel
theorem dqJ0_coder_7d493_14 : ClassFile.decode cJ0_coder_7d493 14 = .ok (.ireturn, 1) := by decide +kernel
theorem dqJ0_isLatin1_aae02_0 : ClassFile.decode cJ0_isLatin1_aae02 0 = .ok (.getstatic 38, 3) := by decide +kernel
theorem dqJ0_isLatin1_aae02_3 : ClassFile.decode cJ0_isLatin1_aae02 3 = .ok (.ifCond .eq 14, 3) := by decide +kernel
theorem dqJ0_isLatin1_aae02_6 : ClassFile.decode cJ0_isLatin1_aae02 6 = .ok (.aload_n 0, 1) := by decide +kernel
theorem dqJ0_isLatin1_aae02_7 : ClassFile.decode cJ0_isLatin1_aae02 7 = .ok (.getfield 15, 3) := by decide +kernel
theorem dqJ0_isLatin1_aae02_10 : ClassFile.decode cJ0_isLatin1_aae02 10 = .ok (.ifCond .ne 7, 3) := by decide +kernel
theorem dqJ0_isLatin1_aae02_13 : ClassFile.decode cJ0_isLatin1_aae02 13 = .ok (.iconst 1, 1) := by decide +kernel
theorem dqJ0_isLatin1_aae02_14 : ClassFile.decode cJ0_isLatin1_aae02 14 = .ok (.goto 4, 3) := by decide +kernel
theorem dqJ0_isLatin1_aae02_17 : ClassFile.decode cJ0_isLatin1_aae02 17 = .ok (.iconst 0, 1) := by decide +kernel
theorem dqJ0_isLatin1_aae02_18 : ClassFile.decode cJ0_isLatin1_aae02 18 = .ok (.ireturn, 1) := by decide +kernel
theorem dqJ0_length_8abf5_0 : ClassFile.decode cJ0_length_8abf5 0 = .ok (.aload_n 0, 1) := by decide +kernel
theorem dqJ0_length_8abf5_1 : ClassFile.decode cJ0_length_8abf5 1 = .ok (.getfield 9, 3) := by decide +kernel
theorem dqJ0_length_8abf5_4 : ClassFile.decode cJ0_length_8abf5 4 = .ok (.arraylength, 1) := by decide +kernel
theorem dqJ0_length_8abf5_5 : ClassFile.decode cJ0_length_8abf5 5 = .ok (.aload_n 0, 1) := by decide +kernel
theorem dqJ0_length_8abf5_6 : ClassFile.decode cJ0_length_8abf5 6 = .ok (.invokevirtual 335, 3) := by decide +kernel
theorem dqJ0_length_8abf5_9 : ClassFile.decode cJ0_length_8abf5 9 = .ok (.ishr, 1) := by decide +kernel
theorem dqJ0_length_8abf5_10 : ClassFile.decode cJ0_length_8abf5 10 = .ok (.ireturn, 1) := by decide +kernel
theorem dqJ0_isEmpty_aae02_0 : ClassFile.decode cJ0_isEmpty_aae02 0 = .ok (.aload_n 0, 1) := by decide +kernel
theorem dqJ0_isEmpty_aae02_1 : ClassFile.decode cJ0_isEmpty_aae02 1 = .ok (.getfield 9, 3) := by decide +kernel
theorem dqJ0_isEmpty_aae02_4 : ClassFile.decode cJ0_isEmpty_aae02 4 = .ok (.arraylength, 1) := by decide +kernel
theorem dqJ0_isEmpty_aae02_5 : ClassFile.decode cJ0_isEmpty_aae02 5 = .ok (.ifCond .ne 7, 3) := by decide +kernel
theorem dqJ0_isEmpty_aae02_8 : ClassFile.decode cJ0_isEmpty_aae02 8 = .ok (.iconst 1, 1) := by decide +kernel
theorem dqJ0_isEmpty_aae02_9 : ClassFile.decode cJ0_isEmpty_aae02 9 = .ok (.goto 4, 3) := by decide +kernel
theorem dqJ0_isEmpty_aae02_12 : ClassFile.decode cJ0_isEmpty_aae02 12 = .ok (.iconst 0, 1) := by decide +kernel
theorem dqJ0_isEmpty_aae02_13 : ClassFile.decode cJ0_isEmpty_aae02 13 = .ok (.ireturn, 1) := by decide +kernel
theorem dqJ3_checkIndex_8e157_0 : ClassFile.decode cJ3_checkIndex_8e157 0 = .ok (.iload_n 0, 1) := by decide +kernel
theorem dqJ3_checkIndex_8e157_1 : ClassFile.decode cJ3_checkIndex_8e157 1 = .ok (.ifCond .lt 8, 3) := by decide +kernel
theorem dqJ3_checkIndex_8e157_4 : ClassFile.decode cJ3_checkIndex_8e157 4 = .ok (.iload_n 0, 1) := by decide +kernel
theorem dqJ3_checkIndex_8e157_5 : ClassFile.decode cJ3_checkIndex_8e157 5 = .ok (.iload_n 1, 1) := by decide +kernel
theorem dqJ3_checkIndex_8e157_6 : ClassFile.decode cJ3_checkIndex_8e157 6 = .ok (.if_icmp .lt 10, 3) := by decide +kernel
theorem dqJ3_checkIndex_8e157_9 : ClassFile.decode cJ3_checkIndex_8e157 9 = .ok (.aload_n 2, 1) := by decide +kernel
theorem dqJ3_checkIndex_8e157_10 : ClassFile.decode cJ3_checkIndex_8e157 10 = .ok (.iload_n 0, 1) := by decide +kernel
theorem dqJ3_checkIndex_8e157_11 : ClassFile.decode cJ3_checkIndex_8e157 11 = .ok (.iload_n 1, 1) := by decide +kernel
theorem dqJ3_checkIndex_8e157_12 : ClassFile.decode cJ3_checkIndex_8e157 12 = .ok (.invokestatic 95, 3) := by decide +kernel
theorem dqJ3_checkIndex_8e157_15 : ClassFile.decode cJ3_checkIndex_8e157 15 = .ok (.athrow, 1) := by decide +kernel
theorem dqJ3_checkIndex_8e157_16 : ClassFile.decode cJ3_checkIndex_8e157 16 = .ok (.iload_n 0, 1) := by decide +kernel
theorem dqJ3_checkIndex_8e157_17 : ClassFile.decode cJ3_checkIndex_8e157 17 = .ok (.ireturn, 1) := by decide +kernel
theorem dqJ0_checkIndex_df160_0 : ClassFile.decode cJ0_checkIndex_df160 0 = .ok (.iload_n 0, 1) := by decide +kernel
theorem dqJ0_checkIndex_df160_1 : ClassFile.decode cJ0_checkIndex_df160 1 = .ok (.iload_n 1, 1) := by decide +kernel
theorem dqJ0_checkIndex_df160_2 : ClassFile.decode cJ0_checkIndex_df160 2 = .ok (.getstatic 1053, 3) := by decide +kernel
theorem dqJ0_checkIndex_df160_5 : ClassFile.decode cJ0_checkIndex_df160 5 = .ok (.invokestatic 1059, 3) := by decide +kernel
theorem dqJ0_checkIndex_df160_8 : ClassFile.decode cJ0_checkIndex_df160 8 = .ok (.pop, 1) := by decide +kernel
theorem dqJ0_checkIndex_df160_9 : ClassFile.decode cJ0_checkIndex_df160 9 = .ok (.return_, 1) := by decide +kernel
theorem dqJ1_charAt_3b067_0 : ClassFile.decode cJ1_charAt_3b067 0 = .ok (.iload_n 1, 1) := by decide +kernel
theorem dqJ1_charAt_3b067_1 : ClassFile.decode cJ1_charAt_3b067 1 = .ok (.aload_n 0, 1) := by decide +kernel
theorem dqJ1_charAt_3b067_2 : ClassFile.decode cJ1_charAt_3b067 2 = .ok (.arraylength, 1) := by decide +kernel
theorem dqJ1_charAt_3b067_3 : ClassFile.decode cJ1_charAt_3b067 3 = .ok (.invokestatic 9, 3) := by decide +kernel
theorem dqJ1_charAt_3b067_6 : ClassFile.decode cJ1_charAt_3b067 6 = .ok (.aload_n 0, 1) := by decide +kernel
theorem dqJ1_charAt_3b067_7 : ClassFile.decode cJ1_charAt_3b067 7 = .ok (.iload_n 1, 1) := by decide +kernel
theorem dqJ1_charAt_3b067_8 : ClassFile.decode cJ1_charAt_3b067 8 = .ok (.baload, 1) := by decide +kernel
theorem dqJ1_charAt_3b067_9 : ClassFile.decode cJ1_charAt_3b067 9 = .ok (.sipush 255, 3) := by decide +kernel
theorem dqJ1_charAt_3b067_12 : ClassFile.decode cJ1_charAt_3b067 12 = .ok (.iand, 1) := by decide +kernel
theorem dqJ1_charAt_3b067_13 : ClassFile.decode cJ1_charAt_3b067 13 = .ok (.i2c, 1) := by decide +kernel
theorem dqJ1_charAt_3b067_14 : ClassFile.decode cJ1_charAt_3b067 14 = .ok (.ireturn, 1) := by decide +kernel
theorem dqJ0_charAt_5068e_0 : ClassFile.decode cJ0_charAt_5068e 0 = .ok (.aload_n 0, 1) := by decide +kernel
theorem dqJ0_charAt_5068e_1 : ClassFile.decode cJ0_charAt_5068e 1 = .ok (.invokevirtual 492, 3) := by decide +kernel
theorem dqJ0_charAt_5068e_4 : ClassFile.decode cJ0_charAt_5068e 4 = .ok (.ifCond .eq 12, 3) := by decide +kernel
theorem dqJ0_charAt_5068e_7 : ClassFile.decode cJ0_charAt_5068e 7 = .ok (.aload_n 0, 1) := by decide +kernel
theorem dqJ0_charAt_5068e_8 : ClassFile.decode cJ0_charAt_5068e 8 = .ok (.getfield 9, 3) := by decide +kernel
theorem dqJ0_charAt_5068e_11 : ClassFile.decode cJ0_charAt_5068e 11 = .ok (.iload_n 1, 1) := by decide +kernel
theorem dqJ0_charAt_5068e_12 : ClassFile.decode cJ0_charAt_5068e 12 = .ok (.invokestatic 495, 3) := by decide +kernel
theorem dqJ0_charAt_5068e_15 : ClassFile.decode cJ0_charAt_5068e 15 = .ok (.ireturn, 1) := by decide +kernel
theorem dqJ0_charAt_5068e_16 : ClassFile.decode cJ0_charAt_5068e 16 = .ok (.aload_n 0, 1) := by decide +kernel
theorem dqJ0_charAt_5068e_17 : ClassFile.decode cJ0_charAt_5068e 17 = .ok (.getfield 9, 3) := by decide +kernel
theorem dqJ0_charAt_5068e_20 : ClassFile.decode cJ0_charAt_5068e 20 = .ok (.iload_n 1, 1) := by decide +kernel
theorem dqJ0_charAt_5068e_21 : ClassFile.decode cJ0_charAt_5068e 21 = .ok (.invokestatic 498, 3) := by decide +kernel
theorem dqJ0_charAt_5068e_24 : ClassFile.decode cJ0_charAt_5068e 24 = .ok (.ireturn, 1) := by decide +kernel
theorem dqJ6_bitCount_0f7a4_0 : ClassFile.decode cJ6_bitCount_0f7a4 0 = .ok (.iload_n 0, 1) := by decide +kernel
theorem dqJ6_bitCount_0f7a4_1 : ClassFile.decode cJ6_bitCount_0f7a4 1 = .ok (.iload_n 0, 1) := by decide +kernel
theorem dqJ6_bitCount_0f7a4_2 : ClassFile.decode cJ6_bitCount_0f7a4 2 = .ok (.iconst 1, 1) := by decide +kernel
theorem dqJ6_bitCount_0f7a4_3 : ClassFile.decode cJ6_bitCount_0f7a4 3 = .ok (.iushr, 1) := by decide +kernel
theorem dqJ6_bitCount_0f7a4_4 : ClassFile.decode cJ6_bitCount_0f7a4 4 = .ok (.ldc_w 265, 3) := by decide +kernel
theorem dqJ6_bitCount_0f7a4_7 : ClassFile.decode cJ6_bitCount_0f7a4 7 = .ok (.iand, 1) := by decide +kernel
theorem dqJ6_bitCount_0f7a4_8 : ClassFile.decode cJ6_bitCount_0f7a4 8 = .ok (.isub, 1) := by decide +kernel
theorem dqJ6_bitCount_0f7a4_9 : ClassFile.decode cJ6_bitCount_0f7a4 9 = .ok (.istore_n 0, 1) := by decide +kernel
theorem dqJ6_bitCount_0f7a4_10 : ClassFile.decode cJ6_bitCount_0f7a4 10 = .ok (.iload_n 0, 1) := by decide +kernel
theorem dqJ6_bitCount_0f7a4_11 : ClassFile.decode cJ6_bitCount_0f7a4 11 = .ok (.ldc_w 266, 3) := by decide +kernel
theorem dqJ6_bitCount_0f7a4_14 : ClassFile.decode cJ6_bitCount_0f7a4 14 = .ok (.iand, 1) := by decide +kernel
theorem dqJ6_bitCount_0f7a4_15 : ClassFile.decode cJ6_bitCount_0f7a4 15 = .ok (.iload_n 0, 1) := by decide +kernel
theorem dqJ6_bitCount_0f7a4_16 : ClassFile.decode cJ6_bitCount_0f7a4 16 = .ok (.iconst 2, 1) := by decide +kernel
theorem dqJ6_bitCount_0f7a4_17 : ClassFile.decode cJ6_bitCount_0f7a4 17 = .ok (.iushr, 1) := by decide +kernel
theorem dqJ6_bitCount_0f7a4_18 : ClassFile.decode cJ6_bitCount_0f7a4 18 = .ok (.ldc_w 266, 3) := by decide +kernel
theorem dqJ6_bitCount_0f7a4_21 : ClassFile.decode cJ6_bitCount_0f7a4 21 = .ok (.iand, 1) := by decide +kernel
theorem dqJ6_bitCount_0f7a4_22 : ClassFile.decode cJ6_bitCount_0f7a4 22 = .ok (.iadd, 1) := by decide +kernel
theorem dqJ6_bitCount_0f7a4_23 : ClassFile.decode cJ6_bitCount_0f7a4 23 = .ok (.istore_n 0, 1) := by decide +kernel
theorem dqJ6_bitCount_0f7a4_24 : ClassFile.decode cJ6_bitCount_0f7a4 24 = .ok (.iload_n 0, 1) := by decide +kernel
theorem dqJ6_bitCount_0f7a4_25 : ClassFile.decode cJ6_bitCount_0f7a4 25 = .ok (.iload_n 0, 1) := by decide +kernel
theorem dqJ6_bitCount_0f7a4_26 : ClassFile.decode cJ6_bitCount_0f7a4 26 = .ok (.iconst 4, 1) := by decide +kernel
theorem dqJ6_bitCount_0f7a4_27 : ClassFile.decode cJ6_bitCount_0f7a4 27 = .ok (.iushr, 1) := by decide +kernel
theorem dqJ6_bitCount_0f7a4_28 : ClassFile.decode cJ6_bitCount_0f7a4 28 = .ok (.iadd, 1) := by decide +kernel
theorem dqJ6_bitCount_0f7a4_29 : ClassFile.decode cJ6_bitCount_0f7a4 29 = .ok (.ldc_w 267, 3) := by decide +kernel
theorem dqJ6_bitCount_0f7a4_32 : ClassFile.decode cJ6_bitCount_0f7a4 32 = .ok (.iand, 1) := by decide +kernel
theorem dqJ6_bitCount_0f7a4_33 : ClassFile.decode cJ6_bitCount_0f7a4 33 = .ok (.istore_n 0, 1) := by decide +kernel
theorem dqJ6_bitCount_0f7a4_34 : ClassFile.decode cJ6_bitCount_0f7a4 34 = .ok (.iload_n 0, 1) := by decide +kernel
theorem dqJ6_bitCount_0f7a4_35 : ClassFile.decode cJ6_bitCount_0f7a4 35 = .ok (.iload_n 0, 1) := by decide +kernel
theorem dqJ6_bitCount_0f7a4_36 : ClassFile.decode cJ6_bitCount_0f7a4 36 = .ok (.bipush 8, 2) := by decide +kernel
theorem dqJ6_bitCount_0f7a4_38 : ClassFile.decode cJ6_bitCount_0f7a4 38 = .ok (.iushr, 1) := by decide +kernel
theorem dqJ6_bitCount_0f7a4_39 : ClassFile.decode cJ6_bitCount_0f7a4 39 = .ok (.iadd, 1) := by decide +kernel
theorem dqJ6_bitCount_0f7a4_40 : ClassFile.decode cJ6_bitCount_0f7a4 40 = .ok (.istore_n 0, 1) := by decide +kernel
theorem dqJ6_bitCount_0f7a4_41 : ClassFile.decode cJ6_bitCount_0f7a4 41 = .ok (.iload_n 0, 1) := by decide +kernel
theorem dqJ6_bitCount_0f7a4_42 : ClassFile.decode cJ6_bitCount_0f7a4 42 = .ok (.iload_n 0, 1) := by decide +kernel
theorem dqJ6_bitCount_0f7a4_43 : ClassFile.decode cJ6_bitCount_0f7a4 43 = .ok (.bipush 16, 2) := by decide +kernel
theorem dqJ6_bitCount_0f7a4_45 : ClassFile.decode cJ6_bitCount_0f7a4 45 = .ok (.iushr, 1) := by decide +kernel
theorem dqJ6_bitCount_0f7a4_46 : ClassFile.decode cJ6_bitCount_0f7a4 46 = .ok (.iadd, 1) := by decide +kernel
theorem dqJ6_bitCount_0f7a4_47 : ClassFile.decode cJ6_bitCount_0f7a4 47 = .ok (.istore_n 0, 1) := by decide +kernel
theorem dqJ6_bitCount_0f7a4_48 : ClassFile.decode cJ6_bitCount_0f7a4 48 = .ok (.iload_n 0, 1) := by decide +kernel
theorem dqJ6_bitCount_0f7a4_49 : ClassFile.decode cJ6_bitCount_0f7a4 49 = .ok (.bipush 63, 2) := by decide +kernel
theorem dqJ6_bitCount_0f7a4_51 : ClassFile.decode cJ6_bitCount_0f7a4 51 = .ok (.iand, 1) := by decide +kernel
theorem dqJ6_bitCount_0f7a4_52 : ClassFile.decode cJ6_bitCount_0f7a4 52 = .ok (.ireturn, 1) := by decide +kernel
theorem dqL_cell_0 : ClassFile.decode cL_cell 0 = .ok (.ldc 7, 2) := by decide +kernel
theorem dqL_cell_2 : ClassFile.decode cL_cell 2 = .ok (.iload_n 1, 1) := by decide +kernel
theorem dqL_cell_3 : ClassFile.decode cL_cell 3 = .ok (.aload_n 0, 1) := by decide +kernel
theorem dqL_cell_4 : ClassFile.decode cL_cell 4 = .ok (.arraylength, 1) := by decide +kernel
theorem dqL_cell_5 : ClassFile.decode cL_cell 5 = .ok (.if_icmp .ge 9, 3) := by decide +kernel
theorem dqL_cell_8 : ClassFile.decode cL_cell 8 = .ok (.aload_n 0, 1) := by decide +kernel
theorem dqL_cell_9 : ClassFile.decode cL_cell 9 = .ok (.iload_n 1, 1) := by decide +kernel
theorem dqL_cell_10 : ClassFile.decode cL_cell 10 = .ok (.iaload, 1) := by decide +kernel
theorem dqL_cell_11 : ClassFile.decode cL_cell 11 = .ok (.goto 4, 3) := by decide +kernel
theorem dqL_cell_14 : ClassFile.decode cL_cell 14 = .ok (.iconst 0, 1) := by decide +kernel
theorem dqL_cell_15 : ClassFile.decode cL_cell 15 = .ok (.sipush 1009, 3) := by decide +kernel
theorem dqL_cell_18 : ClassFile.decode cL_cell 18 = .ok (.iload_n 1, 1) := by decide +kernel
theorem dqL_cell_19 : ClassFile.decode cL_cell 19 = .ok (.imul, 1) := by decide +kernel
theorem dqL_cell_20 : ClassFile.decode cL_cell 20 = .ok (.iadd, 1) := by decide +kernel
theorem dqL_cell_21 : ClassFile.decode cL_cell 21 = .ok (.imul, 1) := by decide +kernel
theorem dqL_cell_22 : ClassFile.decode cL_cell 22 = .ok (.sipush 12345, 3) := by decide +kernel
theorem dqL_cell_25 : ClassFile.decode cL_cell 25 = .ok (.iadd, 1) := by decide +kernel
theorem dqL_cell_26 : ClassFile.decode cL_cell 26 = .ok (.istore_n 2, 1) := by decide +kernel
theorem dqL_cell_27 : ClassFile.decode cL_cell 27 = .ok (.iload_n 2, 1) := by decide +kernel
theorem dqL_cell_28 : ClassFile.decode cL_cell 28 = .ok (.iload_n 2, 1) := by decide +kernel
theorem dqL_cell_29 : ClassFile.decode cL_cell 29 = .ok (.bipush 13, 2) := by decide +kernel
theorem dqL_cell_31 : ClassFile.decode cL_cell 31 = .ok (.iushr, 1) := by decide +kernel
theorem dqL_cell_32 : ClassFile.decode cL_cell 32 = .ok (.ixor, 1) := by decide +kernel
theorem dqL_cell_33 : ClassFile.decode cL_cell 33 = .ok (.ldc 8, 2) := by decide +kernel
theorem dqL_cell_35 : ClassFile.decode cL_cell 35 = .ok (.imul, 1) := by decide +kernel
theorem dqL_cell_36 : ClassFile.decode cL_cell 36 = .ok (.istore_n 2, 1) := by decide +kernel
theorem dqL_cell_37 : ClassFile.decode cL_cell 37 = .ok (.iload_n 2, 1) := by decide +kernel
theorem dqL_cell_38 : ClassFile.decode cL_cell 38 = .ok (.iload_n 2, 1) := by decide +kernel
theorem dqL_cell_39 : ClassFile.decode cL_cell 39 = .ok (.bipush 16, 2) := by decide +kernel
theorem dqL_cell_41 : ClassFile.decode cL_cell 41 = .ok (.iushr, 1) := by decide +kernel
theorem dqL_cell_42 : ClassFile.decode cL_cell 42 = .ok (.ixor, 1) := by decide +kernel
theorem dqL_cell_43 : ClassFile.decode cL_cell 43 = .ok (.ireturn, 1) := by decide +kernel
set_option maxHeartbeats 4000000 in
set_option maxRecDepth 100000 in
theorem cq_coder (l : Launch) (ad adV : Nat → Nat) (k : Nat) (hk : k < 5) (sz : Nat) : Met l yJ0_coder_7d493 (Cond.code yJ0_coder_7d493 cJ0_coder_7d493 1 (some .byte) :: wsL_law) ({ frames := 0, cells := 0, slots := 0, locals := 0 } : Room) (va_Pc [.ref (ad (100 + k))] (fun U => U.heap.size = sz ∧ jE ad adV (fun q => sz ≤ q) U U.heap)) (va_Qi (fun (r : Int32) (_ : Unit) => r = 0) (fun _ _ => True) (fun q => sz ≤ q)) 0 0 (fun q => sz ≤ q) := by
  refine Met.ofW (cc := cJ0_coder_7d493) (maxL := 1) (ret := (some .byte)) (by decide) rfl ?_
  intro p e s m args below meth c s₁ B hml hv
  obtain ⟨rfl, hsz, hE⟩ := hv
  have hx := B.exec
  have hb := B.bytes
  have hr := B.returns
  have hts0 := atoms_spec (ws := (Cond.code yJ0_coder_7d493 cJ0_coder_7d493 1 (some .byte) :: wsL_law)) B.pre
  have hts : ∀ w ∈ wsL_law, w.before _ s = true := fun w h => hts0 w (List.mem_cons_of_mem _ h)
  have hown : s.vm.findClass RJ0 = some m.cls := findClass_of_methodNamed B.named
  have hlocks := B.notSynchronized
  subst hsz
  have hS : va_S (fun q : Nat => s.heap.size ≤ q) s.heap s.heap [] := va_S.rf
  have hl := lv_entry [.ref (ad (100 + k))] (n := 1) (Nat.le_of_ble_eq_true rfl)
  rw [lg_entry_eq]
  generalize (lg_sl [.ref (ad (100 + k))] ++ List.replicate (1 - (lg_sl [.ref (ad (100 + k))]).length) Slot.unset).toArray = ls at hl ⊢
  have hl : lv_has ls 1 [(0, .ref (ad (100 + k)))] := hl
  refine va_gets (ref := "java/lang/String") (index := 38) hx hb hE.2.2.2.1 hS hown (hts _ (jp_4 (Cond.fieldLink RJ0 38 "java/lang/String" "COMPACT_STRINGS" "Z") (List.mem_of_getElem? (l := wsL_law_r4) (i := 0) rfl))) (fun _ z => z) dqJ0_coder_7d493_0 ?_
  refine lv_if_eq (tgt := 13) hx hb dqJ0_coder_7d493_3 (by decide) (fun q => absurd q (by decide)) (fun _ => ?_)
  refine lv_aload_n hx hb dqJ0_coder_7d493_6 rfl (lv_at hl 0 rfl) ?_
  refine vk_getf (ref := "java/lang/String") (index := 15) hx hb (hE.2.2.1.1 k hk).2.1 hS hown (hts _ (jp_4 (Cond.fieldLink RJ0 15 "java/lang/String" "coder" "B") (List.mem_of_getElem? (l := wsL_law_r4) (i := 1) rfl))) (fun _ z => z) dqJ0_coder_7d493_7 ?_
  refine lv_goto (tgt := 14) hx hb dqJ0_coder_7d493_10 (by decide) ?_
  exact W.zret (v := 0) hx hb hr rfl (fun t ht hW => ⟨⟨_, (), rfl, rfl, trivial⟩, hS.F ht⟩) hS.2.2 dqJ0_coder_7d493_14
set_option maxHeartbeats 4000000 in
set_option maxRecDepth 100000 in
theorem cq_lat (l : Launch) (ad adV : Nat → Nat) (k : Nat) (hk : k < 5) (sz : Nat) : Met l yJ0_isLatin1_aae02 (Cond.code yJ0_isLatin1_aae02 cJ0_isLatin1_aae02 1 (some .boolean) :: wsL_law) ({ frames := 0, cells := 0, slots := 0, locals := 0 } : Room) (va_Pc [.ref (ad (100 + k))] (fun U => U.heap.size = sz ∧ jE ad adV (fun q => sz ≤ q) U U.heap)) (va_Qi (fun (r : Int32) (_ : Unit) => r = 1) (fun _ _ => True) (fun q => sz ≤ q)) 0 0 (fun q => sz ≤ q) := by
  refine Met.ofW (cc := cJ0_isLatin1_aae02) (maxL := 1) (ret := (some .boolean)) (by decide) rfl ?_
  intro p e s m args below meth c s₁ B hml hv
  obtain ⟨rfl, hsz, hE⟩ := hv
  have hx := B.exec
  have hb := B.bytes
  have hr := B.returns
  have hts0 := atoms_spec (ws := (Cond.code yJ0_isLatin1_aae02 cJ0_isLatin1_aae02 1 (some .boolean) :: wsL_law)) B.pre
  have hts : ∀ w ∈ wsL_law, w.before _ s = true := fun w h => hts0 w (List.mem_cons_of_mem _ h)
  have hown : s.vm.findClass RJ0 = some m.cls := findClass_of_methodNamed B.named
  have hlocks := B.notSynchronized
  subst hsz
  have hS : va_S (fun q : Nat => s.heap.size ≤ q) s.heap s.heap [] := va_S.rf
  have hl := lv_entry [.ref (ad (100 + k))] (n := 1) (Nat.le_of_ble_eq_true rfl)
  rw [lg_entry_eq]
  generalize (lg_sl [.ref (ad (100 + k))] ++ List.replicate (1 - (lg_sl [.ref (ad (100 + k))]).length) Slot.unset).toArray = ls at hl ⊢
  have hl : lv_has ls 1 [(0, .ref (ad (100 + k)))] := hl
  refine va_gets (ref := "java/lang/String") (index := 38) hx hb hE.2.2.2.1 hS hown (hts _ (jp_4 (Cond.fieldLink RJ0 38 "java/lang/String" "COMPACT_STRINGS" "Z") (List.mem_of_getElem? (l := wsL_law_r4) (i := 0) rfl))) (fun _ z => z) dqJ0_isLatin1_aae02_0 ?_
  refine lv_if_eq (tgt := 17) hx hb dqJ0_isLatin1_aae02_3 (by decide) (fun q => absurd q (by decide)) (fun _ => ?_)
  refine lv_aload_n hx hb dqJ0_isLatin1_aae02_6 rfl (lv_at hl 0 rfl) ?_
  refine vk_getf (ref := "java/lang/String") (index := 15) hx hb (hE.2.2.1.1 k hk).2.1 hS hown (hts _ (jp_4 (Cond.fieldLink RJ0 15 "java/lang/String" "coder" "B") (List.mem_of_getElem? (l := wsL_law_r4) (i := 1) rfl))) (fun _ z => z) dqJ0_isLatin1_aae02_7 ?_
  refine lv_if_ne (tgt := 17) hx hb dqJ0_isLatin1_aae02_10 (by decide) (fun q => absurd rfl q) (fun _ => ?_)
  refine lv_iconst (v := 1) hx hb dqJ0_isLatin1_aae02_13 (by decide) ?_
  refine lv_goto (tgt := 18) hx hb dqJ0_isLatin1_aae02_14 (by decide) ?_
  exact W.zret (v := 1) hx hb hr rfl (fun t ht hW => ⟨⟨_, (), rfl, rfl, trivial⟩, hS.F ht⟩) hS.2.2 dqJ0_isLatin1_aae02_18
set_option maxHeartbeats 4000000 in
set_option maxRecDepth 100000 in
theorem cq_len (l : Launch) (ad adV : Nat → Nat) (k : Nat) (hk : k < 5) (sz : Nat) : Met l yJ0_length_8abf5 (Cond.code yJ0_length_8abf5 cJ0_length_8abf5 1 (some .int) :: wsL_law) ({ frames := 1, cells := 0, slots := 0, locals := 20 } : Room) (va_Pc [.ref (ad (100 + k))] (fun U => U.heap.size = sz ∧ jE ad adV (fun q => sz ≤ q) U U.heap)) (va_Qi (fun (r : Int32) (_ : Unit) => r = Int32.ofInt (jsl k)) (fun _ _ => True) (fun q => sz ≤ q)) 0 0 (fun q => sz ≤ q) := by
  refine Met.ofW (cc := cJ0_length_8abf5) (maxL := 1) (ret := (some .int)) (by decide) rfl ?_
  intro p e s m args below meth c s₁ B hml hv
  obtain ⟨rfl, hsz, hE⟩ := hv
  have hx := B.exec
  have hb := B.bytes
  have hr := B.returns
  have hts0 := atoms_spec (ws := (Cond.code yJ0_length_8abf5 cJ0_length_8abf5 1 (some .int) :: wsL_law)) B.pre
  have hts : ∀ w ∈ wsL_law, w.before _ s = true := fun w h => hts0 w (List.mem_cons_of_mem _ h)
  have hown : s.vm.findClass RJ0 = some m.cls := findClass_of_methodNamed B.named
  have hlocks := B.notSynchronized
  subst hsz
  have hS : va_S (fun q : Nat => s.heap.size ≤ q) s.heap s.heap [] := va_S.rf
  have hl := lv_entry [.ref (ad (100 + k))] (n := 1) (Nat.le_of_ble_eq_true rfl)
  rw [lg_entry_eq]
  generalize (lg_sl [.ref (ad (100 + k))] ++ List.replicate (1 - (lg_sl [.ref (ad (100 + k))]).length) Slot.unset).toArray = ls at hl ⊢
  have hl : lv_has ls 1 [(0, .ref (ad (100 + k)))] := hl
  refine lv_aload_n hx hb dqJ0_length_8abf5_0 rfl (lv_at hl 0 rfl) ?_
  refine vk_getf (ref := "java/lang/String") (index := 9) hx hb (hE.2.2.1.1 k hk).2.2.1 hS hown (hts _ (jp_3 (Cond.fieldLink RJ0 9 "java/lang/String" "value" "[B") (List.mem_of_getElem? (l := wsL_law_r3) (i := 19) rfl))) (fun _ z => z) dqJ0_length_8abf5_1 ?_
  refine va_tlen (v := Int32.ofInt (jsl k)) hx hb (hE.2.2.1.1 k hk).2.2.2 hS (jsl_len hk) dqJ0_length_8abf5_4 ?_
  refine lv_aload_n hx hb dqJ0_length_8abf5_5 rfl (lv_at hl 0 rfl) ?_
  refine va_calli (va_runV (C := RJ0) (b := ad (100 + k)) (As := []) (rest := [.int (Int32.ofInt (jsl k))]) ⟨hx, hb, hml, hown, hts⟩ (cq_coder l ad adV k hk s.heap.size) ⟨(callB_of (ws := (Cond.code yJ0_coder_7d493 cJ0_coder_7d493 1 (some .byte) :: wsL_law)) (ws' := wsL_law) (rm := ({ frames := 0, cells := 0, slots := 0, locals := 0 } : Room)) 0 hts (jgoodIn (jcons_in (jp_6 (Cond.code yJ0_coder_7d493 cJ0_coder_7d493 1 (some .byte)) (List.mem_of_getElem? (l := wsL_law_r6) (i := 5) rfl)))) rfl rfl rfl (hts _ (jp_3 (Cond.initialized RJ0) (List.mem_of_getElem? (l := wsL_law_r3) (i := 17) rfl))) (hts _ (jp_6 (Cond.methodLink RJ0 335 yJ0_coder_7d493) (List.mem_of_getElem? (l := wsL_law_r6) (i := 2) rfl))) (by decide +kernel) ⟨Nat.le_of_ble_eq_true rfl, Nat.le_of_ble_eq_true rfl⟩), hts _ (jp_6 (Cond.instanceMethod yJ0_coder_7d493) (List.mem_of_getElem? (l := wsL_law_r6) (i := 3) rfl)), hts _ (jp_6 (Cond.selects RJ0 yJ0_coder_7d493 yJ0_coder_7d493) (List.mem_of_getElem? (l := wsL_law_r6) (i := 4) rfl))⟩ ⟨(fun a U g mk q => ⟨q.1, q.2.1, jE_same (u := U) (U := U.calling g mk a) rfl q.2.2⟩), vk_recv (adK := fun k => ad (100 + k)) (i := k) hE.2.2.1 hk hS, (fun U hU hW => ⟨rfl, by rw [hU], by rw [hU]; exact jE_warm hW hE⟩)⟩ rfl rfl hl.1 rfl (lv_room (Nat.le_of_ble_eq_true rfl)) dqJ0_length_8abf5_6 ⟨Nat.zero_le _, Nat.zero_le _⟩) hS (fun q _ h => h) (fun q h => h) (fun r u t H1 locs1 ht hvm hw hB hz1 hk1 hS1 => ?_)
  subst hw
  refine lv_ishr hx hb dqJ0_length_8abf5_9 ?_
  rw [jshr0]
  exact W.iret hx hb hr (fun t ht hW => ⟨⟨_, (), rfl, rfl, trivial⟩, hS1.F ht⟩) hS1.2.2 dqJ0_length_8abf5_10
set_option maxHeartbeats 4000000 in
set_option maxRecDepth 100000 in
theorem cq_emp (l : Launch) (ad adV : Nat → Nat) (k : Nat) (hk : k < 5) (sz : Nat) : Met l yJ0_isEmpty_aae02 (Cond.code yJ0_isEmpty_aae02 cJ0_isEmpty_aae02 1 (some .boolean) :: wsL_law) ({ frames := 0, cells := 0, slots := 0, locals := 0 } : Room) (va_Pc [.ref (ad (100 + k))] (fun U => U.heap.size = sz ∧ jE ad adV (fun q => sz ≤ q) U U.heap)) (va_Qi (fun (r : Int32) (_ : Unit) => r = Int32.ofInt (if jsl k = 0 then 1 else 0)) (fun _ _ => True) (fun q => sz ≤ q)) 0 0 (fun q => sz ≤ q) := by
  refine Met.ofW (cc := cJ0_isEmpty_aae02) (maxL := 1) (ret := (some .boolean)) (by decide) rfl ?_
  intro p e s m args below meth c s₁ B hml hv
  obtain ⟨rfl, hsz, hE⟩ := hv
  have hx := B.exec
  have hb := B.bytes
  have hr := B.returns
  have hts0 := atoms_spec (ws := (Cond.code yJ0_isEmpty_aae02 cJ0_isEmpty_aae02 1 (some .boolean) :: wsL_law)) B.pre
  have hts : ∀ w ∈ wsL_law, w.before _ s = true := fun w h => hts0 w (List.mem_cons_of_mem _ h)
  have hown : s.vm.findClass RJ0 = some m.cls := findClass_of_methodNamed B.named
  have hlocks := B.notSynchronized
  subst hsz
  have hS : va_S (fun q : Nat => s.heap.size ≤ q) s.heap s.heap [] := va_S.rf
  have hl := lv_entry [.ref (ad (100 + k))] (n := 1) (Nat.le_of_ble_eq_true rfl)
  rw [lg_entry_eq]
  generalize (lg_sl [.ref (ad (100 + k))] ++ List.replicate (1 - (lg_sl [.ref (ad (100 + k))]).length) Slot.unset).toArray = ls at hl ⊢
  have hl : lv_has ls 1 [(0, .ref (ad (100 + k)))] := hl
  refine lv_aload_n hx hb dqJ0_isEmpty_aae02_0 rfl (lv_at hl 0 rfl) ?_
  refine vk_getf (ref := "java/lang/String") (index := 9) hx hb (hE.2.2.1.1 k hk).2.2.1 hS hown (hts _ (jp_3 (Cond.fieldLink RJ0 9 "java/lang/String" "value" "[B") (List.mem_of_getElem? (l := wsL_law_r3) (i := 19) rfl))) (fun _ z => z) dqJ0_isEmpty_aae02_1 ?_
  refine va_tlen (v := Int32.ofInt (jsl k)) hx hb (hE.2.2.1.1 k hk).2.2.2 hS (jsl_len hk) dqJ0_isEmpty_aae02_4 ?_
  refine lv_if_ne (tgt := 12) hx hb dqJ0_isEmpty_aae02_5 (by decide) (fun q => ?_) (fun q => ?_)
  · refine lv_iconst (v := 0) hx hb dqJ0_isEmpty_aae02_12 (by decide) ?_
    exact W.zret (v := 0) hx hb hr rfl (fun t ht hW => ⟨⟨_, (), rfl, by rw [if_neg (fun z => q ((jsl_0 hk).mpr z))]; rfl, trivial⟩, hS.F ht⟩) hS.2.2 dqJ0_isEmpty_aae02_13
  · refine lv_iconst (v := 1) hx hb dqJ0_isEmpty_aae02_8 (by decide) ?_
    refine lv_goto (tgt := 13) hx hb dqJ0_isEmpty_aae02_9 (by decide) ?_
    exact W.zret (v := 1) hx hb hr rfl (fun t ht hW => ⟨⟨_, (), rfl, by rw [if_pos ((jsl_0 hk).mp q)]; rfl, trivial⟩, hS.F ht⟩) hS.2.2 dqJ0_isEmpty_aae02_13
set_option maxHeartbeats 4000000 in
set_option maxRecDepth 100000 in
theorem cq_ck3n (l : Launch) (ad adV : Nat → Nat) (i n : Int32) (h0 : ¬ i < 0) (h1 : i < n)  (sz : Nat) : Met l yJ3_checkIndex_8e157 (Cond.code yJ3_checkIndex_8e157 cJ3_checkIndex_8e157 3 (some .int) :: wsL_law) ({ frames := 0, cells := 0, slots := 0, locals := 0 } : Room) (va_Pc [.int i, .int n, .null] (fun U => U.heap.size = sz ∧ jE ad adV (fun q => sz ≤ q) U U.heap)) (va_Qi (fun (r : Int32) (_ : Unit) => r = i) (fun _ _ => True) (fun q => sz ≤ q)) 0 0 (fun q => sz ≤ q) := by
  refine Met.ofW (cc := cJ3_checkIndex_8e157) (maxL := 3) (ret := (some .int)) (by decide) rfl ?_
  intro p e s m args below meth c s₁ B hml hv
  obtain ⟨rfl, hsz, hE⟩ := hv
  have hx := B.exec
  have hb := B.bytes
  have hr := B.returns
  have hts0 := atoms_spec (ws := (Cond.code yJ3_checkIndex_8e157 cJ3_checkIndex_8e157 3 (some .int) :: wsL_law)) B.pre
  have hts : ∀ w ∈ wsL_law, w.before _ s = true := fun w h => hts0 w (List.mem_cons_of_mem _ h)
  have hown : s.vm.findClass RJ3 = some m.cls := findClass_of_methodNamed B.named
  have hlocks := B.notSynchronized
  subst hsz
  have hS : va_S (fun q : Nat => s.heap.size ≤ q) s.heap s.heap [] := va_S.rf
  have hl := lv_entry [.int i, .int n, .null] (n := 3) (Nat.le_of_ble_eq_true rfl)
  rw [lg_entry_eq]
  generalize (lg_sl [.int i, .int n, .null] ++ List.replicate (3 - (lg_sl [.int i, .int n, .null]).length) Slot.unset).toArray = ls at hl ⊢
  have hl : lv_has ls 3 [(0, .int i), (1, .int n), (2, .null)] := hl
  refine lv_iload_n hx hb dqJ3_checkIndex_8e157_0 rfl (lv_at hl 0 rfl) ?_
  refine lv_if_lt (tgt := 9) hx hb dqJ3_checkIndex_8e157_1 (by decide) (fun q => absurd q h0) (fun _ => ?_)
  refine lv_iload_n hx hb dqJ3_checkIndex_8e157_4 rfl (lv_at hl 0 rfl) ?_
  refine lv_iload_n hx hb dqJ3_checkIndex_8e157_5 rfl (lv_at hl 1 rfl) ?_
  refine lv_icmp_lt (tgt := 16) hx hb dqJ3_checkIndex_8e157_6 (by decide) (fun _ => ?_) (fun q => absurd h1 q)
  refine lv_iload_n hx hb dqJ3_checkIndex_8e157_16 rfl (lv_at hl 0 rfl) ?_
  exact W.iret hx hb hr (fun t ht hW => ⟨⟨_, (), rfl, rfl, trivial⟩, hS.F ht⟩) hS.2.2 dqJ3_checkIndex_8e157_17
set_option maxHeartbeats 4000000 in
set_option maxRecDepth 100000 in
theorem cq_ck3r (l : Launch) (ad adV : Nat → Nat) (i n : Int32) (h0 : ¬ i < 0) (h1 : i < n) (tt : Nat) (sz : Nat) : Met l yJ3_checkIndex_8e157 (Cond.code yJ3_checkIndex_8e157 cJ3_checkIndex_8e157 3 (some .int) :: wsL_law) ({ frames := 0, cells := 0, slots := 0, locals := 0 } : Room) (va_Pc [.int i, .int n, .ref tt] (fun U => U.heap.size = sz ∧ jE ad adV (fun q => sz ≤ q) U U.heap)) (va_Qi (fun (r : Int32) (_ : Unit) => r = i) (fun _ _ => True) (fun q => sz ≤ q)) 0 0 (fun q => sz ≤ q) := by
  refine Met.ofW (cc := cJ3_checkIndex_8e157) (maxL := 3) (ret := (some .int)) (by decide) rfl ?_
  intro p e s m args below meth c s₁ B hml hv
  obtain ⟨rfl, hsz, hE⟩ := hv
  have hx := B.exec
  have hb := B.bytes
  have hr := B.returns
  have hts0 := atoms_spec (ws := (Cond.code yJ3_checkIndex_8e157 cJ3_checkIndex_8e157 3 (some .int) :: wsL_law)) B.pre
  have hts : ∀ w ∈ wsL_law, w.before _ s = true := fun w h => hts0 w (List.mem_cons_of_mem _ h)
  have hown : s.vm.findClass RJ3 = some m.cls := findClass_of_methodNamed B.named
  have hlocks := B.notSynchronized
  subst hsz
  have hS : va_S (fun q : Nat => s.heap.size ≤ q) s.heap s.heap [] := va_S.rf
  have hl := lv_entry [.int i, .int n, .ref tt] (n := 3) (Nat.le_of_ble_eq_true rfl)
  rw [lg_entry_eq]
  generalize (lg_sl [.int i, .int n, .ref tt] ++ List.replicate (3 - (lg_sl [.int i, .int n, .ref tt]).length) Slot.unset).toArray = ls at hl ⊢
  have hl : lv_has ls 3 [(0, .int i), (1, .int n), (2, .ref tt)] := hl
  refine lv_iload_n hx hb dqJ3_checkIndex_8e157_0 rfl (lv_at hl 0 rfl) ?_
  refine lv_if_lt (tgt := 9) hx hb dqJ3_checkIndex_8e157_1 (by decide) (fun q => absurd q h0) (fun _ => ?_)
  refine lv_iload_n hx hb dqJ3_checkIndex_8e157_4 rfl (lv_at hl 0 rfl) ?_
  refine lv_iload_n hx hb dqJ3_checkIndex_8e157_5 rfl (lv_at hl 1 rfl) ?_
  refine lv_icmp_lt (tgt := 16) hx hb dqJ3_checkIndex_8e157_6 (by decide) (fun _ => ?_) (fun q => absurd h1 q)
  refine lv_iload_n hx hb dqJ3_checkIndex_8e157_16 rfl (lv_at hl 0 rfl) ?_
  exact W.iret hx hb hr (fun t ht hW => ⟨⟨_, (), rfl, rfl, trivial⟩, hS.F ht⟩) hS.2.2 dqJ3_checkIndex_8e157_17
set_option maxHeartbeats 4000000 in
set_option maxRecDepth 100000 in
theorem cq_ck0 (l : Launch) (ad adV : Nat → Nat) (i n : Int32) (h0 : ¬ i < 0) (h1 : i < n) (sz : Nat) : Met l yJ0_checkIndex_df160 (Cond.code yJ0_checkIndex_df160 cJ0_checkIndex_df160 2 none :: wsL_law) ({ frames := 1, cells := 0, slots := 0, locals := 22 } : Room) (va_Pc [.int i, .int n] (fun U => U.heap.size = sz ∧ jE ad adV (fun q => sz ≤ q) U U.heap)) (va_Qv (fun (_ : Unit) => True) (fun _ _ => True) (fun q => sz ≤ q)) 0 0 (fun q => sz ≤ q) := by
  refine Met.ofW (cc := cJ0_checkIndex_df160) (maxL := 2) (ret := none) (by decide) rfl ?_
  intro p e s m args below meth c s₁ B hml hv
  obtain ⟨rfl, hsz, hE⟩ := hv
  have hx := B.exec
  have hb := B.bytes
  have hr := B.returns
  have hts0 := atoms_spec (ws := (Cond.code yJ0_checkIndex_df160 cJ0_checkIndex_df160 2 none :: wsL_law)) B.pre
  have hts : ∀ w ∈ wsL_law, w.before _ s = true := fun w h => hts0 w (List.mem_cons_of_mem _ h)
  have hown : s.vm.findClass RJ0 = some m.cls := findClass_of_methodNamed B.named
  have hlocks := B.notSynchronized
  subst hsz
  have hS : va_S (fun q : Nat => s.heap.size ≤ q) s.heap s.heap [] := va_S.rf
  have hl := lv_entry [.int i, .int n] (n := 2) (Nat.le_of_ble_eq_true rfl)
  rw [lg_entry_eq]
  generalize (lg_sl [.int i, .int n] ++ List.replicate (2 - (lg_sl [.int i, .int n]).length) Slot.unset).toArray = ls at hl ⊢
  have hl : lv_has ls 2 [(0, .int i), (1, .int n)] := hl
  refine lv_iload_n hx hb dqJ0_checkIndex_df160_0 rfl (lv_at hl 0 rfl) ?_
  refine lv_iload_n hx hb dqJ0_checkIndex_df160_1 rfl (lv_at hl 1 rfl) ?_
  rcases hE.2.2.2.2.1 with hZ | ⟨tt, hZ⟩
  · refine va_gets (ref := "jdk/internal/util/Preconditions") (index := 1053) hx hb hZ hS hown (hts _ (jp_4 (Cond.fieldLink RJ0 1053 "jdk/internal/util/Preconditions" "SIOOBE_FORMATTER" "Ljava/util/function/BiFunction;") (List.mem_of_getElem? (l := wsL_law_r4) (i := 9) rfl))) (fun _ z => z) dqJ0_checkIndex_df160_2 ?_
    refine va_calli (va_runS (As := [.int i, .int n, .null]) (rest := []) ⟨hx, hb, hml, hown, hts⟩ (cq_ck3n l ad adV i n h0 h1 s.heap.size) ⟨(callB_of (ws := (Cond.code yJ3_checkIndex_8e157 cJ3_checkIndex_8e157 3 (some .int) :: wsL_law)) (ws' := wsL_law) (rm := ({ frames := 0, cells := 0, slots := 0, locals := 0 } : Room)) 3 hts (jgoodIn (jcons_in (jp_4 (Cond.code yJ3_checkIndex_8e157 cJ3_checkIndex_8e157 3 (some .int)) (List.mem_of_getElem? (l := wsL_law_r4) (i := 13) rfl)))) rfl rfl rfl (hts _ (jp_4 (Cond.initialized RJ3) (List.mem_of_getElem? (l := wsL_law_r4) (i := 12) rfl))) (hts _ (jp_4 (Cond.methodLink RJ0 1059 yJ3_checkIndex_8e157) (List.mem_of_getElem? (l := wsL_law_r4) (i := 10) rfl))) (by decide +kernel) ⟨Nat.le_of_ble_eq_true rfl, Nat.le_of_ble_eq_true rfl⟩), hts _ (jp_4 (Cond.static yJ3_checkIndex_8e157) (List.mem_of_getElem? (l := wsL_law_r4) (i := 11) rfl))⟩ ⟨(fun a U g mk q => ⟨q.1, q.2.1, jE_same (u := U) (U := U.calling g mk a) rfl q.2.2⟩), (fun U hU hW => ⟨rfl, by rw [hU], by rw [hU]; exact jE_warm hW hE⟩)⟩ rfl rfl hl.1 rfl (lv_room (Nat.le_of_ble_eq_true rfl)) dqJ0_checkIndex_df160_5 ⟨Nat.zero_le _, Nat.zero_le _⟩) hS (fun q _ h => h) (fun q h => h) (fun r u t H1 locs1 ht hvm hw hB hz1 hk1 hS1 => ?_)
    refine lv_pop hx hb dqJ0_checkIndex_df160_8 rfl ?_
    exact W.vret hx hb hr (fun t ht hW => ⟨⟨(), rfl, trivial, trivial⟩, hS1.F ht⟩) hS1.2.2 dqJ0_checkIndex_df160_9
  · refine va_gets (ref := "jdk/internal/util/Preconditions") (index := 1053) hx hb hZ hS hown (hts _ (jp_4 (Cond.fieldLink RJ0 1053 "jdk/internal/util/Preconditions" "SIOOBE_FORMATTER" "Ljava/util/function/BiFunction;") (List.mem_of_getElem? (l := wsL_law_r4) (i := 9) rfl))) (fun _ z => z) dqJ0_checkIndex_df160_2 ?_
    refine va_calli (va_runS (As := [.int i, .int n, .ref tt]) (rest := []) ⟨hx, hb, hml, hown, hts⟩ (cq_ck3r l ad adV i n h0 h1 tt s.heap.size) ⟨(callB_of (ws := (Cond.code yJ3_checkIndex_8e157 cJ3_checkIndex_8e157 3 (some .int) :: wsL_law)) (ws' := wsL_law) (rm := ({ frames := 0, cells := 0, slots := 0, locals := 0 } : Room)) 3 hts (jgoodIn (jcons_in (jp_4 (Cond.code yJ3_checkIndex_8e157 cJ3_checkIndex_8e157 3 (some .int)) (List.mem_of_getElem? (l := wsL_law_r4) (i := 13) rfl)))) rfl rfl rfl (hts _ (jp_4 (Cond.initialized RJ3) (List.mem_of_getElem? (l := wsL_law_r4) (i := 12) rfl))) (hts _ (jp_4 (Cond.methodLink RJ0 1059 yJ3_checkIndex_8e157) (List.mem_of_getElem? (l := wsL_law_r4) (i := 10) rfl))) (by decide +kernel) ⟨Nat.le_of_ble_eq_true rfl, Nat.le_of_ble_eq_true rfl⟩), hts _ (jp_4 (Cond.static yJ3_checkIndex_8e157) (List.mem_of_getElem? (l := wsL_law_r4) (i := 11) rfl))⟩ ⟨(fun a U g mk q => ⟨q.1, q.2.1, jE_same (u := U) (U := U.calling g mk a) rfl q.2.2⟩), (fun U hU hW => ⟨rfl, by rw [hU], by rw [hU]; exact jE_warm hW hE⟩)⟩ rfl rfl hl.1 rfl (lv_room (Nat.le_of_ble_eq_true rfl)) dqJ0_checkIndex_df160_5 ⟨Nat.zero_le _, Nat.zero_le _⟩) hS (fun q _ h => h) (fun q h => h) (fun r u t H1 locs1 ht hvm hw hB hz1 hk1 hS1 => ?_)
    refine lv_pop hx hb dqJ0_checkIndex_df160_8 rfl ?_
    exact W.vret hx hb hr (fun t ht hW => ⟨⟨(), rfl, trivial, trivial⟩, hS1.F ht⟩) hS1.2.2 dqJ0_checkIndex_df160_9
set_option maxHeartbeats 4000000 in
set_option maxRecDepth 100000 in
theorem cq_chl (l : Launch) (ad adV : Nat → Nat) (k : Nat) (hk : k < 5) (j : Nat) (hj : j < jsl k) (sz : Nat) : Met l yJ1_charAt_3b067 (Cond.code yJ1_charAt_3b067 cJ1_charAt_3b067 2 (some .char) :: wsL_law) ({ frames := 2, cells := 0, slots := 0, locals := 43 } : Room) (va_Pc [.ref (adV k), .int (Int32.ofInt j)] (fun U => U.heap.size = sz ∧ jE ad adV (fun q => sz ≤ q) U U.heap)) (va_Qi (fun (r : Int32) (_ : Unit) => r = Int32.ofInt ((jst k).getD j 0)) (fun _ _ => True) (fun q => sz ≤ q)) 0 0 (fun q => sz ≤ q) := by
  refine Met.ofW (cc := cJ1_charAt_3b067) (maxL := 2) (ret := (some .char)) (by decide) rfl ?_
  intro p e s m args below meth c s₁ B hml hv
  obtain ⟨rfl, hsz, hE⟩ := hv
  have hx := B.exec
  have hb := B.bytes
  have hr := B.returns
  have hts0 := atoms_spec (ws := (Cond.code yJ1_charAt_3b067 cJ1_charAt_3b067 2 (some .char) :: wsL_law)) B.pre
  have hts : ∀ w ∈ wsL_law, w.before _ s = true := fun w h => hts0 w (List.mem_cons_of_mem _ h)
  have hown : s.vm.findClass RJ1 = some m.cls := findClass_of_methodNamed B.named
  have hlocks := B.notSynchronized
  subst hsz
  have hS : va_S (fun q : Nat => s.heap.size ≤ q) s.heap s.heap [] := va_S.rf
  have hl := lv_entry [.ref (adV k), .int (Int32.ofInt j)] (n := 2) (Nat.le_of_ble_eq_true rfl)
  rw [lg_entry_eq]
  generalize (lg_sl [.ref (adV k), .int (Int32.ofInt j)] ++ List.replicate (2 - (lg_sl [.ref (adV k), .int (Int32.ofInt j)]).length) Slot.unset).toArray = ls at hl ⊢
  have hl : lv_has ls 2 [(0, .ref (adV k)), (1, .int (Int32.ofInt j))] := hl
  refine lv_iload_n hx hb dqJ1_charAt_3b067_0 rfl (lv_at hl 1 rfl) ?_
  refine lv_aload_n hx hb dqJ1_charAt_3b067_1 rfl (lv_at hl 0 rfl) ?_
  refine va_tlen (v := Int32.ofInt (jsl k)) hx hb (hE.2.2.1.1 k hk).2.2.2 hS (jsl_len hk) dqJ1_charAt_3b067_2 ?_
  refine va_callv (va_runS (As := [.int (Int32.ofInt j), .int (Int32.ofInt (jsl k))]) (rest := []) ⟨hx, hb, hml, hown, hts⟩ (cq_ck0 l ad adV _ _ (jsl_ge hk hj) (jsl_lt hk hj) s.heap.size) ⟨(callB_of (ws := (Cond.code yJ0_checkIndex_df160 cJ0_checkIndex_df160 2 none :: wsL_law)) (ws' := wsL_law) (rm := ({ frames := 1, cells := 0, slots := 0, locals := 22 } : Room)) 2 hts (jgoodIn (jcons_in (jp_4 (Cond.code yJ0_checkIndex_df160 cJ0_checkIndex_df160 2 none) (List.mem_of_getElem? (l := wsL_law_r4) (i := 8) rfl)))) rfl rfl rfl (hts _ (jp_3 (Cond.initialized RJ0) (List.mem_of_getElem? (l := wsL_law_r3) (i := 17) rfl))) (hts _ (jp_4 (Cond.methodLink RJ1 9 yJ0_checkIndex_df160) (List.mem_of_getElem? (l := wsL_law_r4) (i := 6) rfl))) (by decide +kernel) ⟨Nat.le_of_ble_eq_true rfl, Nat.le_of_ble_eq_true rfl⟩), hts _ (jp_4 (Cond.static yJ0_checkIndex_df160) (List.mem_of_getElem? (l := wsL_law_r4) (i := 7) rfl))⟩ ⟨(fun a U g mk q => ⟨q.1, q.2.1, jE_same (u := U) (U := U.calling g mk a) rfl q.2.2⟩), (fun U hU hW => ⟨rfl, by rw [hU], by rw [hU]; exact jE_warm hW hE⟩)⟩ rfl rfl hl.1 rfl (lv_room (Nat.le_of_ble_eq_true rfl)) dqJ1_charAt_3b067_3 ⟨Nat.zero_le _, Nat.zero_le _⟩) hS (fun q _ h => h) (fun q h => h) (fun u t H1 locs1 ht hvm hw hB hz1 hk1 hS1 => ?_)
  refine lv_aload_n hx hb dqJ1_charAt_3b067_6 rfl (lv_at hl 0 rfl) ?_
  refine lv_iload_n hx hb dqJ1_charAt_3b067_7 rfl (lv_at hl 1 rfl) ?_
  refine va_tb (v := .int (Int32.ofInt ((jst k).getD j 0))) hx hb (hE.2.2.1.1 k hk).2.2.2 hS1 (jsl_in hk hj) (jst_at hk hj) dqJ1_charAt_3b067_8 ?_
  refine lv_sipush (v := 255) hx hb dqJ1_charAt_3b067_9 (by decide) ?_
  refine lv_iand hx hb dqJ1_charAt_3b067_12 ?_
  refine lv_i2c (v := Int32.ofInt ((jst k).getD j 0)) hx hb dqJ1_charAt_3b067_13 (jst_c hk hj) ?_
  exact W.zret hx hb hr (jst_n hk hj) (fun t ht hW => ⟨⟨_, (), rfl, rfl, trivial⟩, hS1.F ht⟩) hS1.2.2 dqJ1_charAt_3b067_14
set_option maxHeartbeats 4000000 in
set_option maxRecDepth 100000 in
theorem cq_cha (l : Launch) (ad adV : Nat → Nat) (k : Nat) (hk : k < 5) (j : Nat) (hj : j < jsl k) (sz : Nat) : Met l yJ0_charAt_5068e (Cond.code yJ0_charAt_5068e cJ0_charAt_5068e 2 (some .char) :: wsL_law) ({ frames := 4, cells := 0, slots := 0, locals := 85 } : Room) (va_Pc [.ref (ad (100 + k)), .int (Int32.ofInt j)] (fun U => U.heap.size = sz ∧ jE ad adV (fun q => sz ≤ q) U U.heap)) (va_Qi (fun (r : Int32) (_ : Unit) => r = Int32.ofInt ((jst k).getD j 0)) (fun _ _ => True) (fun q => sz ≤ q)) 0 0 (fun q => sz ≤ q) := by
  refine Met.ofW (cc := cJ0_charAt_5068e) (maxL := 2) (ret := (some .char)) (by decide) rfl ?_
  intro p e s m args below meth c s₁ B hml hv
  obtain ⟨rfl, hsz, hE⟩ := hv
  have hx := B.exec
  have hb := B.bytes
  have hr := B.returns
  have hts0 := atoms_spec (ws := (Cond.code yJ0_charAt_5068e cJ0_charAt_5068e 2 (some .char) :: wsL_law)) B.pre
  have hts : ∀ w ∈ wsL_law, w.before _ s = true := fun w h => hts0 w (List.mem_cons_of_mem _ h)
  have hown : s.vm.findClass RJ0 = some m.cls := findClass_of_methodNamed B.named
  have hlocks := B.notSynchronized
  subst hsz
  have hS : va_S (fun q : Nat => s.heap.size ≤ q) s.heap s.heap [] := va_S.rf
  have hl := lv_entry [.ref (ad (100 + k)), .int (Int32.ofInt j)] (n := 2) (Nat.le_of_ble_eq_true rfl)
  rw [lg_entry_eq]
  generalize (lg_sl [.ref (ad (100 + k)), .int (Int32.ofInt j)] ++ List.replicate (2 - (lg_sl [.ref (ad (100 + k)), .int (Int32.ofInt j)]).length) Slot.unset).toArray = ls at hl ⊢
  have hl : lv_has ls 2 [(0, .ref (ad (100 + k))), (1, .int (Int32.ofInt j))] := hl
  refine lv_aload_n hx hb dqJ0_charAt_5068e_0 rfl (lv_at hl 0 rfl) ?_
  refine va_calli (va_runV (C := RJ0) (b := ad (100 + k)) (As := []) (rest := []) ⟨hx, hb, hml, hown, hts⟩ (cq_lat l ad adV k hk s.heap.size) ⟨(callB_of (ws := (Cond.code yJ0_isLatin1_aae02 cJ0_isLatin1_aae02 1 (some .boolean) :: wsL_law)) (ws' := wsL_law) (rm := ({ frames := 0, cells := 0, slots := 0, locals := 0 } : Room)) 0 hts (jgoodIn (jcons_in (jp_3 (Cond.code yJ0_isLatin1_aae02 cJ0_isLatin1_aae02 1 (some .boolean)) (List.mem_of_getElem? (l := wsL_law_r3) (i := 23) rfl)))) rfl rfl rfl (hts _ (jp_3 (Cond.initialized RJ0) (List.mem_of_getElem? (l := wsL_law_r3) (i := 17) rfl))) (hts _ (jp_3 (Cond.methodLink RJ0 492 yJ0_isLatin1_aae02) (List.mem_of_getElem? (l := wsL_law_r3) (i := 20) rfl))) (by decide +kernel) ⟨Nat.le_of_ble_eq_true rfl, Nat.le_of_ble_eq_true rfl⟩), hts _ (jp_3 (Cond.instanceMethod yJ0_isLatin1_aae02) (List.mem_of_getElem? (l := wsL_law_r3) (i := 21) rfl)), hts _ (jp_3 (Cond.selects RJ0 yJ0_isLatin1_aae02 yJ0_isLatin1_aae02) (List.mem_of_getElem? (l := wsL_law_r3) (i := 22) rfl))⟩ ⟨(fun a U g mk q => ⟨q.1, q.2.1, jE_same (u := U) (U := U.calling g mk a) rfl q.2.2⟩), vk_recv (adK := fun k => ad (100 + k)) (i := k) hE.2.2.1 hk hS, (fun U hU hW => ⟨rfl, by rw [hU], by rw [hU]; exact jE_warm hW hE⟩)⟩ rfl rfl hl.1 rfl (lv_room (Nat.le_of_ble_eq_true rfl)) dqJ0_charAt_5068e_1 ⟨Nat.zero_le _, Nat.zero_le _⟩) hS (fun q _ h => h) (fun q h => h) (fun r u t H1 locs1 ht hvm hw hB hz1 hk1 hS1 => ?_)
  subst hw
  refine lv_if_eq (tgt := 16) hx hb dqJ0_charAt_5068e_4 (by decide) (fun q => absurd q (by decide)) (fun _ => ?_)
  refine lv_aload_n hx hb dqJ0_charAt_5068e_7 rfl (lv_at hl 0 rfl) ?_
  refine vk_getf (ref := "java/lang/String") (index := 9) hx hb (hE.2.2.1.1 k hk).2.2.1 hS1 hown (hts _ (jp_3 (Cond.fieldLink RJ0 9 "java/lang/String" "value" "[B") (List.mem_of_getElem? (l := wsL_law_r3) (i := 19) rfl))) (fun _ z => z) dqJ0_charAt_5068e_8 ?_
  refine lv_iload_n hx hb dqJ0_charAt_5068e_11 rfl (lv_at hl 1 rfl) ?_
  refine va_calli (va_runS (As := [.ref (adV k), .int (Int32.ofInt j)]) (rest := []) ⟨hx, hb, hml, hown, hts⟩ (cq_chl l ad adV k hk j hj H1.size) ⟨(callB_of (ws := (Cond.code yJ1_charAt_3b067 cJ1_charAt_3b067 2 (some .char) :: wsL_law)) (ws' := wsL_law) (rm := ({ frames := 2, cells := 0, slots := 0, locals := 43 } : Room)) 2 hts (jgoodIn (jcons_in (jp_4 (Cond.code yJ1_charAt_3b067 cJ1_charAt_3b067 2 (some .char)) (List.mem_of_getElem? (l := wsL_law_r4) (i := 5) rfl)))) rfl rfl rfl (hts _ (jp_4 (Cond.initialized RJ1) (List.mem_of_getElem? (l := wsL_law_r4) (i := 4) rfl))) (hts _ (jp_4 (Cond.methodLink RJ0 495 yJ1_charAt_3b067) (List.mem_of_getElem? (l := wsL_law_r4) (i := 2) rfl))) (by decide +kernel) ⟨Nat.le_of_ble_eq_true rfl, Nat.le_of_ble_eq_true rfl⟩), hts _ (jp_4 (Cond.static yJ1_charAt_3b067) (List.mem_of_getElem? (l := wsL_law_r4) (i := 3) rfl))⟩ ⟨(fun a U g mk q => ⟨q.1, q.2.1, jE_same (u := U) (U := U.calling g mk a) rfl q.2.2⟩), (fun U hU hW => ⟨rfl, by rw [hU], by rw [hU]; exact jE_warm hW (jE_narrow (jE_kept hE hS1.2.1) (fun q h => Nat.le_trans hS1.1 h))⟩)⟩ rfl rfl hl.1 rfl (lv_room (Nat.le_of_ble_eq_true rfl)) dqJ0_charAt_5068e_12 ⟨Nat.zero_le _, Nat.zero_le _⟩) hS1 (fun q _ h => Nat.le_trans hS1.1 h) (fun q h => Nat.le_trans hS1.1 h) (fun r u t H2 locs2 ht2 hvm2 hw2 hB2 hz2 hk2 hS2 => ?_)
  subst hw2
  exact W.zret hx hb hr (jst_n hk hj) (fun t ht hW => ⟨⟨_, (), rfl, rfl, trivial⟩, hS2.F ht⟩) hS2.2.2 dqJ0_charAt_5068e_15
def jbc1 (a : Int32) : Int32 := a - ((a.toUInt32 >>> ((1 : Int32).toUInt32 &&& Int32.toUInt32 31)).toInt32 &&& 1431655765)
def jbc2 (a : Int32) : Int32 := (a &&& 858993459) + ((a.toUInt32 >>> ((2 : Int32).toUInt32 &&& Int32.toUInt32 31)).toInt32 &&& 858993459)
def jbc3 (a : Int32) : Int32 := (a + (a.toUInt32 >>> ((4 : Int32).toUInt32 &&& Int32.toUInt32 31)).toInt32) &&& 252645135
def jbc4 (a : Int32) : Int32 := a + (a.toUInt32 >>> ((8 : Int32).toUInt32 &&& Int32.toUInt32 31)).toInt32
def jbc5 (a : Int32) : Int32 := a + (a.toUInt32 >>> ((16 : Int32).toUInt32 &&& Int32.toUInt32 31)).toInt32
def jbc (a : Int32) : Int32 := jbc5 (jbc4 (jbc3 (jbc2 (jbc1 a)))) &&& 63
theorem jbc_ok : (List.range 1024).all (fun n => decide (jbc (Int32.ofInt (n : Int)) = Int32.ofInt (jpc 10 (n : Int)))) = true := by decide +kernel
theorem jbc_of {x : Int} (h0 : 0 ≤ x) (h1 : x < 1024) : jbc (Int32.ofInt x) = Int32.ofInt (jpc 10 x) := by
  have h := of_decide_eq_true (List.all_eq_true.mp jbc_ok x.toNat (List.mem_range.mpr (by omega)))
  rwa [Int.toNat_of_nonneg h0] at h
set_option maxHeartbeats 4000000 in
set_option maxRecDepth 100000 in
theorem cq_bit (l : Launch) (ad adV : Nat → Nat) (a : Int32) (sz : Nat) : Met l yJ6_bitCount_0f7a4 (Cond.code yJ6_bitCount_0f7a4 cJ6_bitCount_0f7a4 1 (some .int) :: wsL_law) ({ frames := 0, cells := 0, slots := 0, locals := 0 } : Room) (va_Pc [.int a] (fun U => U.heap.size = sz ∧ jE ad adV (fun q => sz ≤ q) U U.heap)) (va_Qi (fun (r : Int32) (_ : Unit) => r = jbc a) (fun _ _ => True) (fun q => sz ≤ q)) 0 0 (fun q => sz ≤ q) := by
  refine Met.ofW (cc := cJ6_bitCount_0f7a4) (maxL := 1) (ret := (some .int)) (by decide) rfl ?_
  intro p e s m args below meth c s₁ B hml hv
  obtain ⟨rfl, hsz, hE⟩ := hv
  have hx := B.exec
  have hb := B.bytes
  have hr := B.returns
  have hts0 := atoms_spec (ws := (Cond.code yJ6_bitCount_0f7a4 cJ6_bitCount_0f7a4 1 (some .int) :: wsL_law)) B.pre
  have hts : ∀ w ∈ wsL_law, w.before _ s = true := fun w h => hts0 w (List.mem_cons_of_mem _ h)
  have hown : s.vm.findClass RJ6 = some m.cls := findClass_of_methodNamed B.named
  have hlocks := B.notSynchronized
  subst hsz
  have hS : va_S (fun q : Nat => s.heap.size ≤ q) s.heap s.heap [] := va_S.rf
  have hl := lv_entry [.int a] (n := 1) (Nat.le_of_ble_eq_true rfl)
  rw [lg_entry_eq]
  generalize (lg_sl [.int a] ++ List.replicate (1 - (lg_sl [.int a]).length) Slot.unset).toArray = ls at hl ⊢
  have hl : lv_has ls 1 [(0, .int a)] := hl
  refine lv_iload_n hx hb dqJ6_bitCount_0f7a4_0 rfl (lv_at hl 0 rfl) ?_
  refine lv_iload_n hx hb dqJ6_bitCount_0f7a4_1 rfl (lv_at hl 0 rfl) ?_
  refine lv_iconst (v := 1) hx hb dqJ6_bitCount_0f7a4_2 (by decide) ?_
  refine lv_iushr hx hb dqJ6_bitCount_0f7a4_3 rfl ?_
  refine lv_ldcw (own := RJ6) (index := 265) (v := 1431655765) hx hb hown (hts _ (jp_12 (Cond.constant RJ6 265 (1431655765)) (List.mem_of_getElem? (l := wsL_law_r12) (i := 12) rfl))) dqJ6_bitCount_0f7a4_4 ?_
  refine lv_iand hx hb dqJ6_bitCount_0f7a4_7 ?_
  refine lv_isub hx hb dqJ6_bitCount_0f7a4_8 ?_
  refine lv_istore_n (lv' := [(0, .int (jbc1 a))]) hx hb dqJ6_bitCount_0f7a4_9 rfl hl (by decide) rfl (fun ls hl => ?_)
  refine lv_iload_n hx hb dqJ6_bitCount_0f7a4_10 rfl (lv_at hl 0 rfl) ?_
  refine lv_ldcw (own := RJ6) (index := 266) (v := 858993459) hx hb hown (hts _ (jp_12 (Cond.constant RJ6 266 (858993459)) (List.mem_of_getElem? (l := wsL_law_r12) (i := 13) rfl))) dqJ6_bitCount_0f7a4_11 ?_
  refine lv_iand hx hb dqJ6_bitCount_0f7a4_14 ?_
  refine lv_iload_n hx hb dqJ6_bitCount_0f7a4_15 rfl (lv_at hl 0 rfl) ?_
  refine lv_iconst (v := 2) hx hb dqJ6_bitCount_0f7a4_16 (by decide) ?_
  refine lv_iushr hx hb dqJ6_bitCount_0f7a4_17 rfl ?_
  refine lv_ldcw (own := RJ6) (index := 266) (v := 858993459) hx hb hown (hts _ (jp_12 (Cond.constant RJ6 266 (858993459)) (List.mem_of_getElem? (l := wsL_law_r12) (i := 13) rfl))) dqJ6_bitCount_0f7a4_18 ?_
  refine lv_iand hx hb dqJ6_bitCount_0f7a4_21 ?_
  refine lv_iadd hx hb dqJ6_bitCount_0f7a4_22 ?_
  refine lv_istore_n (lv' := [(0, .int (jbc2 (jbc1 a)))]) hx hb dqJ6_bitCount_0f7a4_23 rfl hl (by decide) rfl (fun ls hl => ?_)
  refine lv_iload_n hx hb dqJ6_bitCount_0f7a4_24 rfl (lv_at hl 0 rfl) ?_
  refine lv_iload_n hx hb dqJ6_bitCount_0f7a4_25 rfl (lv_at hl 0 rfl) ?_
  refine lv_iconst (v := 4) hx hb dqJ6_bitCount_0f7a4_26 (by decide) ?_
  refine lv_iushr hx hb dqJ6_bitCount_0f7a4_27 rfl ?_
  refine lv_iadd hx hb dqJ6_bitCount_0f7a4_28 ?_
  refine lv_ldcw (own := RJ6) (index := 267) (v := 252645135) hx hb hown (hts _ (jp_12 (Cond.constant RJ6 267 (252645135)) (List.mem_of_getElem? (l := wsL_law_r12) (i := 14) rfl))) dqJ6_bitCount_0f7a4_29 ?_
  refine lv_iand hx hb dqJ6_bitCount_0f7a4_32 ?_
  refine lv_istore_n (lv' := [(0, .int (jbc3 (jbc2 (jbc1 a))))]) hx hb dqJ6_bitCount_0f7a4_33 rfl hl (by decide) rfl (fun ls hl => ?_)
  refine lv_iload_n hx hb dqJ6_bitCount_0f7a4_34 rfl (lv_at hl 0 rfl) ?_
  refine lv_iload_n hx hb dqJ6_bitCount_0f7a4_35 rfl (lv_at hl 0 rfl) ?_
  refine lv_bipush (v := 8) hx hb dqJ6_bitCount_0f7a4_36 (by decide) ?_
  refine lv_iushr hx hb dqJ6_bitCount_0f7a4_38 rfl ?_
  refine lv_iadd hx hb dqJ6_bitCount_0f7a4_39 ?_
  refine lv_istore_n (lv' := [(0, .int (jbc4 (jbc3 (jbc2 (jbc1 a)))))]) hx hb dqJ6_bitCount_0f7a4_40 rfl hl (by decide) rfl (fun ls hl => ?_)
  refine lv_iload_n hx hb dqJ6_bitCount_0f7a4_41 rfl (lv_at hl 0 rfl) ?_
  refine lv_iload_n hx hb dqJ6_bitCount_0f7a4_42 rfl (lv_at hl 0 rfl) ?_
  refine lv_bipush (v := 16) hx hb dqJ6_bitCount_0f7a4_43 (by decide) ?_
  refine lv_iushr hx hb dqJ6_bitCount_0f7a4_45 rfl ?_
  refine lv_iadd hx hb dqJ6_bitCount_0f7a4_46 ?_
  refine lv_istore_n (lv' := [(0, .int (jbc5 (jbc4 (jbc3 (jbc2 (jbc1 a))))))]) hx hb dqJ6_bitCount_0f7a4_47 rfl hl (by decide) rfl (fun ls hl => ?_)
  refine lv_iload_n hx hb dqJ6_bitCount_0f7a4_48 rfl (lv_at hl 0 rfl) ?_
  refine lv_bipush (v := 63) hx hb dqJ6_bitCount_0f7a4_49 (by decide) ?_
  refine lv_iand hx hb dqJ6_bitCount_0f7a4_51 ?_
  exact W.iret hx hb hr (fun t ht hW => ⟨⟨_, (), rfl, rfl, trivial⟩, hS.F ht⟩) hS.2.2 dqJ6_bitCount_0f7a4_52
set_option maxHeartbeats 4000000 in
set_option maxRecDepth 100000 in
theorem cq_cell (l : Launch) (ad adV : Nat → Nat) (x : Int) (h0 : 0 ≤ x) (hr0 : jr x) (sz : Nat) : Met l yL_cell (Cond.code yL_cell cL_cell 3 (some .int) :: wsL_law) ({ frames := 0, cells := 0, slots := 0, locals := 0 } : Room) (va_Pc [.ref (ad 200), .int (Int32.ofInt x)] (fun U => U.heap.size = sz ∧ jE ad adV (fun q => sz ≤ q) U U.heap)) (va_Qi (fun (_ : Int32) (_ : Unit) => True) (fun _ _ => True) (fun q => sz ≤ q)) 0 0 (fun q => sz ≤ q) := by
  refine Met.ofW (cc := cL_cell) (maxL := 3) (ret := (some .int)) (by decide) rfl ?_
  intro p e s m args below meth c s₁ B hml hv
  obtain ⟨rfl, hsz, hE⟩ := hv
  have hx := B.exec
  have hb := B.bytes
  have hr := B.returns
  have hts0 := atoms_spec (ws := (Cond.code yL_cell cL_cell 3 (some .int) :: wsL_law)) B.pre
  have hts : ∀ w ∈ wsL_law, w.before _ s = true := fun w h => hts0 w (List.mem_cons_of_mem _ h)
  have hown : s.vm.findClass RL = some m.cls := findClass_of_methodNamed B.named
  have hlocks := B.notSynchronized
  subst hsz
  have hS : va_S (fun q : Nat => s.heap.size ≤ q) s.heap s.heap [] := va_S.rf
  have hl := lv_entry [.ref (ad 200), .int (Int32.ofInt x)] (n := 3) (Nat.le_of_ble_eq_true rfl)
  rw [lg_entry_eq]
  generalize (lg_sl [.ref (ad 200), .int (Int32.ofInt x)] ++ List.replicate (3 - (lg_sl [.ref (ad 200), .int (Int32.ofInt x)]).length) Slot.unset).toArray = ls at hl ⊢
  have hl : lv_has ls 3 [(0, .ref (ad 200)), (1, .int (Int32.ofInt x))] := hl
  obtain ⟨L, xs, hL, hX, hbl, hbA⟩ := hE.2.2.2.2.2
  refine lv_ldc (v := 69069) hx hb hown (hts _ (jp_2 (Cond.constant RL 7 (69069)) (List.mem_of_getElem? (l := wsL_law_r2) (i := 20) rfl))) dqL_cell_0 ?_
  refine lv_iload_n hx hb dqL_cell_2 rfl (lv_at hl 1 rfl) ?_
  refine lv_aload_n hx hb dqL_cell_3 rfl (lv_at hl 0 rfl) ?_
  refine va_slen hx hb hX hbl hbA hS dqL_cell_4 ?_
  have e0 : Int32.ofNat L = Int32.ofInt (L : Int) := rfl
  have e1 : jr (L : Int) := ⟨by omega, by omega⟩
  refine lv_icmp_ge (tgt := 14) hx hb dqL_cell_5 (by decide) (fun z => ?_) (fun z => ?_)
  · refine lv_iconst (v := 0) hx hb dqL_cell_14 (by decide) ?_
    refine lv_sipush (v := 1009) hx hb dqL_cell_15 (by decide) ?_
    refine lv_iload_n hx hb dqL_cell_18 rfl (lv_at hl 1 rfl) ?_
    refine lv_imul hx hb dqL_cell_19 ?_
    refine lv_iadd hx hb dqL_cell_20 ?_
    refine lv_imul hx hb dqL_cell_21 ?_
    refine lv_sipush (v := 12345) hx hb dqL_cell_22 (by decide) ?_
    refine lv_iadd hx hb dqL_cell_25 ?_
    refine lv_topi (fun a _ => ?_)
    refine lv_istore_n (lv' := [(2, .int a), (0, .ref (ad 200)), (1, .int (Int32.ofInt x))]) hx hb dqL_cell_26 rfl hl (by decide) rfl (fun ls hl => ?_)
    refine lv_iload_n hx hb dqL_cell_27 rfl (lv_at hl 0 rfl) ?_
    refine lv_iload_n hx hb dqL_cell_28 rfl (lv_at hl 0 rfl) ?_
    refine lv_bipush (v := 13) hx hb dqL_cell_29 (by decide) ?_
    refine lv_iushr hx hb dqL_cell_31 rfl ?_
    refine lv_ixor hx hb dqL_cell_32 ?_
    refine lv_ldc (v := 1103515245) hx hb hown (hts _ (jp_2 (Cond.constant RL 8 (1103515245)) (List.mem_of_getElem? (l := wsL_law_r2) (i := 21) rfl))) dqL_cell_33 ?_
    refine lv_imul hx hb dqL_cell_35 ?_
    refine lv_topi (fun a2 _ => ?_)
    refine lv_istore_n (lv' := [(2, .int a2), (0, .ref (ad 200)), (1, .int (Int32.ofInt x))]) hx hb dqL_cell_36 rfl hl (by decide) rfl (fun ls hl => ?_)
    refine lv_iload_n hx hb dqL_cell_37 rfl (lv_at hl 0 rfl) ?_
    refine lv_iload_n hx hb dqL_cell_38 rfl (lv_at hl 0 rfl) ?_
    refine lv_bipush (v := 16) hx hb dqL_cell_39 (by decide) ?_
    refine lv_iushr hx hb dqL_cell_41 rfl ?_
    refine lv_ixor hx hb dqL_cell_42 ?_
    exact W.iret hx hb hr (fun t ht hW => ⟨⟨_, (), rfl, trivial, trivial⟩, hS.F ht⟩) hS.2.2 dqL_cell_43
  · refine lv_aload_n hx hb dqL_cell_8 rfl (lv_at hl 0 rfl) ?_
    refine lv_iload_n hx hb dqL_cell_9 rfl (lv_at hl 1 rfl) ?_
    have hlt : x < (L : Int) := by
      have := mt (jr_le e1 hr0).mpr z
      omega
    refine va_sld hx hb hX hbl hbA hS (jr_in hr0 h0 hlt) dqL_cell_10 ?_
    refine lv_goto (tgt := 15) hx hb dqL_cell_11 (by decide) ?_
    refine lv_sipush (v := 1009) hx hb dqL_cell_15 (by decide) ?_
    refine lv_iload_n hx hb dqL_cell_18 rfl (lv_at hl 1 rfl) ?_
    refine lv_imul hx hb dqL_cell_19 ?_
    refine lv_iadd hx hb dqL_cell_20 ?_
    refine lv_imul hx hb dqL_cell_21 ?_
    refine lv_sipush (v := 12345) hx hb dqL_cell_22 (by decide) ?_
    refine lv_iadd hx hb dqL_cell_25 ?_
    refine lv_topi (fun a _ => ?_)
    refine lv_istore_n (lv' := [(2, .int a), (0, .ref (ad 200)), (1, .int (Int32.ofInt x))]) hx hb dqL_cell_26 rfl hl (by decide) rfl (fun ls hl => ?_)
    refine lv_iload_n hx hb dqL_cell_27 rfl (lv_at hl 0 rfl) ?_
    refine lv_iload_n hx hb dqL_cell_28 rfl (lv_at hl 0 rfl) ?_
    refine lv_bipush (v := 13) hx hb dqL_cell_29 (by decide) ?_
    refine lv_iushr hx hb dqL_cell_31 rfl ?_
    refine lv_ixor hx hb dqL_cell_32 ?_
    refine lv_ldc (v := 1103515245) hx hb hown (hts _ (jp_2 (Cond.constant RL 8 (1103515245)) (List.mem_of_getElem? (l := wsL_law_r2) (i := 21) rfl))) dqL_cell_33 ?_
    refine lv_imul hx hb dqL_cell_35 ?_
    refine lv_topi (fun a2 _ => ?_)
    refine lv_istore_n (lv' := [(2, .int a2), (0, .ref (ad 200)), (1, .int (Int32.ofInt x))]) hx hb dqL_cell_36 rfl hl (by decide) rfl (fun ls hl => ?_)
    refine lv_iload_n hx hb dqL_cell_37 rfl (lv_at hl 0 rfl) ?_
    refine lv_iload_n hx hb dqL_cell_38 rfl (lv_at hl 0 rfl) ?_
    refine lv_bipush (v := 16) hx hb dqL_cell_39 (by decide) ?_
    refine lv_iushr hx hb dqL_cell_41 rfl ?_
    refine lv_ixor hx hb dqL_cell_42 ?_
    exact W.iret hx hb hr (fun t ht hW => ⟨⟨_, (), rfl, trivial, trivial⟩, hS.F ht⟩) hS.2.2 dqL_cell_43

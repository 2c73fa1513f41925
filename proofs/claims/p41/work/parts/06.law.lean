def jkLw (lo : Nat) : Bool := (List.range 60).all (fun j => match jcL_law (lo + j) with
    | none => true
    | some en => jchk 89 (lo + j) en)
theorem jkl_0 : jkLw 0 = true := by decide +kernel
theorem jkl_60 : jkLw 60 = true := by decide +kernel
theorem jkl_120 : jkLw 120 = true := by decide +kernel
theorem jkl_180 : jkLw 180 = true := by decide +kernel
theorem jkl_240 : jkLw 240 = true := by decide +kernel
theorem jkl_300 : jkLw 300 = true := by decide +kernel
theorem jkl_360 : jkLw 360 = true := by decide +kernel
theorem jkl_420 : jkLw 420 = true := by decide +kernel
theorem jkl_480 : jkLw 480 = true := by decide +kernel
theorem jkl_540 : jkLw 540 = true := by decide +kernel
theorem jkl_600 : jkLw 600 = true := by decide +kernel
theorem jkl_660 : jkLw 660 = true := by decide +kernel
theorem jkl_720 : jkLw 720 = true := by decide +kernel
theorem jkl_780 : jkLw 780 = true := by decide +kernel
theorem jkl_840 : jkLw 840 = true := by decide +kernel
theorem jkl_900 : jkLw 900 = true := by decide +kernel
theorem jkl_960 : jkLw 960 = true := by decide +kernel
theorem jkl_1020 : jkLw 1020 = true := by decide +kernel
theorem jkl_of {lo pc : Nat} (h : jkLw lo = true) (h1 : lo ≤ pc) (h2 : pc < lo + 60) : ∀ en, jcode 89 pc = some en → jchk 89 pc en = true := by
  intro en hc
  have hc' : jcL_law pc = some en := hc
  have h3 := List.all_eq_true.mp h (pc - lo) (List.mem_range.mpr (by omega))
  rw [show lo + (pc - lo) = pc by omega, hc'] at h3
  exact h3
theorem jk_89 : jkP 89 := by
  intro pc en hc
  have hlt : pc < 1080 := jlt (N := 1080) hc
  by_cases h0 : pc < 60
  · exact jkl_of jkl_0 (by omega) h0 en hc
  by_cases h60 : pc < 120
  · exact jkl_of jkl_60 (by omega) h60 en hc
  by_cases h120 : pc < 180
  · exact jkl_of jkl_120 (by omega) h120 en hc
  by_cases h180 : pc < 240
  · exact jkl_of jkl_180 (by omega) h180 en hc
  by_cases h240 : pc < 300
  · exact jkl_of jkl_240 (by omega) h240 en hc
  by_cases h300 : pc < 360
  · exact jkl_of jkl_300 (by omega) h300 en hc
  by_cases h360 : pc < 420
  · exact jkl_of jkl_360 (by omega) h360 en hc
  by_cases h420 : pc < 480
  · exact jkl_of jkl_420 (by omega) h420 en hc
  by_cases h480 : pc < 540
  · exact jkl_of jkl_480 (by omega) h480 en hc
  by_cases h540 : pc < 600
  · exact jkl_of jkl_540 (by omega) h540 en hc
  by_cases h600 : pc < 660
  · exact jkl_of jkl_600 (by omega) h600 en hc
  by_cases h660 : pc < 720
  · exact jkl_of jkl_660 (by omega) h660 en hc
  by_cases h720 : pc < 780
  · exact jkl_of jkl_720 (by omega) h720 en hc
  by_cases h780 : pc < 840
  · exact jkl_of jkl_780 (by omega) h780 en hc
  by_cases h840 : pc < 900
  · exact jkl_of jkl_840 (by omega) h840 en hc
  by_cases h900 : pc < 960
  · exact jkl_of jkl_900 (by omega) h900 en hc
  by_cases h960 : pc < 1020
  · exact jkl_of jkl_960 (by omega) h960 en hc
  by_cases h1020 : pc < 1080
  · exact jkl_of jkl_1020 (by omega) h1020 en hc
  omega
theorem jkc_31 : ∀ k, k < 31 → jkP k := lt_s (i := 30) (p := jkP) (lt_s (i := 29) (p := jkP) (lt_s (i := 28) (p := jkP) (lt_s (i := 27) (p := jkP) (lt_s (i := 26) (p := jkP) (lt_s (i := 25) (p := jkP) (lt_s (i := 24) (p := jkP) (lt_s (i := 23) (p := jkP) (lt_s (i := 22) (p := jkP) (lt_s (i := 21) (p := jkP) (lt_s (i := 20) (p := jkP) (lt_s (i := 19) (p := jkP) (lt_s (i := 18) (p := jkP) (lt_s (i := 17) (p := jkP) (lt_s (i := 16) (p := jkP) (lt_s (i := 15) (p := jkP) (lt_s (i := 14) (p := jkP) (lt_s (i := 13) (p := jkP) (lt_s (i := 12) (p := jkP) (lt_s (i := 11) (p := jkP) (lt_s (i := 10) (p := jkP) (lt_s (i := 9) (p := jkP) (lt_s (i := 8) (p := jkP) (lt_s (i := 7) (p := jkP) (lt_s (i := 6) (p := jkP) (lt_s (i := 5) (p := jkP) (lt_s (i := 4) (p := jkP) (lt_s (i := 3) (p := jkP) (lt_s (i := 2) (p := jkP) (lt_s (i := 1) (p := jkP) (lt_s (i := 0) (p := jkP) (lt_0) jk_0) jk_1) jk_2) jk_3) jk_4) jk_5) jk_6) jk_7) jk_8) jk_9) jk_10) jk_11) jk_12) jk_13) jk_14) jk_15) jk_16) jk_17) jk_18) jk_19) jk_20) jk_21) jk_22) jk_23) jk_24) jk_25) jk_26) jk_27) jk_28) jk_29) jk_30
theorem jkc_62 : ∀ k, k < 62 → jkP k := lt_s (i := 61) (p := jkP) (lt_s (i := 60) (p := jkP) (lt_s (i := 59) (p := jkP) (lt_s (i := 58) (p := jkP) (lt_s (i := 57) (p := jkP) (lt_s (i := 56) (p := jkP) (lt_s (i := 55) (p := jkP) (lt_s (i := 54) (p := jkP) (lt_s (i := 53) (p := jkP) (lt_s (i := 52) (p := jkP) (lt_s (i := 51) (p := jkP) (lt_s (i := 50) (p := jkP) (lt_s (i := 49) (p := jkP) (lt_s (i := 48) (p := jkP) (lt_s (i := 47) (p := jkP) (lt_s (i := 46) (p := jkP) (lt_s (i := 45) (p := jkP) (lt_s (i := 44) (p := jkP) (lt_s (i := 43) (p := jkP) (lt_s (i := 42) (p := jkP) (lt_s (i := 41) (p := jkP) (lt_s (i := 40) (p := jkP) (lt_s (i := 39) (p := jkP) (lt_s (i := 38) (p := jkP) (lt_s (i := 37) (p := jkP) (lt_s (i := 36) (p := jkP) (lt_s (i := 35) (p := jkP) (lt_s (i := 34) (p := jkP) (lt_s (i := 33) (p := jkP) (lt_s (i := 32) (p := jkP) (lt_s (i := 31) (p := jkP) (jkc_31) jk_31) jk_32) jk_33) jk_34) jk_35) jk_36) jk_37) jk_38) jk_39) jk_40) jk_41) jk_42) jk_43) jk_44) jk_45) jk_46) jk_47) jk_48) jk_49) jk_50) jk_51) jk_52) jk_53) jk_54) jk_55) jk_56) jk_57) jk_58) jk_59) jk_60) jk_61
theorem jkc_90 : ∀ k, k < 90 → jkP k := lt_s (i := 89) (p := jkP) (lt_s (i := 88) (p := jkP) (lt_s (i := 87) (p := jkP) (lt_s (i := 86) (p := jkP) (lt_s (i := 85) (p := jkP) (lt_s (i := 84) (p := jkP) (lt_s (i := 83) (p := jkP) (lt_s (i := 82) (p := jkP) (lt_s (i := 81) (p := jkP) (lt_s (i := 80) (p := jkP) (lt_s (i := 79) (p := jkP) (lt_s (i := 78) (p := jkP) (lt_s (i := 77) (p := jkP) (lt_s (i := 76) (p := jkP) (lt_s (i := 75) (p := jkP) (lt_s (i := 74) (p := jkP) (lt_s (i := 73) (p := jkP) (lt_s (i := 72) (p := jkP) (lt_s (i := 71) (p := jkP) (lt_s (i := 70) (p := jkP) (lt_s (i := 69) (p := jkP) (lt_s (i := 68) (p := jkP) (lt_s (i := 67) (p := jkP) (lt_s (i := 66) (p := jkP) (lt_s (i := 65) (p := jkP) (lt_s (i := 64) (p := jkP) (lt_s (i := 63) (p := jkP) (lt_s (i := 62) (p := jkP) (jkc_62) jk_62) jk_63) jk_64) jk_65) jk_66) jk_67) jk_68) jk_69) jk_70) jk_71) jk_72) jk_73) jk_74) jk_75) jk_76) jk_77) jk_78) jk_79) jk_80) jk_81) jk_82) jk_83) jk_84) jk_85) jk_86) jk_87) jk_88) jk_89
theorem jcode_lt {k pc : Nat} {en : jEn} (h : jcode k pc = some en) : k < jN2 := by
  rcases Nat.lt_or_ge k jN2 with q | q
  · exact q
  · have e : jcode k = fun _ => none := by
      unfold jcode
      rw [List.getD_eq_getElem?_getD, List.getElem?_eq_none (by exact q)]
      rfl
    rw [e] at h; cases h
theorem jchk_of {k pc : Nat} {en : jEn} (h : jcode k pc = some en) : jchk k pc en = true := jkc_90 k (jcode_lt h) pc en h
-- the words of each method, of its links
theorem jp_1 : ∀ w, w ∈ wsL_law_r1 → w ∈ wsL_law := fun _ h => (List.mem_append_left _ (List.mem_append_left _ (List.mem_append_left _ (List.mem_append_left _ h))))
theorem jp_2 : ∀ w, w ∈ wsL_law_r2 → w ∈ wsL_law := fun _ h => (List.mem_append_left _ (List.mem_append_left _ (List.mem_append_left _ (List.mem_append_right _ (List.mem_append_left _ h)))))
theorem jp_3 : ∀ w, w ∈ wsL_law_r3 → w ∈ wsL_law := fun _ h => (List.mem_append_left _ (List.mem_append_left _ (List.mem_append_left _ (List.mem_append_right _ (List.mem_append_right _ (List.mem_append_left _ h))))))
theorem jp_4 : ∀ w, w ∈ wsL_law_r4 → w ∈ wsL_law := fun _ h => (List.mem_append_left _ (List.mem_append_left _ (List.mem_append_left _ (List.mem_append_right _ (List.mem_append_right _ (List.mem_append_right _ (List.mem_append_left _ h)))))))
theorem jp_5 : ∀ w, w ∈ wsL_law_r5 → w ∈ wsL_law := fun _ h => (List.mem_append_left _ (List.mem_append_left _ (List.mem_append_left _ (List.mem_append_right _ (List.mem_append_right _ (List.mem_append_right _ (List.mem_append_right _ (List.mem_append_left _ h))))))))
theorem jp_6 : ∀ w, w ∈ wsL_law_r6 → w ∈ wsL_law := fun _ h => (List.mem_append_left _ (List.mem_append_left _ (List.mem_append_left _ (List.mem_append_right _ (List.mem_append_right _ (List.mem_append_right _ (List.mem_append_right _ (List.mem_append_right _ (List.mem_append_left _ h)))))))))
theorem jp_7 : ∀ w, w ∈ wsL_law_r7 → w ∈ wsL_law := fun _ h => (List.mem_append_left _ (List.mem_append_left _ (List.mem_append_left _ (List.mem_append_right _ (List.mem_append_right _ (List.mem_append_right _ (List.mem_append_right _ (List.mem_append_right _ (List.mem_append_right _ (List.mem_append_left _ h))))))))))
theorem jp_8 : ∀ w, w ∈ wsL_law_r8 → w ∈ wsL_law := fun _ h => (List.mem_append_left _ (List.mem_append_left _ (List.mem_append_left _ (List.mem_append_right _ (List.mem_append_right _ (List.mem_append_right _ (List.mem_append_right _ (List.mem_append_right _ (List.mem_append_right _ (List.mem_append_right _ (List.mem_append_left _ h)))))))))))
theorem jp_9 : ∀ w, w ∈ wsL_law_r9 → w ∈ wsL_law := fun _ h => (List.mem_append_left _ (List.mem_append_left _ (List.mem_append_left _ (List.mem_append_right _ (List.mem_append_right _ (List.mem_append_right _ (List.mem_append_right _ (List.mem_append_right _ (List.mem_append_right _ (List.mem_append_right _ (List.mem_append_right _ (List.mem_append_left _ h))))))))))))
theorem jp_10 : ∀ w, w ∈ wsL_law_r10 → w ∈ wsL_law := fun _ h => (List.mem_append_left _ (List.mem_append_left _ (List.mem_append_left _ (List.mem_append_right _ (List.mem_append_right _ (List.mem_append_right _ (List.mem_append_right _ (List.mem_append_right _ (List.mem_append_right _ (List.mem_append_right _ (List.mem_append_right _ (List.mem_append_right _ (List.mem_append_left _ h)))))))))))))
theorem jp_11 : ∀ w, w ∈ wsL_law_r11 → w ∈ wsL_law := fun _ h => (List.mem_append_left _ (List.mem_append_left _ (List.mem_append_left _ (List.mem_append_right _ (List.mem_append_right _ (List.mem_append_right _ (List.mem_append_right _ (List.mem_append_right _ (List.mem_append_right _ (List.mem_append_right _ (List.mem_append_right _ (List.mem_append_right _ (List.mem_append_right _ (List.mem_append_left _ h))))))))))))))
theorem jp_12 : ∀ w, w ∈ wsL_law_r12 → w ∈ wsL_law := fun _ h => (List.mem_append_left _ (List.mem_append_left _ (List.mem_append_left _ (List.mem_append_right _ (List.mem_append_right _ (List.mem_append_right _ (List.mem_append_right _ (List.mem_append_right _ (List.mem_append_right _ (List.mem_append_right _ (List.mem_append_right _ (List.mem_append_right _ (List.mem_append_right _ (List.mem_append_right _ (List.mem_append_left _ h)))))))))))))))
theorem jp_13 : ∀ w, w ∈ wsL_law_r13 → w ∈ wsL_law := fun _ h => (List.mem_append_left _ (List.mem_append_left _ (List.mem_append_left _ (List.mem_append_right _ (List.mem_append_right _ (List.mem_append_right _ (List.mem_append_right _ (List.mem_append_right _ (List.mem_append_right _ (List.mem_append_right _ (List.mem_append_right _ (List.mem_append_right _ (List.mem_append_right _ (List.mem_append_right _ (List.mem_append_right _ (List.mem_append_left _ h))))))))))))))))
theorem jp_14 : ∀ w, w ∈ wsL_law_r14 → w ∈ wsL_law := fun _ h => (List.mem_append_left _ (List.mem_append_left _ (List.mem_append_left _ (List.mem_append_right _ (List.mem_append_right _ (List.mem_append_right _ (List.mem_append_right _ (List.mem_append_right _ (List.mem_append_right _ (List.mem_append_right _ (List.mem_append_right _ (List.mem_append_right _ (List.mem_append_right _ (List.mem_append_right _ (List.mem_append_right _ (List.mem_append_right _ (List.mem_append_left _ h)))))))))))))))))
theorem jp_15 : ∀ w, w ∈ wsL_law_r15 → w ∈ wsL_law := fun _ h => (List.mem_append_left _ (List.mem_append_left _ (List.mem_append_left _ (List.mem_append_right _ (List.mem_append_right _ (List.mem_append_right _ (List.mem_append_right _ (List.mem_append_right _ (List.mem_append_right _ (List.mem_append_right _ (List.mem_append_right _ (List.mem_append_right _ (List.mem_append_right _ (List.mem_append_right _ (List.mem_append_right _ (List.mem_append_right _ (List.mem_append_right _ (List.mem_append_left _ h))))))))))))))))))
theorem jp_16 : ∀ w, w ∈ wsL_law_r16 → w ∈ wsL_law := fun _ h => (List.mem_append_left _ (List.mem_append_left _ (List.mem_append_left _ (List.mem_append_right _ (List.mem_append_right _ (List.mem_append_right _ (List.mem_append_right _ (List.mem_append_right _ (List.mem_append_right _ (List.mem_append_right _ (List.mem_append_right _ (List.mem_append_right _ (List.mem_append_right _ (List.mem_append_right _ (List.mem_append_right _ (List.mem_append_right _ (List.mem_append_right _ (List.mem_append_right _ (List.mem_append_left _ h)))))))))))))))))))
theorem jp_17 : ∀ w, w ∈ wsL_law_r17 → w ∈ wsL_law := fun _ h => (List.mem_append_left _ (List.mem_append_left _ (List.mem_append_left _ (List.mem_append_right _ (List.mem_append_right _ (List.mem_append_right _ (List.mem_append_right _ (List.mem_append_right _ (List.mem_append_right _ (List.mem_append_right _ (List.mem_append_right _ (List.mem_append_right _ (List.mem_append_right _ (List.mem_append_right _ (List.mem_append_right _ (List.mem_append_right _ (List.mem_append_right _ (List.mem_append_right _ (List.mem_append_right _ (List.mem_append_left _ h))))))))))))))))))))
theorem jp_18 : ∀ w, w ∈ wsL_law_r18 → w ∈ wsL_law := fun _ h => (List.mem_append_left _ (List.mem_append_left _ (List.mem_append_left _ (List.mem_append_right _ (List.mem_append_right _ (List.mem_append_right _ (List.mem_append_right _ (List.mem_append_right _ (List.mem_append_right _ (List.mem_append_right _ (List.mem_append_right _ (List.mem_append_right _ (List.mem_append_right _ (List.mem_append_right _ (List.mem_append_right _ (List.mem_append_right _ (List.mem_append_right _ (List.mem_append_right _ (List.mem_append_right _ (List.mem_append_right _ (List.mem_append_left _ h)))))))))))))))))))))
theorem jp_19 : ∀ w, w ∈ wsL_law_r19 → w ∈ wsL_law := fun _ h => (List.mem_append_left _ (List.mem_append_left _ (List.mem_append_left _ (List.mem_append_right _ (List.mem_append_right _ (List.mem_append_right _ (List.mem_append_right _ (List.mem_append_right _ (List.mem_append_right _ (List.mem_append_right _ (List.mem_append_right _ (List.mem_append_right _ (List.mem_append_right _ (List.mem_append_right _ (List.mem_append_right _ (List.mem_append_right _ (List.mem_append_right _ (List.mem_append_right _ (List.mem_append_right _ (List.mem_append_right _ (List.mem_append_right _ (List.mem_append_left _ h))))))))))))))))))))))
theorem jp_20 : ∀ w, w ∈ wsL_law_r20 → w ∈ wsL_law := fun _ h => (List.mem_append_left _ (List.mem_append_left _ (List.mem_append_left _ (List.mem_append_right _ (List.mem_append_right _ (List.mem_append_right _ (List.mem_append_right _ (List.mem_append_right _ (List.mem_append_right _ (List.mem_append_right _ (List.mem_append_right _ (List.mem_append_right _ (List.mem_append_right _ (List.mem_append_right _ (List.mem_append_right _ (List.mem_append_right _ (List.mem_append_right _ (List.mem_append_right _ (List.mem_append_right _ (List.mem_append_right _ (List.mem_append_right _ (List.mem_append_right _ h))))))))))))))))))))))
def jcwP (k : Nat) : Prop := Cond.code (jy k) (jb k) (jml k) (jty k) ∈ wsL_law
theorem jcw_0 : jcwP 0 := jp_7 (Cond.code yX0_become cX0_become 3 none) (List.mem_of_getElem? (l := wsL_law_r7) (i := 3) rfl)
theorem jcw_1 : jcwP 1 := jp_8 (Cond.code yX0_has cX0_has 2 (some .boolean)) (List.mem_of_getElem? (l := wsL_law_r8) (i := 16) rfl)
theorem jcw_2 : jcwP 2 := jp_8 (Cond.code yX0_isFull cX0_isFull 1 (some .boolean)) (List.mem_of_getElem? (l := wsL_law_r8) (i := 2) rfl)
theorem jcw_3 : jcwP 3 := jp_8 (Cond.code yX0_add cX0_add 5 none) (List.mem_of_getElem? (l := wsL_law_r8) (i := 6) rfl)
theorem jcw_4 : jcwP 4 := jp_9 (Cond.code yX0_lessFood cX0_lessFood 3 none) (List.mem_of_getElem? (l := wsL_law_r9) (i := 9) rfl)
theorem jcw_5 : jcwP 5 := jp_10 (Cond.code yX0_spoilsOf cX0_spoilsOf 4 (some .int)) (List.mem_of_getElem? (l := wsL_law_r10) (i := 13) rfl)
theorem jcw_6 : jcwP 6 := jp_12 (Cond.code yX0_customsOf cX0_customsOf 5 (some .int)) (List.mem_of_getElem? (l := wsL_law_r12) (i := 7) rfl)
theorem jcw_7 : jcwP 7 := jp_14 (Cond.code yX0_spoils cX0_spoils 2 (some .int)) (List.mem_of_getElem? (l := wsL_law_r14) (i := 9) rfl)
theorem jcw_8 : jcwP 8 := jp_12 (Cond.code yX0_kept cX0_kept 2 (some .int)) (List.mem_of_getElem? (l := wsL_law_r12) (i := 4) rfl)
theorem jcw_9 : jcwP 9 := jp_9 (Cond.code yX0_pass cX0_pass 3 none) (List.mem_of_getElem? (l := wsL_law_r9) (i := 23) rfl)
theorem jcw_10 : jcwP 10 := jp_10 (Cond.code yX0_passYear cX0_passYear 3 none) (List.mem_of_getElem? (l := wsL_law_r10) (i := 3) rfl)
theorem jcw_11 : jcwP 11 := jp_10 (Cond.code yX0_spoilAll cX0_spoilAll 3 (some .int)) (List.mem_of_getElem? (l := wsL_law_r10) (i := 10) rfl)
theorem jcw_12 : jcwP 12 := jp_10 (Cond.code yX0_eatOn cX0_eatOn 6 (some .int)) (List.mem_of_getElem? (l := wsL_law_r10) (i := 17) rfl)
theorem jcw_13 : jcwP 13 := jp_11 (Cond.code yX0_knownBits cX0_knownBits 1 (some .int)) (List.mem_of_getElem? (l := wsL_law_r11) (i := 18) rfl)
theorem jcw_14 : jcwP 14 := jp_11 (Cond.code yX0_knownCount cX0_knownCount 1 (some .int)) (List.mem_of_getElem? (l := wsL_law_r11) (i := 14) rfl)
theorem jcw_15 : jcwP 15 := jp_11 (Cond.code yX0_keptBy cX0_keptBy 4 (some .int)) (List.mem_of_getElem? (l := wsL_law_r11) (i := 22) rfl)
theorem jcw_16 : jcwP 16 := jp_15 (Cond.code yX0_keptAlone cX0_keptAlone 2 (some .int)) (List.mem_of_getElem? (l := wsL_law_r15) (i := 11) rfl)
theorem jcw_17 : jcwP 17 := jp_13 (Cond.code yX0_shutBits cX0_shutBits 3 (some .int)) (List.mem_of_getElem? (l := wsL_law_r13) (i := 22) rfl)
theorem jcw_18 : jcwP 18 := jp_14 (Cond.code yX0_jarsWithFood cX0_jarsWithFood 3 (some .int)) (List.mem_of_getElem? (l := wsL_law_r14) (i := 23) rfl)
theorem jcw_19 : jcwP 19 := jp_16 (Cond.code yX0_jarsNotOn cX0_jarsNotOn 4 (some .int)) (List.mem_of_getElem? (l := wsL_law_r16) (i := 5) rfl)
theorem jcw_20 : jcwP 20 := jp_13 (Cond.code yX0_foodIn cX0_foodIn 4 (some .int)) (List.mem_of_getElem? (l := wsL_law_r13) (i := 18) rfl)
theorem jcw_21 : jcwP 21 := jp_13 (Cond.code yX0_allFood cX0_allFood 1 (some .int)) (List.mem_of_getElem? (l := wsL_law_r13) (i := 14) rfl)
theorem jcw_22 : jcwP 22 := jp_15 (Cond.code yX0_fewestOf cX0_fewestOf 7 (some .int)) (List.mem_of_getElem? (l := wsL_law_r15) (i := 3) rfl)
theorem jcw_23 : jcwP 23 := jp_3 (Cond.code yX1_letter cX1_letter 2 (some .int)) (List.mem_of_getElem? (l := wsL_law_r3) (i := 13) rfl)
theorem jcw_24 : jcwP 24 := jp_5 (Cond.code yX1_larder cX1_larder 3 (some .int)) (List.mem_of_getElem? (l := wsL_law_r5) (i := 13) rfl)
theorem jcw_25 : jcwP 25 := jp_6 (Cond.code yX1_shapeBehind cX1_shapeBehind 1 (some (.object "java/lang/String"))) (List.mem_of_getElem? (l := wsL_law_r6) (i := 15) rfl)
theorem jcw_26 : jcwP 26 := jp_6 (Cond.code yX1_fitsShape cX1_fitsShape 2 (some .boolean)) (List.mem_of_getElem? (l := wsL_law_r6) (i := 9) rfl)
theorem jcw_27 : jcwP 27 := jp_6 (Cond.code yX1_kindOf cX1_kindOf 1 (some .int)) (List.mem_of_getElem? (l := wsL_law_r6) (i := 12) rfl)
theorem jcw_28 : jcwP 28 := jp_5 (Cond.code yX1_firstBadPlace cX1_firstBadPlace 5 (some .int)) (List.mem_of_getElem? (l := wsL_law_r5) (i := 17) rfl)
theorem jcw_29 : jcwP 29 := jp_6 (Cond.code yX1_tellAll cX1_tellAll 4 (some .int)) (List.mem_of_getElem? (l := wsL_law_r6) (i := 23) rfl)
theorem jcw_30 : jcwP 30 := jp_5 (Cond.code yX1_letterAt cX1_letterAt 2 (some .int)) (List.mem_of_getElem? (l := wsL_law_r5) (i := 21) rfl)
theorem jcw_31 : jcwP 31 := jp_7 (Cond.code yX1_digitAt cX1_digitAt 2 (some .int)) (List.mem_of_getElem? (l := wsL_law_r7) (i := 15) rfl)
theorem jcw_32 : jcwP 32 := jp_7 (Cond.code yX1_twoDigitsAt cX1_twoDigitsAt 2 (some .int)) (List.mem_of_getElem? (l := wsL_law_r7) (i := 19) rfl)
theorem jcw_33 : jcwP 33 := jp_7 (Cond.code yX1_tellOne cX1_tellOne 2 (some .boolean)) (List.mem_of_getElem? (l := wsL_law_r7) (i := 7) rfl)
theorem jcw_34 : jcwP 34 := jp_7 (Cond.code yX1_tellJar cX1_tellJar 5 (some .boolean)) (List.mem_of_getElem? (l := wsL_law_r7) (i := 11) rfl)
theorem jcw_35 : jcwP 35 := jp_8 (Cond.code yX1_tellMoved cX1_tellMoved 3 (some .boolean)) (List.mem_of_getElem? (l := wsL_law_r8) (i := 11) rfl)
theorem jcw_36 : jcwP 36 := jp_8 (Cond.code yX1_tellShut cX1_tellShut 2 (some .boolean)) (List.mem_of_getElem? (l := wsL_law_r8) (i := 20) rfl)
theorem jcw_37 : jcwP 37 := jp_9 (Cond.code yX1_tellFolk cX1_tellFolk 2 (some .boolean)) (List.mem_of_getElem? (l := wsL_law_r9) (i := 1) rfl)
theorem jcw_38 : jcwP 38 := jp_9 (Cond.code yX1_tellEaten cX1_tellEaten 3 (some .boolean)) (List.mem_of_getElem? (l := wsL_law_r9) (i := 5) rfl)
theorem jcw_39 : jcwP 39 := jp_9 (Cond.code yX1_tellYears cX1_tellYears 2 (some .boolean)) (List.mem_of_getElem? (l := wsL_law_r9) (i := 18) rfl)
theorem jcw_40 : jcwP 40 := jp_14 (Cond.code yX1_jar cX1_jar 3 (some .int)) (List.mem_of_getElem? (l := wsL_law_r14) (i := 2) rfl)
theorem jcw_41 : jcwP 41 := jp_14 (Cond.code yX1_known cX1_known 1 (some .int)) (List.mem_of_getElem? (l := wsL_law_r14) (i := 14) rfl)
theorem jcw_42 : jcwP 42 := jp_17 (Cond.code yX1_moves cX1_moves 4 (some .int)) (List.mem_of_getElem? (l := wsL_law_r17) (i := 5) rfl)
theorem jcw_43 : jcwP 43 := jp_10 (Cond.code yX1_shuts cX1_shuts 2 (some .int)) (List.mem_of_getElem? (l := wsL_law_r10) (i := 21) rfl)
theorem jcw_44 : jcwP 44 := jp_17 (Cond.code yX1_eats cX1_eats 3 (some .int)) (List.mem_of_getElem? (l := wsL_law_r17) (i := 1) rfl)
theorem jcw_45 : jcwP 45 := jp_3 (Cond.code yX1_folk cX1_folk 3 (some .int)) (List.mem_of_getElem? (l := wsL_law_r3) (i := 1) rfl)
theorem jcw_46 : jcwP 46 := jp_17 (Cond.code yX1_turn cX1_turn 5 (some .int)) (List.mem_of_getElem? (l := wsL_law_r17) (i := 13) rfl)
theorem jcw_47 : jcwP 47 := jp_11 (Cond.code yX1_years cX1_years 2 (some .int)) (List.mem_of_getElem? (l := wsL_law_r11) (i := 10) rfl)
theorem jcw_48 : jcwP 48 := jp_16 (Cond.code yX1_knownThen cX1_knownThen 2 (some .int)) (List.mem_of_getElem? (l := wsL_law_r16) (i := 9) rfl)
theorem jcw_49 : jcwP 49 := jp_16 (Cond.code yX1_hungerThen cX1_hungerThen 2 (some .int)) (List.mem_of_getElem? (l := wsL_law_r16) (i := 17) rfl)
theorem jcw_50 : jcwP 50 := jp_17 (Cond.code yX1_first cX1_first 2 (some .int)) (List.mem_of_getElem? (l := wsL_law_r17) (i := 21) rfl)
theorem jcw_51 : jcwP 51 := jp_16 (Cond.code yX1_thinkAhead cX1_thinkAhead 2 none) (List.mem_of_getElem? (l := wsL_law_r16) (i := 13) rfl)
theorem jcw_52 : jcwP 52 := jp_16 (Cond.code yX1_moreHunger cX1_moreHunger 1 (some .int)) (List.mem_of_getElem? (l := wsL_law_r16) (i := 21) rfl)
theorem jcw_53 : jcwP 53 := jp_18 (Cond.code yX1_yearOfForgetting cX1_yearOfForgetting 2 (some .int)) (List.mem_of_getElem? (l := wsL_law_r18) (i := 1) rfl)
theorem jcw_54 : jcwP 54 := jp_18 (Cond.code yX1_leastForgotten cX1_leastForgotten 3 (some .int)) (List.mem_of_getElem? (l := wsL_law_r18) (i := 10) rfl)
theorem jcw_55 : jcwP 55 := jp_18 (Cond.code yX1_forgottenInThought cX1_forgottenInThought 1 (some .int)) (List.mem_of_getElem? (l := wsL_law_r18) (i := 6) rfl)
theorem jcw_56 : jcwP 56 := jp_18 (Cond.code yX1_yearOfHunger cX1_yearOfHunger 2 (some .int)) (List.mem_of_getElem? (l := wsL_law_r18) (i := 15) rfl)
theorem jcw_57 : jcwP 57 := jp_18 (Cond.code yX1_yearWithoutFood cX1_yearWithoutFood 2 (some .int)) (List.mem_of_getElem? (l := wsL_law_r18) (i := 19) rfl)
theorem jcw_58 : jcwP 58 := jp_18 (Cond.code yX1_move cX1_move 6 (some .int)) (List.mem_of_getElem? (l := wsL_law_r18) (i := 23) rfl)
theorem jcw_59 : jcwP 59 := jp_20 (Cond.code yX1_folkFor cX1_folkFor 4 (some .int)) (List.mem_of_getElem? (l := wsL_law_r20) (i := 12) rfl)
theorem jcw_60 : jcwP 60 := jp_15 (Cond.code yX1_only cX1_only 3 (some .int)) (List.mem_of_getElem? (l := wsL_law_r15) (i := 7) rfl)
theorem jcw_61 : jcwP 61 := jp_20 (Cond.code yX1_keepers cX1_keepers 4 (some .int)) (List.mem_of_getElem? (l := wsL_law_r20) (i := 8) rfl)
theorem jcw_62 : jcwP 62 := jp_14 (Cond.code yX1_fewest cX1_fewest 1 (some .int)) (List.mem_of_getElem? (l := wsL_law_r14) (i := 19) rfl)
theorem jcw_63 : jcwP 63 := jp_19 (Cond.code yX1_age cX1_age 4 (some .int)) (List.mem_of_getElem? (l := wsL_law_r19) (i := 7) rfl)
theorem jcw_64 : jcwP 64 := jp_15 (Cond.code yX1_leak cX1_leak 6 (some .int)) (List.mem_of_getElem? (l := wsL_law_r15) (i := 22) rfl)
theorem jcw_65 : jcwP 65 := jp_15 (Cond.code yX1_feast cX1_feast 3 (some .int)) (List.mem_of_getElem? (l := wsL_law_r15) (i := 15) rfl)
theorem jcw_66 : jcwP 66 := jp_19 (Cond.code yX1_row cX1_row 2 (some .int)) (List.mem_of_getElem? (l := wsL_law_r19) (i := 3) rfl)
theorem jcw_67 : jcwP 67 := jp_19 (Cond.code yX1_lots cX1_lots 7 (some .int)) (List.mem_of_getElem? (l := wsL_law_r19) (i := 15) rfl)
theorem jcw_68 : jcwP 68 := jp_19 (Cond.code yX1_drawJars cX1_drawJars 4 (some .int)) (List.mem_of_getElem? (l := wsL_law_r19) (i := 19) rfl)
theorem jcw_69 : jcwP 69 := jp_19 (Cond.code yX1_nextSeed cX1_nextSeed 1 (some .int)) (List.mem_of_getElem? (l := wsL_law_r19) (i := 22) rfl)
theorem jcw_70 : jcwP 70 := jp_20 (Cond.code yX1_drawn cX1_drawn 2 (some .int)) (List.mem_of_getElem? (l := wsL_law_r20) (i := 3) rfl)
theorem jcw_71 : jcwP 71 := jp_17 (Cond.code yX1_image cX1_image 1 (some .int)) (List.mem_of_getElem? (l := wsL_law_r17) (i := 9) rfl)
theorem jcw_72 : jcwP 72 := jp_17 (Cond.code yX1_on cX1_on 1 (some .int)) (List.mem_of_getElem? (l := wsL_law_r17) (i := 17) rfl)
theorem jcw_73 : jcwP 73 := jp_13 (Cond.code yX1_count cX1_count 2 (some .int)) (List.mem_of_getElem? (l := wsL_law_r13) (i := 8) rfl)
theorem jcw_74 : jcwP 74 := jp_3 (Cond.code yX1_refuse cX1_refuse 2 (some .int)) (List.mem_of_getElem? (l := wsL_law_r3) (i := 6) rfl)
theorem jcw_75 : jcwP 75 := jp_7 (Cond.code yX1_isShelf cX1_isShelf 1 (some .boolean)) (List.mem_of_getElem? (l := wsL_law_r7) (i := 22) rfl)
theorem jcw_76 : jcwP 76 := jp_19 (Cond.code yX1_isCustom cX1_isCustom 1 (some .boolean)) (List.mem_of_getElem? (l := wsL_law_r19) (i := 11) rfl)
theorem jcw_77 : jcwP 77 := jp_16 (Cond.code yX1_isNeither cX1_isNeither 1 (some .boolean)) (List.mem_of_getElem? (l := wsL_law_r16) (i := 1) rfl)
theorem jcw_78 : jcwP 78 := jp_12 (Cond.code yX1_hasBit cX1_hasBit 2 (some .boolean)) (List.mem_of_getElem? (l := wsL_law_r12) (i := 0) rfl)
theorem jcw_79 : jcwP 79 := jp_11 (Cond.code yL_spoils cL_spoils 4 (some .int)) (List.mem_of_getElem? (l := wsL_law_r11) (i := 6) rfl)
theorem jcw_80 : jcwP 80 := jp_12 (Cond.code yL_customs cL_customs 5 (some .int)) (List.mem_of_getElem? (l := wsL_law_r12) (i := 20) rfl)
theorem jcw_81 : jcwP 81 := jp_12 (Cond.code yL_known cL_known 4 (some .int)) (List.mem_of_getElem? (l := wsL_law_r12) (i := 17) rfl)
theorem jcw_82 : jcwP 82 := jp_11 (Cond.code yL_year cL_year 6 (some .int)) (List.mem_of_getElem? (l := wsL_law_r11) (i := 3) rfl)
theorem jcw_83 : jcwP 83 := jp_11 (Cond.code yL_years cL_years 4 none) (List.mem_of_getElem? (l := wsL_law_r11) (i := 0) rfl)
theorem jcw_84 : jcwP 84 := jp_12 (Cond.code yL_bits cL_bits 3 (some .int)) (List.mem_of_getElem? (l := wsL_law_r12) (i := 23) rfl)
theorem jcw_85 : jcwP 85 := jp_3 (Cond.code yL_say cL_say 2 (some .boolean)) (List.mem_of_getElem? (l := wsL_law_r3) (i := 9) rfl)
theorem jcw_86 : jcwP 86 := jp_5 (Cond.code yL_two cL_two 2 (some .boolean)) (List.mem_of_getElem? (l := wsL_law_r5) (i := 9) rfl)
theorem jcw_87 : jcwP 87 := jp_2 (Cond.code yL_larder cL_larder 10 (some .boolean)) (List.mem_of_getElem? (l := wsL_law_r2) (i := 16) rfl)
theorem jcw_88 : jcwP 88 := jp_13 (Cond.code yL_sight cL_sight 5 (some .long)) (List.mem_of_getElem? (l := wsL_law_r13) (i := 2) rfl)
theorem jcwc_31 : ∀ k, k < 31 → jcwP k := lt_s (i := 30) (p := jcwP) (lt_s (i := 29) (p := jcwP) (lt_s (i := 28) (p := jcwP) (lt_s (i := 27) (p := jcwP) (lt_s (i := 26) (p := jcwP) (lt_s (i := 25) (p := jcwP) (lt_s (i := 24) (p := jcwP) (lt_s (i := 23) (p := jcwP) (lt_s (i := 22) (p := jcwP) (lt_s (i := 21) (p := jcwP) (lt_s (i := 20) (p := jcwP) (lt_s (i := 19) (p := jcwP) (lt_s (i := 18) (p := jcwP) (lt_s (i := 17) (p := jcwP) (lt_s (i := 16) (p := jcwP) (lt_s (i := 15) (p := jcwP) (lt_s (i := 14) (p := jcwP) (lt_s (i := 13) (p := jcwP) (lt_s (i := 12) (p := jcwP) (lt_s (i := 11) (p := jcwP) (lt_s (i := 10) (p := jcwP) (lt_s (i := 9) (p := jcwP) (lt_s (i := 8) (p := jcwP) (lt_s (i := 7) (p := jcwP) (lt_s (i := 6) (p := jcwP) (lt_s (i := 5) (p := jcwP) (lt_s (i := 4) (p := jcwP) (lt_s (i := 3) (p := jcwP) (lt_s (i := 2) (p := jcwP) (lt_s (i := 1) (p := jcwP) (lt_s (i := 0) (p := jcwP) (lt_0) jcw_0) jcw_1) jcw_2) jcw_3) jcw_4) jcw_5) jcw_6) jcw_7) jcw_8) jcw_9) jcw_10) jcw_11) jcw_12) jcw_13) jcw_14) jcw_15) jcw_16) jcw_17) jcw_18) jcw_19) jcw_20) jcw_21) jcw_22) jcw_23) jcw_24) jcw_25) jcw_26) jcw_27) jcw_28) jcw_29) jcw_30
theorem jcwc_62 : ∀ k, k < 62 → jcwP k := lt_s (i := 61) (p := jcwP) (lt_s (i := 60) (p := jcwP) (lt_s (i := 59) (p := jcwP) (lt_s (i := 58) (p := jcwP) (lt_s (i := 57) (p := jcwP) (lt_s (i := 56) (p := jcwP) (lt_s (i := 55) (p := jcwP) (lt_s (i := 54) (p := jcwP) (lt_s (i := 53) (p := jcwP) (lt_s (i := 52) (p := jcwP) (lt_s (i := 51) (p := jcwP) (lt_s (i := 50) (p := jcwP) (lt_s (i := 49) (p := jcwP) (lt_s (i := 48) (p := jcwP) (lt_s (i := 47) (p := jcwP) (lt_s (i := 46) (p := jcwP) (lt_s (i := 45) (p := jcwP) (lt_s (i := 44) (p := jcwP) (lt_s (i := 43) (p := jcwP) (lt_s (i := 42) (p := jcwP) (lt_s (i := 41) (p := jcwP) (lt_s (i := 40) (p := jcwP) (lt_s (i := 39) (p := jcwP) (lt_s (i := 38) (p := jcwP) (lt_s (i := 37) (p := jcwP) (lt_s (i := 36) (p := jcwP) (lt_s (i := 35) (p := jcwP) (lt_s (i := 34) (p := jcwP) (lt_s (i := 33) (p := jcwP) (lt_s (i := 32) (p := jcwP) (lt_s (i := 31) (p := jcwP) (jcwc_31) jcw_31) jcw_32) jcw_33) jcw_34) jcw_35) jcw_36) jcw_37) jcw_38) jcw_39) jcw_40) jcw_41) jcw_42) jcw_43) jcw_44) jcw_45) jcw_46) jcw_47) jcw_48) jcw_49) jcw_50) jcw_51) jcw_52) jcw_53) jcw_54) jcw_55) jcw_56) jcw_57) jcw_58) jcw_59) jcw_60) jcw_61
theorem jcwc_89 : ∀ k, k < 89 → jcwP k := lt_s (i := 88) (p := jcwP) (lt_s (i := 87) (p := jcwP) (lt_s (i := 86) (p := jcwP) (lt_s (i := 85) (p := jcwP) (lt_s (i := 84) (p := jcwP) (lt_s (i := 83) (p := jcwP) (lt_s (i := 82) (p := jcwP) (lt_s (i := 81) (p := jcwP) (lt_s (i := 80) (p := jcwP) (lt_s (i := 79) (p := jcwP) (lt_s (i := 78) (p := jcwP) (lt_s (i := 77) (p := jcwP) (lt_s (i := 76) (p := jcwP) (lt_s (i := 75) (p := jcwP) (lt_s (i := 74) (p := jcwP) (lt_s (i := 73) (p := jcwP) (lt_s (i := 72) (p := jcwP) (lt_s (i := 71) (p := jcwP) (lt_s (i := 70) (p := jcwP) (lt_s (i := 69) (p := jcwP) (lt_s (i := 68) (p := jcwP) (lt_s (i := 67) (p := jcwP) (lt_s (i := 66) (p := jcwP) (lt_s (i := 65) (p := jcwP) (lt_s (i := 64) (p := jcwP) (lt_s (i := 63) (p := jcwP) (lt_s (i := 62) (p := jcwP) (jcwc_62) jcw_62) jcw_63) jcw_64) jcw_65) jcw_66) jcw_67) jcw_68) jcw_69) jcw_70) jcw_71) jcw_72) jcw_73) jcw_74) jcw_75) jcw_76) jcw_77) jcw_78) jcw_79) jcw_80) jcw_81) jcw_82) jcw_83) jcw_84) jcw_85) jcw_86) jcw_87) jcw_88
theorem jcw {k : Nat} (h : k < jN) : Cond.code (jy k) (jb k) (jml k) (jty k) ∈ wsL_law := jcwc_89 k h
theorem jgood_w : wsL_law.all goodWord = true := by decide +kernel
theorem jgoodIn {ws : List Cond} (h : ∀ w ∈ ws, w ∈ wsL_law) : GoodIn wsL_law ws := fun w hw => ⟨h w hw, good_of_word (List.all_eq_true.mp jgood_w w (h w hw))⟩
def jmok (k : Nat) : Bool := decide (wsL_law[jw2.getD k 0]? = some (if jstt k then Cond.static (jy k) else Cond.instanceMethod (jy k))) && (jstt k || decide (wsL_law[jw3.getD k 0]? = some (Cond.selects (jcn (jo k)) (jy k) (jy k)))) && decide ((jy k).cls = jcn (jo k)) && decide ((parseMethodDescriptor (jy k).desc).map (fun d => d.parameters.length) = some (if jstt k then jna k else jna k - 1)) && (jstt k || Nat.blt 0 (jna k)) && (Nat.blt (jo k) 3 && (jstt k || Nat.blt (jo k) 2)) && plainName (jy k).cls && (match jrk k with
  | 0 => decide (jty k = none)
  | 1 => decide (jty k = some .int)
  | 2 => decide (jty k = some .long)
  | 3 => decide (jty k = some (.object "java/lang/String"))
  | _ => decide (jrk k = 4 ∧ jty k = some .boolean))
theorem jmok_all : (List.range jN).all jmok = true := by decide +kernel
theorem jmok_k {k : Nat} (h : k < jN) : jmok k = true := List.all_eq_true.mp jmok_all k (List.mem_range.mpr h)
theorem jini_all : (List.range 3).all (fun o => decide (wsL_law[jw4.getD o 0]? = some (Cond.initialized (jcn o)))) = true := by decide +kernel
theorem jini {o : Nat} (h : o < 3) : Cond.initialized (jcn o) ∈ wsL_law := List.mem_of_getElem? (of_decide_eq_true (List.all_eq_true.mp jini_all o (List.mem_range.mpr h)))
def jflP (e : Nat × Nat × Nat × Nat) : Bool := decide (wsL_law[e.2.2.2]? = some (Cond.fieldLink (jcn e.1) e.2.1 (jTn (e.2.2.1 / 1000) (e.2.2.1 % 1000)).1 (jTn (e.2.2.1 / 1000) (e.2.2.1 % 1000)).2.1 (jTn (e.2.2.1 / 1000) (e.2.2.1 % 1000)).2.2.1))
theorem jfl_all : jfl.all jflP = true := by decide +kernel
def jclP (e : Nat × Nat × Nat × Nat × Nat) : Bool := Nat.blt e.2.2.1 jN && (match e.2.2.2.1 with
  | 0 => jstt e.2.2.1 && decide (wsL_law[e.2.2.2.2]? = some (Cond.methodLink (jcn e.1) e.2.1 (jy e.2.2.1)))
  | 1 => !jstt e.2.2.1 && decide (wsL_law[e.2.2.2.2]? = some (Cond.methodLink (jcn e.1) e.2.1 (jy e.2.2.1)))
  | _ => jstt e.2.2.1 && decide (e.1 = 0 ∧ e.2.1 = 55 ∧ jy e.2.2.1 = yX1_hasBit))
theorem jcl_all : jcl.all jclP = true := by decide +kernel
def jcsP (e : Nat × Nat × Int × Nat) : Bool := decide (-2147483648 ≤ e.2.2.1 ∧ e.2.2.1 < 2147483648) && decide (wsL_law[e.2.2.2]? = some (Cond.constant (jcn e.1) e.2.1 (Int32.ofInt e.2.2.1)))
theorem jcs_all : jcs.all jcsP = true := by decide +kernel
def jcl2P (e : Nat × Nat × Int × Nat) : Bool := decide (-9223372036854775808 ≤ e.2.2.1 ∧ e.2.2.1 < 9223372036854775808) && decide (wsL_law[e.2.2.2]? = some (Cond.constantLong (jcn e.1) e.2.1 (Int64.ofInt e.2.2.1)))
theorem jcl2_all : jcl2.all jcl2P = true := by decide +kernel

variable {SH : List zHs}
theorem zlo1 {x : Int32} (h : ¬ zc1 .lt x) : ¬ x < 0 := h
theorem zlo2 {x : Int32} (h : zc1 .ge x) : ¬ x < 0 := by
  have h9 : (0 : Int32) ≤ x := h
  rw [Int32.le_iff_toInt_le] at h9
  rw [Int32.lt_iff_toInt_lt]
  omega
theorem zhi1 {x n : Int32} (h : ¬ zc2 .ge x n) : x < n := by
  have h9 : ¬ n ≤ x := h
  rw [Int32.le_iff_toInt_le] at h9
  rw [Int32.lt_iff_toInt_lt]
  omega
theorem zhi2 {x n : Int32} (h : zc2 .lt x n) : x < n := h
theorem zin {x n : Int32} {N : Nat} (h1 : ¬ x < 0) (h2 : x < n) (hn : n.toInt = (N : Int)) : vp_in x N := by
  rw [vp_in_iff]
  rw [Int32.lt_iff_toInt_lt, Int32.toInt_zero] at h1
  rw [Int32.lt_iff_toInt_lt] at h2
  omega
theorem zin_lit {x : Int32} {N : Nat} (h1 : 0 ≤ x.toInt) (h2 : x.toInt < (N : Int)) : vp_in x N := vp_in_iff.mpr ⟨h1, h2⟩
section ZNx
variable {RO : zRo} {SP : zSp} {d mi : Nat} {P : zP} {pc : Nat} {ll : zL} {rest : List Value} {I : zI} {J : zJ} {D : zD} {bc bs : Nat}
theorem zNx_i {v : Int32} (k : zV1 SH RO SP d mi P pc ll (.int v :: rest) I J D bc bs) : zNx SH RO SP d mi P pc ll rest bc bs (.inl (some (.int v))) I J D := k
theorem zNx_l {v : Int64} (k : zV1 SH RO SP d mi P pc ll (.long v :: rest) I J D bc bs) : zNx SH RO SP d mi P pc ll rest bc bs (.inl (some (.long v))) I J D := k
theorem zNx_d {v : UInt64} (k : zV1 SH RO SP d mi P pc ll (.double v :: rest) I J D bc bs) : zNx SH RO SP d mi P pc ll rest bc bs (.inl (some (.double v))) I J D := k
theorem zNx_v (k : zV1 SH RO SP d mi P pc ll rest I J D bc bs) : zNx SH RO SP d mi P pc ll rest bc bs (.inl none) I J D := k
end ZNx
theorem zc_8_83 : Cond.constantLong "RuleStack$Tokens" 83 10 ∈ zAL := zmem2 197 (by decide +kernel) (by decide +kernel)
theorem zc_3_50 : Cond.constant "RuleStack$Machine" 50 1000000 ∈ zAL := zmem3 229 (by decide +kernel) (by decide +kernel)
theorem zc_3_117 : Cond.constantLong "RuleStack$Machine" 117 1000 ∈ zAL := zmem4 28 (by decide +kernel) (by decide +kernel)
theorem zc_3_123 : Cond.constantLong "RuleStack$Machine" 123 6364136223846793005 ∈ zAL := zmem4 29 (by decide +kernel) (by decide +kernel)
theorem zc_3_125 : Cond.constantLong "RuleStack$Machine" 125 1442695040888963407 ∈ zAL := zmem4 30 (by decide +kernel) (by decide +kernel)
theorem zc_9_227 : Cond.constantLong "RuleStack" 227 419 ∈ zAL := zmem4 77 (by decide +kernel) (by decide +kernel)
theorem zc_9_229 : Cond.constantLong "RuleStack" 229 31 ∈ zAL := zmem4 78 (by decide +kernel) (by decide +kernel)
theorem zc_11_114 : Cond.constantLong "RuleStackModel" 114 97 ∈ zAL := zmem6 120 (by decide +kernel) (by decide +kernel)
theorem zc_11_116 : Cond.constantLong "RuleStackModel" 116 122 ∈ zAL := zmem6 121 (by decide +kernel) (by decide +kernel)
theorem zc_11_118 : Cond.constantLong "RuleStackModel" 118 48 ∈ zAL := zmem6 125 (by decide +kernel) (by decide +kernel)
theorem zc_11_120 : Cond.constantLong "RuleStackModel" 120 57 ∈ zAL := zmem6 126 (by decide +kernel) (by decide +kernel)
theorem zc_11_142 : Cond.constantLong "RuleStackModel" 142 10 ∈ zAL := zmem6 130 (by decide +kernel) (by decide +kernel)
theorem zc_11_247 : Cond.constantLong "RuleStackModel" 247 4 ∈ zAL := zmem6 149 (by decide +kernel) (by decide +kernel)
theorem zc_11_249 : Cond.constantLong "RuleStackModel" 249 8 ∈ zAL := zmem6 150 (by decide +kernel) (by decide +kernel)
theorem zc_11_226 : Cond.constantLong "RuleStackModel" 226 24 ∈ zAL := zmem7 25 (by decide +kernel) (by decide +kernel)
theorem zc_11_228 : Cond.constantLong "RuleStackModel" 228 28 ∈ zAL := zmem7 26 (by decide +kernel) (by decide +kernel)
theorem zc_11_218 : Cond.constantLong "RuleStackModel" 218 108 ∈ zAL := zmem7 35 (by decide +kernel) (by decide +kernel)
theorem zc_11_220 : Cond.constantLong "RuleStackModel" 220 110 ∈ zAL := zmem7 36 (by decide +kernel) (by decide +kernel)
theorem zc_11_284 : Cond.constantLong "RuleStackModel" 284 17 ∈ zAL := zmem7 41 (by decide +kernel) (by decide +kernel)
theorem zc_11_286 : Cond.constantLong "RuleStackModel" 286 19 ∈ zAL := zmem7 42 (by decide +kernel) (by decide +kernel)
theorem zc_11_425 : Cond.constantLong "RuleStackModel" 425 2 ∈ zAL := zmem7 63 (by decide +kernel) (by decide +kernel)
theorem zc_11_333 : Cond.constantLong "RuleStackModel" 333 6364136223846793005 ∈ zAL := zmem7 92 (by decide +kernel) (by decide +kernel)
theorem zc_11_335 : Cond.constantLong "RuleStackModel" 335 1442695040888963407 ∈ zAL := zmem7 93 (by decide +kernel) (by decide +kernel)
theorem zc_11_337 : Cond.constantLong "RuleStackModel" 337 1000 ∈ zAL := zmem7 94 (by decide +kernel) (by decide +kernel)
theorem zc_11_446 : Cond.constantLong "RuleStackModel" 446 9 ∈ zAL := zmem7 184 (by decide +kernel) (by decide +kernel)
theorem zc_11_454 : Cond.constantLong "RuleStackModel" 454 7 ∈ zAL := zmem7 201 (by decide +kernel) (by decide +kernel)
theorem zc_11_459 : Cond.constantLong "RuleStackModel" 459 3 ∈ zAL := zmem7 218 (by decide +kernel) (by decide +kernel)
theorem zc_11_461 : Cond.constantLong "RuleStackModel" 461 419 ∈ zAL := zmem7 239 (by decide +kernel) (by decide +kernel)
theorem zc_11_463 : Cond.constantLong "RuleStackModel" 463 31 ∈ zAL := zmem8 0 (by decide +kernel) (by decide +kernel)
theorem zc_L_95 : Cond.constantLong "RuleStackLaw" 95 4294967295 ∈ zAL := zmem8 1 (by decide +kernel) (by decide +kernel)
theorem zp_0_2 : zFp 0 2 .int := ⟨_, _, _, rfl, rfl, by decide +kernel⟩
theorem zp_1_2 : zFp 1 2 .int := ⟨_, _, _, rfl, rfl, by decide +kernel⟩
theorem zp_1_3 : zFp 1 3 .int := ⟨_, _, _, rfl, rfl, by decide +kernel⟩
theorem zp_2_4 : zFp 2 4 .int := ⟨_, _, _, rfl, rfl, by decide +kernel⟩
theorem zp_2_5 : zFp 2 5 .int := ⟨_, _, _, rfl, rfl, by decide +kernel⟩
theorem zp_2_6 : zFp 2 6 .int := ⟨_, _, _, rfl, rfl, by decide +kernel⟩
theorem zp_2_7 : zFp 2 7 .int := ⟨_, _, _, rfl, rfl, by decide +kernel⟩
theorem zp_2_8 : zFp 2 8 .int := ⟨_, _, _, rfl, rfl, by decide +kernel⟩
theorem zp_2_9 : zFp 2 9 .long := ⟨_, _, _, rfl, rfl, by decide +kernel⟩
theorem zp_3_5 : zFp 3 5 .int := ⟨_, _, _, rfl, rfl, by decide +kernel⟩
theorem zp_3_6 : zFp 3 6 .int := ⟨_, _, _, rfl, rfl, by decide +kernel⟩
theorem zp_3_7 : zFp 3 7 .int := ⟨_, _, _, rfl, rfl, by decide +kernel⟩
theorem zp_3_8 : zFp 3 8 .int := ⟨_, _, _, rfl, rfl, by decide +kernel⟩
theorem zp_4_2 : zFp 4 2 .int := ⟨_, _, _, rfl, rfl, by decide +kernel⟩
theorem zp_4_3 : zFp 4 3 .int := ⟨_, _, _, rfl, rfl, by decide +kernel⟩
theorem zp_4_4 : zFp 4 4 .int := ⟨_, _, _, rfl, rfl, by decide +kernel⟩
theorem zp_4_5 : zFp 4 5 .int := ⟨_, _, _, rfl, rfl, by decide +kernel⟩
theorem zp_4_6 : zFp 4 6 .int := ⟨_, _, _, rfl, rfl, by decide +kernel⟩
theorem zp_4_7 : zFp 4 7 .boolean := ⟨_, _, _, rfl, rfl, by decide +kernel⟩
theorem zp_5_6 : zFp 5 6 .int := ⟨_, _, _, rfl, rfl, by decide +kernel⟩
theorem zp_5_7 : zFp 5 7 .boolean := ⟨_, _, _, rfl, rfl, by decide +kernel⟩
theorem zp_6_2 : zFp 6 2 .int := ⟨_, _, _, rfl, rfl, by decide +kernel⟩
theorem zp_6_3 : zFp 6 3 .int := ⟨_, _, _, rfl, rfl, by decide +kernel⟩
theorem zp_6_4 : zFp 6 4 .int := ⟨_, _, _, rfl, rfl, by decide +kernel⟩
theorem zp_6_5 : zFp 6 5 .int := ⟨_, _, _, rfl, rfl, by decide +kernel⟩
theorem zp_6_6 : zFp 6 6 .int := ⟨_, _, _, rfl, rfl, by decide +kernel⟩
theorem zp_6_7 : zFp 6 7 .boolean := ⟨_, _, _, rfl, rfl, by decide +kernel⟩
theorem zp_6_8 : zFp 6 8 .boolean := ⟨_, _, _, rfl, rfl, by decide +kernel⟩
theorem zp_6_9 : zFp 6 9 .long := ⟨_, _, _, rfl, rfl, by decide +kernel⟩
theorem zp_7_1 : zFp 7 1 .int := ⟨_, _, _, rfl, rfl, by decide +kernel⟩
theorem zp_8_4 : zFp 8 4 .int := ⟨_, _, _, rfl, rfl, by decide +kernel⟩
theorem zp_9_8 : zFp 9 8 .int := ⟨_, _, _, rfl, rfl, by decide +kernel⟩
theorem zp_11_0 : zFp 11 0 .int := ⟨_, _, _, rfl, rfl, by decide +kernel⟩
theorem zp_11_3 : zFp 11 3 .int := ⟨_, _, _, rfl, rfl, by decide +kernel⟩
theorem zp_11_4 : zFp 11 4 .int := ⟨_, _, _, rfl, rfl, by decide +kernel⟩
theorem zp_11_8 : zFp 11 8 .int := ⟨_, _, _, rfl, rfl, by decide +kernel⟩
theorem zp_11_18 : zFp 11 18 .int := ⟨_, _, _, rfl, rfl, by decide +kernel⟩
theorem zp_11_19 : zFp 11 19 .int := ⟨_, _, _, rfl, rfl, by decide +kernel⟩
theorem zp_11_23 : zFp 11 23 .boolean := ⟨_, _, _, rfl, rfl, by decide +kernel⟩
theorem zp_11_24 : zFp 11 24 .int := ⟨_, _, _, rfl, rfl, by decide +kernel⟩
theorem zp_11_25 : zFp 11 25 .boolean := ⟨_, _, _, rfl, rfl, by decide +kernel⟩
theorem zp_11_26 : zFp 11 26 .boolean := ⟨_, _, _, rfl, rfl, by decide +kernel⟩
theorem zp_11_27 : zFp 11 27 .int := ⟨_, _, _, rfl, rfl, by decide +kernel⟩
theorem zp_11_28 : zFp 11 28 .int := ⟨_, _, _, rfl, rfl, by decide +kernel⟩
theorem zp_11_29 : zFp 11 29 .int := ⟨_, _, _, rfl, rfl, by decide +kernel⟩
theorem zp_11_30 : zFp 11 30 .int := ⟨_, _, _, rfl, rfl, by decide +kernel⟩
theorem zp_11_31 : zFp 11 31 .long := ⟨_, _, _, rfl, rfl, by decide +kernel⟩
theorem zp_11_32 : zFp 11 32 .long := ⟨_, _, _, rfl, rfl, by decide +kernel⟩
theorem zp_11_33 : zFp 11 33 .int := ⟨_, _, _, rfl, rfl, by decide +kernel⟩
theorem zp_11_34 : zFp 11 34 .int := ⟨_, _, _, rfl, rfl, by decide +kernel⟩
theorem zp_11_35 : zFp 11 35 .int := ⟨_, _, _, rfl, rfl, by decide +kernel⟩
theorem zp_11_36 : zFp 11 36 .int := ⟨_, _, _, rfl, rfl, by decide +kernel⟩
theorem zp_11_37 : zFp 11 37 .int := ⟨_, _, _, rfl, rfl, by decide +kernel⟩
theorem zp_11_38 : zFp 11 38 .int := ⟨_, _, _, rfl, rfl, by decide +kernel⟩
theorem zp_11_39 : zFp 11 39 .int := ⟨_, _, _, rfl, rfl, by decide +kernel⟩
theorem zp_11_40 : zFp 11 40 .boolean := ⟨_, _, _, rfl, rfl, by decide +kernel⟩
theorem zp_11_41 : zFp 11 41 .boolean := ⟨_, _, _, rfl, rfl, by decide +kernel⟩
theorem zp_11_42 : zFp 11 42 .int := ⟨_, _, _, rfl, rfl, by decide +kernel⟩
theorem zp_11_45 : zFp 11 45 .int := ⟨_, _, _, rfl, rfl, by decide +kernel⟩
theorem zp_11_47 : zFp 11 47 .int := ⟨_, _, _, rfl, rfl, by decide +kernel⟩
theorem ztw_83_87 : zThW "RuleStack" 83 87 (zXn 0) := List.all_eq_true.mp (by decide +kernel)
theorem ztw_94_98 : zThW "RuleStack" 94 98 (zXn 1) := List.all_eq_true.mp (by decide +kernel)
theorem ztw_129_133 : zThW "RuleStack" 129 133 (zXn 2) := List.all_eq_true.mp (by decide +kernel)
theorem zth_107_16 : zThr 107 16 0 := ⟨83, 85, 87, "the tape is full", List.mem_of_getElem? (i := 7) rfl, List.mem_of_getElem? (i := 8) rfl, List.mem_of_getElem? (i := 9) rfl, List.mem_of_getElem? (i := 10) rfl, List.mem_of_getElem? (i := 11) rfl, rfl, by decide +kernel, ztw_83_87, by decide, by decide⟩
theorem zth_108_15 : zThr 108 15 1 := ⟨94, 96, 98, "the tape has not so many bytes", List.mem_of_getElem? (i := 7) rfl, List.mem_of_getElem? (i := 8) rfl, List.mem_of_getElem? (i := 9) rfl, List.mem_of_getElem? (i := 10) rfl, List.mem_of_getElem? (i := 11) rfl, rfl, by decide +kernel, ztw_94_98, by decide, by decide⟩
theorem zth_111_10 : zThr 111 10 2 := ⟨129, 131, 133, "what is 0 to 9", List.mem_of_getElem? (i := 5) rfl, List.mem_of_getElem? (i := 6) rfl, List.mem_of_getElem? (i := 7) rfl, List.mem_of_getElem? (i := 8) rfl, List.mem_of_getElem? (i := 9) rfl, rfl, by decide +kernel, ztw_129_133, by decide, by decide⟩
theorem zth_113_10 : zThr 113 10 1 := ⟨94, 149, 98, "players are 2 to 4", List.mem_of_getElem? (i := 6) rfl, List.mem_of_getElem? (i := 7) rfl, List.mem_of_getElem? (i := 8) rfl, List.mem_of_getElem? (i := 9) rfl, List.mem_of_getElem? (i := 10) rfl, rfl, by decide +kernel, ztw_94_98, by decide, by decide⟩
theorem zth_113_30 : zThr 113 30 0 := ⟨83, 151, 87, "there is no program", List.mem_of_getElem? (i := 15) rfl, List.mem_of_getElem? (i := 16) rfl, List.mem_of_getElem? (i := 17) rfl, List.mem_of_getElem? (i := 18) rfl, List.mem_of_getElem? (i := 19) rfl, rfl, by decide +kernel, ztw_83_87, by decide, by decide⟩
theorem zth_114_10 : zThr 114 10 2 := ⟨129, 164, 133, "no such act or player", List.mem_of_getElem? (i := 6) rfl, List.mem_of_getElem? (i := 7) rfl, List.mem_of_getElem? (i := 8) rfl, List.mem_of_getElem? (i := 9) rfl, List.mem_of_getElem? (i := 10) rfl, rfl, by decide +kernel, ztw_129_133, by decide, by decide⟩
theorem zth_114_33 : zThr 114 33 0 := ⟨83, 169, 87, "the act cannot be done now", List.mem_of_getElem? (i := 18) rfl, List.mem_of_getElem? (i := 19) rfl, List.mem_of_getElem? (i := 20) rfl, List.mem_of_getElem? (i := 21) rfl, List.mem_of_getElem? (i := 22) rfl, rfl, by decide +kernel, ztw_83_87, by decide, by decide⟩
theorem zth_115_10 : zThr 115 10 2 := ⟨129, 175, 133, "no such reply or player", List.mem_of_getElem? (i := 6) rfl, List.mem_of_getElem? (i := 7) rfl, List.mem_of_getElem? (i := 8) rfl, List.mem_of_getElem? (i := 9) rfl, List.mem_of_getElem? (i := 10) rfl, rfl, by decide +kernel, ztw_129_133, by decide, by decide⟩
theorem zth_115_33 : zThr 115 33 0 := ⟨83, 177, 87, "the reply cannot be given now", List.mem_of_getElem? (i := 18) rfl, List.mem_of_getElem? (i := 19) rfl, List.mem_of_getElem? (i := 20) rfl, List.mem_of_getElem? (i := 21) rfl, List.mem_of_getElem? (i := 22) rfl, rfl, by decide +kernel, ztw_83_87, by decide, by decide⟩
theorem zth_116_10 : zThr 116 10 0 := ⟨83, 179, 87, "there is no game that goes on", List.mem_of_getElem? (i := 4) rfl, List.mem_of_getElem? (i := 5) rfl, List.mem_of_getElem? (i := 6) rfl, List.mem_of_getElem? (i := 7) rfl, List.mem_of_getElem? (i := 8) rfl, rfl, by decide +kernel, ztw_83_87, by decide, by decide⟩
theorem zth_117_22 : zThr 117 22 2 := ⟨129, 181, 133, "no such act, reply or player", List.mem_of_getElem? (i := 12) rfl, List.mem_of_getElem? (i := 13) rfl, List.mem_of_getElem? (i := 14) rfl, List.mem_of_getElem? (i := 15) rfl, List.mem_of_getElem? (i := 16) rfl, rfl, by decide +kernel, ztw_129_133, by decide, by decide⟩
theorem zth_120_10 : zThr 120 10 2 := ⟨129, 189, 133, "what is 0 to 7", List.mem_of_getElem? (i := 5) rfl, List.mem_of_getElem? (i := 6) rfl, List.mem_of_getElem? (i := 7) rfl, List.mem_of_getElem? (i := 8) rfl, List.mem_of_getElem? (i := 9) rfl, rfl, by decide +kernel, ztw_129_133, by decide, by decide⟩
theorem zth_121_31 : zThr 121 31 2 := ⟨129, 194, 133, "no such player or track", List.mem_of_getElem? (i := 15) rfl, List.mem_of_getElem? (i := 16) rfl, List.mem_of_getElem? (i := 17) rfl, List.mem_of_getElem? (i := 18) rfl, List.mem_of_getElem? (i := 19) rfl, rfl, by decide +kernel, ztw_129_133, by decide, by decide⟩
theorem zth_122_16 : zThr 122 16 2 := ⟨129, 199, 133, "no such pool", List.mem_of_getElem? (i := 8) rfl, List.mem_of_getElem? (i := 9) rfl, List.mem_of_getElem? (i := 10) rfl, List.mem_of_getElem? (i := 11) rfl, List.mem_of_getElem? (i := 12) rfl, rfl, by decide +kernel, ztw_129_133, by decide, by decide⟩
theorem zth_123_24 : zThr 123 24 2 := ⟨129, 204, 133, "no such place, or what is not 0 to 3", List.mem_of_getElem? (i := 12) rfl, List.mem_of_getElem? (i := 13) rfl, List.mem_of_getElem? (i := 14) rfl, List.mem_of_getElem? (i := 15) rfl, List.mem_of_getElem? (i := 16) rfl, rfl, by decide +kernel, ztw_129_133, by decide, by decide⟩
theorem zth_124_24 : zThr 124 24 2 := ⟨129, 209, 133, "no such move, or what is not 0 to 3", List.mem_of_getElem? (i := 12) rfl, List.mem_of_getElem? (i := 13) rfl, List.mem_of_getElem? (i := 14) rfl, List.mem_of_getElem? (i := 15) rfl, List.mem_of_getElem? (i := 16) rfl, rfl, by decide +kernel, ztw_129_133, by decide, by decide⟩
theorem zth_125_15 : zThr 125 15 1 := ⟨94, 214, 98, "there are not so many moves", List.mem_of_getElem? (i := 7) rfl, List.mem_of_getElem? (i := 8) rfl, List.mem_of_getElem? (i := 9) rfl, List.mem_of_getElem? (i := 10) rfl, List.mem_of_getElem? (i := 11) rfl, rfl, by decide +kernel, ztw_94_98, by decide, by decide⟩
theorem zth_125_36 : zThr 125 36 0 := ⟨83, 216, 87, "no game was begun", List.mem_of_getElem? (i := 17) rfl, List.mem_of_getElem? (i := 18) rfl, List.mem_of_getElem? (i := 19) rfl, List.mem_of_getElem? (i := 20) rfl, List.mem_of_getElem? (i := 21) rfl, rfl, by decide +kernel, ztw_83_87, by decide, by decide⟩
theorem zth_127_16 : zThr 127 16 2 := ⟨129, 225, 133, "no such track", List.mem_of_getElem? (i := 8) rfl, List.mem_of_getElem? (i := 9) rfl, List.mem_of_getElem? (i := 10) rfl, List.mem_of_getElem? (i := 11) rfl, List.mem_of_getElem? (i := 12) rfl, rfl, by decide +kernel, ztw_129_133, by decide, by decide⟩
theorem zhc_220_0 : zHc 220 11 0 1 := ⟨[], (⟨0, 16, 19, 13⟩ : ExceptionTableEntry), [], rfl, fun _ hz => absurd hz List.not_mem_nil, by decide, by decide, zmem4 103 (by decide +kernel) (by decide +kernel), by decide +kernel, Or.inl ⟨7, by decide, List.mem_of_getElem? (i := 12) rfl, ⟨1, rfl, List.mem_of_getElem? (i := 13) rfl, List.mem_of_getElem? (i := 14) rfl, rfl, _, rfl, rfl⟩⟩⟩
theorem zhc_221_1 : zHc 221 4 1 1 := ⟨[], (⟨0, 9, 12, 19⟩ : ExceptionTableEntry), [], rfl, fun _ hz => absurd hz List.not_mem_nil, by decide, by decide, zmem4 183 (by decide +kernel) (by decide +kernel), by decide +kernel, Or.inr ⟨3, by decide, List.mem_of_getElem? (i := 8) rfl, ⟨1, rfl, List.mem_of_getElem? (i := 9) rfl, List.mem_of_getElem? (i := 10) rfl, rfl, _, rfl, rfl⟩⟩⟩
theorem zhc_222_2 : zHc 222 4 2 1 := ⟨[], (⟨0, 9, 12, 24⟩ : ExceptionTableEntry), [], rfl, fun _ hz => absurd hz List.not_mem_nil, by decide, by decide, zmem4 207 (by decide +kernel) (by decide +kernel), by decide +kernel, Or.inr ⟨3, by decide, List.mem_of_getElem? (i := 8) rfl, ⟨1, rfl, List.mem_of_getElem? (i := 9) rfl, List.mem_of_getElem? (i := 10) rfl, rfl, _, rfl, rfl⟩⟩⟩
theorem zhc_223_1 : zHc 223 6 1 1 := ⟨[], (⟨0, 11, 14, 19⟩ : ExceptionTableEntry), [(⟨0, 11, 18, 13⟩ : ExceptionTableEntry)], rfl, fun _ hz => absurd hz List.not_mem_nil, by decide, by decide, zmem4 183 (by decide +kernel) (by decide +kernel), by decide +kernel, Or.inl ⟨5, by decide, List.mem_of_getElem? (i := 9) rfl, ⟨1, rfl, List.mem_of_getElem? (i := 10) rfl, List.mem_of_getElem? (i := 11) rfl, rfl, _, rfl, rfl⟩⟩⟩
theorem zhc_223_0 : zHc 223 6 0 2 := ⟨[(⟨0, 11, 14, 19⟩ : ExceptionTableEntry)], (⟨0, 11, 18, 13⟩ : ExceptionTableEntry), [], rfl, fun z hz => by rcases List.mem_singleton.mp hz with rfl; exact Or.inr ⟨by decide, "java/lang/IllegalArgumentException", zmem4 183 (by decide +kernel) (by decide +kernel), by decide +kernel⟩, by decide, by decide, zmem4 103 (by decide +kernel) (by decide +kernel), by decide +kernel, Or.inl ⟨5, by decide, List.mem_of_getElem? (i := 12) rfl, ⟨2, rfl, List.mem_of_getElem? (i := 13) rfl, List.mem_of_getElem? (i := 14) rfl, rfl, _, rfl, rfl⟩⟩⟩
theorem zhc_224_2 : zHc 224 5 2 1 := ⟨[], (⟨0, 10, 13, 24⟩ : ExceptionTableEntry), [(⟨0, 10, 17, 13⟩ : ExceptionTableEntry)], rfl, fun _ hz => absurd hz List.not_mem_nil, by decide, by decide, zmem4 207 (by decide +kernel) (by decide +kernel), by decide +kernel, Or.inl ⟨4, by decide, List.mem_of_getElem? (i := 9) rfl, ⟨1, rfl, List.mem_of_getElem? (i := 10) rfl, List.mem_of_getElem? (i := 11) rfl, rfl, _, rfl, rfl⟩⟩⟩
theorem zhc_224_0 : zHc 224 5 0 2 := ⟨[(⟨0, 10, 13, 24⟩ : ExceptionTableEntry)], (⟨0, 10, 17, 13⟩ : ExceptionTableEntry), [], rfl, fun z hz => by rcases List.mem_singleton.mp hz with rfl; exact Or.inr ⟨by decide, "java/lang/IndexOutOfBoundsException", zmem4 207 (by decide +kernel) (by decide +kernel), by decide +kernel⟩, by decide, by decide, zmem4 103 (by decide +kernel) (by decide +kernel), by decide +kernel, Or.inl ⟨4, by decide, List.mem_of_getElem? (i := 12) rfl, ⟨2, rfl, List.mem_of_getElem? (i := 13) rfl, List.mem_of_getElem? (i := 14) rfl, rfl, _, rfl, rfl⟩⟩⟩
theorem zhc_225_2 : zHc 225 5 2 1 := ⟨[], (⟨0, 10, 13, 24⟩ : ExceptionTableEntry), [(⟨0, 10, 17, 13⟩ : ExceptionTableEntry)], rfl, fun _ hz => absurd hz List.not_mem_nil, by decide, by decide, zmem4 207 (by decide +kernel) (by decide +kernel), by decide +kernel, Or.inl ⟨4, by decide, List.mem_of_getElem? (i := 9) rfl, ⟨1, rfl, List.mem_of_getElem? (i := 10) rfl, List.mem_of_getElem? (i := 11) rfl, rfl, _, rfl, rfl⟩⟩⟩
theorem zhc_225_0 : zHc 225 5 0 2 := ⟨[(⟨0, 10, 13, 24⟩ : ExceptionTableEntry)], (⟨0, 10, 17, 13⟩ : ExceptionTableEntry), [], rfl, fun z hz => by rcases List.mem_singleton.mp hz with rfl; exact Or.inr ⟨by decide, "java/lang/IndexOutOfBoundsException", zmem4 207 (by decide +kernel) (by decide +kernel), by decide +kernel⟩, by decide, by decide, zmem4 103 (by decide +kernel) (by decide +kernel), by decide +kernel, Or.inl ⟨4, by decide, List.mem_of_getElem? (i := 12) rfl, ⟨2, rfl, List.mem_of_getElem? (i := 13) rfl, List.mem_of_getElem? (i := 14) rfl, rfl, _, rfl, rfl⟩⟩⟩
theorem zhc_226_0 : zHc 226 3 0 1 := ⟨[], (⟨0, 8, 11, 13⟩ : ExceptionTableEntry), [], rfl, fun _ hz => absurd hz List.not_mem_nil, by decide, by decide, zmem4 103 (by decide +kernel) (by decide +kernel), by decide +kernel, Or.inr ⟨2, by decide, List.mem_of_getElem? (i := 7) rfl, ⟨1, rfl, List.mem_of_getElem? (i := 8) rfl, List.mem_of_getElem? (i := 9) rfl, rfl, _, rfl, rfl⟩⟩⟩
theorem zhc_227_2 : zHc 227 7 2 1 := ⟨[], (⟨0, 19, 22, 24⟩ : ExceptionTableEntry), [], rfl, fun _ hz => absurd hz List.not_mem_nil, by decide, by decide, zmem4 207 (by decide +kernel) (by decide +kernel), by decide +kernel, Or.inl ⟨5, by decide, List.mem_of_getElem? (i := 13) rfl, ⟨1, rfl, List.mem_of_getElem? (i := 14) rfl, List.mem_of_getElem? (i := 15) rfl, rfl, _, rfl, rfl⟩⟩⟩
theorem zhc_228_2 : zHc 228 4 2 1 := ⟨[], (⟨0, 9, 12, 24⟩ : ExceptionTableEntry), [], rfl, fun _ hz => absurd hz List.not_mem_nil, by decide, by decide, zmem4 207 (by decide +kernel) (by decide +kernel), by decide +kernel, Or.inr ⟨3, by decide, List.mem_of_getElem? (i := 8) rfl, ⟨1, rfl, List.mem_of_getElem? (i := 9) rfl, List.mem_of_getElem? (i := 10) rfl, rfl, _, rfl, rfl⟩⟩⟩
theorem zhc_229_2 : zHc 229 5 2 1 := ⟨[], (⟨0, 10, 13, 24⟩ : ExceptionTableEntry), [], rfl, fun _ hz => absurd hz List.not_mem_nil, by decide, by decide, zmem4 207 (by decide +kernel) (by decide +kernel), by decide +kernel, Or.inl ⟨4, by decide, List.mem_of_getElem? (i := 9) rfl, ⟨1, rfl, List.mem_of_getElem? (i := 10) rfl, List.mem_of_getElem? (i := 11) rfl, rfl, _, rfl, rfl⟩⟩⟩
theorem zhc_230_2 : zHc 230 4 2 1 := ⟨[], (⟨0, 9, 12, 24⟩ : ExceptionTableEntry), [], rfl, fun _ hz => absurd hz List.not_mem_nil, by decide, by decide, zmem4 207 (by decide +kernel) (by decide +kernel), by decide +kernel, Or.inr ⟨3, by decide, List.mem_of_getElem? (i := 8) rfl, ⟨1, rfl, List.mem_of_getElem? (i := 9) rfl, List.mem_of_getElem? (i := 10) rfl, rfl, _, rfl, rfl⟩⟩⟩
theorem zhc_231_2 : zHc 231 5 2 1 := ⟨[], (⟨0, 10, 13, 24⟩ : ExceptionTableEntry), [], rfl, fun _ hz => absurd hz List.not_mem_nil, by decide, by decide, zmem4 207 (by decide +kernel) (by decide +kernel), by decide +kernel, Or.inl ⟨4, by decide, List.mem_of_getElem? (i := 9) rfl, ⟨1, rfl, List.mem_of_getElem? (i := 10) rfl, List.mem_of_getElem? (i := 11) rfl, rfl, _, rfl, rfl⟩⟩⟩
theorem zhc_232_2 : zHc 232 5 2 1 := ⟨[], (⟨0, 10, 13, 24⟩ : ExceptionTableEntry), [], rfl, fun _ hz => absurd hz List.not_mem_nil, by decide, by decide, zmem4 207 (by decide +kernel) (by decide +kernel), by decide +kernel, Or.inl ⟨4, by decide, List.mem_of_getElem? (i := 9) rfl, ⟨1, rfl, List.mem_of_getElem? (i := 10) rfl, List.mem_of_getElem? (i := 11) rfl, rfl, _, rfl, rfl⟩⟩⟩
theorem zhc_233_1 : zHc 233 4 1 1 := ⟨[], (⟨0, 9, 12, 19⟩ : ExceptionTableEntry), [(⟨0, 9, 15, 13⟩ : ExceptionTableEntry)], rfl, fun _ hz => absurd hz List.not_mem_nil, by decide, by decide, zmem4 183 (by decide +kernel) (by decide +kernel), by decide +kernel, Or.inr ⟨3, by decide, List.mem_of_getElem? (i := 8) rfl, ⟨1, rfl, List.mem_of_getElem? (i := 9) rfl, List.mem_of_getElem? (i := 10) rfl, rfl, _, rfl, rfl⟩⟩⟩
theorem zhc_233_0 : zHc 233 4 0 2 := ⟨[(⟨0, 9, 12, 19⟩ : ExceptionTableEntry)], (⟨0, 9, 15, 13⟩ : ExceptionTableEntry), [], rfl, fun z hz => by rcases List.mem_singleton.mp hz with rfl; exact Or.inr ⟨by decide, "java/lang/IllegalArgumentException", zmem4 183 (by decide +kernel) (by decide +kernel), by decide +kernel⟩, by decide, by decide, zmem4 103 (by decide +kernel) (by decide +kernel), by decide +kernel, Or.inr ⟨3, by decide, List.mem_of_getElem? (i := 11) rfl, ⟨2, rfl, List.mem_of_getElem? (i := 12) rfl, List.mem_of_getElem? (i := 13) rfl, rfl, _, rfl, rfl⟩⟩⟩
theorem zhc_234_2 : zHc 234 4 2 1 := ⟨[], (⟨0, 8, 11, 24⟩ : ExceptionTableEntry), [], rfl, fun _ hz => absurd hz List.not_mem_nil, by decide, by decide, zmem4 207 (by decide +kernel) (by decide +kernel), by decide +kernel, Or.inr ⟨3, by decide, List.mem_of_getElem? (i := 7) rfl, ⟨1, rfl, List.mem_of_getElem? (i := 8) rfl, List.mem_of_getElem? (i := 9) rfl, rfl, _, rfl, rfl⟩⟩⟩
theorem zmw_220 : zMoW 220 7 := ⟨zmem4 102 (by decide +kernel) (by decide +kernel), zmem1 0 (by decide +kernel) (by decide +kernel), ⟨by decide +kernel, by decide +kernel, by decide +kernel⟩, by decide, by decide +kernel⟩
theorem zmt_220 : Cond.static (zym 220) ∈ zAL := zmem4 101 (by decide +kernel) (by decide +kernel)
theorem zmw_221 : zMoW 221 3 := ⟨zmem4 182 (by decide +kernel) (by decide +kernel), zmem1 0 (by decide +kernel) (by decide +kernel), ⟨by decide +kernel, by decide +kernel, by decide +kernel⟩, by decide, by decide +kernel⟩
theorem zmt_221 : Cond.static (zym 221) ∈ zAL := zmem4 181 (by decide +kernel) (by decide +kernel)
theorem zmw_222 : zMoW 222 3 := ⟨zmem4 206 (by decide +kernel) (by decide +kernel), zmem1 0 (by decide +kernel) (by decide +kernel), ⟨by decide +kernel, by decide +kernel, by decide +kernel⟩, by decide, by decide +kernel⟩
theorem zmt_222 : Cond.static (zym 222) ∈ zAL := zmem4 205 (by decide +kernel) (by decide +kernel)
theorem zmw_223 : zMoW 223 4 := ⟨zmem4 230 (by decide +kernel) (by decide +kernel), zmem1 0 (by decide +kernel) (by decide +kernel), ⟨by decide +kernel, by decide +kernel, by decide +kernel⟩, by decide, by decide +kernel⟩
theorem zmt_223 : Cond.static (zym 223) ∈ zAL := zmem4 229 (by decide +kernel) (by decide +kernel)
theorem zmw_224 : zMoW 224 4 := ⟨zmem5 39 (by decide +kernel) (by decide +kernel), zmem1 0 (by decide +kernel) (by decide +kernel), ⟨by decide +kernel, by decide +kernel, by decide +kernel⟩, by decide, by decide +kernel⟩
theorem zmt_224 : Cond.static (zym 224) ∈ zAL := zmem5 38 (by decide +kernel) (by decide +kernel)
theorem zmw_225 : zMoW 225 4 := ⟨zmem5 73 (by decide +kernel) (by decide +kernel), zmem1 0 (by decide +kernel) (by decide +kernel), ⟨by decide +kernel, by decide +kernel, by decide +kernel⟩, by decide, by decide +kernel⟩
theorem zmt_225 : Cond.static (zym 225) ∈ zAL := zmem5 72 (by decide +kernel) (by decide +kernel)
theorem zmw_226 : zMoW 226 2 := ⟨zmem5 82 (by decide +kernel) (by decide +kernel), zmem1 0 (by decide +kernel) (by decide +kernel), ⟨by decide +kernel, by decide +kernel, by decide +kernel⟩, by decide, by decide +kernel⟩
theorem zmt_226 : Cond.static (zym 226) ∈ zAL := zmem5 81 (by decide +kernel) (by decide +kernel)
theorem zmw_227 : zMoW 227 5 := ⟨zmem5 90 (by decide +kernel) (by decide +kernel), zmem1 0 (by decide +kernel) (by decide +kernel), ⟨by decide +kernel, by decide +kernel, by decide +kernel⟩, by decide, by decide +kernel⟩
theorem zmt_227 : Cond.static (zym 227) ∈ zAL := zmem5 89 (by decide +kernel) (by decide +kernel)
theorem zmw_228 : zMoW 228 3 := ⟨zmem5 98 (by decide +kernel) (by decide +kernel), zmem1 0 (by decide +kernel) (by decide +kernel), ⟨by decide +kernel, by decide +kernel, by decide +kernel⟩, by decide, by decide +kernel⟩
theorem zmt_228 : Cond.static (zym 228) ∈ zAL := zmem5 97 (by decide +kernel) (by decide +kernel)
theorem zmw_229 : zMoW 229 4 := ⟨zmem5 106 (by decide +kernel) (by decide +kernel), zmem1 0 (by decide +kernel) (by decide +kernel), ⟨by decide +kernel, by decide +kernel, by decide +kernel⟩, by decide, by decide +kernel⟩
theorem zmt_229 : Cond.static (zym 229) ∈ zAL := zmem5 105 (by decide +kernel) (by decide +kernel)
theorem zmw_230 : zMoW 230 3 := ⟨zmem5 114 (by decide +kernel) (by decide +kernel), zmem1 0 (by decide +kernel) (by decide +kernel), ⟨by decide +kernel, by decide +kernel, by decide +kernel⟩, by decide, by decide +kernel⟩
theorem zmt_230 : Cond.static (zym 230) ∈ zAL := zmem5 113 (by decide +kernel) (by decide +kernel)
theorem zmw_231 : zMoW 231 4 := ⟨zmem5 123 (by decide +kernel) (by decide +kernel), zmem1 0 (by decide +kernel) (by decide +kernel), ⟨by decide +kernel, by decide +kernel, by decide +kernel⟩, by decide, by decide +kernel⟩
theorem zmt_231 : Cond.static (zym 231) ∈ zAL := zmem5 122 (by decide +kernel) (by decide +kernel)
theorem zmw_232 : zMoW 232 4 := ⟨zmem5 131 (by decide +kernel) (by decide +kernel), zmem1 0 (by decide +kernel) (by decide +kernel), ⟨by decide +kernel, by decide +kernel, by decide +kernel⟩, by decide, by decide +kernel⟩
theorem zmt_232 : Cond.static (zym 232) ∈ zAL := zmem5 130 (by decide +kernel) (by decide +kernel)
theorem zmw_233 : zMoW 233 3 := ⟨zmem5 139 (by decide +kernel) (by decide +kernel), zmem1 0 (by decide +kernel) (by decide +kernel), ⟨by decide +kernel, by decide +kernel, by decide +kernel⟩, by decide, by decide +kernel⟩
theorem zmt_233 : Cond.static (zym 233) ∈ zAL := zmem5 138 (by decide +kernel) (by decide +kernel)
theorem zmw_234 : zMoW 234 3 := ⟨zmem5 148 (by decide +kernel) (by decide +kernel), zmem1 0 (by decide +kernel) (by decide +kernel), ⟨by decide +kernel, by decide +kernel, by decide +kernel⟩, by decide, by decide +kernel⟩
theorem zmt_234 : Cond.static (zym 234) ∈ zAL := zmem5 147 (by decide +kernel) (by decide +kernel)
theorem zmw_177 : zMoW 177 0 := ⟨zmem6 103 (by decide +kernel) (by decide +kernel), zmem1 15 (by decide +kernel) (by decide +kernel), ⟨by decide +kernel, by decide +kernel, by decide +kernel⟩, by decide, by decide +kernel⟩
theorem zmt_177 : Cond.instanceMethod (zym 177) ∈ zAL := zmem6 101 (by decide +kernel) (by decide +kernel)

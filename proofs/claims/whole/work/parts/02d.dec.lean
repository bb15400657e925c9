set_option maxRecDepth 100000 in
theorem zd_1_0 : ∀ q ∈ zt_1_0, decode (zcc 1) q.1 = .ok (q.2.1, q.2.2) := by decide +kernel
set_option maxRecDepth 100000 in
theorem zd_1_1 : ∀ q ∈ zt_1_1, decode (zcc 1) q.1 = .ok (q.2.1, q.2.2) := by decide +kernel
theorem zd_1 : ∀ q ∈ zt_1, decode (zcc 1) q.1 = .ok (q.2.1, q.2.2) := (List.forall_mem_append.mpr ⟨zd_1_0, zd_1_1⟩)
set_option maxRecDepth 100000 in
theorem zd_2_0 : ∀ q ∈ zt_2_0, decode (zcc 2) q.1 = .ok (q.2.1, q.2.2) := by decide +kernel
theorem zd_2 : ∀ q ∈ zt_2, decode (zcc 2) q.1 = .ok (q.2.1, q.2.2) := zd_2_0
set_option maxRecDepth 100000 in
theorem zd_3_0 : ∀ q ∈ zt_3_0, decode (zcc 3) q.1 = .ok (q.2.1, q.2.2) := by decide +kernel
theorem zd_3 : ∀ q ∈ zt_3, decode (zcc 3) q.1 = .ok (q.2.1, q.2.2) := zd_3_0
set_option maxRecDepth 100000 in
theorem zd_4_0 : ∀ q ∈ zt_4_0, decode (zcc 4) q.1 = .ok (q.2.1, q.2.2) := by decide +kernel
theorem zd_4 : ∀ q ∈ zt_4, decode (zcc 4) q.1 = .ok (q.2.1, q.2.2) := zd_4_0
set_option maxRecDepth 100000 in
theorem zd_5_0 : ∀ q ∈ zt_5_0, decode (zcc 5) q.1 = .ok (q.2.1, q.2.2) := by decide +kernel
set_option maxRecDepth 100000 in
theorem zd_5_1 : ∀ q ∈ zt_5_1, decode (zcc 5) q.1 = .ok (q.2.1, q.2.2) := by decide +kernel
theorem zd_5 : ∀ q ∈ zt_5, decode (zcc 5) q.1 = .ok (q.2.1, q.2.2) := (List.forall_mem_append.mpr ⟨zd_5_0, zd_5_1⟩)
set_option maxRecDepth 100000 in
theorem zd_7_0 : ∀ q ∈ zt_7_0, decode (zcc 7) q.1 = .ok (q.2.1, q.2.2) := by decide +kernel
set_option maxRecDepth 100000 in
theorem zd_7_1 : ∀ q ∈ zt_7_1, decode (zcc 7) q.1 = .ok (q.2.1, q.2.2) := by decide +kernel
theorem zd_7 : ∀ q ∈ zt_7, decode (zcc 7) q.1 = .ok (q.2.1, q.2.2) := (List.forall_mem_append.mpr ⟨zd_7_0, zd_7_1⟩)
set_option maxRecDepth 100000 in
theorem zd_8_0 : ∀ q ∈ zt_8_0, decode (zcc 8) q.1 = .ok (q.2.1, q.2.2) := by decide +kernel
theorem zd_8 : ∀ q ∈ zt_8, decode (zcc 8) q.1 = .ok (q.2.1, q.2.2) := zd_8_0
set_option maxRecDepth 100000 in
theorem zd_9_0 : ∀ q ∈ zt_9_0, decode (zcc 9) q.1 = .ok (q.2.1, q.2.2) := by decide +kernel
theorem zd_9 : ∀ q ∈ zt_9, decode (zcc 9) q.1 = .ok (q.2.1, q.2.2) := zd_9_0
set_option maxRecDepth 100000 in
theorem zd_10_0 : ∀ q ∈ zt_10_0, decode (zcc 10) q.1 = .ok (q.2.1, q.2.2) := by decide +kernel
set_option maxRecDepth 100000 in
theorem zd_10_1 : ∀ q ∈ zt_10_1, decode (zcc 10) q.1 = .ok (q.2.1, q.2.2) := by decide +kernel
set_option maxRecDepth 100000 in
theorem zd_10_2 : ∀ q ∈ zt_10_2, decode (zcc 10) q.1 = .ok (q.2.1, q.2.2) := by decide +kernel
theorem zd_10 : ∀ q ∈ zt_10, decode (zcc 10) q.1 = .ok (q.2.1, q.2.2) := (List.forall_mem_append.mpr ⟨zd_10_0, (List.forall_mem_append.mpr ⟨zd_10_1, zd_10_2⟩)⟩)
set_option maxRecDepth 100000 in
theorem zd_11_0 : ∀ q ∈ zt_11_0, decode (zcc 11) q.1 = .ok (q.2.1, q.2.2) := by decide +kernel
theorem zd_11 : ∀ q ∈ zt_11, decode (zcc 11) q.1 = .ok (q.2.1, q.2.2) := zd_11_0
set_option maxRecDepth 100000 in
theorem zd_12_0 : ∀ q ∈ zt_12_0, decode (zcc 12) q.1 = .ok (q.2.1, q.2.2) := by decide +kernel
theorem zd_12 : ∀ q ∈ zt_12, decode (zcc 12) q.1 = .ok (q.2.1, q.2.2) := zd_12_0
set_option maxRecDepth 100000 in
theorem zd_13_0 : ∀ q ∈ zt_13_0, decode (zcc 13) q.1 = .ok (q.2.1, q.2.2) := by decide +kernel
theorem zd_13 : ∀ q ∈ zt_13, decode (zcc 13) q.1 = .ok (q.2.1, q.2.2) := zd_13_0
set_option maxRecDepth 100000 in
theorem zd_14_0 : ∀ q ∈ zt_14_0, decode (zcc 14) q.1 = .ok (q.2.1, q.2.2) := by decide +kernel
theorem zd_14 : ∀ q ∈ zt_14, decode (zcc 14) q.1 = .ok (q.2.1, q.2.2) := zd_14_0
set_option maxRecDepth 100000 in
theorem zd_15_0 : ∀ q ∈ zt_15_0, decode (zcc 15) q.1 = .ok (q.2.1, q.2.2) := by decide +kernel
set_option maxRecDepth 100000 in
theorem zd_15_1 : ∀ q ∈ zt_15_1, decode (zcc 15) q.1 = .ok (q.2.1, q.2.2) := by decide +kernel
theorem zd_15 : ∀ q ∈ zt_15, decode (zcc 15) q.1 = .ok (q.2.1, q.2.2) := (List.forall_mem_append.mpr ⟨zd_15_0, zd_15_1⟩)
set_option maxRecDepth 100000 in
theorem zd_16_0 : ∀ q ∈ zt_16_0, decode (zcc 16) q.1 = .ok (q.2.1, q.2.2) := by decide +kernel
theorem zd_16 : ∀ q ∈ zt_16, decode (zcc 16) q.1 = .ok (q.2.1, q.2.2) := zd_16_0
set_option maxRecDepth 100000 in
theorem zd_17_0 : ∀ q ∈ zt_17_0, decode (zcc 17) q.1 = .ok (q.2.1, q.2.2) := by decide +kernel
theorem zd_17 : ∀ q ∈ zt_17, decode (zcc 17) q.1 = .ok (q.2.1, q.2.2) := zd_17_0
set_option maxRecDepth 100000 in
theorem zd_18_0 : ∀ q ∈ zt_18_0, decode (zcc 18) q.1 = .ok (q.2.1, q.2.2) := by decide +kernel
set_option maxRecDepth 100000 in
theorem zd_18_1 : ∀ q ∈ zt_18_1, decode (zcc 18) q.1 = .ok (q.2.1, q.2.2) := by decide +kernel
set_option maxRecDepth 100000 in
theorem zd_18_2 : ∀ q ∈ zt_18_2, decode (zcc 18) q.1 = .ok (q.2.1, q.2.2) := by decide +kernel
theorem zd_18 : ∀ q ∈ zt_18, decode (zcc 18) q.1 = .ok (q.2.1, q.2.2) := (List.forall_mem_append.mpr ⟨zd_18_0, (List.forall_mem_append.mpr ⟨zd_18_1, zd_18_2⟩)⟩)
set_option maxRecDepth 100000 in
theorem zd_19_0 : ∀ q ∈ zt_19_0, decode (zcc 19) q.1 = .ok (q.2.1, q.2.2) := by decide +kernel
set_option maxRecDepth 100000 in
theorem zd_19_1 : ∀ q ∈ zt_19_1, decode (zcc 19) q.1 = .ok (q.2.1, q.2.2) := by decide +kernel
theorem zd_19 : ∀ q ∈ zt_19, decode (zcc 19) q.1 = .ok (q.2.1, q.2.2) := (List.forall_mem_append.mpr ⟨zd_19_0, zd_19_1⟩)
set_option maxRecDepth 100000 in
theorem zd_20_0 : ∀ q ∈ zt_20_0, decode (zcc 20) q.1 = .ok (q.2.1, q.2.2) := by decide +kernel
theorem zd_20 : ∀ q ∈ zt_20, decode (zcc 20) q.1 = .ok (q.2.1, q.2.2) := zd_20_0
set_option maxRecDepth 100000 in
theorem zd_21_0 : ∀ q ∈ zt_21_0, decode (zcc 21) q.1 = .ok (q.2.1, q.2.2) := by decide +kernel
theorem zd_21 : ∀ q ∈ zt_21, decode (zcc 21) q.1 = .ok (q.2.1, q.2.2) := zd_21_0
set_option maxRecDepth 100000 in
theorem zd_22_0 : ∀ q ∈ zt_22_0, decode (zcc 22) q.1 = .ok (q.2.1, q.2.2) := by decide +kernel
set_option maxRecDepth 100000 in
theorem zd_22_1 : ∀ q ∈ zt_22_1, decode (zcc 22) q.1 = .ok (q.2.1, q.2.2) := by decide +kernel
theorem zd_22 : ∀ q ∈ zt_22, decode (zcc 22) q.1 = .ok (q.2.1, q.2.2) := (List.forall_mem_append.mpr ⟨zd_22_0, zd_22_1⟩)
set_option maxRecDepth 100000 in
theorem zd_23_0 : ∀ q ∈ zt_23_0, decode (zcc 23) q.1 = .ok (q.2.1, q.2.2) := by decide +kernel
theorem zd_23 : ∀ q ∈ zt_23, decode (zcc 23) q.1 = .ok (q.2.1, q.2.2) := zd_23_0
set_option maxRecDepth 100000 in
theorem zd_24_0 : ∀ q ∈ zt_24_0, decode (zcc 24) q.1 = .ok (q.2.1, q.2.2) := by decide +kernel
set_option maxRecDepth 100000 in
theorem zd_24_1 : ∀ q ∈ zt_24_1, decode (zcc 24) q.1 = .ok (q.2.1, q.2.2) := by decide +kernel
theorem zd_24 : ∀ q ∈ zt_24, decode (zcc 24) q.1 = .ok (q.2.1, q.2.2) := (List.forall_mem_append.mpr ⟨zd_24_0, zd_24_1⟩)
set_option maxRecDepth 100000 in
theorem zd_25_0 : ∀ q ∈ zt_25_0, decode (zcc 25) q.1 = .ok (q.2.1, q.2.2) := by decide +kernel
set_option maxRecDepth 100000 in
theorem zd_25_1 : ∀ q ∈ zt_25_1, decode (zcc 25) q.1 = .ok (q.2.1, q.2.2) := by decide +kernel
theorem zd_25 : ∀ q ∈ zt_25, decode (zcc 25) q.1 = .ok (q.2.1, q.2.2) := (List.forall_mem_append.mpr ⟨zd_25_0, zd_25_1⟩)
set_option maxRecDepth 100000 in
theorem zd_27_0 : ∀ q ∈ zt_27_0, decode (zcc 27) q.1 = .ok (q.2.1, q.2.2) := by decide +kernel
theorem zd_27 : ∀ q ∈ zt_27, decode (zcc 27) q.1 = .ok (q.2.1, q.2.2) := zd_27_0
set_option maxRecDepth 100000 in
theorem zd_28_0 : ∀ q ∈ zt_28_0, decode (zcc 28) q.1 = .ok (q.2.1, q.2.2) := by decide +kernel
set_option maxRecDepth 100000 in
theorem zd_28_1 : ∀ q ∈ zt_28_1, decode (zcc 28) q.1 = .ok (q.2.1, q.2.2) := by decide +kernel
set_option maxRecDepth 100000 in
theorem zd_28_2 : ∀ q ∈ zt_28_2, decode (zcc 28) q.1 = .ok (q.2.1, q.2.2) := by decide +kernel
theorem zd_28 : ∀ q ∈ zt_28, decode (zcc 28) q.1 = .ok (q.2.1, q.2.2) := (List.forall_mem_append.mpr ⟨zd_28_0, (List.forall_mem_append.mpr ⟨zd_28_1, zd_28_2⟩)⟩)
set_option maxRecDepth 100000 in
theorem zd_29_0 : ∀ q ∈ zt_29_0, decode (zcc 29) q.1 = .ok (q.2.1, q.2.2) := by decide +kernel
set_option maxRecDepth 100000 in
theorem zd_29_1 : ∀ q ∈ zt_29_1, decode (zcc 29) q.1 = .ok (q.2.1, q.2.2) := by decide +kernel
theorem zd_29 : ∀ q ∈ zt_29, decode (zcc 29) q.1 = .ok (q.2.1, q.2.2) := (List.forall_mem_append.mpr ⟨zd_29_0, zd_29_1⟩)
set_option maxRecDepth 100000 in
theorem zd_30_0 : ∀ q ∈ zt_30_0, decode (zcc 30) q.1 = .ok (q.2.1, q.2.2) := by decide +kernel
theorem zd_30 : ∀ q ∈ zt_30, decode (zcc 30) q.1 = .ok (q.2.1, q.2.2) := zd_30_0
set_option maxRecDepth 100000 in
theorem zd_31_0 : ∀ q ∈ zt_31_0, decode (zcc 31) q.1 = .ok (q.2.1, q.2.2) := by decide +kernel
theorem zd_31 : ∀ q ∈ zt_31, decode (zcc 31) q.1 = .ok (q.2.1, q.2.2) := zd_31_0
set_option maxRecDepth 100000 in
theorem zd_32_0 : ∀ q ∈ zt_32_0, decode (zcc 32) q.1 = .ok (q.2.1, q.2.2) := by decide +kernel
set_option maxRecDepth 100000 in
theorem zd_32_1 : ∀ q ∈ zt_32_1, decode (zcc 32) q.1 = .ok (q.2.1, q.2.2) := by decide +kernel
set_option maxRecDepth 100000 in
theorem zd_32_2 : ∀ q ∈ zt_32_2, decode (zcc 32) q.1 = .ok (q.2.1, q.2.2) := by decide +kernel
theorem zd_32 : ∀ q ∈ zt_32, decode (zcc 32) q.1 = .ok (q.2.1, q.2.2) := (List.forall_mem_append.mpr ⟨zd_32_0, (List.forall_mem_append.mpr ⟨zd_32_1, zd_32_2⟩)⟩)
set_option maxRecDepth 100000 in
theorem zd_33_0 : ∀ q ∈ zt_33_0, decode (zcc 33) q.1 = .ok (q.2.1, q.2.2) := by decide +kernel
theorem zd_33 : ∀ q ∈ zt_33, decode (zcc 33) q.1 = .ok (q.2.1, q.2.2) := zd_33_0
set_option maxRecDepth 100000 in
theorem zd_34_0 : ∀ q ∈ zt_34_0, decode (zcc 34) q.1 = .ok (q.2.1, q.2.2) := by decide +kernel
set_option maxRecDepth 100000 in
theorem zd_34_1 : ∀ q ∈ zt_34_1, decode (zcc 34) q.1 = .ok (q.2.1, q.2.2) := by decide +kernel
set_option maxRecDepth 100000 in
theorem zd_34_2 : ∀ q ∈ zt_34_2, decode (zcc 34) q.1 = .ok (q.2.1, q.2.2) := by decide +kernel
set_option maxRecDepth 100000 in
theorem zd_34_3 : ∀ q ∈ zt_34_3, decode (zcc 34) q.1 = .ok (q.2.1, q.2.2) := by decide +kernel
theorem zd_34 : ∀ q ∈ zt_34, decode (zcc 34) q.1 = .ok (q.2.1, q.2.2) := (List.forall_mem_append.mpr ⟨zd_34_0, (List.forall_mem_append.mpr ⟨zd_34_1, (List.forall_mem_append.mpr ⟨zd_34_2, zd_34_3⟩)⟩)⟩)
set_option maxRecDepth 100000 in
theorem zd_35_0 : ∀ q ∈ zt_35_0, decode (zcc 35) q.1 = .ok (q.2.1, q.2.2) := by decide +kernel
set_option maxRecDepth 100000 in
theorem zd_35_1 : ∀ q ∈ zt_35_1, decode (zcc 35) q.1 = .ok (q.2.1, q.2.2) := by decide +kernel
theorem zd_35 : ∀ q ∈ zt_35, decode (zcc 35) q.1 = .ok (q.2.1, q.2.2) := (List.forall_mem_append.mpr ⟨zd_35_0, zd_35_1⟩)
set_option maxRecDepth 100000 in
theorem zd_36_0 : ∀ q ∈ zt_36_0, decode (zcc 36) q.1 = .ok (q.2.1, q.2.2) := by decide +kernel
theorem zd_36 : ∀ q ∈ zt_36, decode (zcc 36) q.1 = .ok (q.2.1, q.2.2) := zd_36_0
set_option maxRecDepth 100000 in
theorem zd_37_0 : ∀ q ∈ zt_37_0, decode (zcc 37) q.1 = .ok (q.2.1, q.2.2) := by decide +kernel
theorem zd_37 : ∀ q ∈ zt_37, decode (zcc 37) q.1 = .ok (q.2.1, q.2.2) := zd_37_0
set_option maxRecDepth 100000 in
theorem zd_38_0 : ∀ q ∈ zt_38_0, decode (zcc 38) q.1 = .ok (q.2.1, q.2.2) := by decide +kernel
set_option maxRecDepth 100000 in
theorem zd_38_1 : ∀ q ∈ zt_38_1, decode (zcc 38) q.1 = .ok (q.2.1, q.2.2) := by decide +kernel
set_option maxRecDepth 100000 in
theorem zd_38_2 : ∀ q ∈ zt_38_2, decode (zcc 38) q.1 = .ok (q.2.1, q.2.2) := by decide +kernel
theorem zd_38 : ∀ q ∈ zt_38, decode (zcc 38) q.1 = .ok (q.2.1, q.2.2) := (List.forall_mem_append.mpr ⟨zd_38_0, (List.forall_mem_append.mpr ⟨zd_38_1, zd_38_2⟩)⟩)
set_option maxRecDepth 100000 in
theorem zd_39_0 : ∀ q ∈ zt_39_0, decode (zcc 39) q.1 = .ok (q.2.1, q.2.2) := by decide +kernel
set_option maxRecDepth 100000 in
theorem zd_39_1 : ∀ q ∈ zt_39_1, decode (zcc 39) q.1 = .ok (q.2.1, q.2.2) := by decide +kernel
theorem zd_39 : ∀ q ∈ zt_39, decode (zcc 39) q.1 = .ok (q.2.1, q.2.2) := (List.forall_mem_append.mpr ⟨zd_39_0, zd_39_1⟩)
set_option maxRecDepth 100000 in
theorem zd_40_0 : ∀ q ∈ zt_40_0, decode (zcc 40) q.1 = .ok (q.2.1, q.2.2) := by decide +kernel
set_option maxRecDepth 100000 in
theorem zd_40_1 : ∀ q ∈ zt_40_1, decode (zcc 40) q.1 = .ok (q.2.1, q.2.2) := by decide +kernel
set_option maxRecDepth 100000 in
theorem zd_40_2 : ∀ q ∈ zt_40_2, decode (zcc 40) q.1 = .ok (q.2.1, q.2.2) := by decide +kernel
theorem zd_40 : ∀ q ∈ zt_40, decode (zcc 40) q.1 = .ok (q.2.1, q.2.2) := (List.forall_mem_append.mpr ⟨zd_40_0, (List.forall_mem_append.mpr ⟨zd_40_1, zd_40_2⟩)⟩)
set_option maxRecDepth 100000 in
theorem zd_41_0 : ∀ q ∈ zt_41_0, decode (zcc 41) q.1 = .ok (q.2.1, q.2.2) := by decide +kernel
set_option maxRecDepth 100000 in
theorem zd_41_1 : ∀ q ∈ zt_41_1, decode (zcc 41) q.1 = .ok (q.2.1, q.2.2) := by decide +kernel
set_option maxRecDepth 100000 in
theorem zd_41_2 : ∀ q ∈ zt_41_2, decode (zcc 41) q.1 = .ok (q.2.1, q.2.2) := by decide +kernel
theorem zd_41 : ∀ q ∈ zt_41, decode (zcc 41) q.1 = .ok (q.2.1, q.2.2) := (List.forall_mem_append.mpr ⟨zd_41_0, (List.forall_mem_append.mpr ⟨zd_41_1, zd_41_2⟩)⟩)
set_option maxRecDepth 100000 in
theorem zd_43_0 : ∀ q ∈ zt_43_0, decode (zcc 43) q.1 = .ok (q.2.1, q.2.2) := by decide +kernel
set_option maxRecDepth 100000 in
theorem zd_43_1 : ∀ q ∈ zt_43_1, decode (zcc 43) q.1 = .ok (q.2.1, q.2.2) := by decide +kernel
set_option maxRecDepth 100000 in
theorem zd_43_2 : ∀ q ∈ zt_43_2, decode (zcc 43) q.1 = .ok (q.2.1, q.2.2) := by decide +kernel
set_option maxRecDepth 100000 in
theorem zd_43_3 : ∀ q ∈ zt_43_3, decode (zcc 43) q.1 = .ok (q.2.1, q.2.2) := by decide +kernel
set_option maxRecDepth 100000 in
theorem zd_43_4 : ∀ q ∈ zt_43_4, decode (zcc 43) q.1 = .ok (q.2.1, q.2.2) := by decide +kernel
theorem zd_43 : ∀ q ∈ zt_43, decode (zcc 43) q.1 = .ok (q.2.1, q.2.2) := (List.forall_mem_append.mpr ⟨zd_43_0, (List.forall_mem_append.mpr ⟨zd_43_1, (List.forall_mem_append.mpr ⟨zd_43_2, (List.forall_mem_append.mpr ⟨zd_43_3, zd_43_4⟩)⟩)⟩)⟩)
set_option maxRecDepth 100000 in
theorem zd_44_0 : ∀ q ∈ zt_44_0, decode (zcc 44) q.1 = .ok (q.2.1, q.2.2) := by decide +kernel
theorem zd_44 : ∀ q ∈ zt_44, decode (zcc 44) q.1 = .ok (q.2.1, q.2.2) := zd_44_0
set_option maxRecDepth 100000 in
theorem zd_45_0 : ∀ q ∈ zt_45_0, decode (zcc 45) q.1 = .ok (q.2.1, q.2.2) := by decide +kernel
theorem zd_45 : ∀ q ∈ zt_45, decode (zcc 45) q.1 = .ok (q.2.1, q.2.2) := zd_45_0
set_option maxRecDepth 100000 in
theorem zd_46_0 : ∀ q ∈ zt_46_0, decode (zcc 46) q.1 = .ok (q.2.1, q.2.2) := by decide +kernel
theorem zd_46 : ∀ q ∈ zt_46, decode (zcc 46) q.1 = .ok (q.2.1, q.2.2) := zd_46_0
set_option maxRecDepth 100000 in
theorem zd_47_0 : ∀ q ∈ zt_47_0, decode (zcc 47) q.1 = .ok (q.2.1, q.2.2) := by decide +kernel
theorem zd_47 : ∀ q ∈ zt_47, decode (zcc 47) q.1 = .ok (q.2.1, q.2.2) := zd_47_0
set_option maxRecDepth 100000 in
theorem zd_48_0 : ∀ q ∈ zt_48_0, decode (zcc 48) q.1 = .ok (q.2.1, q.2.2) := by decide +kernel
theorem zd_48 : ∀ q ∈ zt_48, decode (zcc 48) q.1 = .ok (q.2.1, q.2.2) := zd_48_0
set_option maxRecDepth 100000 in
theorem zd_49_0 : ∀ q ∈ zt_49_0, decode (zcc 49) q.1 = .ok (q.2.1, q.2.2) := by decide +kernel
set_option maxRecDepth 100000 in
theorem zd_49_1 : ∀ q ∈ zt_49_1, decode (zcc 49) q.1 = .ok (q.2.1, q.2.2) := by decide +kernel
theorem zd_49 : ∀ q ∈ zt_49, decode (zcc 49) q.1 = .ok (q.2.1, q.2.2) := (List.forall_mem_append.mpr ⟨zd_49_0, zd_49_1⟩)
set_option maxRecDepth 100000 in
theorem zd_50_0 : ∀ q ∈ zt_50_0, decode (zcc 50) q.1 = .ok (q.2.1, q.2.2) := by decide +kernel
set_option maxRecDepth 100000 in
theorem zd_50_1 : ∀ q ∈ zt_50_1, decode (zcc 50) q.1 = .ok (q.2.1, q.2.2) := by decide +kernel
theorem zd_50 : ∀ q ∈ zt_50, decode (zcc 50) q.1 = .ok (q.2.1, q.2.2) := (List.forall_mem_append.mpr ⟨zd_50_0, zd_50_1⟩)
set_option maxRecDepth 100000 in
theorem zd_51_0 : ∀ q ∈ zt_51_0, decode (zcc 51) q.1 = .ok (q.2.1, q.2.2) := by decide +kernel
theorem zd_51 : ∀ q ∈ zt_51, decode (zcc 51) q.1 = .ok (q.2.1, q.2.2) := zd_51_0
set_option maxRecDepth 100000 in
theorem zd_52_0 : ∀ q ∈ zt_52_0, decode (zcc 52) q.1 = .ok (q.2.1, q.2.2) := by decide +kernel
set_option maxRecDepth 100000 in
theorem zd_52_1 : ∀ q ∈ zt_52_1, decode (zcc 52) q.1 = .ok (q.2.1, q.2.2) := by decide +kernel
theorem zd_52 : ∀ q ∈ zt_52, decode (zcc 52) q.1 = .ok (q.2.1, q.2.2) := (List.forall_mem_append.mpr ⟨zd_52_0, zd_52_1⟩)
set_option maxRecDepth 100000 in
theorem zd_53_0 : ∀ q ∈ zt_53_0, decode (zcc 53) q.1 = .ok (q.2.1, q.2.2) := by decide +kernel
set_option maxRecDepth 100000 in
theorem zd_53_1 : ∀ q ∈ zt_53_1, decode (zcc 53) q.1 = .ok (q.2.1, q.2.2) := by decide +kernel
theorem zd_53 : ∀ q ∈ zt_53, decode (zcc 53) q.1 = .ok (q.2.1, q.2.2) := (List.forall_mem_append.mpr ⟨zd_53_0, zd_53_1⟩)
set_option maxRecDepth 100000 in
theorem zd_54_0 : ∀ q ∈ zt_54_0, decode (zcc 54) q.1 = .ok (q.2.1, q.2.2) := by decide +kernel
set_option maxRecDepth 100000 in
theorem zd_54_1 : ∀ q ∈ zt_54_1, decode (zcc 54) q.1 = .ok (q.2.1, q.2.2) := by decide +kernel
set_option maxRecDepth 100000 in
theorem zd_54_2 : ∀ q ∈ zt_54_2, decode (zcc 54) q.1 = .ok (q.2.1, q.2.2) := by decide +kernel
theorem zd_54 : ∀ q ∈ zt_54, decode (zcc 54) q.1 = .ok (q.2.1, q.2.2) := (List.forall_mem_append.mpr ⟨zd_54_0, (List.forall_mem_append.mpr ⟨zd_54_1, zd_54_2⟩)⟩)
set_option maxRecDepth 100000 in
theorem zd_55_0 : ∀ q ∈ zt_55_0, decode (zcc 55) q.1 = .ok (q.2.1, q.2.2) := by decide +kernel
set_option maxRecDepth 100000 in
theorem zd_55_1 : ∀ q ∈ zt_55_1, decode (zcc 55) q.1 = .ok (q.2.1, q.2.2) := by decide +kernel
set_option maxRecDepth 100000 in
theorem zd_55_2 : ∀ q ∈ zt_55_2, decode (zcc 55) q.1 = .ok (q.2.1, q.2.2) := by decide +kernel
theorem zd_55 : ∀ q ∈ zt_55, decode (zcc 55) q.1 = .ok (q.2.1, q.2.2) := (List.forall_mem_append.mpr ⟨zd_55_0, (List.forall_mem_append.mpr ⟨zd_55_1, zd_55_2⟩)⟩)
set_option maxRecDepth 100000 in
theorem zd_56_0 : ∀ q ∈ zt_56_0, decode (zcc 56) q.1 = .ok (q.2.1, q.2.2) := by decide +kernel
set_option maxRecDepth 100000 in
theorem zd_56_1 : ∀ q ∈ zt_56_1, decode (zcc 56) q.1 = .ok (q.2.1, q.2.2) := by decide +kernel
set_option maxRecDepth 100000 in
theorem zd_56_2 : ∀ q ∈ zt_56_2, decode (zcc 56) q.1 = .ok (q.2.1, q.2.2) := by decide +kernel
theorem zd_56 : ∀ q ∈ zt_56, decode (zcc 56) q.1 = .ok (q.2.1, q.2.2) := (List.forall_mem_append.mpr ⟨zd_56_0, (List.forall_mem_append.mpr ⟨zd_56_1, zd_56_2⟩)⟩)
set_option maxRecDepth 100000 in
theorem zd_57_0 : ∀ q ∈ zt_57_0, decode (zcc 57) q.1 = .ok (q.2.1, q.2.2) := by decide +kernel
set_option maxRecDepth 100000 in
theorem zd_57_1 : ∀ q ∈ zt_57_1, decode (zcc 57) q.1 = .ok (q.2.1, q.2.2) := by decide +kernel
theorem zd_57 : ∀ q ∈ zt_57, decode (zcc 57) q.1 = .ok (q.2.1, q.2.2) := (List.forall_mem_append.mpr ⟨zd_57_0, zd_57_1⟩)
set_option maxRecDepth 100000 in
theorem zd_58_0 : ∀ q ∈ zt_58_0, decode (zcc 58) q.1 = .ok (q.2.1, q.2.2) := by decide +kernel
set_option maxRecDepth 100000 in
theorem zd_58_1 : ∀ q ∈ zt_58_1, decode (zcc 58) q.1 = .ok (q.2.1, q.2.2) := by decide +kernel
theorem zd_58 : ∀ q ∈ zt_58, decode (zcc 58) q.1 = .ok (q.2.1, q.2.2) := (List.forall_mem_append.mpr ⟨zd_58_0, zd_58_1⟩)
set_option maxRecDepth 100000 in
theorem zd_60_0 : ∀ q ∈ zt_60_0, decode (zcc 60) q.1 = .ok (q.2.1, q.2.2) := by decide +kernel
set_option maxRecDepth 100000 in
theorem zd_60_1 : ∀ q ∈ zt_60_1, decode (zcc 60) q.1 = .ok (q.2.1, q.2.2) := by decide +kernel
theorem zd_60 : ∀ q ∈ zt_60, decode (zcc 60) q.1 = .ok (q.2.1, q.2.2) := (List.forall_mem_append.mpr ⟨zd_60_0, zd_60_1⟩)
set_option maxRecDepth 100000 in
theorem zd_61_0 : ∀ q ∈ zt_61_0, decode (zcc 61) q.1 = .ok (q.2.1, q.2.2) := by decide +kernel
theorem zd_61 : ∀ q ∈ zt_61, decode (zcc 61) q.1 = .ok (q.2.1, q.2.2) := zd_61_0
set_option maxRecDepth 100000 in
theorem zd_62_0 : ∀ q ∈ zt_62_0, decode (zcc 62) q.1 = .ok (q.2.1, q.2.2) := by decide +kernel
set_option maxRecDepth 100000 in
theorem zd_62_1 : ∀ q ∈ zt_62_1, decode (zcc 62) q.1 = .ok (q.2.1, q.2.2) := by decide +kernel
set_option maxRecDepth 100000 in
theorem zd_62_2 : ∀ q ∈ zt_62_2, decode (zcc 62) q.1 = .ok (q.2.1, q.2.2) := by decide +kernel
theorem zd_62 : ∀ q ∈ zt_62, decode (zcc 62) q.1 = .ok (q.2.1, q.2.2) := (List.forall_mem_append.mpr ⟨zd_62_0, (List.forall_mem_append.mpr ⟨zd_62_1, zd_62_2⟩)⟩)
set_option maxRecDepth 100000 in
theorem zd_63_0 : ∀ q ∈ zt_63_0, decode (zcc 63) q.1 = .ok (q.2.1, q.2.2) := by decide +kernel
set_option maxRecDepth 100000 in
theorem zd_63_1 : ∀ q ∈ zt_63_1, decode (zcc 63) q.1 = .ok (q.2.1, q.2.2) := by decide +kernel
set_option maxRecDepth 100000 in
theorem zd_63_2 : ∀ q ∈ zt_63_2, decode (zcc 63) q.1 = .ok (q.2.1, q.2.2) := by decide +kernel
set_option maxRecDepth 100000 in
theorem zd_63_3 : ∀ q ∈ zt_63_3, decode (zcc 63) q.1 = .ok (q.2.1, q.2.2) := by decide +kernel
set_option maxRecDepth 100000 in
theorem zd_63_4 : ∀ q ∈ zt_63_4, decode (zcc 63) q.1 = .ok (q.2.1, q.2.2) := by decide +kernel
theorem zd_63 : ∀ q ∈ zt_63, decode (zcc 63) q.1 = .ok (q.2.1, q.2.2) := (List.forall_mem_append.mpr ⟨zd_63_0, (List.forall_mem_append.mpr ⟨zd_63_1, (List.forall_mem_append.mpr ⟨zd_63_2, (List.forall_mem_append.mpr ⟨zd_63_3, zd_63_4⟩)⟩)⟩)⟩)
set_option maxRecDepth 100000 in
theorem zd_64_0 : ∀ q ∈ zt_64_0, decode (zcc 64) q.1 = .ok (q.2.1, q.2.2) := by decide +kernel
theorem zd_64 : ∀ q ∈ zt_64, decode (zcc 64) q.1 = .ok (q.2.1, q.2.2) := zd_64_0
set_option maxRecDepth 100000 in
theorem zd_65_0 : ∀ q ∈ zt_65_0, decode (zcc 65) q.1 = .ok (q.2.1, q.2.2) := by decide +kernel
theorem zd_65 : ∀ q ∈ zt_65, decode (zcc 65) q.1 = .ok (q.2.1, q.2.2) := zd_65_0
set_option maxRecDepth 100000 in
theorem zd_66_0 : ∀ q ∈ zt_66_0, decode (zcc 66) q.1 = .ok (q.2.1, q.2.2) := by decide +kernel
set_option maxRecDepth 100000 in
theorem zd_66_1 : ∀ q ∈ zt_66_1, decode (zcc 66) q.1 = .ok (q.2.1, q.2.2) := by decide +kernel
set_option maxRecDepth 100000 in
theorem zd_66_2 : ∀ q ∈ zt_66_2, decode (zcc 66) q.1 = .ok (q.2.1, q.2.2) := by decide +kernel
theorem zd_66 : ∀ q ∈ zt_66, decode (zcc 66) q.1 = .ok (q.2.1, q.2.2) := (List.forall_mem_append.mpr ⟨zd_66_0, (List.forall_mem_append.mpr ⟨zd_66_1, zd_66_2⟩)⟩)
set_option maxRecDepth 100000 in
theorem zd_67_0 : ∀ q ∈ zt_67_0, decode (zcc 67) q.1 = .ok (q.2.1, q.2.2) := by decide +kernel
set_option maxRecDepth 100000 in
theorem zd_67_1 : ∀ q ∈ zt_67_1, decode (zcc 67) q.1 = .ok (q.2.1, q.2.2) := by decide +kernel
theorem zd_67 : ∀ q ∈ zt_67, decode (zcc 67) q.1 = .ok (q.2.1, q.2.2) := (List.forall_mem_append.mpr ⟨zd_67_0, zd_67_1⟩)
set_option maxRecDepth 100000 in
theorem zd_68_0 : ∀ q ∈ zt_68_0, decode (zcc 68) q.1 = .ok (q.2.1, q.2.2) := by decide +kernel
set_option maxRecDepth 100000 in
theorem zd_68_1 : ∀ q ∈ zt_68_1, decode (zcc 68) q.1 = .ok (q.2.1, q.2.2) := by decide +kernel
theorem zd_68 : ∀ q ∈ zt_68, decode (zcc 68) q.1 = .ok (q.2.1, q.2.2) := (List.forall_mem_append.mpr ⟨zd_68_0, zd_68_1⟩)
set_option maxRecDepth 100000 in
theorem zd_69_0 : ∀ q ∈ zt_69_0, decode (zcc 69) q.1 = .ok (q.2.1, q.2.2) := by decide +kernel
set_option maxRecDepth 100000 in
theorem zd_69_1 : ∀ q ∈ zt_69_1, decode (zcc 69) q.1 = .ok (q.2.1, q.2.2) := by decide +kernel
theorem zd_69 : ∀ q ∈ zt_69, decode (zcc 69) q.1 = .ok (q.2.1, q.2.2) := (List.forall_mem_append.mpr ⟨zd_69_0, zd_69_1⟩)
set_option maxRecDepth 100000 in
theorem zd_70_0 : ∀ q ∈ zt_70_0, decode (zcc 70) q.1 = .ok (q.2.1, q.2.2) := by decide +kernel
theorem zd_70 : ∀ q ∈ zt_70, decode (zcc 70) q.1 = .ok (q.2.1, q.2.2) := zd_70_0
set_option maxRecDepth 100000 in
theorem zd_71_0 : ∀ q ∈ zt_71_0, decode (zcc 71) q.1 = .ok (q.2.1, q.2.2) := by decide +kernel
set_option maxRecDepth 100000 in
theorem zd_71_1 : ∀ q ∈ zt_71_1, decode (zcc 71) q.1 = .ok (q.2.1, q.2.2) := by decide +kernel
theorem zd_71 : ∀ q ∈ zt_71, decode (zcc 71) q.1 = .ok (q.2.1, q.2.2) := (List.forall_mem_append.mpr ⟨zd_71_0, zd_71_1⟩)
set_option maxRecDepth 100000 in
theorem zd_72_0 : ∀ q ∈ zt_72_0, decode (zcc 72) q.1 = .ok (q.2.1, q.2.2) := by decide +kernel
set_option maxRecDepth 100000 in
theorem zd_72_1 : ∀ q ∈ zt_72_1, decode (zcc 72) q.1 = .ok (q.2.1, q.2.2) := by decide +kernel
set_option maxRecDepth 100000 in
theorem zd_72_2 : ∀ q ∈ zt_72_2, decode (zcc 72) q.1 = .ok (q.2.1, q.2.2) := by decide +kernel
set_option maxRecDepth 100000 in
theorem zd_72_3 : ∀ q ∈ zt_72_3, decode (zcc 72) q.1 = .ok (q.2.1, q.2.2) := by decide +kernel
theorem zd_72 : ∀ q ∈ zt_72, decode (zcc 72) q.1 = .ok (q.2.1, q.2.2) := (List.forall_mem_append.mpr ⟨zd_72_0, (List.forall_mem_append.mpr ⟨zd_72_1, (List.forall_mem_append.mpr ⟨zd_72_2, zd_72_3⟩)⟩)⟩)
set_option maxRecDepth 100000 in
theorem zd_74_0 : ∀ q ∈ zt_74_0, decode (zcc 74) q.1 = .ok (q.2.1, q.2.2) := by decide +kernel
theorem zd_74 : ∀ q ∈ zt_74, decode (zcc 74) q.1 = .ok (q.2.1, q.2.2) := zd_74_0
set_option maxRecDepth 100000 in
theorem zd_75_0 : ∀ q ∈ zt_75_0, decode (zcc 75) q.1 = .ok (q.2.1, q.2.2) := by decide +kernel
theorem zd_75 : ∀ q ∈ zt_75, decode (zcc 75) q.1 = .ok (q.2.1, q.2.2) := zd_75_0
set_option maxRecDepth 100000 in
theorem zd_76_0 : ∀ q ∈ zt_76_0, decode (zcc 76) q.1 = .ok (q.2.1, q.2.2) := by decide +kernel
theorem zd_76 : ∀ q ∈ zt_76, decode (zcc 76) q.1 = .ok (q.2.1, q.2.2) := zd_76_0
set_option maxRecDepth 100000 in
theorem zd_77_0 : ∀ q ∈ zt_77_0, decode (zcc 77) q.1 = .ok (q.2.1, q.2.2) := by decide +kernel
theorem zd_77 : ∀ q ∈ zt_77, decode (zcc 77) q.1 = .ok (q.2.1, q.2.2) := zd_77_0
set_option maxRecDepth 100000 in
theorem zd_78_0 : ∀ q ∈ zt_78_0, decode (zcc 78) q.1 = .ok (q.2.1, q.2.2) := by decide +kernel
theorem zd_78 : ∀ q ∈ zt_78, decode (zcc 78) q.1 = .ok (q.2.1, q.2.2) := zd_78_0
set_option maxRecDepth 100000 in
theorem zd_79_0 : ∀ q ∈ zt_79_0, decode (zcc 79) q.1 = .ok (q.2.1, q.2.2) := by decide +kernel
theorem zd_79 : ∀ q ∈ zt_79, decode (zcc 79) q.1 = .ok (q.2.1, q.2.2) := zd_79_0
set_option maxRecDepth 100000 in
theorem zd_80_0 : ∀ q ∈ zt_80_0, decode (zcc 80) q.1 = .ok (q.2.1, q.2.2) := by decide +kernel
theorem zd_80 : ∀ q ∈ zt_80, decode (zcc 80) q.1 = .ok (q.2.1, q.2.2) := zd_80_0
set_option maxRecDepth 100000 in
theorem zd_81_0 : ∀ q ∈ zt_81_0, decode (zcc 81) q.1 = .ok (q.2.1, q.2.2) := by decide +kernel
theorem zd_81 : ∀ q ∈ zt_81, decode (zcc 81) q.1 = .ok (q.2.1, q.2.2) := zd_81_0
set_option maxRecDepth 100000 in
theorem zd_83_0 : ∀ q ∈ zt_83_0, decode (zcc 83) q.1 = .ok (q.2.1, q.2.2) := by decide +kernel
theorem zd_83 : ∀ q ∈ zt_83, decode (zcc 83) q.1 = .ok (q.2.1, q.2.2) := zd_83_0
set_option maxRecDepth 100000 in
theorem zd_84_0 : ∀ q ∈ zt_84_0, decode (zcc 84) q.1 = .ok (q.2.1, q.2.2) := by decide +kernel
theorem zd_84 : ∀ q ∈ zt_84, decode (zcc 84) q.1 = .ok (q.2.1, q.2.2) := zd_84_0
set_option maxRecDepth 100000 in
theorem zd_85_0 : ∀ q ∈ zt_85_0, decode (zcc 85) q.1 = .ok (q.2.1, q.2.2) := by decide +kernel
theorem zd_85 : ∀ q ∈ zt_85, decode (zcc 85) q.1 = .ok (q.2.1, q.2.2) := zd_85_0
set_option maxRecDepth 100000 in
theorem zd_86_0 : ∀ q ∈ zt_86_0, decode (zcc 86) q.1 = .ok (q.2.1, q.2.2) := by decide +kernel
theorem zd_86 : ∀ q ∈ zt_86, decode (zcc 86) q.1 = .ok (q.2.1, q.2.2) := zd_86_0
set_option maxRecDepth 100000 in
theorem zd_87_0 : ∀ q ∈ zt_87_0, decode (zcc 87) q.1 = .ok (q.2.1, q.2.2) := by decide +kernel
set_option maxRecDepth 100000 in
theorem zd_87_1 : ∀ q ∈ zt_87_1, decode (zcc 87) q.1 = .ok (q.2.1, q.2.2) := by decide +kernel
theorem zd_87 : ∀ q ∈ zt_87, decode (zcc 87) q.1 = .ok (q.2.1, q.2.2) := (List.forall_mem_append.mpr ⟨zd_87_0, zd_87_1⟩)
set_option maxRecDepth 100000 in
theorem zd_89_0 : ∀ q ∈ zt_89_0, decode (zcc 89) q.1 = .ok (q.2.1, q.2.2) := by decide +kernel
set_option maxRecDepth 100000 in
theorem zd_89_1 : ∀ q ∈ zt_89_1, decode (zcc 89) q.1 = .ok (q.2.1, q.2.2) := by decide +kernel
theorem zd_89 : ∀ q ∈ zt_89, decode (zcc 89) q.1 = .ok (q.2.1, q.2.2) := (List.forall_mem_append.mpr ⟨zd_89_0, zd_89_1⟩)
set_option maxRecDepth 100000 in
theorem zd_90_0 : ∀ q ∈ zt_90_0, decode (zcc 90) q.1 = .ok (q.2.1, q.2.2) := by decide +kernel
theorem zd_90 : ∀ q ∈ zt_90, decode (zcc 90) q.1 = .ok (q.2.1, q.2.2) := zd_90_0
set_option maxRecDepth 100000 in
theorem zd_92_0 : ∀ q ∈ zt_92_0, decode (zcc 92) q.1 = .ok (q.2.1, q.2.2) := by decide +kernel
set_option maxRecDepth 100000 in
theorem zd_92_1 : ∀ q ∈ zt_92_1, decode (zcc 92) q.1 = .ok (q.2.1, q.2.2) := by decide +kernel
theorem zd_92 : ∀ q ∈ zt_92, decode (zcc 92) q.1 = .ok (q.2.1, q.2.2) := (List.forall_mem_append.mpr ⟨zd_92_0, zd_92_1⟩)
set_option maxRecDepth 100000 in
theorem zd_93_0 : ∀ q ∈ zt_93_0, decode (zcc 93) q.1 = .ok (q.2.1, q.2.2) := by decide +kernel
theorem zd_93 : ∀ q ∈ zt_93, decode (zcc 93) q.1 = .ok (q.2.1, q.2.2) := zd_93_0
set_option maxRecDepth 100000 in
theorem zd_94_0 : ∀ q ∈ zt_94_0, decode (zcc 94) q.1 = .ok (q.2.1, q.2.2) := by decide +kernel
theorem zd_94 : ∀ q ∈ zt_94, decode (zcc 94) q.1 = .ok (q.2.1, q.2.2) := zd_94_0
set_option maxRecDepth 100000 in
theorem zd_95_0 : ∀ q ∈ zt_95_0, decode (zcc 95) q.1 = .ok (q.2.1, q.2.2) := by decide +kernel
theorem zd_95 : ∀ q ∈ zt_95, decode (zcc 95) q.1 = .ok (q.2.1, q.2.2) := zd_95_0
set_option maxRecDepth 100000 in
theorem zd_96_0 : ∀ q ∈ zt_96_0, decode (zcc 96) q.1 = .ok (q.2.1, q.2.2) := by decide +kernel
theorem zd_96 : ∀ q ∈ zt_96, decode (zcc 96) q.1 = .ok (q.2.1, q.2.2) := zd_96_0
set_option maxRecDepth 100000 in
theorem zd_97_0 : ∀ q ∈ zt_97_0, decode (zcc 97) q.1 = .ok (q.2.1, q.2.2) := by decide +kernel
set_option maxRecDepth 100000 in
theorem zd_97_1 : ∀ q ∈ zt_97_1, decode (zcc 97) q.1 = .ok (q.2.1, q.2.2) := by decide +kernel
theorem zd_97 : ∀ q ∈ zt_97, decode (zcc 97) q.1 = .ok (q.2.1, q.2.2) := (List.forall_mem_append.mpr ⟨zd_97_0, zd_97_1⟩)
set_option maxRecDepth 100000 in
theorem zd_98_0 : ∀ q ∈ zt_98_0, decode (zcc 98) q.1 = .ok (q.2.1, q.2.2) := by decide +kernel
theorem zd_98 : ∀ q ∈ zt_98, decode (zcc 98) q.1 = .ok (q.2.1, q.2.2) := zd_98_0
set_option maxRecDepth 100000 in
theorem zd_99_0 : ∀ q ∈ zt_99_0, decode (zcc 99) q.1 = .ok (q.2.1, q.2.2) := by decide +kernel
set_option maxRecDepth 100000 in
theorem zd_99_1 : ∀ q ∈ zt_99_1, decode (zcc 99) q.1 = .ok (q.2.1, q.2.2) := by decide +kernel
theorem zd_99 : ∀ q ∈ zt_99, decode (zcc 99) q.1 = .ok (q.2.1, q.2.2) := (List.forall_mem_append.mpr ⟨zd_99_0, zd_99_1⟩)
set_option maxRecDepth 100000 in
theorem zd_100_0 : ∀ q ∈ zt_100_0, decode (zcc 100) q.1 = .ok (q.2.1, q.2.2) := by decide +kernel
set_option maxRecDepth 100000 in
theorem zd_100_1 : ∀ q ∈ zt_100_1, decode (zcc 100) q.1 = .ok (q.2.1, q.2.2) := by decide +kernel
theorem zd_100 : ∀ q ∈ zt_100, decode (zcc 100) q.1 = .ok (q.2.1, q.2.2) := (List.forall_mem_append.mpr ⟨zd_100_0, zd_100_1⟩)
set_option maxRecDepth 100000 in
theorem zd_101_0 : ∀ q ∈ zt_101_0, decode (zcc 101) q.1 = .ok (q.2.1, q.2.2) := by decide +kernel
set_option maxRecDepth 100000 in
theorem zd_101_1 : ∀ q ∈ zt_101_1, decode (zcc 101) q.1 = .ok (q.2.1, q.2.2) := by decide +kernel
theorem zd_101 : ∀ q ∈ zt_101, decode (zcc 101) q.1 = .ok (q.2.1, q.2.2) := (List.forall_mem_append.mpr ⟨zd_101_0, zd_101_1⟩)
set_option maxRecDepth 100000 in
theorem zd_102_0 : ∀ q ∈ zt_102_0, decode (zcc 102) q.1 = .ok (q.2.1, q.2.2) := by decide +kernel
set_option maxRecDepth 100000 in
theorem zd_102_1 : ∀ q ∈ zt_102_1, decode (zcc 102) q.1 = .ok (q.2.1, q.2.2) := by decide +kernel
set_option maxRecDepth 100000 in
theorem zd_102_2 : ∀ q ∈ zt_102_2, decode (zcc 102) q.1 = .ok (q.2.1, q.2.2) := by decide +kernel
theorem zd_102 : ∀ q ∈ zt_102, decode (zcc 102) q.1 = .ok (q.2.1, q.2.2) := (List.forall_mem_append.mpr ⟨zd_102_0, (List.forall_mem_append.mpr ⟨zd_102_1, zd_102_2⟩)⟩)
set_option maxRecDepth 100000 in
theorem zd_103_0 : ∀ q ∈ zt_103_0, decode (zcc 103) q.1 = .ok (q.2.1, q.2.2) := by decide +kernel
theorem zd_103 : ∀ q ∈ zt_103, decode (zcc 103) q.1 = .ok (q.2.1, q.2.2) := zd_103_0
set_option maxRecDepth 100000 in
theorem zd_104_0 : ∀ q ∈ zt_104_0, decode (zcc 104) q.1 = .ok (q.2.1, q.2.2) := by decide +kernel
theorem zd_104 : ∀ q ∈ zt_104, decode (zcc 104) q.1 = .ok (q.2.1, q.2.2) := zd_104_0
set_option maxRecDepth 100000 in
theorem zd_105_0 : ∀ q ∈ zt_105_0, decode (zcc 105) q.1 = .ok (q.2.1, q.2.2) := by decide +kernel
theorem zd_105 : ∀ q ∈ zt_105, decode (zcc 105) q.1 = .ok (q.2.1, q.2.2) := zd_105_0
set_option maxRecDepth 100000 in
theorem zd_107_0 : ∀ q ∈ zt_107_0, decode (zcc 107) q.1 = .ok (q.2.1, q.2.2) := by decide +kernel
set_option maxRecDepth 100000 in
theorem zd_107_1 : ∀ q ∈ zt_107_1, decode (zcc 107) q.1 = .ok (q.2.1, q.2.2) := by decide +kernel
theorem zd_107 : ∀ q ∈ zt_107, decode (zcc 107) q.1 = .ok (q.2.1, q.2.2) := (List.forall_mem_append.mpr ⟨zd_107_0, zd_107_1⟩)
set_option maxRecDepth 100000 in
theorem zd_108_0 : ∀ q ∈ zt_108_0, decode (zcc 108) q.1 = .ok (q.2.1, q.2.2) := by decide +kernel
theorem zd_108 : ∀ q ∈ zt_108, decode (zcc 108) q.1 = .ok (q.2.1, q.2.2) := zd_108_0
set_option maxRecDepth 100000 in
theorem zd_109_0 : ∀ q ∈ zt_109_0, decode (zcc 109) q.1 = .ok (q.2.1, q.2.2) := by decide +kernel
set_option maxRecDepth 100000 in
theorem zd_109_1 : ∀ q ∈ zt_109_1, decode (zcc 109) q.1 = .ok (q.2.1, q.2.2) := by decide +kernel
set_option maxRecDepth 100000 in
theorem zd_109_2 : ∀ q ∈ zt_109_2, decode (zcc 109) q.1 = .ok (q.2.1, q.2.2) := by decide +kernel
theorem zd_109 : ∀ q ∈ zt_109, decode (zcc 109) q.1 = .ok (q.2.1, q.2.2) := (List.forall_mem_append.mpr ⟨zd_109_0, (List.forall_mem_append.mpr ⟨zd_109_1, zd_109_2⟩)⟩)
set_option maxRecDepth 100000 in
theorem zd_110_0 : ∀ q ∈ zt_110_0, decode (zcc 110) q.1 = .ok (q.2.1, q.2.2) := by decide +kernel
theorem zd_110 : ∀ q ∈ zt_110, decode (zcc 110) q.1 = .ok (q.2.1, q.2.2) := zd_110_0
set_option maxRecDepth 100000 in
theorem zd_111_0 : ∀ q ∈ zt_111_0, decode (zcc 111) q.1 = .ok (q.2.1, q.2.2) := by decide +kernel
theorem zd_111 : ∀ q ∈ zt_111, decode (zcc 111) q.1 = .ok (q.2.1, q.2.2) := zd_111_0
set_option maxRecDepth 100000 in
theorem zd_112_0 : ∀ q ∈ zt_112_0, decode (zcc 112) q.1 = .ok (q.2.1, q.2.2) := by decide +kernel
theorem zd_112 : ∀ q ∈ zt_112, decode (zcc 112) q.1 = .ok (q.2.1, q.2.2) := zd_112_0
set_option maxRecDepth 100000 in
theorem zd_113_0 : ∀ q ∈ zt_113_0, decode (zcc 113) q.1 = .ok (q.2.1, q.2.2) := by decide +kernel
set_option maxRecDepth 100000 in
theorem zd_113_1 : ∀ q ∈ zt_113_1, decode (zcc 113) q.1 = .ok (q.2.1, q.2.2) := by decide +kernel
theorem zd_113 : ∀ q ∈ zt_113, decode (zcc 113) q.1 = .ok (q.2.1, q.2.2) := (List.forall_mem_append.mpr ⟨zd_113_0, zd_113_1⟩)
set_option maxRecDepth 100000 in
theorem zd_114_0 : ∀ q ∈ zt_114_0, decode (zcc 114) q.1 = .ok (q.2.1, q.2.2) := by decide +kernel
set_option maxRecDepth 100000 in
theorem zd_114_1 : ∀ q ∈ zt_114_1, decode (zcc 114) q.1 = .ok (q.2.1, q.2.2) := by decide +kernel
theorem zd_114 : ∀ q ∈ zt_114, decode (zcc 114) q.1 = .ok (q.2.1, q.2.2) := (List.forall_mem_append.mpr ⟨zd_114_0, zd_114_1⟩)
set_option maxRecDepth 100000 in
theorem zd_115_0 : ∀ q ∈ zt_115_0, decode (zcc 115) q.1 = .ok (q.2.1, q.2.2) := by decide +kernel
set_option maxRecDepth 100000 in
theorem zd_115_1 : ∀ q ∈ zt_115_1, decode (zcc 115) q.1 = .ok (q.2.1, q.2.2) := by decide +kernel
theorem zd_115 : ∀ q ∈ zt_115, decode (zcc 115) q.1 = .ok (q.2.1, q.2.2) := (List.forall_mem_append.mpr ⟨zd_115_0, zd_115_1⟩)
set_option maxRecDepth 100000 in
theorem zd_116_0 : ∀ q ∈ zt_116_0, decode (zcc 116) q.1 = .ok (q.2.1, q.2.2) := by decide +kernel
theorem zd_116 : ∀ q ∈ zt_116, decode (zcc 116) q.1 = .ok (q.2.1, q.2.2) := zd_116_0
set_option maxRecDepth 100000 in
theorem zd_117_0 : ∀ q ∈ zt_117_0, decode (zcc 117) q.1 = .ok (q.2.1, q.2.2) := by decide +kernel
theorem zd_117 : ∀ q ∈ zt_117, decode (zcc 117) q.1 = .ok (q.2.1, q.2.2) := zd_117_0
set_option maxRecDepth 100000 in
theorem zd_118_0 : ∀ q ∈ zt_118_0, decode (zcc 118) q.1 = .ok (q.2.1, q.2.2) := by decide +kernel
set_option maxRecDepth 100000 in
theorem zd_118_1 : ∀ q ∈ zt_118_1, decode (zcc 118) q.1 = .ok (q.2.1, q.2.2) := by decide +kernel
set_option maxRecDepth 100000 in
theorem zd_118_2 : ∀ q ∈ zt_118_2, decode (zcc 118) q.1 = .ok (q.2.1, q.2.2) := by decide +kernel
theorem zd_118 : ∀ q ∈ zt_118, decode (zcc 118) q.1 = .ok (q.2.1, q.2.2) := (List.forall_mem_append.mpr ⟨zd_118_0, (List.forall_mem_append.mpr ⟨zd_118_1, zd_118_2⟩)⟩)
set_option maxRecDepth 100000 in
theorem zd_119_0 : ∀ q ∈ zt_119_0, decode (zcc 119) q.1 = .ok (q.2.1, q.2.2) := by decide +kernel
theorem zd_119 : ∀ q ∈ zt_119, decode (zcc 119) q.1 = .ok (q.2.1, q.2.2) := zd_119_0
set_option maxRecDepth 100000 in
theorem zd_120_0 : ∀ q ∈ zt_120_0, decode (zcc 120) q.1 = .ok (q.2.1, q.2.2) := by decide +kernel
theorem zd_120 : ∀ q ∈ zt_120, decode (zcc 120) q.1 = .ok (q.2.1, q.2.2) := zd_120_0
set_option maxRecDepth 100000 in
theorem zd_121_0 : ∀ q ∈ zt_121_0, decode (zcc 121) q.1 = .ok (q.2.1, q.2.2) := by decide +kernel
set_option maxRecDepth 100000 in
theorem zd_121_1 : ∀ q ∈ zt_121_1, decode (zcc 121) q.1 = .ok (q.2.1, q.2.2) := by decide +kernel
theorem zd_121 : ∀ q ∈ zt_121, decode (zcc 121) q.1 = .ok (q.2.1, q.2.2) := (List.forall_mem_append.mpr ⟨zd_121_0, zd_121_1⟩)
set_option maxRecDepth 100000 in
theorem zd_122_0 : ∀ q ∈ zt_122_0, decode (zcc 122) q.1 = .ok (q.2.1, q.2.2) := by decide +kernel
set_option maxRecDepth 100000 in
theorem zd_122_1 : ∀ q ∈ zt_122_1, decode (zcc 122) q.1 = .ok (q.2.1, q.2.2) := by decide +kernel
theorem zd_122 : ∀ q ∈ zt_122, decode (zcc 122) q.1 = .ok (q.2.1, q.2.2) := (List.forall_mem_append.mpr ⟨zd_122_0, zd_122_1⟩)
set_option maxRecDepth 100000 in
theorem zd_123_0 : ∀ q ∈ zt_123_0, decode (zcc 123) q.1 = .ok (q.2.1, q.2.2) := by decide +kernel
theorem zd_123 : ∀ q ∈ zt_123, decode (zcc 123) q.1 = .ok (q.2.1, q.2.2) := zd_123_0
set_option maxRecDepth 100000 in
theorem zd_124_0 : ∀ q ∈ zt_124_0, decode (zcc 124) q.1 = .ok (q.2.1, q.2.2) := by decide +kernel
theorem zd_124 : ∀ q ∈ zt_124, decode (zcc 124) q.1 = .ok (q.2.1, q.2.2) := zd_124_0
set_option maxRecDepth 100000 in
theorem zd_125_0 : ∀ q ∈ zt_125_0, decode (zcc 125) q.1 = .ok (q.2.1, q.2.2) := by decide +kernel
set_option maxRecDepth 100000 in
theorem zd_125_1 : ∀ q ∈ zt_125_1, decode (zcc 125) q.1 = .ok (q.2.1, q.2.2) := by decide +kernel
set_option maxRecDepth 100000 in
theorem zd_125_2 : ∀ q ∈ zt_125_2, decode (zcc 125) q.1 = .ok (q.2.1, q.2.2) := by decide +kernel
theorem zd_125 : ∀ q ∈ zt_125, decode (zcc 125) q.1 = .ok (q.2.1, q.2.2) := (List.forall_mem_append.mpr ⟨zd_125_0, (List.forall_mem_append.mpr ⟨zd_125_1, zd_125_2⟩)⟩)
set_option maxRecDepth 100000 in
theorem zd_126_0 : ∀ q ∈ zt_126_0, decode (zcc 126) q.1 = .ok (q.2.1, q.2.2) := by decide +kernel
theorem zd_126 : ∀ q ∈ zt_126, decode (zcc 126) q.1 = .ok (q.2.1, q.2.2) := zd_126_0
set_option maxRecDepth 100000 in
theorem zd_127_0 : ∀ q ∈ zt_127_0, decode (zcc 127) q.1 = .ok (q.2.1, q.2.2) := by decide +kernel
set_option maxRecDepth 100000 in
theorem zd_127_1 : ∀ q ∈ zt_127_1, decode (zcc 127) q.1 = .ok (q.2.1, q.2.2) := by decide +kernel
theorem zd_127 : ∀ q ∈ zt_127, decode (zcc 127) q.1 = .ok (q.2.1, q.2.2) := (List.forall_mem_append.mpr ⟨zd_127_0, zd_127_1⟩)
set_option maxRecDepth 100000 in
theorem zd_128_0 : ∀ q ∈ zt_128_0, decode (zcc 128) q.1 = .ok (q.2.1, q.2.2) := by decide +kernel
set_option maxRecDepth 100000 in
theorem zd_128_1 : ∀ q ∈ zt_128_1, decode (zcc 128) q.1 = .ok (q.2.1, q.2.2) := by decide +kernel
set_option maxRecDepth 100000 in
theorem zd_128_2 : ∀ q ∈ zt_128_2, decode (zcc 128) q.1 = .ok (q.2.1, q.2.2) := by decide +kernel
set_option maxRecDepth 100000 in
theorem zd_128_3 : ∀ q ∈ zt_128_3, decode (zcc 128) q.1 = .ok (q.2.1, q.2.2) := by decide +kernel
set_option maxRecDepth 100000 in
theorem zd_128_4 : ∀ q ∈ zt_128_4, decode (zcc 128) q.1 = .ok (q.2.1, q.2.2) := by decide +kernel
theorem zd_128 : ∀ q ∈ zt_128, decode (zcc 128) q.1 = .ok (q.2.1, q.2.2) := (List.forall_mem_append.mpr ⟨zd_128_0, (List.forall_mem_append.mpr ⟨zd_128_1, (List.forall_mem_append.mpr ⟨zd_128_2, (List.forall_mem_append.mpr ⟨zd_128_3, zd_128_4⟩)⟩)⟩)⟩)
set_option maxRecDepth 100000 in
theorem zd_129_0 : ∀ q ∈ zt_129_0, decode (zcc 129) q.1 = .ok (q.2.1, q.2.2) := by decide +kernel
set_option maxRecDepth 100000 in
theorem zd_129_1 : ∀ q ∈ zt_129_1, decode (zcc 129) q.1 = .ok (q.2.1, q.2.2) := by decide +kernel
set_option maxRecDepth 100000 in
theorem zd_129_2 : ∀ q ∈ zt_129_2, decode (zcc 129) q.1 = .ok (q.2.1, q.2.2) := by decide +kernel
theorem zd_129 : ∀ q ∈ zt_129, decode (zcc 129) q.1 = .ok (q.2.1, q.2.2) := (List.forall_mem_append.mpr ⟨zd_129_0, (List.forall_mem_append.mpr ⟨zd_129_1, zd_129_2⟩)⟩)
set_option maxRecDepth 100000 in
theorem zd_130_0 : ∀ q ∈ zt_130_0, decode (zcc 130) q.1 = .ok (q.2.1, q.2.2) := by decide +kernel
theorem zd_130 : ∀ q ∈ zt_130, decode (zcc 130) q.1 = .ok (q.2.1, q.2.2) := zd_130_0
set_option maxRecDepth 100000 in
theorem zd_131_0 : ∀ q ∈ zt_131_0, decode (zcc 131) q.1 = .ok (q.2.1, q.2.2) := by decide +kernel
set_option maxRecDepth 100000 in
theorem zd_131_1 : ∀ q ∈ zt_131_1, decode (zcc 131) q.1 = .ok (q.2.1, q.2.2) := by decide +kernel
theorem zd_131 : ∀ q ∈ zt_131, decode (zcc 131) q.1 = .ok (q.2.1, q.2.2) := (List.forall_mem_append.mpr ⟨zd_131_0, zd_131_1⟩)
set_option maxRecDepth 100000 in
theorem zd_134_0 : ∀ q ∈ zt_134_0, decode (zcc 134) q.1 = .ok (q.2.1, q.2.2) := by decide +kernel
theorem zd_134 : ∀ q ∈ zt_134, decode (zcc 134) q.1 = .ok (q.2.1, q.2.2) := zd_134_0
set_option maxRecDepth 100000 in
theorem zd_135_0 : ∀ q ∈ zt_135_0, decode (zcc 135) q.1 = .ok (q.2.1, q.2.2) := by decide +kernel
theorem zd_135 : ∀ q ∈ zt_135, decode (zcc 135) q.1 = .ok (q.2.1, q.2.2) := zd_135_0
set_option maxRecDepth 100000 in
theorem zd_136_0 : ∀ q ∈ zt_136_0, decode (zcc 136) q.1 = .ok (q.2.1, q.2.2) := by decide +kernel
theorem zd_136 : ∀ q ∈ zt_136, decode (zcc 136) q.1 = .ok (q.2.1, q.2.2) := zd_136_0
set_option maxRecDepth 100000 in
theorem zd_137_0 : ∀ q ∈ zt_137_0, decode (zcc 137) q.1 = .ok (q.2.1, q.2.2) := by decide +kernel
theorem zd_137 : ∀ q ∈ zt_137, decode (zcc 137) q.1 = .ok (q.2.1, q.2.2) := zd_137_0
set_option maxRecDepth 100000 in
theorem zd_138_0 : ∀ q ∈ zt_138_0, decode (zcc 138) q.1 = .ok (q.2.1, q.2.2) := by decide +kernel
set_option maxRecDepth 100000 in
theorem zd_138_1 : ∀ q ∈ zt_138_1, decode (zcc 138) q.1 = .ok (q.2.1, q.2.2) := by decide +kernel
theorem zd_138 : ∀ q ∈ zt_138, decode (zcc 138) q.1 = .ok (q.2.1, q.2.2) := (List.forall_mem_append.mpr ⟨zd_138_0, zd_138_1⟩)
set_option maxRecDepth 100000 in
theorem zd_139_0 : ∀ q ∈ zt_139_0, decode (zcc 139) q.1 = .ok (q.2.1, q.2.2) := by decide +kernel
theorem zd_139 : ∀ q ∈ zt_139, decode (zcc 139) q.1 = .ok (q.2.1, q.2.2) := zd_139_0
set_option maxRecDepth 100000 in
theorem zd_140_0 : ∀ q ∈ zt_140_0, decode (zcc 140) q.1 = .ok (q.2.1, q.2.2) := by decide +kernel
theorem zd_140 : ∀ q ∈ zt_140, decode (zcc 140) q.1 = .ok (q.2.1, q.2.2) := zd_140_0
set_option maxRecDepth 100000 in
theorem zd_141_0 : ∀ q ∈ zt_141_0, decode (zcc 141) q.1 = .ok (q.2.1, q.2.2) := by decide +kernel
theorem zd_141 : ∀ q ∈ zt_141, decode (zcc 141) q.1 = .ok (q.2.1, q.2.2) := zd_141_0
set_option maxRecDepth 100000 in
theorem zd_142_0 : ∀ q ∈ zt_142_0, decode (zcc 142) q.1 = .ok (q.2.1, q.2.2) := by decide +kernel
theorem zd_142 : ∀ q ∈ zt_142, decode (zcc 142) q.1 = .ok (q.2.1, q.2.2) := zd_142_0
set_option maxRecDepth 100000 in
theorem zd_143_0 : ∀ q ∈ zt_143_0, decode (zcc 143) q.1 = .ok (q.2.1, q.2.2) := by decide +kernel
theorem zd_143 : ∀ q ∈ zt_143, decode (zcc 143) q.1 = .ok (q.2.1, q.2.2) := zd_143_0
set_option maxRecDepth 100000 in
theorem zd_144_0 : ∀ q ∈ zt_144_0, decode (zcc 144) q.1 = .ok (q.2.1, q.2.2) := by decide +kernel
set_option maxRecDepth 100000 in
theorem zd_144_1 : ∀ q ∈ zt_144_1, decode (zcc 144) q.1 = .ok (q.2.1, q.2.2) := by decide +kernel
theorem zd_144 : ∀ q ∈ zt_144, decode (zcc 144) q.1 = .ok (q.2.1, q.2.2) := (List.forall_mem_append.mpr ⟨zd_144_0, zd_144_1⟩)
set_option maxRecDepth 100000 in
theorem zd_145_0 : ∀ q ∈ zt_145_0, decode (zcc 145) q.1 = .ok (q.2.1, q.2.2) := by decide +kernel
set_option maxRecDepth 100000 in
theorem zd_145_1 : ∀ q ∈ zt_145_1, decode (zcc 145) q.1 = .ok (q.2.1, q.2.2) := by decide +kernel
set_option maxRecDepth 100000 in
theorem zd_145_2 : ∀ q ∈ zt_145_2, decode (zcc 145) q.1 = .ok (q.2.1, q.2.2) := by decide +kernel
set_option maxRecDepth 100000 in
theorem zd_145_3 : ∀ q ∈ zt_145_3, decode (zcc 145) q.1 = .ok (q.2.1, q.2.2) := by decide +kernel
set_option maxRecDepth 100000 in
theorem zd_145_4 : ∀ q ∈ zt_145_4, decode (zcc 145) q.1 = .ok (q.2.1, q.2.2) := by decide +kernel
set_option maxRecDepth 100000 in
theorem zd_145_5 : ∀ q ∈ zt_145_5, decode (zcc 145) q.1 = .ok (q.2.1, q.2.2) := by decide +kernel
theorem zd_145 : ∀ q ∈ zt_145, decode (zcc 145) q.1 = .ok (q.2.1, q.2.2) := (List.forall_mem_append.mpr ⟨zd_145_0, (List.forall_mem_append.mpr ⟨zd_145_1, (List.forall_mem_append.mpr ⟨zd_145_2, (List.forall_mem_append.mpr ⟨zd_145_3, (List.forall_mem_append.mpr ⟨zd_145_4, zd_145_5⟩)⟩)⟩)⟩)⟩)
set_option maxRecDepth 100000 in
theorem zd_146_0 : ∀ q ∈ zt_146_0, decode (zcc 146) q.1 = .ok (q.2.1, q.2.2) := by decide +kernel
set_option maxRecDepth 100000 in
theorem zd_146_1 : ∀ q ∈ zt_146_1, decode (zcc 146) q.1 = .ok (q.2.1, q.2.2) := by decide +kernel
set_option maxRecDepth 100000 in
theorem zd_146_2 : ∀ q ∈ zt_146_2, decode (zcc 146) q.1 = .ok (q.2.1, q.2.2) := by decide +kernel
theorem zd_146 : ∀ q ∈ zt_146, decode (zcc 146) q.1 = .ok (q.2.1, q.2.2) := (List.forall_mem_append.mpr ⟨zd_146_0, (List.forall_mem_append.mpr ⟨zd_146_1, zd_146_2⟩)⟩)
set_option maxRecDepth 100000 in
theorem zd_147_0 : ∀ q ∈ zt_147_0, decode (zcc 147) q.1 = .ok (q.2.1, q.2.2) := by decide +kernel
set_option maxRecDepth 100000 in
theorem zd_147_1 : ∀ q ∈ zt_147_1, decode (zcc 147) q.1 = .ok (q.2.1, q.2.2) := by decide +kernel
theorem zd_147 : ∀ q ∈ zt_147, decode (zcc 147) q.1 = .ok (q.2.1, q.2.2) := (List.forall_mem_append.mpr ⟨zd_147_0, zd_147_1⟩)
set_option maxRecDepth 100000 in
theorem zd_148_0 : ∀ q ∈ zt_148_0, decode (zcc 148) q.1 = .ok (q.2.1, q.2.2) := by decide +kernel
theorem zd_148 : ∀ q ∈ zt_148, decode (zcc 148) q.1 = .ok (q.2.1, q.2.2) := zd_148_0
set_option maxRecDepth 100000 in
theorem zd_149_0 : ∀ q ∈ zt_149_0, decode (zcc 149) q.1 = .ok (q.2.1, q.2.2) := by decide +kernel
theorem zd_149 : ∀ q ∈ zt_149, decode (zcc 149) q.1 = .ok (q.2.1, q.2.2) := zd_149_0
set_option maxRecDepth 100000 in
theorem zd_150_0 : ∀ q ∈ zt_150_0, decode (zcc 150) q.1 = .ok (q.2.1, q.2.2) := by decide +kernel
theorem zd_150 : ∀ q ∈ zt_150, decode (zcc 150) q.1 = .ok (q.2.1, q.2.2) := zd_150_0
set_option maxRecDepth 100000 in
theorem zd_151_0 : ∀ q ∈ zt_151_0, decode (zcc 151) q.1 = .ok (q.2.1, q.2.2) := by decide +kernel
theorem zd_151 : ∀ q ∈ zt_151, decode (zcc 151) q.1 = .ok (q.2.1, q.2.2) := zd_151_0
set_option maxRecDepth 100000 in
theorem zd_152_0 : ∀ q ∈ zt_152_0, decode (zcc 152) q.1 = .ok (q.2.1, q.2.2) := by decide +kernel
theorem zd_152 : ∀ q ∈ zt_152, decode (zcc 152) q.1 = .ok (q.2.1, q.2.2) := zd_152_0
set_option maxRecDepth 100000 in
theorem zd_153_0 : ∀ q ∈ zt_153_0, decode (zcc 153) q.1 = .ok (q.2.1, q.2.2) := by decide +kernel
theorem zd_153 : ∀ q ∈ zt_153, decode (zcc 153) q.1 = .ok (q.2.1, q.2.2) := zd_153_0
set_option maxRecDepth 100000 in
theorem zd_154_0 : ∀ q ∈ zt_154_0, decode (zcc 154) q.1 = .ok (q.2.1, q.2.2) := by decide +kernel
set_option maxRecDepth 100000 in
theorem zd_154_1 : ∀ q ∈ zt_154_1, decode (zcc 154) q.1 = .ok (q.2.1, q.2.2) := by decide +kernel
theorem zd_154 : ∀ q ∈ zt_154, decode (zcc 154) q.1 = .ok (q.2.1, q.2.2) := (List.forall_mem_append.mpr ⟨zd_154_0, zd_154_1⟩)
set_option maxRecDepth 100000 in
theorem zd_155_0 : ∀ q ∈ zt_155_0, decode (zcc 155) q.1 = .ok (q.2.1, q.2.2) := by decide +kernel
theorem zd_155 : ∀ q ∈ zt_155, decode (zcc 155) q.1 = .ok (q.2.1, q.2.2) := zd_155_0
set_option maxRecDepth 100000 in
theorem zd_156_0 : ∀ q ∈ zt_156_0, decode (zcc 156) q.1 = .ok (q.2.1, q.2.2) := by decide +kernel
set_option maxRecDepth 100000 in
theorem zd_156_1 : ∀ q ∈ zt_156_1, decode (zcc 156) q.1 = .ok (q.2.1, q.2.2) := by decide +kernel
theorem zd_156 : ∀ q ∈ zt_156, decode (zcc 156) q.1 = .ok (q.2.1, q.2.2) := (List.forall_mem_append.mpr ⟨zd_156_0, zd_156_1⟩)
set_option maxRecDepth 100000 in
theorem zd_157_0 : ∀ q ∈ zt_157_0, decode (zcc 157) q.1 = .ok (q.2.1, q.2.2) := by decide +kernel
theorem zd_157 : ∀ q ∈ zt_157, decode (zcc 157) q.1 = .ok (q.2.1, q.2.2) := zd_157_0
set_option maxRecDepth 100000 in
theorem zd_158_0 : ∀ q ∈ zt_158_0, decode (zcc 158) q.1 = .ok (q.2.1, q.2.2) := by decide +kernel
theorem zd_158 : ∀ q ∈ zt_158, decode (zcc 158) q.1 = .ok (q.2.1, q.2.2) := zd_158_0
set_option maxRecDepth 100000 in
theorem zd_159_0 : ∀ q ∈ zt_159_0, decode (zcc 159) q.1 = .ok (q.2.1, q.2.2) := by decide +kernel
set_option maxRecDepth 100000 in
theorem zd_159_1 : ∀ q ∈ zt_159_1, decode (zcc 159) q.1 = .ok (q.2.1, q.2.2) := by decide +kernel
set_option maxRecDepth 100000 in
theorem zd_159_2 : ∀ q ∈ zt_159_2, decode (zcc 159) q.1 = .ok (q.2.1, q.2.2) := by decide +kernel
theorem zd_159 : ∀ q ∈ zt_159, decode (zcc 159) q.1 = .ok (q.2.1, q.2.2) := (List.forall_mem_append.mpr ⟨zd_159_0, (List.forall_mem_append.mpr ⟨zd_159_1, zd_159_2⟩)⟩)
set_option maxRecDepth 100000 in
theorem zd_160_0 : ∀ q ∈ zt_160_0, decode (zcc 160) q.1 = .ok (q.2.1, q.2.2) := by decide +kernel
set_option maxRecDepth 100000 in
theorem zd_160_1 : ∀ q ∈ zt_160_1, decode (zcc 160) q.1 = .ok (q.2.1, q.2.2) := by decide +kernel
theorem zd_160 : ∀ q ∈ zt_160, decode (zcc 160) q.1 = .ok (q.2.1, q.2.2) := (List.forall_mem_append.mpr ⟨zd_160_0, zd_160_1⟩)
set_option maxRecDepth 100000 in
theorem zd_161_0 : ∀ q ∈ zt_161_0, decode (zcc 161) q.1 = .ok (q.2.1, q.2.2) := by decide +kernel
set_option maxRecDepth 100000 in
theorem zd_161_1 : ∀ q ∈ zt_161_1, decode (zcc 161) q.1 = .ok (q.2.1, q.2.2) := by decide +kernel
theorem zd_161 : ∀ q ∈ zt_161, decode (zcc 161) q.1 = .ok (q.2.1, q.2.2) := (List.forall_mem_append.mpr ⟨zd_161_0, zd_161_1⟩)
set_option maxRecDepth 100000 in
theorem zd_162_0 : ∀ q ∈ zt_162_0, decode (zcc 162) q.1 = .ok (q.2.1, q.2.2) := by decide +kernel
set_option maxRecDepth 100000 in
theorem zd_162_1 : ∀ q ∈ zt_162_1, decode (zcc 162) q.1 = .ok (q.2.1, q.2.2) := by decide +kernel
set_option maxRecDepth 100000 in
theorem zd_162_2 : ∀ q ∈ zt_162_2, decode (zcc 162) q.1 = .ok (q.2.1, q.2.2) := by decide +kernel
set_option maxRecDepth 100000 in
theorem zd_162_3 : ∀ q ∈ zt_162_3, decode (zcc 162) q.1 = .ok (q.2.1, q.2.2) := by decide +kernel
set_option maxRecDepth 100000 in
theorem zd_162_4 : ∀ q ∈ zt_162_4, decode (zcc 162) q.1 = .ok (q.2.1, q.2.2) := by decide +kernel
set_option maxRecDepth 100000 in
theorem zd_162_5 : ∀ q ∈ zt_162_5, decode (zcc 162) q.1 = .ok (q.2.1, q.2.2) := by decide +kernel
set_option maxRecDepth 100000 in
theorem zd_162_6 : ∀ q ∈ zt_162_6, decode (zcc 162) q.1 = .ok (q.2.1, q.2.2) := by decide +kernel
theorem zd_162 : ∀ q ∈ zt_162, decode (zcc 162) q.1 = .ok (q.2.1, q.2.2) := (List.forall_mem_append.mpr ⟨zd_162_0, (List.forall_mem_append.mpr ⟨zd_162_1, (List.forall_mem_append.mpr ⟨zd_162_2, (List.forall_mem_append.mpr ⟨zd_162_3, (List.forall_mem_append.mpr ⟨zd_162_4, (List.forall_mem_append.mpr ⟨zd_162_5, zd_162_6⟩)⟩)⟩)⟩)⟩)⟩)
set_option maxRecDepth 100000 in
theorem zd_163_0 : ∀ q ∈ zt_163_0, decode (zcc 163) q.1 = .ok (q.2.1, q.2.2) := by decide +kernel
set_option maxRecDepth 100000 in
theorem zd_163_1 : ∀ q ∈ zt_163_1, decode (zcc 163) q.1 = .ok (q.2.1, q.2.2) := by decide +kernel
theorem zd_163 : ∀ q ∈ zt_163, decode (zcc 163) q.1 = .ok (q.2.1, q.2.2) := (List.forall_mem_append.mpr ⟨zd_163_0, zd_163_1⟩)
set_option maxRecDepth 100000 in
theorem zd_164_0 : ∀ q ∈ zt_164_0, decode (zcc 164) q.1 = .ok (q.2.1, q.2.2) := by decide +kernel
set_option maxRecDepth 100000 in
theorem zd_164_1 : ∀ q ∈ zt_164_1, decode (zcc 164) q.1 = .ok (q.2.1, q.2.2) := by decide +kernel
set_option maxRecDepth 100000 in
theorem zd_164_2 : ∀ q ∈ zt_164_2, decode (zcc 164) q.1 = .ok (q.2.1, q.2.2) := by decide +kernel
theorem zd_164 : ∀ q ∈ zt_164, decode (zcc 164) q.1 = .ok (q.2.1, q.2.2) := (List.forall_mem_append.mpr ⟨zd_164_0, (List.forall_mem_append.mpr ⟨zd_164_1, zd_164_2⟩)⟩)
set_option maxRecDepth 100000 in
theorem zd_165_0 : ∀ q ∈ zt_165_0, decode (zcc 165) q.1 = .ok (q.2.1, q.2.2) := by decide +kernel
set_option maxRecDepth 100000 in
theorem zd_165_1 : ∀ q ∈ zt_165_1, decode (zcc 165) q.1 = .ok (q.2.1, q.2.2) := by decide +kernel
set_option maxRecDepth 100000 in
theorem zd_165_2 : ∀ q ∈ zt_165_2, decode (zcc 165) q.1 = .ok (q.2.1, q.2.2) := by decide +kernel
theorem zd_165 : ∀ q ∈ zt_165, decode (zcc 165) q.1 = .ok (q.2.1, q.2.2) := (List.forall_mem_append.mpr ⟨zd_165_0, (List.forall_mem_append.mpr ⟨zd_165_1, zd_165_2⟩)⟩)
set_option maxRecDepth 100000 in
theorem zd_166_0 : ∀ q ∈ zt_166_0, decode (zcc 166) q.1 = .ok (q.2.1, q.2.2) := by decide +kernel
set_option maxRecDepth 100000 in
theorem zd_166_1 : ∀ q ∈ zt_166_1, decode (zcc 166) q.1 = .ok (q.2.1, q.2.2) := by decide +kernel
set_option maxRecDepth 100000 in
theorem zd_166_2 : ∀ q ∈ zt_166_2, decode (zcc 166) q.1 = .ok (q.2.1, q.2.2) := by decide +kernel
theorem zd_166 : ∀ q ∈ zt_166, decode (zcc 166) q.1 = .ok (q.2.1, q.2.2) := (List.forall_mem_append.mpr ⟨zd_166_0, (List.forall_mem_append.mpr ⟨zd_166_1, zd_166_2⟩)⟩)
set_option maxRecDepth 100000 in
theorem zd_167_0 : ∀ q ∈ zt_167_0, decode (zcc 167) q.1 = .ok (q.2.1, q.2.2) := by decide +kernel
set_option maxRecDepth 100000 in
theorem zd_167_1 : ∀ q ∈ zt_167_1, decode (zcc 167) q.1 = .ok (q.2.1, q.2.2) := by decide +kernel
theorem zd_167 : ∀ q ∈ zt_167, decode (zcc 167) q.1 = .ok (q.2.1, q.2.2) := (List.forall_mem_append.mpr ⟨zd_167_0, zd_167_1⟩)
set_option maxRecDepth 100000 in
theorem zd_168_0 : ∀ q ∈ zt_168_0, decode (zcc 168) q.1 = .ok (q.2.1, q.2.2) := by decide +kernel
set_option maxRecDepth 100000 in
theorem zd_168_1 : ∀ q ∈ zt_168_1, decode (zcc 168) q.1 = .ok (q.2.1, q.2.2) := by decide +kernel
set_option maxRecDepth 100000 in
theorem zd_168_2 : ∀ q ∈ zt_168_2, decode (zcc 168) q.1 = .ok (q.2.1, q.2.2) := by decide +kernel
set_option maxRecDepth 100000 in
theorem zd_168_3 : ∀ q ∈ zt_168_3, decode (zcc 168) q.1 = .ok (q.2.1, q.2.2) := by decide +kernel
set_option maxRecDepth 100000 in
theorem zd_168_4 : ∀ q ∈ zt_168_4, decode (zcc 168) q.1 = .ok (q.2.1, q.2.2) := by decide +kernel
theorem zd_168 : ∀ q ∈ zt_168, decode (zcc 168) q.1 = .ok (q.2.1, q.2.2) := (List.forall_mem_append.mpr ⟨zd_168_0, (List.forall_mem_append.mpr ⟨zd_168_1, (List.forall_mem_append.mpr ⟨zd_168_2, (List.forall_mem_append.mpr ⟨zd_168_3, zd_168_4⟩)⟩)⟩)⟩)
set_option maxRecDepth 100000 in
theorem zd_169_0 : ∀ q ∈ zt_169_0, decode (zcc 169) q.1 = .ok (q.2.1, q.2.2) := by decide +kernel
set_option maxRecDepth 100000 in
theorem zd_169_1 : ∀ q ∈ zt_169_1, decode (zcc 169) q.1 = .ok (q.2.1, q.2.2) := by decide +kernel
set_option maxRecDepth 100000 in
theorem zd_169_2 : ∀ q ∈ zt_169_2, decode (zcc 169) q.1 = .ok (q.2.1, q.2.2) := by decide +kernel
theorem zd_169 : ∀ q ∈ zt_169, decode (zcc 169) q.1 = .ok (q.2.1, q.2.2) := (List.forall_mem_append.mpr ⟨zd_169_0, (List.forall_mem_append.mpr ⟨zd_169_1, zd_169_2⟩)⟩)
set_option maxRecDepth 100000 in
theorem zd_170_0 : ∀ q ∈ zt_170_0, decode (zcc 170) q.1 = .ok (q.2.1, q.2.2) := by decide +kernel
set_option maxRecDepth 100000 in
theorem zd_170_1 : ∀ q ∈ zt_170_1, decode (zcc 170) q.1 = .ok (q.2.1, q.2.2) := by decide +kernel
theorem zd_170 : ∀ q ∈ zt_170, decode (zcc 170) q.1 = .ok (q.2.1, q.2.2) := (List.forall_mem_append.mpr ⟨zd_170_0, zd_170_1⟩)
set_option maxRecDepth 100000 in
theorem zd_171_0 : ∀ q ∈ zt_171_0, decode (zcc 171) q.1 = .ok (q.2.1, q.2.2) := by decide +kernel
set_option maxRecDepth 100000 in
theorem zd_171_1 : ∀ q ∈ zt_171_1, decode (zcc 171) q.1 = .ok (q.2.1, q.2.2) := by decide +kernel
set_option maxRecDepth 100000 in
theorem zd_171_2 : ∀ q ∈ zt_171_2, decode (zcc 171) q.1 = .ok (q.2.1, q.2.2) := by decide +kernel
theorem zd_171 : ∀ q ∈ zt_171, decode (zcc 171) q.1 = .ok (q.2.1, q.2.2) := (List.forall_mem_append.mpr ⟨zd_171_0, (List.forall_mem_append.mpr ⟨zd_171_1, zd_171_2⟩)⟩)
set_option maxRecDepth 100000 in
theorem zd_172_0 : ∀ q ∈ zt_172_0, decode (zcc 172) q.1 = .ok (q.2.1, q.2.2) := by decide +kernel
set_option maxRecDepth 100000 in
theorem zd_172_1 : ∀ q ∈ zt_172_1, decode (zcc 172) q.1 = .ok (q.2.1, q.2.2) := by decide +kernel
set_option maxRecDepth 100000 in
theorem zd_172_2 : ∀ q ∈ zt_172_2, decode (zcc 172) q.1 = .ok (q.2.1, q.2.2) := by decide +kernel
set_option maxRecDepth 100000 in
theorem zd_172_3 : ∀ q ∈ zt_172_3, decode (zcc 172) q.1 = .ok (q.2.1, q.2.2) := by decide +kernel
theorem zd_172 : ∀ q ∈ zt_172, decode (zcc 172) q.1 = .ok (q.2.1, q.2.2) := (List.forall_mem_append.mpr ⟨zd_172_0, (List.forall_mem_append.mpr ⟨zd_172_1, (List.forall_mem_append.mpr ⟨zd_172_2, zd_172_3⟩)⟩)⟩)
set_option maxRecDepth 100000 in
theorem zd_173_0 : ∀ q ∈ zt_173_0, decode (zcc 173) q.1 = .ok (q.2.1, q.2.2) := by decide +kernel
set_option maxRecDepth 100000 in
theorem zd_173_1 : ∀ q ∈ zt_173_1, decode (zcc 173) q.1 = .ok (q.2.1, q.2.2) := by decide +kernel
theorem zd_173 : ∀ q ∈ zt_173, decode (zcc 173) q.1 = .ok (q.2.1, q.2.2) := (List.forall_mem_append.mpr ⟨zd_173_0, zd_173_1⟩)
set_option maxRecDepth 100000 in
theorem zd_174_0 : ∀ q ∈ zt_174_0, decode (zcc 174) q.1 = .ok (q.2.1, q.2.2) := by decide +kernel
set_option maxRecDepth 100000 in
theorem zd_174_1 : ∀ q ∈ zt_174_1, decode (zcc 174) q.1 = .ok (q.2.1, q.2.2) := by decide +kernel
set_option maxRecDepth 100000 in
theorem zd_174_2 : ∀ q ∈ zt_174_2, decode (zcc 174) q.1 = .ok (q.2.1, q.2.2) := by decide +kernel
theorem zd_174 : ∀ q ∈ zt_174, decode (zcc 174) q.1 = .ok (q.2.1, q.2.2) := (List.forall_mem_append.mpr ⟨zd_174_0, (List.forall_mem_append.mpr ⟨zd_174_1, zd_174_2⟩)⟩)
set_option maxRecDepth 100000 in
theorem zd_175_0 : ∀ q ∈ zt_175_0, decode (zcc 175) q.1 = .ok (q.2.1, q.2.2) := by decide +kernel
set_option maxRecDepth 100000 in
theorem zd_175_1 : ∀ q ∈ zt_175_1, decode (zcc 175) q.1 = .ok (q.2.1, q.2.2) := by decide +kernel
theorem zd_175 : ∀ q ∈ zt_175, decode (zcc 175) q.1 = .ok (q.2.1, q.2.2) := (List.forall_mem_append.mpr ⟨zd_175_0, zd_175_1⟩)
set_option maxRecDepth 100000 in
theorem zd_176_0 : ∀ q ∈ zt_176_0, decode (zcc 176) q.1 = .ok (q.2.1, q.2.2) := by decide +kernel
theorem zd_176 : ∀ q ∈ zt_176, decode (zcc 176) q.1 = .ok (q.2.1, q.2.2) := zd_176_0
set_option maxRecDepth 100000 in
theorem zd_177_0 : ∀ q ∈ zt_177_0, decode (zcc 177) q.1 = .ok (q.2.1, q.2.2) := by decide +kernel
set_option maxRecDepth 100000 in
theorem zd_177_1 : ∀ q ∈ zt_177_1, decode (zcc 177) q.1 = .ok (q.2.1, q.2.2) := by decide +kernel
set_option maxRecDepth 100000 in
theorem zd_177_2 : ∀ q ∈ zt_177_2, decode (zcc 177) q.1 = .ok (q.2.1, q.2.2) := by decide +kernel
theorem zd_177 : ∀ q ∈ zt_177, decode (zcc 177) q.1 = .ok (q.2.1, q.2.2) := (List.forall_mem_append.mpr ⟨zd_177_0, (List.forall_mem_append.mpr ⟨zd_177_1, zd_177_2⟩)⟩)
set_option maxRecDepth 100000 in
theorem zd_178_0 : ∀ q ∈ zt_178_0, decode (zcc 178) q.1 = .ok (q.2.1, q.2.2) := by decide +kernel
theorem zd_178 : ∀ q ∈ zt_178, decode (zcc 178) q.1 = .ok (q.2.1, q.2.2) := zd_178_0
set_option maxRecDepth 100000 in
theorem zd_179_0 : ∀ q ∈ zt_179_0, decode (zcc 179) q.1 = .ok (q.2.1, q.2.2) := by decide +kernel
theorem zd_179 : ∀ q ∈ zt_179, decode (zcc 179) q.1 = .ok (q.2.1, q.2.2) := zd_179_0
set_option maxRecDepth 100000 in
theorem zd_180_0 : ∀ q ∈ zt_180_0, decode (zcc 180) q.1 = .ok (q.2.1, q.2.2) := by decide +kernel
set_option maxRecDepth 100000 in
theorem zd_180_1 : ∀ q ∈ zt_180_1, decode (zcc 180) q.1 = .ok (q.2.1, q.2.2) := by decide +kernel
set_option maxRecDepth 100000 in
theorem zd_180_2 : ∀ q ∈ zt_180_2, decode (zcc 180) q.1 = .ok (q.2.1, q.2.2) := by decide +kernel
set_option maxRecDepth 100000 in
theorem zd_180_3 : ∀ q ∈ zt_180_3, decode (zcc 180) q.1 = .ok (q.2.1, q.2.2) := by decide +kernel
theorem zd_180 : ∀ q ∈ zt_180, decode (zcc 180) q.1 = .ok (q.2.1, q.2.2) := (List.forall_mem_append.mpr ⟨zd_180_0, (List.forall_mem_append.mpr ⟨zd_180_1, (List.forall_mem_append.mpr ⟨zd_180_2, zd_180_3⟩)⟩)⟩)
set_option maxRecDepth 100000 in
theorem zd_181_0 : ∀ q ∈ zt_181_0, decode (zcc 181) q.1 = .ok (q.2.1, q.2.2) := by decide +kernel
set_option maxRecDepth 100000 in
theorem zd_181_1 : ∀ q ∈ zt_181_1, decode (zcc 181) q.1 = .ok (q.2.1, q.2.2) := by decide +kernel
set_option maxRecDepth 100000 in
theorem zd_181_2 : ∀ q ∈ zt_181_2, decode (zcc 181) q.1 = .ok (q.2.1, q.2.2) := by decide +kernel
theorem zd_181 : ∀ q ∈ zt_181, decode (zcc 181) q.1 = .ok (q.2.1, q.2.2) := (List.forall_mem_append.mpr ⟨zd_181_0, (List.forall_mem_append.mpr ⟨zd_181_1, zd_181_2⟩)⟩)
set_option maxRecDepth 100000 in
theorem zd_182_0 : ∀ q ∈ zt_182_0, decode (zcc 182) q.1 = .ok (q.2.1, q.2.2) := by decide +kernel
theorem zd_182 : ∀ q ∈ zt_182, decode (zcc 182) q.1 = .ok (q.2.1, q.2.2) := zd_182_0
set_option maxRecDepth 100000 in
theorem zd_183_0 : ∀ q ∈ zt_183_0, decode (zcc 183) q.1 = .ok (q.2.1, q.2.2) := by decide +kernel
set_option maxRecDepth 100000 in
theorem zd_183_1 : ∀ q ∈ zt_183_1, decode (zcc 183) q.1 = .ok (q.2.1, q.2.2) := by decide +kernel
set_option maxRecDepth 100000 in
theorem zd_183_2 : ∀ q ∈ zt_183_2, decode (zcc 183) q.1 = .ok (q.2.1, q.2.2) := by decide +kernel
set_option maxRecDepth 100000 in
theorem zd_183_3 : ∀ q ∈ zt_183_3, decode (zcc 183) q.1 = .ok (q.2.1, q.2.2) := by decide +kernel
set_option maxRecDepth 100000 in
theorem zd_183_4 : ∀ q ∈ zt_183_4, decode (zcc 183) q.1 = .ok (q.2.1, q.2.2) := by decide +kernel
theorem zd_183 : ∀ q ∈ zt_183, decode (zcc 183) q.1 = .ok (q.2.1, q.2.2) := (List.forall_mem_append.mpr ⟨zd_183_0, (List.forall_mem_append.mpr ⟨zd_183_1, (List.forall_mem_append.mpr ⟨zd_183_2, (List.forall_mem_append.mpr ⟨zd_183_3, zd_183_4⟩)⟩)⟩)⟩)
set_option maxRecDepth 100000 in
theorem zd_184_0 : ∀ q ∈ zt_184_0, decode (zcc 184) q.1 = .ok (q.2.1, q.2.2) := by decide +kernel
theorem zd_184 : ∀ q ∈ zt_184, decode (zcc 184) q.1 = .ok (q.2.1, q.2.2) := zd_184_0
set_option maxRecDepth 100000 in
theorem zd_185_0 : ∀ q ∈ zt_185_0, decode (zcc 185) q.1 = .ok (q.2.1, q.2.2) := by decide +kernel
set_option maxRecDepth 100000 in
theorem zd_185_1 : ∀ q ∈ zt_185_1, decode (zcc 185) q.1 = .ok (q.2.1, q.2.2) := by decide +kernel
set_option maxRecDepth 100000 in
theorem zd_185_2 : ∀ q ∈ zt_185_2, decode (zcc 185) q.1 = .ok (q.2.1, q.2.2) := by decide +kernel
set_option maxRecDepth 100000 in
theorem zd_185_3 : ∀ q ∈ zt_185_3, decode (zcc 185) q.1 = .ok (q.2.1, q.2.2) := by decide +kernel
theorem zd_185 : ∀ q ∈ zt_185, decode (zcc 185) q.1 = .ok (q.2.1, q.2.2) := (List.forall_mem_append.mpr ⟨zd_185_0, (List.forall_mem_append.mpr ⟨zd_185_1, (List.forall_mem_append.mpr ⟨zd_185_2, zd_185_3⟩)⟩)⟩)
set_option maxRecDepth 100000 in
theorem zd_186_0 : ∀ q ∈ zt_186_0, decode (zcc 186) q.1 = .ok (q.2.1, q.2.2) := by decide +kernel
set_option maxRecDepth 100000 in
theorem zd_186_1 : ∀ q ∈ zt_186_1, decode (zcc 186) q.1 = .ok (q.2.1, q.2.2) := by decide +kernel
set_option maxRecDepth 100000 in
theorem zd_186_2 : ∀ q ∈ zt_186_2, decode (zcc 186) q.1 = .ok (q.2.1, q.2.2) := by decide +kernel
set_option maxRecDepth 100000 in
theorem zd_186_3 : ∀ q ∈ zt_186_3, decode (zcc 186) q.1 = .ok (q.2.1, q.2.2) := by decide +kernel
theorem zd_186 : ∀ q ∈ zt_186, decode (zcc 186) q.1 = .ok (q.2.1, q.2.2) := (List.forall_mem_append.mpr ⟨zd_186_0, (List.forall_mem_append.mpr ⟨zd_186_1, (List.forall_mem_append.mpr ⟨zd_186_2, zd_186_3⟩)⟩)⟩)
set_option maxRecDepth 100000 in
theorem zd_187_0 : ∀ q ∈ zt_187_0, decode (zcc 187) q.1 = .ok (q.2.1, q.2.2) := by decide +kernel
set_option maxRecDepth 100000 in
theorem zd_187_1 : ∀ q ∈ zt_187_1, decode (zcc 187) q.1 = .ok (q.2.1, q.2.2) := by decide +kernel
theorem zd_187 : ∀ q ∈ zt_187, decode (zcc 187) q.1 = .ok (q.2.1, q.2.2) := (List.forall_mem_append.mpr ⟨zd_187_0, zd_187_1⟩)
set_option maxRecDepth 100000 in
theorem zd_188_0 : ∀ q ∈ zt_188_0, decode (zcc 188) q.1 = .ok (q.2.1, q.2.2) := by decide +kernel
set_option maxRecDepth 100000 in
theorem zd_188_1 : ∀ q ∈ zt_188_1, decode (zcc 188) q.1 = .ok (q.2.1, q.2.2) := by decide +kernel
theorem zd_188 : ∀ q ∈ zt_188, decode (zcc 188) q.1 = .ok (q.2.1, q.2.2) := (List.forall_mem_append.mpr ⟨zd_188_0, zd_188_1⟩)
set_option maxRecDepth 100000 in
theorem zd_189_0 : ∀ q ∈ zt_189_0, decode (zcc 189) q.1 = .ok (q.2.1, q.2.2) := by decide +kernel
set_option maxRecDepth 100000 in
theorem zd_189_1 : ∀ q ∈ zt_189_1, decode (zcc 189) q.1 = .ok (q.2.1, q.2.2) := by decide +kernel
set_option maxRecDepth 100000 in
theorem zd_189_2 : ∀ q ∈ zt_189_2, decode (zcc 189) q.1 = .ok (q.2.1, q.2.2) := by decide +kernel
theorem zd_189 : ∀ q ∈ zt_189, decode (zcc 189) q.1 = .ok (q.2.1, q.2.2) := (List.forall_mem_append.mpr ⟨zd_189_0, (List.forall_mem_append.mpr ⟨zd_189_1, zd_189_2⟩)⟩)
set_option maxRecDepth 100000 in
theorem zd_190_0 : ∀ q ∈ zt_190_0, decode (zcc 190) q.1 = .ok (q.2.1, q.2.2) := by decide +kernel
set_option maxRecDepth 100000 in
theorem zd_190_1 : ∀ q ∈ zt_190_1, decode (zcc 190) q.1 = .ok (q.2.1, q.2.2) := by decide +kernel
theorem zd_190 : ∀ q ∈ zt_190, decode (zcc 190) q.1 = .ok (q.2.1, q.2.2) := (List.forall_mem_append.mpr ⟨zd_190_0, zd_190_1⟩)
set_option maxRecDepth 100000 in
theorem zd_191_0 : ∀ q ∈ zt_191_0, decode (zcc 191) q.1 = .ok (q.2.1, q.2.2) := by decide +kernel
set_option maxRecDepth 100000 in
theorem zd_191_1 : ∀ q ∈ zt_191_1, decode (zcc 191) q.1 = .ok (q.2.1, q.2.2) := by decide +kernel
theorem zd_191 : ∀ q ∈ zt_191, decode (zcc 191) q.1 = .ok (q.2.1, q.2.2) := (List.forall_mem_append.mpr ⟨zd_191_0, zd_191_1⟩)
set_option maxRecDepth 100000 in
theorem zd_192_0 : ∀ q ∈ zt_192_0, decode (zcc 192) q.1 = .ok (q.2.1, q.2.2) := by decide +kernel
set_option maxRecDepth 100000 in
theorem zd_192_1 : ∀ q ∈ zt_192_1, decode (zcc 192) q.1 = .ok (q.2.1, q.2.2) := by decide +kernel
set_option maxRecDepth 100000 in
theorem zd_192_2 : ∀ q ∈ zt_192_2, decode (zcc 192) q.1 = .ok (q.2.1, q.2.2) := by decide +kernel
set_option maxRecDepth 100000 in
theorem zd_192_3 : ∀ q ∈ zt_192_3, decode (zcc 192) q.1 = .ok (q.2.1, q.2.2) := by decide +kernel
theorem zd_192 : ∀ q ∈ zt_192, decode (zcc 192) q.1 = .ok (q.2.1, q.2.2) := (List.forall_mem_append.mpr ⟨zd_192_0, (List.forall_mem_append.mpr ⟨zd_192_1, (List.forall_mem_append.mpr ⟨zd_192_2, zd_192_3⟩)⟩)⟩)
set_option maxRecDepth 100000 in
theorem zd_193_0 : ∀ q ∈ zt_193_0, decode (zcc 193) q.1 = .ok (q.2.1, q.2.2) := by decide +kernel
set_option maxRecDepth 100000 in
theorem zd_193_1 : ∀ q ∈ zt_193_1, decode (zcc 193) q.1 = .ok (q.2.1, q.2.2) := by decide +kernel
set_option maxRecDepth 100000 in
theorem zd_193_2 : ∀ q ∈ zt_193_2, decode (zcc 193) q.1 = .ok (q.2.1, q.2.2) := by decide +kernel
set_option maxRecDepth 100000 in
theorem zd_193_3 : ∀ q ∈ zt_193_3, decode (zcc 193) q.1 = .ok (q.2.1, q.2.2) := by decide +kernel
set_option maxRecDepth 100000 in
theorem zd_193_4 : ∀ q ∈ zt_193_4, decode (zcc 193) q.1 = .ok (q.2.1, q.2.2) := by decide +kernel
theorem zd_193 : ∀ q ∈ zt_193, decode (zcc 193) q.1 = .ok (q.2.1, q.2.2) := (List.forall_mem_append.mpr ⟨zd_193_0, (List.forall_mem_append.mpr ⟨zd_193_1, (List.forall_mem_append.mpr ⟨zd_193_2, (List.forall_mem_append.mpr ⟨zd_193_3, zd_193_4⟩)⟩)⟩)⟩)
set_option maxRecDepth 100000 in
theorem zd_194_0 : ∀ q ∈ zt_194_0, decode (zcc 194) q.1 = .ok (q.2.1, q.2.2) := by decide +kernel
set_option maxRecDepth 100000 in
theorem zd_194_1 : ∀ q ∈ zt_194_1, decode (zcc 194) q.1 = .ok (q.2.1, q.2.2) := by decide +kernel
set_option maxRecDepth 100000 in
theorem zd_194_2 : ∀ q ∈ zt_194_2, decode (zcc 194) q.1 = .ok (q.2.1, q.2.2) := by decide +kernel
set_option maxRecDepth 100000 in
theorem zd_194_3 : ∀ q ∈ zt_194_3, decode (zcc 194) q.1 = .ok (q.2.1, q.2.2) := by decide +kernel
set_option maxRecDepth 100000 in
theorem zd_194_4 : ∀ q ∈ zt_194_4, decode (zcc 194) q.1 = .ok (q.2.1, q.2.2) := by decide +kernel
theorem zd_194 : ∀ q ∈ zt_194, decode (zcc 194) q.1 = .ok (q.2.1, q.2.2) := (List.forall_mem_append.mpr ⟨zd_194_0, (List.forall_mem_append.mpr ⟨zd_194_1, (List.forall_mem_append.mpr ⟨zd_194_2, (List.forall_mem_append.mpr ⟨zd_194_3, zd_194_4⟩)⟩)⟩)⟩)
set_option maxRecDepth 100000 in
theorem zd_195_0 : ∀ q ∈ zt_195_0, decode (zcc 195) q.1 = .ok (q.2.1, q.2.2) := by decide +kernel
theorem zd_195 : ∀ q ∈ zt_195, decode (zcc 195) q.1 = .ok (q.2.1, q.2.2) := zd_195_0
set_option maxRecDepth 100000 in
theorem zd_196_0 : ∀ q ∈ zt_196_0, decode (zcc 196) q.1 = .ok (q.2.1, q.2.2) := by decide +kernel
theorem zd_196 : ∀ q ∈ zt_196, decode (zcc 196) q.1 = .ok (q.2.1, q.2.2) := zd_196_0
set_option maxRecDepth 100000 in
theorem zd_197_0 : ∀ q ∈ zt_197_0, decode (zcc 197) q.1 = .ok (q.2.1, q.2.2) := by decide +kernel
set_option maxRecDepth 100000 in
theorem zd_197_1 : ∀ q ∈ zt_197_1, decode (zcc 197) q.1 = .ok (q.2.1, q.2.2) := by decide +kernel
theorem zd_197 : ∀ q ∈ zt_197, decode (zcc 197) q.1 = .ok (q.2.1, q.2.2) := (List.forall_mem_append.mpr ⟨zd_197_0, zd_197_1⟩)
set_option maxRecDepth 100000 in
theorem zd_198_0 : ∀ q ∈ zt_198_0, decode (zcc 198) q.1 = .ok (q.2.1, q.2.2) := by decide +kernel
set_option maxRecDepth 100000 in
theorem zd_198_1 : ∀ q ∈ zt_198_1, decode (zcc 198) q.1 = .ok (q.2.1, q.2.2) := by decide +kernel
theorem zd_198 : ∀ q ∈ zt_198, decode (zcc 198) q.1 = .ok (q.2.1, q.2.2) := (List.forall_mem_append.mpr ⟨zd_198_0, zd_198_1⟩)
set_option maxRecDepth 100000 in
theorem zd_199_0 : ∀ q ∈ zt_199_0, decode (zcc 199) q.1 = .ok (q.2.1, q.2.2) := by decide +kernel
theorem zd_199 : ∀ q ∈ zt_199, decode (zcc 199) q.1 = .ok (q.2.1, q.2.2) := zd_199_0
set_option maxRecDepth 100000 in
theorem zd_200_0 : ∀ q ∈ zt_200_0, decode (zcc 200) q.1 = .ok (q.2.1, q.2.2) := by decide +kernel
set_option maxRecDepth 100000 in
theorem zd_200_1 : ∀ q ∈ zt_200_1, decode (zcc 200) q.1 = .ok (q.2.1, q.2.2) := by decide +kernel
theorem zd_200 : ∀ q ∈ zt_200, decode (zcc 200) q.1 = .ok (q.2.1, q.2.2) := (List.forall_mem_append.mpr ⟨zd_200_0, zd_200_1⟩)
set_option maxRecDepth 100000 in
theorem zd_201_0 : ∀ q ∈ zt_201_0, decode (zcc 201) q.1 = .ok (q.2.1, q.2.2) := by decide +kernel
theorem zd_201 : ∀ q ∈ zt_201, decode (zcc 201) q.1 = .ok (q.2.1, q.2.2) := zd_201_0
set_option maxRecDepth 100000 in
theorem zd_202_0 : ∀ q ∈ zt_202_0, decode (zcc 202) q.1 = .ok (q.2.1, q.2.2) := by decide +kernel
theorem zd_202 : ∀ q ∈ zt_202, decode (zcc 202) q.1 = .ok (q.2.1, q.2.2) := zd_202_0
set_option maxRecDepth 100000 in
theorem zd_203_0 : ∀ q ∈ zt_203_0, decode (zcc 203) q.1 = .ok (q.2.1, q.2.2) := by decide +kernel
theorem zd_203 : ∀ q ∈ zt_203, decode (zcc 203) q.1 = .ok (q.2.1, q.2.2) := zd_203_0
set_option maxRecDepth 100000 in
theorem zd_204_0 : ∀ q ∈ zt_204_0, decode (zcc 204) q.1 = .ok (q.2.1, q.2.2) := by decide +kernel
set_option maxRecDepth 100000 in
theorem zd_204_1 : ∀ q ∈ zt_204_1, decode (zcc 204) q.1 = .ok (q.2.1, q.2.2) := by decide +kernel
theorem zd_204 : ∀ q ∈ zt_204, decode (zcc 204) q.1 = .ok (q.2.1, q.2.2) := (List.forall_mem_append.mpr ⟨zd_204_0, zd_204_1⟩)
set_option maxRecDepth 100000 in
theorem zd_205_0 : ∀ q ∈ zt_205_0, decode (zcc 205) q.1 = .ok (q.2.1, q.2.2) := by decide +kernel
set_option maxRecDepth 100000 in
theorem zd_205_1 : ∀ q ∈ zt_205_1, decode (zcc 205) q.1 = .ok (q.2.1, q.2.2) := by decide +kernel
set_option maxRecDepth 100000 in
theorem zd_205_2 : ∀ q ∈ zt_205_2, decode (zcc 205) q.1 = .ok (q.2.1, q.2.2) := by decide +kernel
theorem zd_205 : ∀ q ∈ zt_205, decode (zcc 205) q.1 = .ok (q.2.1, q.2.2) := (List.forall_mem_append.mpr ⟨zd_205_0, (List.forall_mem_append.mpr ⟨zd_205_1, zd_205_2⟩)⟩)
set_option maxRecDepth 100000 in
theorem zd_206_0 : ∀ q ∈ zt_206_0, decode (zcc 206) q.1 = .ok (q.2.1, q.2.2) := by decide +kernel
set_option maxRecDepth 100000 in
theorem zd_206_1 : ∀ q ∈ zt_206_1, decode (zcc 206) q.1 = .ok (q.2.1, q.2.2) := by decide +kernel
theorem zd_206 : ∀ q ∈ zt_206, decode (zcc 206) q.1 = .ok (q.2.1, q.2.2) := (List.forall_mem_append.mpr ⟨zd_206_0, zd_206_1⟩)
set_option maxRecDepth 100000 in
theorem zd_207_0 : ∀ q ∈ zt_207_0, decode (zcc 207) q.1 = .ok (q.2.1, q.2.2) := by decide +kernel
theorem zd_207 : ∀ q ∈ zt_207, decode (zcc 207) q.1 = .ok (q.2.1, q.2.2) := zd_207_0
set_option maxRecDepth 100000 in
theorem zd_208_0 : ∀ q ∈ zt_208_0, decode (zcc 208) q.1 = .ok (q.2.1, q.2.2) := by decide +kernel
theorem zd_208 : ∀ q ∈ zt_208, decode (zcc 208) q.1 = .ok (q.2.1, q.2.2) := zd_208_0
set_option maxRecDepth 100000 in
theorem zd_209_0 : ∀ q ∈ zt_209_0, decode (zcc 209) q.1 = .ok (q.2.1, q.2.2) := by decide +kernel
theorem zd_209 : ∀ q ∈ zt_209, decode (zcc 209) q.1 = .ok (q.2.1, q.2.2) := zd_209_0
set_option maxRecDepth 100000 in
theorem zd_210_0 : ∀ q ∈ zt_210_0, decode (zcc 210) q.1 = .ok (q.2.1, q.2.2) := by decide +kernel
set_option maxRecDepth 100000 in
theorem zd_210_1 : ∀ q ∈ zt_210_1, decode (zcc 210) q.1 = .ok (q.2.1, q.2.2) := by decide +kernel
theorem zd_210 : ∀ q ∈ zt_210, decode (zcc 210) q.1 = .ok (q.2.1, q.2.2) := (List.forall_mem_append.mpr ⟨zd_210_0, zd_210_1⟩)
set_option maxRecDepth 100000 in
theorem zd_211_0 : ∀ q ∈ zt_211_0, decode (zcc 211) q.1 = .ok (q.2.1, q.2.2) := by decide +kernel
theorem zd_211 : ∀ q ∈ zt_211, decode (zcc 211) q.1 = .ok (q.2.1, q.2.2) := zd_211_0
set_option maxRecDepth 100000 in
theorem zd_212_0 : ∀ q ∈ zt_212_0, decode (zcc 212) q.1 = .ok (q.2.1, q.2.2) := by decide +kernel
set_option maxRecDepth 100000 in
theorem zd_212_1 : ∀ q ∈ zt_212_1, decode (zcc 212) q.1 = .ok (q.2.1, q.2.2) := by decide +kernel
theorem zd_212 : ∀ q ∈ zt_212, decode (zcc 212) q.1 = .ok (q.2.1, q.2.2) := (List.forall_mem_append.mpr ⟨zd_212_0, zd_212_1⟩)
set_option maxRecDepth 100000 in
theorem zd_213_0 : ∀ q ∈ zt_213_0, decode (zcc 213) q.1 = .ok (q.2.1, q.2.2) := by decide +kernel
set_option maxRecDepth 100000 in
theorem zd_213_1 : ∀ q ∈ zt_213_1, decode (zcc 213) q.1 = .ok (q.2.1, q.2.2) := by decide +kernel
theorem zd_213 : ∀ q ∈ zt_213, decode (zcc 213) q.1 = .ok (q.2.1, q.2.2) := (List.forall_mem_append.mpr ⟨zd_213_0, zd_213_1⟩)
set_option maxRecDepth 100000 in
theorem zd_214_0 : ∀ q ∈ zt_214_0, decode (zcc 214) q.1 = .ok (q.2.1, q.2.2) := by decide +kernel
set_option maxRecDepth 100000 in
theorem zd_214_1 : ∀ q ∈ zt_214_1, decode (zcc 214) q.1 = .ok (q.2.1, q.2.2) := by decide +kernel
theorem zd_214 : ∀ q ∈ zt_214, decode (zcc 214) q.1 = .ok (q.2.1, q.2.2) := (List.forall_mem_append.mpr ⟨zd_214_0, zd_214_1⟩)
set_option maxRecDepth 100000 in
theorem zd_215_0 : ∀ q ∈ zt_215_0, decode (zcc 215) q.1 = .ok (q.2.1, q.2.2) := by decide +kernel
set_option maxRecDepth 100000 in
theorem zd_215_1 : ∀ q ∈ zt_215_1, decode (zcc 215) q.1 = .ok (q.2.1, q.2.2) := by decide +kernel
theorem zd_215 : ∀ q ∈ zt_215, decode (zcc 215) q.1 = .ok (q.2.1, q.2.2) := (List.forall_mem_append.mpr ⟨zd_215_0, zd_215_1⟩)
set_option maxRecDepth 100000 in
theorem zd_216_0 : ∀ q ∈ zt_216_0, decode (zcc 216) q.1 = .ok (q.2.1, q.2.2) := by decide +kernel
set_option maxRecDepth 100000 in
theorem zd_216_1 : ∀ q ∈ zt_216_1, decode (zcc 216) q.1 = .ok (q.2.1, q.2.2) := by decide +kernel
set_option maxRecDepth 100000 in
theorem zd_216_2 : ∀ q ∈ zt_216_2, decode (zcc 216) q.1 = .ok (q.2.1, q.2.2) := by decide +kernel
set_option maxRecDepth 100000 in
theorem zd_216_3 : ∀ q ∈ zt_216_3, decode (zcc 216) q.1 = .ok (q.2.1, q.2.2) := by decide +kernel
theorem zd_216 : ∀ q ∈ zt_216, decode (zcc 216) q.1 = .ok (q.2.1, q.2.2) := (List.forall_mem_append.mpr ⟨zd_216_0, (List.forall_mem_append.mpr ⟨zd_216_1, (List.forall_mem_append.mpr ⟨zd_216_2, zd_216_3⟩)⟩)⟩)
set_option maxRecDepth 100000 in
theorem zd_217_0 : ∀ q ∈ zt_217_0, decode (zcc 217) q.1 = .ok (q.2.1, q.2.2) := by decide +kernel
theorem zd_217 : ∀ q ∈ zt_217, decode (zcc 217) q.1 = .ok (q.2.1, q.2.2) := zd_217_0
set_option maxRecDepth 100000 in
theorem zd_218_0 : ∀ q ∈ zt_218_0, decode (zcc 218) q.1 = .ok (q.2.1, q.2.2) := by decide +kernel
set_option maxRecDepth 100000 in
theorem zd_218_1 : ∀ q ∈ zt_218_1, decode (zcc 218) q.1 = .ok (q.2.1, q.2.2) := by decide +kernel
set_option maxRecDepth 100000 in
theorem zd_218_2 : ∀ q ∈ zt_218_2, decode (zcc 218) q.1 = .ok (q.2.1, q.2.2) := by decide +kernel
theorem zd_218 : ∀ q ∈ zt_218, decode (zcc 218) q.1 = .ok (q.2.1, q.2.2) := (List.forall_mem_append.mpr ⟨zd_218_0, (List.forall_mem_append.mpr ⟨zd_218_1, zd_218_2⟩)⟩)
set_option maxRecDepth 100000 in
theorem zd_219_0 : ∀ q ∈ zt_219_0, decode (zcc 219) q.1 = .ok (q.2.1, q.2.2) := by decide +kernel
set_option maxRecDepth 100000 in
theorem zd_219_1 : ∀ q ∈ zt_219_1, decode (zcc 219) q.1 = .ok (q.2.1, q.2.2) := by decide +kernel
set_option maxRecDepth 100000 in
theorem zd_219_2 : ∀ q ∈ zt_219_2, decode (zcc 219) q.1 = .ok (q.2.1, q.2.2) := by decide +kernel
set_option maxRecDepth 100000 in
theorem zd_219_3 : ∀ q ∈ zt_219_3, decode (zcc 219) q.1 = .ok (q.2.1, q.2.2) := by decide +kernel
set_option maxRecDepth 100000 in
theorem zd_219_4 : ∀ q ∈ zt_219_4, decode (zcc 219) q.1 = .ok (q.2.1, q.2.2) := by decide +kernel
set_option maxRecDepth 100000 in
theorem zd_219_5 : ∀ q ∈ zt_219_5, decode (zcc 219) q.1 = .ok (q.2.1, q.2.2) := by decide +kernel
set_option maxRecDepth 100000 in
theorem zd_219_6 : ∀ q ∈ zt_219_6, decode (zcc 219) q.1 = .ok (q.2.1, q.2.2) := by decide +kernel
theorem zd_219 : ∀ q ∈ zt_219, decode (zcc 219) q.1 = .ok (q.2.1, q.2.2) := (List.forall_mem_append.mpr ⟨zd_219_0, (List.forall_mem_append.mpr ⟨zd_219_1, (List.forall_mem_append.mpr ⟨zd_219_2, (List.forall_mem_append.mpr ⟨zd_219_3, (List.forall_mem_append.mpr ⟨zd_219_4, (List.forall_mem_append.mpr ⟨zd_219_5, zd_219_6⟩)⟩)⟩)⟩)⟩)⟩)
set_option maxRecDepth 100000 in
theorem zd_220_0 : ∀ q ∈ zt_220_0, decode (zcc 220) q.1 = .ok (q.2.1, q.2.2) := by decide +kernel
theorem zd_220 : ∀ q ∈ zt_220, decode (zcc 220) q.1 = .ok (q.2.1, q.2.2) := zd_220_0
set_option maxRecDepth 100000 in
theorem zd_221_0 : ∀ q ∈ zt_221_0, decode (zcc 221) q.1 = .ok (q.2.1, q.2.2) := by decide +kernel
theorem zd_221 : ∀ q ∈ zt_221, decode (zcc 221) q.1 = .ok (q.2.1, q.2.2) := zd_221_0
set_option maxRecDepth 100000 in
theorem zd_222_0 : ∀ q ∈ zt_222_0, decode (zcc 222) q.1 = .ok (q.2.1, q.2.2) := by decide +kernel
theorem zd_222 : ∀ q ∈ zt_222, decode (zcc 222) q.1 = .ok (q.2.1, q.2.2) := zd_222_0
set_option maxRecDepth 100000 in
theorem zd_223_0 : ∀ q ∈ zt_223_0, decode (zcc 223) q.1 = .ok (q.2.1, q.2.2) := by decide +kernel
theorem zd_223 : ∀ q ∈ zt_223, decode (zcc 223) q.1 = .ok (q.2.1, q.2.2) := zd_223_0
set_option maxRecDepth 100000 in
theorem zd_224_0 : ∀ q ∈ zt_224_0, decode (zcc 224) q.1 = .ok (q.2.1, q.2.2) := by decide +kernel
theorem zd_224 : ∀ q ∈ zt_224, decode (zcc 224) q.1 = .ok (q.2.1, q.2.2) := zd_224_0
set_option maxRecDepth 100000 in
theorem zd_225_0 : ∀ q ∈ zt_225_0, decode (zcc 225) q.1 = .ok (q.2.1, q.2.2) := by decide +kernel
theorem zd_225 : ∀ q ∈ zt_225, decode (zcc 225) q.1 = .ok (q.2.1, q.2.2) := zd_225_0
set_option maxRecDepth 100000 in
theorem zd_226_0 : ∀ q ∈ zt_226_0, decode (zcc 226) q.1 = .ok (q.2.1, q.2.2) := by decide +kernel
theorem zd_226 : ∀ q ∈ zt_226, decode (zcc 226) q.1 = .ok (q.2.1, q.2.2) := zd_226_0
set_option maxRecDepth 100000 in
theorem zd_227_0 : ∀ q ∈ zt_227_0, decode (zcc 227) q.1 = .ok (q.2.1, q.2.2) := by decide +kernel
theorem zd_227 : ∀ q ∈ zt_227, decode (zcc 227) q.1 = .ok (q.2.1, q.2.2) := zd_227_0
set_option maxRecDepth 100000 in
theorem zd_228_0 : ∀ q ∈ zt_228_0, decode (zcc 228) q.1 = .ok (q.2.1, q.2.2) := by decide +kernel
theorem zd_228 : ∀ q ∈ zt_228, decode (zcc 228) q.1 = .ok (q.2.1, q.2.2) := zd_228_0
set_option maxRecDepth 100000 in
theorem zd_229_0 : ∀ q ∈ zt_229_0, decode (zcc 229) q.1 = .ok (q.2.1, q.2.2) := by decide +kernel
theorem zd_229 : ∀ q ∈ zt_229, decode (zcc 229) q.1 = .ok (q.2.1, q.2.2) := zd_229_0
set_option maxRecDepth 100000 in
theorem zd_230_0 : ∀ q ∈ zt_230_0, decode (zcc 230) q.1 = .ok (q.2.1, q.2.2) := by decide +kernel
theorem zd_230 : ∀ q ∈ zt_230, decode (zcc 230) q.1 = .ok (q.2.1, q.2.2) := zd_230_0
set_option maxRecDepth 100000 in
theorem zd_231_0 : ∀ q ∈ zt_231_0, decode (zcc 231) q.1 = .ok (q.2.1, q.2.2) := by decide +kernel
theorem zd_231 : ∀ q ∈ zt_231, decode (zcc 231) q.1 = .ok (q.2.1, q.2.2) := zd_231_0
set_option maxRecDepth 100000 in
theorem zd_232_0 : ∀ q ∈ zt_232_0, decode (zcc 232) q.1 = .ok (q.2.1, q.2.2) := by decide +kernel
theorem zd_232 : ∀ q ∈ zt_232, decode (zcc 232) q.1 = .ok (q.2.1, q.2.2) := zd_232_0
set_option maxRecDepth 100000 in
theorem zd_233_0 : ∀ q ∈ zt_233_0, decode (zcc 233) q.1 = .ok (q.2.1, q.2.2) := by decide +kernel
theorem zd_233 : ∀ q ∈ zt_233, decode (zcc 233) q.1 = .ok (q.2.1, q.2.2) := zd_233_0
set_option maxRecDepth 100000 in
theorem zd_234_0 : ∀ q ∈ zt_234_0, decode (zcc 234) q.1 = .ok (q.2.1, q.2.2) := by decide +kernel
theorem zd_234 : ∀ q ∈ zt_234, decode (zcc 234) q.1 = .ok (q.2.1, q.2.2) := zd_234_0
set_option maxRecDepth 100000 in
theorem zd_235_0 : ∀ q ∈ zt_235_0, decode (zcc 235) q.1 = .ok (q.2.1, q.2.2) := by decide +kernel
set_option maxRecDepth 100000 in
theorem zd_235_1 : ∀ q ∈ zt_235_1, decode (zcc 235) q.1 = .ok (q.2.1, q.2.2) := by decide +kernel
set_option maxRecDepth 100000 in
theorem zd_235_2 : ∀ q ∈ zt_235_2, decode (zcc 235) q.1 = .ok (q.2.1, q.2.2) := by decide +kernel
set_option maxRecDepth 100000 in
theorem zd_235_3 : ∀ q ∈ zt_235_3, decode (zcc 235) q.1 = .ok (q.2.1, q.2.2) := by decide +kernel
set_option maxRecDepth 100000 in
theorem zd_235_4 : ∀ q ∈ zt_235_4, decode (zcc 235) q.1 = .ok (q.2.1, q.2.2) := by decide +kernel
set_option maxRecDepth 100000 in
theorem zd_235_5 : ∀ q ∈ zt_235_5, decode (zcc 235) q.1 = .ok (q.2.1, q.2.2) := by decide +kernel
set_option maxRecDepth 100000 in
theorem zd_235_6 : ∀ q ∈ zt_235_6, decode (zcc 235) q.1 = .ok (q.2.1, q.2.2) := by decide +kernel
set_option maxRecDepth 100000 in
theorem zd_235_7 : ∀ q ∈ zt_235_7, decode (zcc 235) q.1 = .ok (q.2.1, q.2.2) := by decide +kernel
set_option maxRecDepth 100000 in
theorem zd_235_8 : ∀ q ∈ zt_235_8, decode (zcc 235) q.1 = .ok (q.2.1, q.2.2) := by decide +kernel
set_option maxRecDepth 100000 in
theorem zd_235_9 : ∀ q ∈ zt_235_9, decode (zcc 235) q.1 = .ok (q.2.1, q.2.2) := by decide +kernel
set_option maxRecDepth 100000 in
theorem zd_235_10 : ∀ q ∈ zt_235_10, decode (zcc 235) q.1 = .ok (q.2.1, q.2.2) := by decide +kernel
set_option maxRecDepth 100000 in
theorem zd_235_11 : ∀ q ∈ zt_235_11, decode (zcc 235) q.1 = .ok (q.2.1, q.2.2) := by decide +kernel
set_option maxRecDepth 100000 in
theorem zd_235_12 : ∀ q ∈ zt_235_12, decode (zcc 235) q.1 = .ok (q.2.1, q.2.2) := by decide +kernel
set_option maxRecDepth 100000 in
theorem zd_235_13 : ∀ q ∈ zt_235_13, decode (zcc 235) q.1 = .ok (q.2.1, q.2.2) := by decide +kernel
set_option maxRecDepth 100000 in
theorem zd_235_14 : ∀ q ∈ zt_235_14, decode (zcc 235) q.1 = .ok (q.2.1, q.2.2) := by decide +kernel
set_option maxRecDepth 100000 in
theorem zd_235_15 : ∀ q ∈ zt_235_15, decode (zcc 235) q.1 = .ok (q.2.1, q.2.2) := by decide +kernel
set_option maxRecDepth 100000 in
theorem zd_235_16 : ∀ q ∈ zt_235_16, decode (zcc 235) q.1 = .ok (q.2.1, q.2.2) := by decide +kernel
set_option maxRecDepth 100000 in
theorem zd_235_17 : ∀ q ∈ zt_235_17, decode (zcc 235) q.1 = .ok (q.2.1, q.2.2) := by decide +kernel
set_option maxRecDepth 100000 in
theorem zd_235_18 : ∀ q ∈ zt_235_18, decode (zcc 235) q.1 = .ok (q.2.1, q.2.2) := by decide +kernel
set_option maxRecDepth 100000 in
theorem zd_235_19 : ∀ q ∈ zt_235_19, decode (zcc 235) q.1 = .ok (q.2.1, q.2.2) := by decide +kernel
set_option maxRecDepth 100000 in
theorem zd_235_20 : ∀ q ∈ zt_235_20, decode (zcc 235) q.1 = .ok (q.2.1, q.2.2) := by decide +kernel
set_option maxRecDepth 100000 in
theorem zd_235_21 : ∀ q ∈ zt_235_21, decode (zcc 235) q.1 = .ok (q.2.1, q.2.2) := by decide +kernel
set_option maxRecDepth 100000 in
theorem zd_235_22 : ∀ q ∈ zt_235_22, decode (zcc 235) q.1 = .ok (q.2.1, q.2.2) := by decide +kernel
set_option maxRecDepth 100000 in
theorem zd_235_23 : ∀ q ∈ zt_235_23, decode (zcc 235) q.1 = .ok (q.2.1, q.2.2) := by decide +kernel
set_option maxRecDepth 100000 in
theorem zd_235_24 : ∀ q ∈ zt_235_24, decode (zcc 235) q.1 = .ok (q.2.1, q.2.2) := by decide +kernel
set_option maxRecDepth 100000 in
theorem zd_235_25 : ∀ q ∈ zt_235_25, decode (zcc 235) q.1 = .ok (q.2.1, q.2.2) := by decide +kernel
set_option maxRecDepth 100000 in
theorem zd_235_26 : ∀ q ∈ zt_235_26, decode (zcc 235) q.1 = .ok (q.2.1, q.2.2) := by decide +kernel
set_option maxRecDepth 100000 in
theorem zd_235_27 : ∀ q ∈ zt_235_27, decode (zcc 235) q.1 = .ok (q.2.1, q.2.2) := by decide +kernel
set_option maxRecDepth 100000 in
theorem zd_235_28 : ∀ q ∈ zt_235_28, decode (zcc 235) q.1 = .ok (q.2.1, q.2.2) := by decide +kernel
set_option maxRecDepth 100000 in
theorem zd_235_29 : ∀ q ∈ zt_235_29, decode (zcc 235) q.1 = .ok (q.2.1, q.2.2) := by decide +kernel
set_option maxRecDepth 100000 in
theorem zd_235_30 : ∀ q ∈ zt_235_30, decode (zcc 235) q.1 = .ok (q.2.1, q.2.2) := by decide +kernel
theorem zd_235 : ∀ q ∈ zt_235, decode (zcc 235) q.1 = .ok (q.2.1, q.2.2) := (List.forall_mem_append.mpr ⟨zd_235_0, (List.forall_mem_append.mpr ⟨zd_235_1, (List.forall_mem_append.mpr ⟨zd_235_2, (List.forall_mem_append.mpr ⟨zd_235_3, (List.forall_mem_append.mpr ⟨zd_235_4, (List.forall_mem_append.mpr ⟨zd_235_5, (List.forall_mem_append.mpr ⟨zd_235_6, (List.forall_mem_append.mpr ⟨zd_235_7, (List.forall_mem_append.mpr ⟨zd_235_8, (List.forall_mem_append.mpr ⟨zd_235_9, (List.forall_mem_append.mpr ⟨zd_235_10, (List.forall_mem_append.mpr ⟨zd_235_11, (List.forall_mem_append.mpr ⟨zd_235_12, (List.forall_mem_append.mpr ⟨zd_235_13, (List.forall_mem_append.mpr ⟨zd_235_14, (List.forall_mem_append.mpr ⟨zd_235_15, (List.forall_mem_append.mpr ⟨zd_235_16, (List.forall_mem_append.mpr ⟨zd_235_17, (List.forall_mem_append.mpr ⟨zd_235_18, (List.forall_mem_append.mpr ⟨zd_235_19, (List.forall_mem_append.mpr ⟨zd_235_20, (List.forall_mem_append.mpr ⟨zd_235_21, (List.forall_mem_append.mpr ⟨zd_235_22, (List.forall_mem_append.mpr ⟨zd_235_23, (List.forall_mem_append.mpr ⟨zd_235_24, (List.forall_mem_append.mpr ⟨zd_235_25, (List.forall_mem_append.mpr ⟨zd_235_26, (List.forall_mem_append.mpr ⟨zd_235_27, (List.forall_mem_append.mpr ⟨zd_235_28, (List.forall_mem_append.mpr ⟨zd_235_29, zd_235_30⟩)⟩)⟩)⟩)⟩)⟩)⟩)⟩)⟩)⟩)⟩)⟩)⟩)⟩)⟩)⟩)⟩)⟩)⟩)⟩)⟩)⟩)⟩)⟩)⟩)⟩)⟩)⟩)⟩)⟩)
set_option maxRecDepth 100000 in
theorem zd_236_0 : ∀ q ∈ zt_236_0, decode (zcc 236) q.1 = .ok (q.2.1, q.2.2) := by decide +kernel
theorem zd_236 : ∀ q ∈ zt_236, decode (zcc 236) q.1 = .ok (q.2.1, q.2.2) := zd_236_0
set_option maxRecDepth 100000 in
theorem zd_237_0 : ∀ q ∈ zt_237_0, decode (zcc 237) q.1 = .ok (q.2.1, q.2.2) := by decide +kernel
theorem zd_237 : ∀ q ∈ zt_237, decode (zcc 237) q.1 = .ok (q.2.1, q.2.2) := zd_237_0
set_option maxRecDepth 100000 in
theorem zd_238_0 : ∀ q ∈ zt_238_0, decode (zcc 238) q.1 = .ok (q.2.1, q.2.2) := by decide +kernel
theorem zd_238 : ∀ q ∈ zt_238, decode (zcc 238) q.1 = .ok (q.2.1, q.2.2) := zd_238_0
set_option maxRecDepth 100000 in
theorem zd_239_0 : ∀ q ∈ zt_239_0, decode (zcc 239) q.1 = .ok (q.2.1, q.2.2) := by decide +kernel
theorem zd_239 : ∀ q ∈ zt_239, decode (zcc 239) q.1 = .ok (q.2.1, q.2.2) := zd_239_0
set_option maxRecDepth 100000 in
theorem zd_240_0 : ∀ q ∈ zt_240_0, decode (zcc 240) q.1 = .ok (q.2.1, q.2.2) := by decide +kernel
theorem zd_240 : ∀ q ∈ zt_240, decode (zcc 240) q.1 = .ok (q.2.1, q.2.2) := zd_240_0
set_option maxRecDepth 100000 in
theorem zd_241_0 : ∀ q ∈ zt_241_0, decode (zcc 241) q.1 = .ok (q.2.1, q.2.2) := by decide +kernel
theorem zd_241 : ∀ q ∈ zt_241, decode (zcc 241) q.1 = .ok (q.2.1, q.2.2) := zd_241_0
set_option maxRecDepth 100000 in
theorem zd_242_0 : ∀ q ∈ zt_242_0, decode (zcc 242) q.1 = .ok (q.2.1, q.2.2) := by decide +kernel
theorem zd_242 : ∀ q ∈ zt_242, decode (zcc 242) q.1 = .ok (q.2.1, q.2.2) := zd_242_0
set_option maxRecDepth 100000 in
theorem zd_243_0 : ∀ q ∈ zt_243_0, decode (zcc 243) q.1 = .ok (q.2.1, q.2.2) := by decide +kernel
theorem zd_243 : ∀ q ∈ zt_243, decode (zcc 243) q.1 = .ok (q.2.1, q.2.2) := zd_243_0
set_option maxRecDepth 100000 in
theorem zd_244_0 : ∀ q ∈ zt_244_0, decode (zcc 244) q.1 = .ok (q.2.1, q.2.2) := by decide +kernel
theorem zd_244 : ∀ q ∈ zt_244, decode (zcc 244) q.1 = .ok (q.2.1, q.2.2) := zd_244_0
set_option maxRecDepth 100000 in
theorem zd_245_0 : ∀ q ∈ zt_245_0, decode (zcc 245) q.1 = .ok (q.2.1, q.2.2) := by decide +kernel
theorem zd_245 : ∀ q ∈ zt_245, decode (zcc 245) q.1 = .ok (q.2.1, q.2.2) := zd_245_0
set_option maxRecDepth 100000 in
theorem zd_246_0 : ∀ q ∈ zt_246_0, decode (zcc 246) q.1 = .ok (q.2.1, q.2.2) := by decide +kernel
theorem zd_246 : ∀ q ∈ zt_246, decode (zcc 246) q.1 = .ok (q.2.1, q.2.2) := zd_246_0
set_option maxRecDepth 100000 in
theorem zd_247_0 : ∀ q ∈ zt_247_0, decode (zcc 247) q.1 = .ok (q.2.1, q.2.2) := by decide +kernel
theorem zd_247 : ∀ q ∈ zt_247, decode (zcc 247) q.1 = .ok (q.2.1, q.2.2) := zd_247_0
set_option maxRecDepth 100000 in
theorem zd_248_0 : ∀ q ∈ zt_248_0, decode (zcc 248) q.1 = .ok (q.2.1, q.2.2) := by decide +kernel
theorem zd_248 : ∀ q ∈ zt_248, decode (zcc 248) q.1 = .ok (q.2.1, q.2.2) := zd_248_0
set_option maxRecDepth 100000 in
theorem zd_249_0 : ∀ q ∈ zt_249_0, decode (zcc 249) q.1 = .ok (q.2.1, q.2.2) := by decide +kernel
theorem zd_249 : ∀ q ∈ zt_249, decode (zcc 249) q.1 = .ok (q.2.1, q.2.2) := zd_249_0
set_option maxRecDepth 100000 in
theorem zd_250_0 : ∀ q ∈ zt_250_0, decode (zcc 250) q.1 = .ok (q.2.1, q.2.2) := by decide +kernel
theorem zd_250 : ∀ q ∈ zt_250, decode (zcc 250) q.1 = .ok (q.2.1, q.2.2) := zd_250_0
set_option maxRecDepth 100000 in
theorem zd_251_0 : ∀ q ∈ zt_251_0, decode (zcc 251) q.1 = .ok (q.2.1, q.2.2) := by decide +kernel
theorem zd_251 : ∀ q ∈ zt_251, decode (zcc 251) q.1 = .ok (q.2.1, q.2.2) := zd_251_0
set_option maxRecDepth 100000 in
theorem zd_252_0 : ∀ q ∈ zt_252_0, decode (zcc 252) q.1 = .ok (q.2.1, q.2.2) := by decide +kernel
theorem zd_252 : ∀ q ∈ zt_252, decode (zcc 252) q.1 = .ok (q.2.1, q.2.2) := zd_252_0
set_option maxRecDepth 100000 in
theorem zd_253_0 : ∀ q ∈ zt_253_0, decode (zcc 253) q.1 = .ok (q.2.1, q.2.2) := by decide +kernel
theorem zd_253 : ∀ q ∈ zt_253, decode (zcc 253) q.1 = .ok (q.2.1, q.2.2) := zd_253_0
set_option maxRecDepth 100000 in
theorem zd_254_0 : ∀ q ∈ zt_254_0, decode (zcc 254) q.1 = .ok (q.2.1, q.2.2) := by decide +kernel
theorem zd_254 : ∀ q ∈ zt_254, decode (zcc 254) q.1 = .ok (q.2.1, q.2.2) := zd_254_0
set_option maxRecDepth 100000 in
theorem zd_255_0 : ∀ q ∈ zt_255_0, decode (zcc 255) q.1 = .ok (q.2.1, q.2.2) := by decide +kernel
set_option maxRecDepth 100000 in
theorem zd_255_1 : ∀ q ∈ zt_255_1, decode (zcc 255) q.1 = .ok (q.2.1, q.2.2) := by decide +kernel
theorem zd_255 : ∀ q ∈ zt_255, decode (zcc 255) q.1 = .ok (q.2.1, q.2.2) := (List.forall_mem_append.mpr ⟨zd_255_0, zd_255_1⟩)
set_option maxRecDepth 100000 in
theorem zd_256_0 : ∀ q ∈ zt_256_0, decode (zcc 256) q.1 = .ok (q.2.1, q.2.2) := by decide +kernel
theorem zd_256 : ∀ q ∈ zt_256, decode (zcc 256) q.1 = .ok (q.2.1, q.2.2) := zd_256_0
set_option maxRecDepth 100000 in
theorem zd_257_0 : ∀ q ∈ zt_257_0, decode (zcc 257) q.1 = .ok (q.2.1, q.2.2) := by decide +kernel
set_option maxRecDepth 100000 in
theorem zd_257_1 : ∀ q ∈ zt_257_1, decode (zcc 257) q.1 = .ok (q.2.1, q.2.2) := by decide +kernel
theorem zd_257 : ∀ q ∈ zt_257, decode (zcc 257) q.1 = .ok (q.2.1, q.2.2) := (List.forall_mem_append.mpr ⟨zd_257_0, zd_257_1⟩)
set_option maxRecDepth 100000 in
theorem zd_258_0 : ∀ q ∈ zt_258_0, decode (zcc 258) q.1 = .ok (q.2.1, q.2.2) := by decide +kernel
theorem zd_258 : ∀ q ∈ zt_258, decode (zcc 258) q.1 = .ok (q.2.1, q.2.2) := zd_258_0
set_option maxRecDepth 100000 in
theorem zd_259_0 : ∀ q ∈ zt_259_0, decode (zcc 259) q.1 = .ok (q.2.1, q.2.2) := by decide +kernel
theorem zd_259 : ∀ q ∈ zt_259, decode (zcc 259) q.1 = .ok (q.2.1, q.2.2) := zd_259_0
set_option maxRecDepth 100000 in
theorem zd_260_0 : ∀ q ∈ zt_260_0, decode (zcc 260) q.1 = .ok (q.2.1, q.2.2) := by decide +kernel
set_option maxRecDepth 100000 in
theorem zd_260_1 : ∀ q ∈ zt_260_1, decode (zcc 260) q.1 = .ok (q.2.1, q.2.2) := by decide +kernel
theorem zd_260 : ∀ q ∈ zt_260, decode (zcc 260) q.1 = .ok (q.2.1, q.2.2) := (List.forall_mem_append.mpr ⟨zd_260_0, zd_260_1⟩)
set_option maxRecDepth 100000 in
theorem zd_261_0 : ∀ q ∈ zt_261_0, decode (zcc 261) q.1 = .ok (q.2.1, q.2.2) := by decide +kernel
theorem zd_261 : ∀ q ∈ zt_261, decode (zcc 261) q.1 = .ok (q.2.1, q.2.2) := zd_261_0
set_option maxRecDepth 100000 in
theorem zd_262_0 : ∀ q ∈ zt_262_0, decode (zcc 262) q.1 = .ok (q.2.1, q.2.2) := by decide +kernel
theorem zd_262 : ∀ q ∈ zt_262, decode (zcc 262) q.1 = .ok (q.2.1, q.2.2) := zd_262_0
set_option maxRecDepth 100000 in
theorem zd_263_0 : ∀ q ∈ zt_263_0, decode (zcc 263) q.1 = .ok (q.2.1, q.2.2) := by decide +kernel
theorem zd_263 : ∀ q ∈ zt_263, decode (zcc 263) q.1 = .ok (q.2.1, q.2.2) := zd_263_0
set_option maxRecDepth 100000 in
theorem zd_264_0 : ∀ q ∈ zt_264_0, decode (zcc 264) q.1 = .ok (q.2.1, q.2.2) := by decide +kernel
theorem zd_264 : ∀ q ∈ zt_264, decode (zcc 264) q.1 = .ok (q.2.1, q.2.2) := zd_264_0
set_option maxRecDepth 100000 in
theorem zd_265_0 : ∀ q ∈ zt_265_0, decode (zcc 265) q.1 = .ok (q.2.1, q.2.2) := by decide +kernel
theorem zd_265 : ∀ q ∈ zt_265, decode (zcc 265) q.1 = .ok (q.2.1, q.2.2) := zd_265_0
theorem zdec : ∀ (mi : Nat) (q : Nat × Instr × Nat), q ∈ ztb mi → decode (zcc mi) q.1 = .ok (q.2.1, q.2.2)
  | 0, _, h => nomatch h
  | 1, q, h => zd_1 q h
  | 2, q, h => zd_2 q h
  | 3, q, h => zd_3 q h
  | 4, q, h => zd_4 q h
  | 5, q, h => zd_5 q h
  | 6, _, h => nomatch h
  | 7, q, h => zd_7 q h
  | 8, q, h => zd_8 q h
  | 9, q, h => zd_9 q h
  | 10, q, h => zd_10 q h
  | 11, q, h => zd_11 q h
  | 12, q, h => zd_12 q h
  | 13, q, h => zd_13 q h
  | 14, q, h => zd_14 q h
  | 15, q, h => zd_15 q h
  | 16, q, h => zd_16 q h
  | 17, q, h => zd_17 q h
  | 18, q, h => zd_18 q h
  | 19, q, h => zd_19 q h
  | 20, q, h => zd_20 q h
  | 21, q, h => zd_21 q h
  | 22, q, h => zd_22 q h
  | 23, q, h => zd_23 q h
  | 24, q, h => zd_24 q h
  | 25, q, h => zd_25 q h
  | 26, _, h => nomatch h
  | 27, q, h => zd_27 q h
  | 28, q, h => zd_28 q h
  | 29, q, h => zd_29 q h
  | 30, q, h => zd_30 q h
  | 31, q, h => zd_31 q h
  | 32, q, h => zd_32 q h
  | 33, q, h => zd_33 q h
  | 34, q, h => zd_34 q h
  | 35, q, h => zd_35 q h
  | 36, q, h => zd_36 q h
  | 37, q, h => zd_37 q h
  | 38, q, h => zd_38 q h
  | 39, q, h => zd_39 q h
  | 40, q, h => zd_40 q h
  | 41, q, h => zd_41 q h
  | 42, _, h => nomatch h
  | 43, q, h => zd_43 q h
  | 44, q, h => zd_44 q h
  | 45, q, h => zd_45 q h
  | 46, q, h => zd_46 q h
  | 47, q, h => zd_47 q h
  | 48, q, h => zd_48 q h
  | 49, q, h => zd_49 q h
  | 50, q, h => zd_50 q h
  | 51, q, h => zd_51 q h
  | 52, q, h => zd_52 q h
  | 53, q, h => zd_53 q h
  | 54, q, h => zd_54 q h
  | 55, q, h => zd_55 q h
  | 56, q, h => zd_56 q h
  | 57, q, h => zd_57 q h
  | 58, q, h => zd_58 q h
  | 59, _, h => nomatch h
  | 60, q, h => zd_60 q h
  | 61, q, h => zd_61 q h
  | 62, q, h => zd_62 q h
  | 63, q, h => zd_63 q h
  | 64, q, h => zd_64 q h
  | 65, q, h => zd_65 q h
  | 66, q, h => zd_66 q h
  | 67, q, h => zd_67 q h
  | 68, q, h => zd_68 q h
  | 69, q, h => zd_69 q h
  | 70, q, h => zd_70 q h
  | 71, q, h => zd_71 q h
  | 72, q, h => zd_72 q h
  | 73, _, h => nomatch h
  | 74, q, h => zd_74 q h
  | 75, q, h => zd_75 q h
  | 76, q, h => zd_76 q h
  | 77, q, h => zd_77 q h
  | 78, q, h => zd_78 q h
  | 79, q, h => zd_79 q h
  | 80, q, h => zd_80 q h
  | 81, q, h => zd_81 q h
  | 82, _, h => nomatch h
  | 83, q, h => zd_83 q h
  | 84, q, h => zd_84 q h
  | 85, q, h => zd_85 q h
  | 86, q, h => zd_86 q h
  | 87, q, h => zd_87 q h
  | 88, _, h => nomatch h
  | 89, q, h => zd_89 q h
  | 90, q, h => zd_90 q h
  | 91, _, h => nomatch h
  | 92, q, h => zd_92 q h
  | 93, q, h => zd_93 q h
  | 94, q, h => zd_94 q h
  | 95, q, h => zd_95 q h
  | 96, q, h => zd_96 q h
  | 97, q, h => zd_97 q h
  | 98, q, h => zd_98 q h
  | 99, q, h => zd_99 q h
  | 100, q, h => zd_100 q h
  | 101, q, h => zd_101 q h
  | 102, q, h => zd_102 q h
  | 103, q, h => zd_103 q h
  | 104, q, h => zd_104 q h
  | 105, q, h => zd_105 q h
  | 106, _, h => nomatch h
  | 107, q, h => zd_107 q h
  | 108, q, h => zd_108 q h
  | 109, q, h => zd_109 q h
  | 110, q, h => zd_110 q h
  | 111, q, h => zd_111 q h
  | 112, q, h => zd_112 q h
  | 113, q, h => zd_113 q h
  | 114, q, h => zd_114 q h
  | 115, q, h => zd_115 q h
  | 116, q, h => zd_116 q h
  | 117, q, h => zd_117 q h
  | 118, q, h => zd_118 q h
  | 119, q, h => zd_119 q h
  | 120, q, h => zd_120 q h
  | 121, q, h => zd_121 q h
  | 122, q, h => zd_122 q h
  | 123, q, h => zd_123 q h
  | 124, q, h => zd_124 q h
  | 125, q, h => zd_125 q h
  | 126, q, h => zd_126 q h
  | 127, q, h => zd_127 q h
  | 128, q, h => zd_128 q h
  | 129, q, h => zd_129 q h
  | 130, q, h => zd_130 q h
  | 131, q, h => zd_131 q h
  | 132, _, h => nomatch h
  | 133, _, h => nomatch h
  | 134, q, h => zd_134 q h
  | 135, q, h => zd_135 q h
  | 136, q, h => zd_136 q h
  | 137, q, h => zd_137 q h
  | 138, q, h => zd_138 q h
  | 139, q, h => zd_139 q h
  | 140, q, h => zd_140 q h
  | 141, q, h => zd_141 q h
  | 142, q, h => zd_142 q h
  | 143, q, h => zd_143 q h
  | 144, q, h => zd_144 q h
  | 145, q, h => zd_145 q h
  | 146, q, h => zd_146 q h
  | 147, q, h => zd_147 q h
  | 148, q, h => zd_148 q h
  | 149, q, h => zd_149 q h
  | 150, q, h => zd_150 q h
  | 151, q, h => zd_151 q h
  | 152, q, h => zd_152 q h
  | 153, q, h => zd_153 q h
  | 154, q, h => zd_154 q h
  | 155, q, h => zd_155 q h
  | 156, q, h => zd_156 q h
  | 157, q, h => zd_157 q h
  | 158, q, h => zd_158 q h
  | 159, q, h => zd_159 q h
  | 160, q, h => zd_160 q h
  | 161, q, h => zd_161 q h
  | 162, q, h => zd_162 q h
  | 163, q, h => zd_163 q h
  | 164, q, h => zd_164 q h
  | 165, q, h => zd_165 q h
  | 166, q, h => zd_166 q h
  | 167, q, h => zd_167 q h
  | 168, q, h => zd_168 q h
  | 169, q, h => zd_169 q h
  | 170, q, h => zd_170 q h
  | 171, q, h => zd_171 q h
  | 172, q, h => zd_172 q h
  | 173, q, h => zd_173 q h
  | 174, q, h => zd_174 q h
  | 175, q, h => zd_175 q h
  | 176, q, h => zd_176 q h
  | 177, q, h => zd_177 q h
  | 178, q, h => zd_178 q h
  | 179, q, h => zd_179 q h
  | 180, q, h => zd_180 q h
  | 181, q, h => zd_181 q h
  | 182, q, h => zd_182 q h
  | 183, q, h => zd_183 q h
  | 184, q, h => zd_184 q h
  | 185, q, h => zd_185 q h
  | 186, q, h => zd_186 q h
  | 187, q, h => zd_187 q h
  | 188, q, h => zd_188 q h
  | 189, q, h => zd_189 q h
  | 190, q, h => zd_190 q h
  | 191, q, h => zd_191 q h
  | 192, q, h => zd_192 q h
  | 193, q, h => zd_193 q h
  | 194, q, h => zd_194 q h
  | 195, q, h => zd_195 q h
  | 196, q, h => zd_196 q h
  | 197, q, h => zd_197 q h
  | 198, q, h => zd_198 q h
  | 199, q, h => zd_199 q h
  | 200, q, h => zd_200 q h
  | 201, q, h => zd_201 q h
  | 202, q, h => zd_202 q h
  | 203, q, h => zd_203 q h
  | 204, q, h => zd_204 q h
  | 205, q, h => zd_205 q h
  | 206, q, h => zd_206 q h
  | 207, q, h => zd_207 q h
  | 208, q, h => zd_208 q h
  | 209, q, h => zd_209 q h
  | 210, q, h => zd_210 q h
  | 211, q, h => zd_211 q h
  | 212, q, h => zd_212 q h
  | 213, q, h => zd_213 q h
  | 214, q, h => zd_214 q h
  | 215, q, h => zd_215 q h
  | 216, q, h => zd_216 q h
  | 217, q, h => zd_217 q h
  | 218, q, h => zd_218 q h
  | 219, q, h => zd_219 q h
  | 220, q, h => zd_220 q h
  | 221, q, h => zd_221 q h
  | 222, q, h => zd_222 q h
  | 223, q, h => zd_223 q h
  | 224, q, h => zd_224 q h
  | 225, q, h => zd_225 q h
  | 226, q, h => zd_226 q h
  | 227, q, h => zd_227 q h
  | 228, q, h => zd_228 q h
  | 229, q, h => zd_229 q h
  | 230, q, h => zd_230 q h
  | 231, q, h => zd_231 q h
  | 232, q, h => zd_232 q h
  | 233, q, h => zd_233 q h
  | 234, q, h => zd_234 q h
  | 235, q, h => zd_235 q h
  | 236, q, h => zd_236 q h
  | 237, q, h => zd_237 q h
  | 238, q, h => zd_238 q h
  | 239, q, h => zd_239 q h
  | 240, q, h => zd_240 q h
  | 241, q, h => zd_241 q h
  | 242, q, h => zd_242 q h
  | 243, q, h => zd_243 q h
  | 244, q, h => zd_244 q h
  | 245, q, h => zd_245 q h
  | 246, q, h => zd_246 q h
  | 247, q, h => zd_247 q h
  | 248, q, h => zd_248 q h
  | 249, q, h => zd_249 q h
  | 250, q, h => zd_250 q h
  | 251, q, h => zd_251 q h
  | 252, q, h => zd_252 q h
  | 253, q, h => zd_253 q h
  | 254, q, h => zd_254 q h
  | 255, q, h => zd_255 q h
  | 256, q, h => zd_256 q h
  | 257, q, h => zd_257 q h
  | 258, q, h => zd_258 q h
  | 259, q, h => zd_259 q h
  | 260, q, h => zd_260 q h
  | 261, q, h => zd_261 q h
  | 262, q, h => zd_262 q h
  | 263, q, h => zd_263 q h
  | 264, q, h => zd_264 q h
  | 265, q, h => zd_265 q h
  | n + 266, _, h => nomatch h

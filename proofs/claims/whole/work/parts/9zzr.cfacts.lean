/-! ===== words and defaults for what the class's constructor makes ===== -/
theorem zcw_88 : Cond.code (zym 88) (zcc 88) 1 none ∈ zAL ∧ Cond.initialized (zym 88).cls ∈ zAL ∧ Cond.instanceMethod (zym 88) ∈ zAL ∧ Cond.methodLink RX9 9 (zym 88) ∈ zAL := ⟨zmem1 38 (by decide +kernel) (by decide +kernel), zmem1 2 (by decide +kernel) (by decide +kernel), zmem1 37 (by decide +kernel) (by decide +kernel), zmem1 36 (by decide +kernel) (by decide +kernel)⟩
theorem zcn_88 : Cond.classLink RX9 7 RX7 ∈ zAL ∧ Cond.instantiable RX7 2 ∈ zAL ∧ Cond.initialized RX7 ∈ zAL := ⟨zmem1 34 (by decide +kernel) (by decide +kernel), zmem1 35 (by decide +kernel) (by decide +kernel), zmem1 2 (by decide +kernel) (by decide +kernel)⟩
theorem zcd_88 : (parseMethodDescriptor (zym 88).desc).map (fun d => d.parameters.length) = some 0 := by decide +kernel
theorem zdv_7 : ∀ j, j < 2 → defaultValue (tyX7 j) = vp_V [.null, .int 0] j
  | 0, _ => rfl
  | 1, _ => rfl
  | n + 2, h => by omega
theorem zcw_91 : Cond.code (zym 91) (zcc 91) 4 none ∈ zAL ∧ Cond.initialized (zym 91).cls ∈ zAL ∧ Cond.instanceMethod (zym 91) ∈ zAL ∧ Cond.methodLink RX9 18 (zym 91) ∈ zAL := ⟨zmem1 54 (by decide +kernel) (by decide +kernel), zmem1 3 (by decide +kernel) (by decide +kernel), zmem1 53 (by decide +kernel) (by decide +kernel), zmem1 52 (by decide +kernel) (by decide +kernel)⟩
theorem zcn_91 : Cond.classLink RX9 16 RX8 ∈ zAL ∧ Cond.instantiable RX8 5 ∈ zAL ∧ Cond.initialized RX8 ∈ zAL := ⟨zmem1 50 (by decide +kernel) (by decide +kernel), zmem1 51 (by decide +kernel) (by decide +kernel), zmem1 3 (by decide +kernel) (by decide +kernel)⟩
theorem zcd_91 : (parseMethodDescriptor (zym 91).desc).map (fun d => d.parameters.length) = some 0 := by decide +kernel
theorem zdv_8 : ∀ j, j < 5 → defaultValue (tyX8 j) = vp_V [.null, .null, .null, .null, .int 0] j
  | 0, _ => rfl
  | 1, _ => rfl
  | 2, _ => rfl
  | 3, _ => rfl
  | 4, _ => rfl
  | n + 5, h => by omega
theorem zcw_0 : Cond.code (zym 0) (zcc 0) 1 none ∈ zAL ∧ Cond.initialized (zym 0).cls ∈ zAL ∧ Cond.instanceMethod (zym 0) ∈ zAL ∧ Cond.methodLink RX9 25 (zym 0) ∈ zAL := ⟨zmem1 128 (by decide +kernel) (by decide +kernel), zmem1 8 (by decide +kernel) (by decide +kernel), zmem1 127 (by decide +kernel) (by decide +kernel), zmem1 126 (by decide +kernel) (by decide +kernel)⟩
theorem zcn_0 : Cond.classLink RX9 23 RX0 ∈ zAL ∧ Cond.instantiable RX0 3 ∈ zAL ∧ Cond.initialized RX0 ∈ zAL := ⟨zmem1 124 (by decide +kernel) (by decide +kernel), zmem1 125 (by decide +kernel) (by decide +kernel), zmem1 8 (by decide +kernel) (by decide +kernel)⟩
theorem zcd_0 : (parseMethodDescriptor (zym 0).desc).map (fun d => d.parameters.length) = some 0 := by decide +kernel
theorem zdv_0 : ∀ j, j < 3 → defaultValue (tyX0 j) = vp_V [.null, .null, .int 0] j
  | 0, _ => rfl
  | 1, _ => rfl
  | 2, _ => rfl
  | n + 3, h => by omega
theorem zcw_6 : Cond.code (zym 6) (zcc 6) 3 none ∈ zAL ∧ Cond.initialized (zym 6).cls ∈ zAL ∧ Cond.instanceMethod (zym 6) ∈ zAL ∧ Cond.methodLink RX9 32 (zym 6) ∈ zAL := ⟨zmem1 145 (by decide +kernel) (by decide +kernel), zmem1 9 (by decide +kernel) (by decide +kernel), zmem1 144 (by decide +kernel) (by decide +kernel), zmem1 143 (by decide +kernel) (by decide +kernel)⟩
theorem zcn_6 : Cond.classLink RX9 30 RX1 ∈ zAL ∧ Cond.instantiable RX1 4 ∈ zAL ∧ Cond.initialized RX1 ∈ zAL := ⟨zmem1 141 (by decide +kernel) (by decide +kernel), zmem1 142 (by decide +kernel) (by decide +kernel), zmem1 9 (by decide +kernel) (by decide +kernel)⟩
theorem zcd_6 : (parseMethodDescriptor (zym 6).desc).map (fun d => d.parameters.length) = some 2 := by decide +kernel
theorem zdv_1 : ∀ j, j < 4 → defaultValue (tyX1 j) = vp_V [.null, .null, .int 0, .int 0] j
  | 0, _ => rfl
  | 1, _ => rfl
  | 2, _ => rfl
  | 3, _ => rfl
  | n + 4, h => by omega
theorem zcw_73 : Cond.code (zym 73) (zcc 73) 1 none ∈ zAL ∧ Cond.initialized (zym 73).cls ∈ zAL ∧ Cond.instanceMethod (zym 73) ∈ zAL ∧ Cond.methodLink RX9 41 (zym 73) ∈ zAL := ⟨zmem1 164 (by decide +kernel) (by decide +kernel), zmem1 10 (by decide +kernel) (by decide +kernel), zmem1 163 (by decide +kernel) (by decide +kernel), zmem1 162 (by decide +kernel) (by decide +kernel)⟩
theorem zcn_73 : Cond.classLink RX9 39 RX5 ∈ zAL ∧ Cond.instantiable RX5 8 ∈ zAL ∧ Cond.initialized RX5 ∈ zAL := ⟨zmem1 160 (by decide +kernel) (by decide +kernel), zmem1 161 (by decide +kernel) (by decide +kernel), zmem1 10 (by decide +kernel) (by decide +kernel)⟩
theorem zcd_73 : (parseMethodDescriptor (zym 73).desc).map (fun d => d.parameters.length) = some 0 := by decide +kernel
theorem zdv_5 : ∀ j, j < 8 → defaultValue (tyX5 j) = vp_V [.null, .null, .null, .null, .null, .null, .int 0, .int 0] j
  | 0, _ => rfl
  | 1, _ => rfl
  | 2, _ => rfl
  | 3, _ => rfl
  | 4, _ => rfl
  | 5, _ => rfl
  | 6, _ => rfl
  | 7, _ => rfl
  | n + 8, h => by omega
theorem zcw_59 : Cond.code (zym 59) (zcc 59) 3 none ∈ zAL ∧ Cond.initialized (zym 59).cls ∈ zAL ∧ Cond.instanceMethod (zym 59) ∈ zAL ∧ Cond.methodLink RX9 48 (zym 59) ∈ zAL := ⟨zmem1 202 (by decide +kernel) (by decide +kernel), zmem1 11 (by decide +kernel) (by decide +kernel), zmem1 201 (by decide +kernel) (by decide +kernel), zmem1 200 (by decide +kernel) (by decide +kernel)⟩
theorem zcn_59 : Cond.classLink RX9 46 RX4 ∈ zAL ∧ Cond.instantiable RX4 8 ∈ zAL ∧ Cond.initialized RX4 ∈ zAL := ⟨zmem1 198 (by decide +kernel) (by decide +kernel), zmem1 199 (by decide +kernel) (by decide +kernel), zmem1 11 (by decide +kernel) (by decide +kernel)⟩
theorem zcd_59 : (parseMethodDescriptor (zym 59).desc).map (fun d => d.parameters.length) = some 2 := by decide +kernel
theorem zdv_4 : ∀ j, j < 8 → defaultValue (tyX4 j) = vp_V [.null, .null, .int 0, .int 0, .int 0, .int 0, .int 0, .int 0] j
  | 0, _ => rfl
  | 1, _ => rfl
  | 2, _ => rfl
  | 3, _ => rfl
  | 4, _ => rfl
  | 5, _ => rfl
  | 6, _ => rfl
  | 7, _ => rfl
  | n + 8, h => by omega
theorem zcw_82 : Cond.code (zym 82) (zcc 82) 1 none ∈ zAL ∧ Cond.initialized (zym 82).cls ∈ zAL ∧ Cond.instanceMethod (zym 82) ∈ zAL ∧ Cond.methodLink RX9 57 (zym 82) ∈ zAL := ⟨zmem1 234 (by decide +kernel) (by decide +kernel), zmem1 12 (by decide +kernel) (by decide +kernel), zmem1 233 (by decide +kernel) (by decide +kernel), zmem1 232 (by decide +kernel) (by decide +kernel)⟩
theorem zcn_82 : Cond.classLink RX9 55 RX6 ∈ zAL ∧ Cond.instantiable RX6 10 ∈ zAL ∧ Cond.initialized RX6 ∈ zAL := ⟨zmem1 230 (by decide +kernel) (by decide +kernel), zmem1 231 (by decide +kernel) (by decide +kernel), zmem1 12 (by decide +kernel) (by decide +kernel)⟩
theorem zcd_82 : (parseMethodDescriptor (zym 82).desc).map (fun d => d.parameters.length) = some 0 := by decide +kernel
theorem zdv_6 : ∀ j, j < 10 → defaultValue (tyX6 j) = vp_V [.null, .null, .int 0, .int 0, .int 0, .int 0, .int 0, .int 0, .int 0, .long 0] j
  | 0, _ => rfl
  | 1, _ => rfl
  | 2, _ => rfl
  | 3, _ => rfl
  | 4, _ => rfl
  | 5, _ => rfl
  | 6, _ => rfl
  | 7, _ => rfl
  | 8, _ => rfl
  | 9, _ => rfl
  | n + 10, h => by omega
theorem zcw_26 : Cond.code (zym 26) (zcc 26) 4 none ∈ zAL ∧ Cond.initialized (zym 26).cls ∈ zAL ∧ Cond.instanceMethod (zym 26) ∈ zAL ∧ Cond.methodLink RX9 69 (zym 26) ∈ zAL := ⟨zmem2 81 (by decide +kernel) (by decide +kernel), zmem1 13 (by decide +kernel) (by decide +kernel), zmem2 80 (by decide +kernel) (by decide +kernel), zmem2 79 (by decide +kernel) (by decide +kernel)⟩
theorem zcn_26 : Cond.classLink RX9 62 RX2 ∈ zAL ∧ Cond.instantiable RX2 10 ∈ zAL ∧ Cond.initialized RX2 ∈ zAL := ⟨zmem2 43 (by decide +kernel) (by decide +kernel), zmem2 44 (by decide +kernel) (by decide +kernel), zmem1 13 (by decide +kernel) (by decide +kernel)⟩
theorem zcd_26 : (parseMethodDescriptor (zym 26).desc).map (fun d => d.parameters.length) = some 3 := by decide +kernel
theorem zdv_2 : ∀ j, j < 10 → defaultValue (tyX2 j) = vp_V [.null, .null, .null, .null, .int 0, .int 0, .int 0, .int 0, .int 0, .long 0] j
  | 0, _ => rfl
  | 1, _ => rfl
  | 2, _ => rfl
  | 3, _ => rfl
  | 4, _ => rfl
  | 5, _ => rfl
  | 6, _ => rfl
  | 7, _ => rfl
  | 8, _ => rfl
  | 9, _ => rfl
  | n + 10, h => by omega
theorem zcw_42 : Cond.code (zym 42) (zcc 42) 4 none ∈ zAL ∧ Cond.initialized (zym 42).cls ∈ zAL ∧ Cond.instanceMethod (zym 42) ∈ zAL ∧ Cond.methodLink RX9 66 (zym 42) ∈ zAL := ⟨zmem2 49 (by decide +kernel) (by decide +kernel), zmem1 14 (by decide +kernel) (by decide +kernel), zmem2 48 (by decide +kernel) (by decide +kernel), zmem2 47 (by decide +kernel) (by decide +kernel)⟩
theorem zcn_42 : Cond.classLink RX9 64 RX3 ∈ zAL ∧ Cond.instantiable RX3 9 ∈ zAL ∧ Cond.initialized RX3 ∈ zAL := ⟨zmem2 45 (by decide +kernel) (by decide +kernel), zmem2 46 (by decide +kernel) (by decide +kernel), zmem1 14 (by decide +kernel) (by decide +kernel)⟩
theorem zcd_42 : (parseMethodDescriptor (zym 42).desc).map (fun d => d.parameters.length) = some 3 := by decide +kernel
theorem zdv_3 : ∀ j, j < 9 → defaultValue (tyX3 j) = vp_V [.null, .null, .null, .null, .null, .int 0, .int 0, .int 0, .int 0] j
  | 0, _ => rfl
  | 1, _ => rfl
  | 2, _ => rfl
  | 3, _ => rfl
  | 4, _ => rfl
  | 5, _ => rfl
  | 6, _ => rfl
  | 7, _ => rfl
  | 8, _ => rfl
  | n + 9, h => by omega

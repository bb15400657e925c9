/-! ===== length and charAt of a String constant ===== -/
theorem x_tab : ∀ j, j < 3 → (Int32.ofNat (zSln.getD j 0) >>> ((0 : Int32) &&& 31) = Int32.ofNat (zSln.getD j 0)) ∧ ∀ k, k < zSln.getD j 0 → (((zSbt.getD j []).getD k 0 &&& 255).toUInt32 % 65536).toInt32 = (zSbt.getD j []).getD k 0 ∧ narrow .char (.int ((zSbt.getD j []).getD k 0)) = .int ((zSbt.getD j []).getD k 0) := by decide +kernel
section Xs
variable {RO : zRo} {d : Nat} {P : zP} {I : zI} {J : zJ} {D : zD} {bc bs : Nat} {j : Nat}
theorem x_247 (hj : j < 3) (h : P (.inl (some (.int 0))) I J D) : xx RO (d + 1) 247 [.ref (110 + j)] I J D bc bs P := by
  refine zT_of (Nat.le_of_ble_eq_true rfl) rfl ?_
  show xw RO d 247 P 0 [(0, .ref (110 + j))] [] I J D bc bs
  refine xr_gsC 0 rfl (zmem1 65 (by decide +kernel) (by decide +kernel)) ?_
  refine zr_if xBm 1 13 rfl rfl (fun q1 => ?_) (fun q1 => ?_)
  · exact absurd q1 (by show ¬ ((1 : Int32) = 0); decide)
  · refine zr_aload_n xBm 2 rfl rfl ?_
    refine xr_gfC 3 j rfl hj (zmem8 5 (by decide +kernel) (by decide +kernel)) ?_
    refine zr_goto xBm 4 14 rfl rfl ?_
    refine zr_iret xBm 6 rfl rfl rfl ?_
    exact h
theorem x_248 (hj : j < 3) (h : P (.inl (some (.int 1))) I J D) : xx RO (d + 1) 248 [.ref (110 + j)] I J D bc bs P := by
  refine zT_of (Nat.le_of_ble_eq_true rfl) rfl ?_
  show xw RO d 248 P 0 [(0, .ref (110 + j))] [] I J D bc bs
  refine xr_gsC 0 rfl (zmem1 65 (by decide +kernel) (by decide +kernel)) ?_
  refine zr_if xBm 1 17 rfl rfl (fun q1 => ?_) (fun q1 => ?_)
  · exact absurd q1 (by show ¬ ((1 : Int32) = 0); decide)
  · refine zr_aload_n xBm 2 rfl rfl ?_
    refine xr_gfC 3 j rfl hj (zmem8 5 (by decide +kernel) (by decide +kernel)) ?_
    refine zr_if xBm 4 17 rfl rfl (fun q2 => ?_) (fun q2 => ?_)
    · exact absurd q2 (by show ¬ (¬ ((0 : Int32) = 0)); decide)
    · refine zr_s xBm 5 rfl rfl ?_
      refine zr_goto xBm 6 18 rfl rfl ?_
      refine zr_iret xBm 8 rfl rfl (zn_b (Or.inr rfl)) ?_
      exact h
theorem x_243 (hj : j < 3) (h : P (.inl (some (.int (Int32.ofNat (zSln.getD j 0))))) I J D) : xx RO (d + 2) 243 [.ref (110 + j)] I J D bc bs P := by
  refine zT_of (Nat.le_of_ble_eq_true rfl) rfl ?_
  show xw RO (d + 1) 243 P 0 [(0, .ref (110 + j))] [] I J D bc bs
  refine zr_aload_n xBm 0 rfl rfl ?_
  refine xr_gfV 1 j rfl hj (zmem8 4 (by decide +kernel) (by decide +kernel)) ?_
  refine xr_alenS 2 j rfl hj ?_
  refine zr_aload_n xBm 3 rfl rfl ?_
  refine xr_invS 4 247 0 j [] rfl rfl hj zk_J0_335 zms_247 rfl rfl (Nat.le_of_ble_eq_true rfl) ?_
  refine x_247 hj ?_
  refine zNx_i ?_
  refine zr_s (st' := [.int (Int32.ofNat (zSln.getD j 0))]) xBm 5 rfl (by show some [Value.int (Int32.ofNat (zSln.getD j 0) >>> ((0 : Int32) &&& 31))] = _; rw [(x_tab j hj).1]) ?_
  refine zr_iret xBm 6 rfl rfl rfl ?_
  exact h
theorem x_264 {a b : Int32} (v : Value) (hv : v = .null ∨ v = .ref 130) (h1 : ¬ a < 0) (h2 : a < b) (h : P (.inl (some (.int a))) I J D) : xx RO (d + 1) 264 [.int a, .int b, v] I J D bc bs P := by
  have go : xw RO d 264 P 0 [(0, .int a), (1, .int b), (2, v)] [] I J D bc bs := by
    refine zr_iload_n xBm 0 rfl rfl ?_
    refine zr_if xBm 1 9 rfl rfl (fun q => absurd q h1) (fun _ => ?_)
    refine zr_iload_n xBm 2 rfl rfl ?_
    refine zr_iload_n xBm 3 rfl rfl ?_
    refine zr_ic xBm 4 16 rfl rfl (fun _ => ?_) (fun q => absurd h2 q)
    refine zr_iload_n xBm 10 rfl rfl ?_
    exact zr_iret xBm 11 rfl rfl rfl h
  rcases hv with rfl | rfl
  · exact zT_of (Nat.le_of_ble_eq_true rfl) rfl go
  · exact zT_of (Nat.le_of_ble_eq_true rfl) rfl go
theorem x_249 {a b : Int32} (h1 : ¬ a < 0) (h2 : a < b) (h : P (.inl none) I J D) : xx RO (d + 2) 249 [.int a, .int b] I J D bc bs P := by
  refine zT_of (Nat.le_of_ble_eq_true rfl) rfl ?_
  show xw RO (d + 1) 249 P 0 [(0, .int a), (1, .int b)] [] I J D bc bs
  refine zr_iload_n xBm 0 rfl rfl ?_
  refine zr_iload_n xBm 1 rfl rfl ?_
  refine xr_gsq 2 rfl (zmem1 81 (by decide +kernel) (by decide +kernel)) ?_ ?_
  · refine xr_ins0 3 264 3 [.int a, .int b, .null] rfl rfl zk_J0_1059 zms_264 rfl (Nat.le_of_ble_eq_true rfl) ?_
    refine x_264 .null (Or.inl rfl) h1 h2 ?_
    refine zNx_i ?_
    refine zr_s xBm 4 rfl rfl ?_
    exact zr_vret xBm 5 rfl rfl h
  · refine xr_ins0 3 264 3 [.int a, .int b, .ref 130] rfl rfl zk_J0_1059 zms_264 rfl (Nat.le_of_ble_eq_true rfl) ?_
    refine x_264 (.ref 130) (Or.inr rfl) h1 h2 ?_
    refine zNx_i ?_
    refine zr_s xBm 4 rfl rfl ?_
    exact zr_vret xBm 5 rfl rfl h
theorem x_251 (hj : j < 3) {k : Nat} (hk : k < zSln.getD j 0) (h : P (.inl (some (.int ((zSbt.getD j []).getD k 0)))) I J D) : xx RO (d + 3) 251 [.ref (120 + j), .int (zi (k : Int))] I J D bc bs P := by
  have h9 : zSln.getD j 0 ≤ 149 := by
    have : ∀ j, j < 3 → zSln.getD j 0 ≤ 149 := by decide
    exact this j hj
  have hin : vp_in (zi (k : Int)) (zSln.getD j 0) := zi_in (by omega) (by omega) (by omega)
  have ht := (x_tab j hj).2 k hk
  have e1 : (zi (k : Int)).toNatClampNeg = k := by rw [zi_cl (by omega) (by omega)]; rfl
  refine zT_of (Nat.le_of_ble_eq_true rfl) rfl ?_
  show xw RO (d + 2) 251 P 0 [(0, .ref (120 + j)), (1, .int (zi (k : Int)))] [] I J D bc bs
  refine zr_iload_n xBm 0 rfl rfl ?_
  refine zr_aload_n xBm 1 rfl rfl ?_
  refine xr_alenS 2 j rfl hj ?_
  refine xr_ins0 3 249 2 [.int (zi (k : Int)), .int (Int32.ofNat (zSln.getD j 0))] rfl rfl zk_J1_9 zms_249 rfl (Nat.le_of_ble_eq_true rfl) ?_
  refine x_249 ?_ ?_ ?_
  · rw [show (0 : Int32) = zi 0 from rfl, zi_lt (by omega) (by omega)]
    omega
  · rw [zi_nat, zi_lt (by omega) (by omega)]
    omega
  refine zNx_v ?_
  refine zr_aload_n xBm 4 rfl rfl ?_
  refine zr_iload_n xBm 5 rfl rfl ?_
  refine xr_balS 6 j rfl hj hin ?_
  rw [e1]
  refine zr_sipush xBm 7 255 rfl rfl ?_
  refine zr_s xBm 8 rfl rfl ?_
  refine zr_s (st' := [.int ((zSbt.getD j []).getD k 0)]) xBm 9 rfl (by show some [Value.int (((zSbt.getD j []).getD k 0 &&& 255).toUInt32 % 65536).toInt32] = _; rw [ht.1]) ?_
  exact zr_iret xBm 10 rfl rfl ht.2 h
theorem x_244 (hj : j < 3) {k : Nat} (hk : k < zSln.getD j 0) (h : P (.inl (some (.int ((zSbt.getD j []).getD k 0)))) I J D) : xx RO (d + 4) 244 [.ref (110 + j), .int (zi (k : Int))] I J D bc bs P := by
  have ht := (x_tab j hj).2 k hk
  refine zT_of (Nat.le_of_ble_eq_true rfl) rfl ?_
  show xw RO (d + 3) 244 P 0 [(0, .ref (110 + j)), (1, .int (zi (k : Int)))] [] I J D bc bs
  refine zr_aload_n xBm 0 rfl rfl ?_
  refine xr_invS 1 248 0 j [] rfl rfl hj zk_J0_492 zms_248 rfl rfl (Nat.le_of_ble_eq_true rfl) ?_
  refine x_248 hj ?_
  refine zNx_i ?_
  refine zr_if xBm 2 16 rfl rfl (fun q1 => absurd q1 (by show ¬ ((1 : Int32) = 0); decide)) (fun _ => ?_)
  refine zr_aload_n xBm 3 rfl rfl ?_
  refine xr_gfV 4 j rfl hj (zmem8 4 (by decide +kernel) (by decide +kernel)) ?_
  refine zr_iload_n xBm 5 rfl rfl ?_
  refine xr_ins0 6 251 2 [.ref (120 + j), .int (zi (k : Int))] rfl rfl zk_J0_495 zms_251 rfl (Nat.le_of_ble_eq_true rfl) ?_
  refine x_251 hj hk ?_
  refine zNx_i ?_
  exact zr_iret xBm 7 rfl rfl ht.2 h
end Xs

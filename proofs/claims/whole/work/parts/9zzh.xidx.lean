/-! ===== indexOf of a String constant: walks ===== -/
theorem xe_252 {RO : zRo} {d : Nat} {P : zP} {I : zI} {J : zJ} {D : zD} {bc bs : Nat} {p0 : Int32} (h : P (.inl (some (.int (zv_252 I J p0)))) I J D) : xx RO (d + 1) 252 [.int p0] I J D bc bs P := by
  refine zT_of (Nat.le_of_ble_eq_true rfl) rfl ?_
  show xw RO d 252 P 0 [(0, .int p0)] [] I J D bc bs
  unfold zv_252 at h
  refine zr_iload_n xBm 0 rfl rfl ?_
  refine zr_if xBm 1 15 rfl rfl (fun q1 => ?_) (fun q1 => ?_)
  · rw [if_pos (show (p0 < 0) from q1)] at h
    refine zr_s xBm 7 rfl rfl ?_
    refine zr_iret xBm 8 rfl rfl (zn_b (Or.inl rfl)) ?_
    exact h
  · rw [if_neg (show ¬ (p0 < 0) from q1)] at h
    refine zr_iload_n xBm 2 rfl rfl ?_
    refine zr_sipush xBm 3 255 rfl rfl ?_
    refine zr_ic xBm 4 15 rfl rfl (fun q2 => ?_) (fun q2 => ?_)
    · rw [if_pos (show (255 < p0) from q2)] at h
      refine zr_s xBm 7 rfl rfl ?_
      refine zr_iret xBm 8 rfl rfl (zn_b (Or.inl rfl)) ?_
      exact h
    · rw [if_neg (show ¬ (255 < p0) from q2)] at h
      refine zr_s xBm 5 rfl rfl ?_
      refine zr_goto xBm 6 16 rfl rfl ?_
      refine zr_iret xBm 8 rfl rfl (zn_b (Or.inr rfl)) ?_
      exact h
theorem xw_254 {RO : zRo} {d j : Nat} (hj : j < 3) {P : zP} {I : zI} {J : zJ} {D : zD} {bc bs : Nat} {p0 p1 p2 : Int32} (h : xw RO d 254 P 7 [(0, .ref (120 + j)), (1, .int p0), (2, .int p1), (3, .int p2), (4, .int p0.toInt8.toInt32), (5, .int p1)] [] I J D bc bs) : xx RO (d + 1) 254 [.ref (120 + j), .int p0, .int p1, .int p2] I J D bc bs P := by
  refine zT_of (Nat.le_of_ble_eq_true rfl) rfl ?_
  show xw RO d 254 P 0 [(0, .ref (120 + j)), (1, .int p0), (2, .int p1), (3, .int p2)] [] I J D bc bs
  refine zr_iload_n xBm 0 rfl rfl ?_
  refine zr_s xBm 1 rfl rfl ?_
  refine zr_istore xBm 2 (ll' := [(4, .int p0.toInt8.toInt32), (0, .ref (120 + j)), (1, .int p0), (2, .int p1), (3, .int p2)]) rfl (by decide) rfl ?_
  refine zr_iload_n xBm 3 rfl rfl ?_
  refine zr_istore xBm 4 (ll' := [(5, .int p1), (4, .int p0.toInt8.toInt32), (0, .ref (120 + j)), (1, .int p0), (2, .int p1), (3, .int p2)]) rfl (by decide) rfl ?_
  refine xr_sub [2, 3, 4, 5, 1, 0] rfl ?_
  exact h
theorem xl_254_7 {RO : zRo} {d j : Nat} (hj : j < 3) {P : zP} {I : zI} {J : zJ} {D : zD} {bc bs : Nat} {l1 l2 l3 l4 l5 : Int32} (h : ((l3 ≤ l5 → P (.inl (some (.int (-1)))) I J D) ∧ (¬ (l3 ≤ l5) → (vp_in l5 (zSln.getD j 0) ∧ ((¬ ((zSbt.getD j []).getD l5.toNatClampNeg 0) = l4 → xw RO d 254 P 7 [(0, .ref (120 + j)), (1, .int l1), (2, .int l2), (3, .int l3), (4, .int l4), (5, .int (l5 + 1))] [] I J D bc bs) ∧ (¬ (¬ ((zSbt.getD j []).getD l5.toNatClampNeg 0) = l4) → P (.inl (some (.int l5))) I J D)))))) : xw RO d 254 P 7 [(0, .ref (120 + j)), (1, .int l1), (2, .int l2), (3, .int l3), (4, .int l4), (5, .int l5)] [] I J D bc bs := by
  refine zr_iload xBm 5 rfl rfl ?_
  refine zr_iload_n xBm 6 rfl rfl ?_
  refine zr_ic xBm 7 31 rfl rfl (fun q1 => ?_) (fun q1 => ?_)
  · have h := h.1 q1
    refine zr_s xBm 17 rfl rfl ?_
    refine zr_iret xBm 18 rfl rfl rfl ?_
    exact h
  · have h := h.2 q1
    refine zr_aload_n xBm 8 rfl rfl ?_
    refine zr_iload xBm 9 rfl rfl ?_
    obtain ⟨b10, h⟩ := h
    refine xr_balS 10 j rfl hj b10 ?_
    refine zr_iload xBm 11 rfl rfl ?_
    refine zr_ic xBm 12 25 rfl rfl (fun q2 => ?_) (fun q2 => ?_)
    · have h := h.1 q2
      refine zr_iinc xBm 15 (v := l5 + 1) (ll' := [(5, .int (l5 + 1)), (0, .ref (120 + j)), (1, .int l1), (2, .int l2), (3, .int l3), (4, .int l4)]) rfl rfl (by decide) rfl rfl ?_
      refine zr_goto xBm 16 7 rfl rfl ?_
      refine xr_sub [1, 2, 3, 4, 5, 0] rfl ?_
      exact h
    · have h := h.2 q2
      refine zr_iload xBm 13 rfl rfl ?_
      refine zr_iret xBm 14 rfl rfl rfl ?_
      exact h
theorem xw_253 {RO : zRo} {d j : Nat} (hj : j < 3) {P : zP} {I : zI} {J : zJ} {D : zD} {bc bs : Nat} {p0 p1 p2 : Int32} (h : ((¬ (zv_252 I J p0) = 0 → (((if p1 < 0 then 0 else p1) < (if (Int32.ofNat (zSln.getD j 0)) < p2 then (Int32.ofNat (zSln.getD j 0)) else p2) → (xx RO (d + 1) 254 [.ref (120 + j), .int p0, .int (if p1 < 0 then 0 else p1), .int (if (Int32.ofNat (zSln.getD j 0)) < p2 then (Int32.ofNat (zSln.getD j 0)) else p2)] I J D 0 0 (zNi P fun v1 I1 J1 D1 => P (.inl (some (.int v1))) I1 J1 D1))) ∧ (¬ ((if p1 < 0 then 0 else p1) < (if (Int32.ofNat (zSln.getD j 0)) < p2 then (Int32.ofNat (zSln.getD j 0)) else p2)) → P (.inl (some (.int (-1)))) I J D))) ∧ (¬ (¬ (zv_252 I J p0) = 0) → P (.inl (some (.int (-1)))) I J D))) : xx RO (d + 2) 253 [.ref (120 + j), .int p0, .int p1, .int p2] I J D bc bs P := by
  refine zT_of (Nat.le_of_ble_eq_true rfl) rfl ?_
  show xw RO (d + 1) 253 P 0 [(0, .ref (120 + j)), (1, .int p0), (2, .int p1), (3, .int p2)] [] I J D bc bs
  refine zr_iload_n xBm 0 rfl rfl ?_
  refine xr_ins0 1 252 1 [.int p0] rfl rfl zk_J1_88 zms_252 rfl (Nat.le_of_ble_eq_true rfl) ?_
  refine xe_252 ?_
  refine zNx_i ?_
  refine zr_if xBm 2 9 rfl rfl (fun q1 => ?_) (fun q1 => ?_)
  · have h := h.1 q1
    refine zr_iload_n xBm 5 rfl rfl ?_
    refine zr_s xBm 6 rfl rfl ?_
    refine xr_max 7 rfl zmt_J1_92 (Nat.le_of_ble_eq_true rfl) ?_
    refine zr_istore_n xBm 8 (ll' := [(2, .int (if p1 < 0 then 0 else p1)), (0, .ref (120 + j)), (1, .int p0), (3, .int p2)]) rfl (by decide) rfl ?_
    refine zr_iload_n xBm 9 rfl rfl ?_
    refine zr_aload_n xBm 10 rfl rfl ?_
    refine xr_alenS 11 j rfl hj ?_
    refine xr_min 12 rfl zmt_J1_38 (Nat.le_of_ble_eq_true rfl) ?_
    refine zr_istore_n xBm 13 (ll' := [(3, .int (if (Int32.ofNat (zSln.getD j 0)) < p2 then (Int32.ofNat (zSln.getD j 0)) else p2)), (2, .int (if p1 < 0 then 0 else p1)), (0, .ref (120 + j)), (1, .int p0)]) rfl (by decide) rfl ?_
    refine zr_iload_n xBm 14 rfl rfl ?_
    refine zr_iload_n xBm 15 rfl rfl ?_
    refine zr_ic xBm 16 29 rfl rfl (fun q2 => ?_) (fun q2 => ?_)
    · have h := h.1 q2
      refine zr_aload_n xBm 19 rfl rfl ?_
      refine zr_iload_n xBm 20 rfl rfl ?_
      refine zr_iload_n xBm 21 rfl rfl ?_
      refine zr_iload_n xBm 22 rfl rfl ?_
      refine xr_ins0 23 254 4 [.ref (120 + j), .int p0, .int (if p1 < 0 then 0 else p1), .int (if (Int32.ofNat (zSln.getD j 0)) < p2 then (Int32.ofNat (zSln.getD j 0)) else p2)] rfl rfl zk_J1_95 zms_254 rfl (Nat.le_of_ble_eq_true rfl) ?_
      refine xci h (fun v1 I1 J1 D1 h => ?_)
      refine zr_iret xBm 24 rfl rfl rfl ?_
      exact h
    · have h := h.2 q2
      refine zr_s xBm 17 rfl rfl ?_
      refine zr_iret xBm 18 rfl rfl rfl ?_
      exact h
  · have h := h.2 q1
    refine zr_s xBm 3 rfl rfl ?_
    refine zr_iret xBm 4 rfl rfl rfl ?_
    exact h
theorem xw_246 {RO : zRo} {d j : Nat} (hj : j < 3) {P : zP} {I : zI} {J : zJ} {D : zD} {bc bs : Nat} {p0 p1 : Int32} (h : (((1 : Int32) = 0 → (xx RO (d + 2) 257 [.ref (120 + j), .int p0, .int p1, .int (Int32.ofNat (zSln.getD j 0))] I J D 0 0 (zNi P fun v1 I1 J1 D1 => P (.inl (some (.int v1))) I1 J1 D1))) ∧ (¬ ((1 : Int32) = 0) → (xx RO (d + 2) 253 [.ref (120 + j), .int p0, .int p1, .int (Int32.ofNat (zSln.getD j 0))] I J D 0 0 (zNi P fun v2 I2 J2 D2 => P (.inl (some (.int v2))) I2 J2 D2))))) : xx RO (d + 3) 246 [.ref (110 + j), .int p0, .int p1] I J D bc bs P := by
  refine zT_of (Nat.le_of_ble_eq_true rfl) rfl ?_
  show xw RO (d + 2) 246 P 0 [(0, .ref (110 + j)), (1, .int p0), (2, .int p1)] [] I J D bc bs
  refine zr_aload_n xBm 0 rfl rfl ?_
  refine xr_invS 1 248 0 j [] rfl rfl hj zk_J0_492 zms_248 rfl rfl (Nat.le_of_ble_eq_true rfl) ?_
  refine x_248 hj ?_
  refine zNx_i ?_
  refine zr_if xBm 2 23 rfl rfl (fun q1 => ?_) (fun q1 => ?_)
  · have h := h.1 q1
    refine zr_aload_n xBm 11 rfl rfl ?_
    refine xr_gfV 12 j rfl hj (zmem8 4 (by decide +kernel) (by decide +kernel)) ?_
    refine zr_iload_n xBm 13 rfl rfl ?_
    refine zr_iload_n xBm 14 rfl rfl ?_
    refine zr_aload_n xBm 15 rfl rfl ?_
    refine xr_invS 16 243 0 j [] rfl rfl hj zk_J0_505 zms_243 rfl rfl (Nat.le_of_ble_eq_true rfl) ?_
    refine x_243 hj ?_
    refine zNx_i ?_
    refine xr_ins0 17 257 4 [.ref (120 + j), .int p0, .int p1, .int (Int32.ofNat (zSln.getD j 0))] rfl rfl zk_J0_640 zms_257 rfl (Nat.le_of_ble_eq_true rfl) ?_
    refine xci h (fun v1 I1 J1 D1 h => ?_)
    refine zr_iret xBm 18 rfl rfl rfl ?_
    exact h
  · have h := h.2 q1
    refine zr_aload_n xBm 3 rfl rfl ?_
    refine xr_gfV 4 j rfl hj (zmem8 4 (by decide +kernel) (by decide +kernel)) ?_
    refine zr_iload_n xBm 5 rfl rfl ?_
    refine zr_iload_n xBm 6 rfl rfl ?_
    refine zr_aload_n xBm 7 rfl rfl ?_
    refine xr_invS 8 243 0 j [] rfl rfl hj zk_J0_505 zms_243 rfl rfl (Nat.le_of_ble_eq_true rfl) ?_
    refine x_243 hj ?_
    refine zNx_i ?_
    refine xr_ins0 9 253 4 [.ref (120 + j), .int p0, .int p1, .int (Int32.ofNat (zSln.getD j 0))] rfl rfl zk_J0_637 zms_253 rfl (Nat.le_of_ble_eq_true rfl) ?_
    refine xci h (fun v2 I2 J2 D2 h => ?_)
    refine zr_goto xBm 10 36 rfl rfl ?_
    refine zr_iret xBm 18 rfl rfl rfl ?_
    exact h

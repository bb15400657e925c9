/-! ===== String.indexOf(int) on the symbols: walks laid by wip/whole/gen_jdk.py ===== -/
def zv_247 (I : zI) (J : zJ)  : Int32 := 0
theorem ze_247 {RO : zRo} {d : Nat} {P : zP} {I : zI} {J : zJ} {D : zD} {bc bs : Nat}  (h : P (.inl (some (.int (zv_247 I J )))) I J D) : zz RO (d + 1) 247 [.ref (110 + 0)] I J D bc bs P := by
  refine zT_of (Nat.le_of_ble_eq_true rfl) rfl ?_
  show zw RO d 247 P 0 [(0, .ref (110 + 0))] [] I J D bc bs
  unfold zv_247 at h
  refine zr_gsC 0 rfl (zmem1 65 (by decide +kernel) (by decide +kernel)) ?_
  refine zr_if zSm 1 13 rfl rfl (fun q1 => ?_) (fun q1 => ?_)
  · exact absurd q1 (by show ¬ ((1 : Int32) = 0); decide)
  · refine zr_aload_n zSm 2 rfl rfl ?_
    refine zr_gfC 3 0 rfl (by decide) (zmem8 5 (by decide +kernel) (by decide +kernel)) ?_
    refine zr_goto zSm 4 14 rfl rfl ?_
    refine zr_iret zSm 6 rfl rfl rfl ?_
    exact h
def zv_248 (I : zI) (J : zJ)  : Int32 := 1
theorem zvb_248 {I : zI} {J : zJ}  : zv_248 I J  = 0 ∨ zv_248 I J  = 1 := by
  unfold zv_248
  (repeat' split) <;> first | exact Or.inl rfl | exact Or.inr rfl | exact zvb_104 | exact zvb_105 | exact zvb_130 | exact zvb_136 | exact zvb_142 | exact zvb_143 | exact zvb_148 | exact zvb_17 | exact zvb_195 | exact zvb_196 | exact zvb_199 | exact zvb_44 | exact zvb_45 | exact zvb_46 | exact zvb_54 | exact zvb_78 | exact zvb_79
theorem ze_248 {RO : zRo} {d : Nat} {P : zP} {I : zI} {J : zJ} {D : zD} {bc bs : Nat}  (h : P (.inl (some (.int (zv_248 I J )))) I J D) : zz RO (d + 1) 248 [.ref (110 + 0)] I J D bc bs P := by
  refine zT_of (Nat.le_of_ble_eq_true rfl) rfl ?_
  show zw RO d 248 P 0 [(0, .ref (110 + 0))] [] I J D bc bs
  unfold zv_248 at h
  refine zr_gsC 0 rfl (zmem1 65 (by decide +kernel) (by decide +kernel)) ?_
  refine zr_if zSm 1 17 rfl rfl (fun q1 => ?_) (fun q1 => ?_)
  · exact absurd q1 (by show ¬ ((1 : Int32) = 0); decide)
  · refine zr_aload_n zSm 2 rfl rfl ?_
    refine zr_gfC 3 0 rfl (by decide) (zmem8 5 (by decide +kernel) (by decide +kernel)) ?_
    refine zr_if zSm 4 17 rfl rfl (fun q2 => ?_) (fun q2 => ?_)
    · exact absurd q2 (by show ¬ (¬ ((0 : Int32) = 0)); decide)
    · refine zr_s zSm 5 rfl rfl ?_
      refine zr_goto zSm 6 18 rfl rfl ?_
      refine zr_iret zSm 8 rfl rfl (zn_b (Or.inr rfl)) ?_
      exact h
def zv_252 (I : zI) (J : zJ) (p0 : Int32) : Int32 := if p0 < 0 then 0 else (if 255 < p0 then 0 else 1)
theorem zvb_252 {I : zI} {J : zJ} {p0 : Int32} : zv_252 I J p0 = 0 ∨ zv_252 I J p0 = 1 := by
  unfold zv_252
  (repeat' split) <;> first | exact Or.inl rfl | exact Or.inr rfl | exact zvb_104 | exact zvb_105 | exact zvb_130 | exact zvb_136 | exact zvb_142 | exact zvb_143 | exact zvb_148 | exact zvb_17 | exact zvb_195 | exact zvb_196 | exact zvb_199 | exact zvb_248 | exact zvb_44 | exact zvb_45 | exact zvb_46 | exact zvb_54 | exact zvb_78 | exact zvb_79
theorem ze_252 {RO : zRo} {d : Nat} {P : zP} {I : zI} {J : zJ} {D : zD} {bc bs : Nat} {p0 : Int32} (h : P (.inl (some (.int (zv_252 I J p0)))) I J D) : zz RO (d + 1) 252 [.int p0] I J D bc bs P := by
  refine zT_of (Nat.le_of_ble_eq_true rfl) rfl ?_
  show zw RO d 252 P 0 [(0, .int p0)] [] I J D bc bs
  unfold zv_252 at h
  refine zr_iload_n zSm 0 rfl rfl ?_
  refine zr_if zSm 1 15 rfl rfl (fun q1 => ?_) (fun q1 => ?_)
  · rw [if_pos (show (p0 < 0) from q1)] at h
    refine zr_s zSm 7 rfl rfl ?_
    refine zr_iret zSm 8 rfl rfl (zn_b (Or.inl rfl)) ?_
    exact h
  · rw [if_neg (show ¬ (p0 < 0) from q1)] at h
    refine zr_iload_n zSm 2 rfl rfl ?_
    refine zr_sipush zSm 3 255 rfl rfl ?_
    refine zr_ic zSm 4 15 rfl rfl (fun q2 => ?_) (fun q2 => ?_)
    · rw [if_pos (show (255 < p0) from q2)] at h
      refine zr_s zSm 7 rfl rfl ?_
      refine zr_iret zSm 8 rfl rfl (zn_b (Or.inl rfl)) ?_
      exact h
    · rw [if_neg (show ¬ (255 < p0) from q2)] at h
      refine zr_s zSm 5 rfl rfl ?_
      refine zr_goto zSm 6 16 rfl rfl ?_
      refine zr_iret zSm 8 rfl rfl (zn_b (Or.inr rfl)) ?_
      exact h
def zv_243 (I : zI) (J : zJ)  : Int32 := (Int32.ofNat (zSln.getD 0 0)) >>> ((zv_247 I J) &&& 31)
theorem ze_243 {RO : zRo} {d : Nat} {P : zP} {I : zI} {J : zJ} {D : zD} {bc bs : Nat}  (h : P (.inl (some (.int (zv_243 I J )))) I J D) : zz RO (d + 2) 243 [.ref (110 + 0)] I J D bc bs P := by
  refine zT_of (Nat.le_of_ble_eq_true rfl) rfl ?_
  show zw RO (d + 1) 243 P 0 [(0, .ref (110 + 0))] [] I J D bc bs
  unfold zv_243 at h
  refine zr_aload_n zSm 0 rfl rfl ?_
  refine zr_gfV 1 0 rfl (by decide) (zmem8 4 (by decide +kernel) (by decide +kernel)) ?_
  refine zr_alenS 2 0 rfl (by decide) ?_
  refine zr_aload_n zSm 3 rfl rfl ?_
  refine zr_invS 4 247 0 0 [] rfl rfl (by decide) zk_J0_335 zms_247 rfl rfl (Nat.le_of_ble_eq_true rfl) ?_
  refine ze_247 ?_
  refine zNx_i ?_
  refine zr_s zSm 5 rfl rfl ?_
  refine zr_iret zSm 6 rfl rfl rfl ?_
  exact h
theorem w_254 {RO : zRo} {d : Nat} {P : zP} {I : zI} {J : zJ} {D : zD} {bc bs : Nat} {p0 p1 p2 : Int32} (h : zw RO d 254 P 7 [(0, .ref (120 + 0)), (1, .int p0), (2, .int p1), (3, .int p2), (4, .int p0.toInt8.toInt32), (5, .int p1)] [] I J D bc bs) : zz RO (d + 1) 254 [.ref (120 + 0), .int p0, .int p1, .int p2] I J D bc bs P := by
  refine zT_of (Nat.le_of_ble_eq_true rfl) rfl ?_
  show zw RO d 254 P 0 [(0, .ref (120 + 0)), (1, .int p0), (2, .int p1), (3, .int p2)] [] I J D bc bs
  refine zr_iload_n zSm 0 rfl rfl ?_
  refine zr_s zSm 1 rfl rfl ?_
  refine zr_istore zSm 2 (ll' := [(4, .int p0.toInt8.toInt32), (0, .ref (120 + 0)), (1, .int p0), (2, .int p1), (3, .int p2)]) rfl (by decide) rfl ?_
  refine zr_iload_n zSm 3 rfl rfl ?_
  refine zr_istore zSm 4 (ll' := [(5, .int p1), (4, .int p0.toInt8.toInt32), (0, .ref (120 + 0)), (1, .int p0), (2, .int p1), (3, .int p2)]) rfl (by decide) rfl ?_
  refine zr_sub [2, 3, 4, 5, 1, 0] rfl ?_
  exact h
theorem wl_254_7 {RO : zRo} {d : Nat} {P : zP} {I : zI} {J : zJ} {D : zD} {bc bs : Nat} {l1 l2 l3 l4 l5 : Int32} (h : ((l3 ≤ l5 → P (.inl (some (.int (-1)))) I J D) ∧ (¬ (l3 ≤ l5) → (vp_in l5 (zSln.getD 0 0) ∧ ((¬ ((zSbt.getD 0 []).getD l5.toNatClampNeg 0) = l4 → zw RO d 254 P 7 [(0, .ref (120 + 0)), (1, .int l1), (2, .int l2), (3, .int l3), (4, .int l4), (5, .int (l5 + 1))] [] I J D bc bs) ∧ (¬ (¬ ((zSbt.getD 0 []).getD l5.toNatClampNeg 0) = l4) → P (.inl (some (.int l5))) I J D)))))) : zw RO d 254 P 7 [(0, .ref (120 + 0)), (1, .int l1), (2, .int l2), (3, .int l3), (4, .int l4), (5, .int l5)] [] I J D bc bs := by
  refine zr_iload zSm 5 rfl rfl ?_
  refine zr_iload_n zSm 6 rfl rfl ?_
  refine zr_ic zSm 7 31 rfl rfl (fun q1 => ?_) (fun q1 => ?_)
  · have h := h.1 q1
    refine zr_s zSm 17 rfl rfl ?_
    refine zr_iret zSm 18 rfl rfl rfl ?_
    exact h
  · have h := h.2 q1
    refine zr_aload_n zSm 8 rfl rfl ?_
    refine zr_iload zSm 9 rfl rfl ?_
    obtain ⟨b10, h⟩ := h
    refine zr_balS 10 0 rfl (by decide) b10 ?_
    refine zr_iload zSm 11 rfl rfl ?_
    refine zr_ic zSm 12 25 rfl rfl (fun q2 => ?_) (fun q2 => ?_)
    · have h := h.1 q2
      refine zr_iinc zSm 15 (v := l5 + 1) (ll' := [(5, .int (l5 + 1)), (0, .ref (120 + 0)), (1, .int l1), (2, .int l2), (3, .int l3), (4, .int l4)]) rfl rfl (by decide) rfl rfl ?_
      refine zr_goto zSm 16 7 rfl rfl ?_
      refine zr_sub [1, 2, 3, 4, 5, 0] rfl ?_
      exact h
    · have h := h.2 q2
      refine zr_iload zSm 13 rfl rfl ?_
      refine zr_iret zSm 14 rfl rfl rfl ?_
      exact h
theorem w_253 {RO : zRo} {d : Nat} {P : zP} {I : zI} {J : zJ} {D : zD} {bc bs : Nat} {p0 p1 p2 : Int32} (h : ((¬ (zv_252 I J p0) = 0 → (((if p1 < 0 then 0 else p1) < (if (Int32.ofNat (zSln.getD 0 0)) < p2 then (Int32.ofNat (zSln.getD 0 0)) else p2) → (zz RO (d + 1) 254 [.ref (120 + 0), .int p0, .int (if p1 < 0 then 0 else p1), .int (if (Int32.ofNat (zSln.getD 0 0)) < p2 then (Int32.ofNat (zSln.getD 0 0)) else p2)] I J D 0 0 (zNi P fun v1 I1 J1 D1 => P (.inl (some (.int v1))) I1 J1 D1))) ∧ (¬ ((if p1 < 0 then 0 else p1) < (if (Int32.ofNat (zSln.getD 0 0)) < p2 then (Int32.ofNat (zSln.getD 0 0)) else p2)) → P (.inl (some (.int (-1)))) I J D))) ∧ (¬ (¬ (zv_252 I J p0) = 0) → P (.inl (some (.int (-1)))) I J D))) : zz RO (d + 2) 253 [.ref (120 + 0), .int p0, .int p1, .int p2] I J D bc bs P := by
  refine zT_of (Nat.le_of_ble_eq_true rfl) rfl ?_
  show zw RO (d + 1) 253 P 0 [(0, .ref (120 + 0)), (1, .int p0), (2, .int p1), (3, .int p2)] [] I J D bc bs
  refine zr_iload_n zSm 0 rfl rfl ?_
  refine zr_ins0 1 252 1 [.int p0] rfl rfl zk_J1_88 zms_252 rfl (Nat.le_of_ble_eq_true rfl) ?_
  refine ze_252 ?_
  refine zNx_i ?_
  refine zr_if zSm 2 9 rfl rfl (fun q1 => ?_) (fun q1 => ?_)
  · have h := h.1 q1
    refine zr_iload_n zSm 5 rfl rfl ?_
    refine zr_s zSm 6 rfl rfl ?_
    refine zr_max 7 rfl zmt_J1_92 (Nat.le_of_ble_eq_true rfl) ?_
    refine zr_istore_n zSm 8 (ll' := [(2, .int (if p1 < 0 then 0 else p1)), (0, .ref (120 + 0)), (1, .int p0), (3, .int p2)]) rfl (by decide) rfl ?_
    refine zr_iload_n zSm 9 rfl rfl ?_
    refine zr_aload_n zSm 10 rfl rfl ?_
    refine zr_alenS 11 0 rfl (by decide) ?_
    refine zr_min 12 rfl zmt_J1_38 (Nat.le_of_ble_eq_true rfl) ?_
    refine zr_istore_n zSm 13 (ll' := [(3, .int (if (Int32.ofNat (zSln.getD 0 0)) < p2 then (Int32.ofNat (zSln.getD 0 0)) else p2)), (2, .int (if p1 < 0 then 0 else p1)), (0, .ref (120 + 0)), (1, .int p0)]) rfl (by decide) rfl ?_
    refine zr_iload_n zSm 14 rfl rfl ?_
    refine zr_iload_n zSm 15 rfl rfl ?_
    refine zr_ic zSm 16 29 rfl rfl (fun q2 => ?_) (fun q2 => ?_)
    · have h := h.1 q2
      refine zr_aload_n zSm 19 rfl rfl ?_
      refine zr_iload_n zSm 20 rfl rfl ?_
      refine zr_iload_n zSm 21 rfl rfl ?_
      refine zr_iload_n zSm 22 rfl rfl ?_
      refine zr_ins0 23 254 4 [.ref (120 + 0), .int p0, .int (if p1 < 0 then 0 else p1), .int (if (Int32.ofNat (zSln.getD 0 0)) < p2 then (Int32.ofNat (zSln.getD 0 0)) else p2)] rfl rfl zk_J1_95 zms_254 rfl (Nat.le_of_ble_eq_true rfl) ?_
      refine zci h (fun v1 I1 J1 D1 h => ?_)
      refine zr_iret zSm 24 rfl rfl rfl ?_
      exact h
    · have h := h.2 q2
      refine zr_s zSm 17 rfl rfl ?_
      refine zr_iret zSm 18 rfl rfl rfl ?_
      exact h
  · have h := h.2 q1
    refine zr_s zSm 3 rfl rfl ?_
    refine zr_iret zSm 4 rfl rfl rfl ?_
    exact h
theorem w_246 {RO : zRo} {d : Nat} {P : zP} {I : zI} {J : zJ} {D : zD} {bc bs : Nat} {p0 p1 : Int32} (h : (((zv_248 I J) = 0 → (zz RO (d + 2) 257 [.ref (120 + 0), .int p0, .int p1, .int (zv_243 I J)] I J D 0 0 (zNi P fun v1 I1 J1 D1 => P (.inl (some (.int v1))) I1 J1 D1))) ∧ (¬ ((zv_248 I J) = 0) → (zz RO (d + 2) 253 [.ref (120 + 0), .int p0, .int p1, .int (zv_243 I J)] I J D 0 0 (zNi P fun v2 I2 J2 D2 => P (.inl (some (.int v2))) I2 J2 D2))))) : zz RO (d + 3) 246 [.ref (110 + 0), .int p0, .int p1] I J D bc bs P := by
  refine zT_of (Nat.le_of_ble_eq_true rfl) rfl ?_
  show zw RO (d + 2) 246 P 0 [(0, .ref (110 + 0)), (1, .int p0), (2, .int p1)] [] I J D bc bs
  refine zr_aload_n zSm 0 rfl rfl ?_
  refine zr_invS 1 248 0 0 [] rfl rfl (by decide) zk_J0_492 zms_248 rfl rfl (Nat.le_of_ble_eq_true rfl) ?_
  refine ze_248 ?_
  refine zNx_i ?_
  refine zr_if zSm 2 23 rfl rfl (fun q1 => ?_) (fun q1 => ?_)
  · have h := h.1 q1
    refine zr_aload_n zSm 11 rfl rfl ?_
    refine zr_gfV 12 0 rfl (by decide) (zmem8 4 (by decide +kernel) (by decide +kernel)) ?_
    refine zr_iload_n zSm 13 rfl rfl ?_
    refine zr_iload_n zSm 14 rfl rfl ?_
    refine zr_aload_n zSm 15 rfl rfl ?_
    refine zr_invS 16 243 0 0 [] rfl rfl (by decide) zk_J0_505 zms_243 rfl rfl (Nat.le_of_ble_eq_true rfl) ?_
    refine ze_243 ?_
    refine zNx_i ?_
    refine zr_ins0 17 257 4 [.ref (120 + 0), .int p0, .int p1, .int (zv_243 I J)] rfl rfl zk_J0_640 zms_257 rfl (Nat.le_of_ble_eq_true rfl) ?_
    refine zci h (fun v1 I1 J1 D1 h => ?_)
    refine zr_iret zSm 18 rfl rfl rfl ?_
    exact h
  · have h := h.2 q1
    refine zr_aload_n zSm 3 rfl rfl ?_
    refine zr_gfV 4 0 rfl (by decide) (zmem8 4 (by decide +kernel) (by decide +kernel)) ?_
    refine zr_iload_n zSm 5 rfl rfl ?_
    refine zr_iload_n zSm 6 rfl rfl ?_
    refine zr_aload_n zSm 7 rfl rfl ?_
    refine zr_invS 8 243 0 0 [] rfl rfl (by decide) zk_J0_505 zms_243 rfl rfl (Nat.le_of_ble_eq_true rfl) ?_
    refine ze_243 ?_
    refine zNx_i ?_
    refine zr_ins0 9 253 4 [.ref (120 + 0), .int p0, .int p1, .int (zv_243 I J)] rfl rfl zk_J0_637 zms_253 rfl (Nat.le_of_ble_eq_true rfl) ?_
    refine zci h (fun v2 I2 J2 D2 h => ?_)
    refine zr_goto zSm 10 36 rfl rfl ?_
    refine zr_iret zSm 18 rfl rfl rfl ?_
    exact h
theorem w_245 {RO : zRo} {d : Nat} {P : zP} {I : zI} {J : zJ} {D : zD} {bc bs : Nat} {p0 : Int32} (h : (zz RO d 246 [.ref (110 + 0), .int p0, .int 0] I J D 0 0 (zNi P fun v1 I1 J1 D1 => P (.inl (some (.int v1))) I1 J1 D1))) : zz RO (d + 1) 245 [.ref (110 + 0), .int p0] I J D bc bs P := by
  refine zT_of (Nat.le_of_ble_eq_true rfl) rfl ?_
  show zw RO d 245 P 0 [(0, .ref (110 + 0)), (1, .int p0)] [] I J D bc bs
  refine zr_aload_n zSm 0 rfl rfl ?_
  refine zr_iload_n zSm 1 rfl rfl ?_
  refine zr_s zSm 2 rfl rfl ?_
  refine zr_invS 3 246 2 0 [.int p0, .int 0] rfl rfl (by decide) zk_J0_633 zms_246 rfl rfl (Nat.le_of_ble_eq_true rfl) ?_
  refine zci h (fun v1 I1 J1 D1 h => ?_)
  refine zr_iret zSm 4 rfl rfl rfl ?_
  exact h
/-- where a sign stands among the symbols -/
theorem c_254_7 {RO : zRo} {d : Nat} {P : zP} {I : zI} {J : zJ} {D : zD} {bc bs : Nat} {l1 l2 b : Int32} (K : ∀ v : Int32, (v = -1 ∧ ∀ i, i < 13 → ¬ zSb0.getD i 0 = b) ∨ (∃ i : Nat, i < 13 ∧ v = zi (i : Int) ∧ zSb0.getD i 0 = b) → P (.inl (some (.int v))) I J D) : ∀ {m i : Nat}, i + m = 13 → (∀ j, j < i → ¬ zSb0.getD j 0 = b) → zw RO d 254 P 7 [(0, .ref (120 + 0)), (1, .int l1), (2, .int l2), (3, .int 13), (4, .int b), (5, .int (zi (i : Int)))] [] I J D bc bs
  | 0, i, hm, h => by
    refine wl_254_7 ⟨fun _ => K _ (Or.inl ⟨rfl, fun j hj => h j (by omega)⟩), fun z => absurd (by rw [zq_p (l := 13) (n := 13) rfl (by omega) (by omega)]; omega) z⟩
  | m + 1, i, hm, h => by
    refine wl_254_7 ⟨fun z => by rw [zq_p (l := 13) (n := 13) rfl (by omega) (by omega)] at z; omega, fun _ => ⟨zi_in (by omega) (by show (i : Int) < ((13 : Nat) : Int); omega) (by decide), ?_⟩⟩
    rw [zi_clk (by omega), zi_succ]
    refine ⟨fun z => ?_, fun z => K _ (Or.inr ⟨i, by omega, rfl, Decidable.not_not.mp z⟩)⟩
    refine c_254_7 K (m := m) (i := i + 1) (by omega) (fun j hj => ?_)
    by_cases e : j = i
    · rw [e]
      exact z
    · exact h j (by omega)
theorem c_245 {RO : zRo} {d : Nat} {P : zP} {I : zI} {J : zJ} {D : zD} {bc bs : Nat} {c : Nat} (hc : c < 256) (K : ∀ v : Int32, (v = -1 ∧ ∀ i, i < 13 → ¬ zSb0.getD i 0 = zi (c : Int)) ∨ (∃ i : Nat, i < 13 ∧ v = zi (i : Int) ∧ zSb0.getD i 0 = zi (c : Int)) → P (.inl (some (.int v))) I J D) : zz RO (d + 4) 245 [.ref (110 + 0), .int (zi (c : Int))] I J D bc bs P := by
  have e8 : ∀ c : Nat, c < 256 → ∀ i : Nat, i < 13 → (zSb0.getD i 0 = (zi (c : Int)).toInt8.toInt32 ↔ zSb0.getD i 0 = zi (c : Int)) := by decide +kernel
  refine w_245 (d := d + 3) ?_
  have e248 : zv_248 I J = 1 := rfl
  have e243 : zv_243 I J = 13 := by
    show Int32.ofNat 13 >>> ((0 : Int32) &&& 31) = 13
    decide
  have e13 : (if Int32.ofNat (zSln.getD 0 0) < (13 : Int32) then Int32.ofNat (zSln.getD 0 0) else 13) = 13 := by decide
  have e0 : (if (0 : Int32) < 0 then (0 : Int32) else 0) = 0 := by decide
  refine w_246 (d := d) ?_
  rw [e248, e243]
  refine ⟨fun z => absurd z (by decide), fun _ => ?_⟩
  refine w_253 (d := d) ?_
  rw [e13, e0]
  refine ⟨fun _ => ⟨fun _ => ?_, fun z => absurd (by decide) z⟩, fun z => absurd (fun y => ?_) z⟩
  · refine w_254 (d := d) ?_
    refine c_254_7 (P := _) (i := 0) (m := 13) (b := (zi (c : Int)).toInt8.toInt32) (l1 := zi (c : Int)) (l2 := 0) (fun v hv => ?_) rfl (fun j hj => by omega)
    show P (.inl (some (.int v))) I J D
    refine K v ?_
    rcases hv with ⟨h1, h2⟩ | ⟨i, h1, h2, h3⟩
    · exact Or.inl ⟨h1, fun i hi y => h2 i hi ((e8 c hc i hi).mpr y)⟩
    · exact Or.inr ⟨i, h1, h2, (e8 c hc i h1).mp h3⟩
  · unfold zv_252 at y
    rw [if_neg (fun z => by rw [zq_l (l := 0) (n := 0) rfl (by omega) (by omega)] at z; omega), if_neg (fun z => by rw [zq_g (l := 255) (n := 255) rfl (by omega) (by omega)] at z; omega)] at y
    exact absurd y (by decide)

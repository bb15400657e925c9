/-! ===== written by wip/whole/lay15.py: walks, a formula each ===== -/
theorem w_135 {RO : zRo} {d : Nat} {P : zP} {I : zI} {J : zJ} {D : zD} {bc bs : Nat} {p0 : Int32} (h : P (.inl (some (.int 0))) (zu I 28 0 p0) J D) : zz RO (d + 1) 135 [.ref 28, .int p0] I J D bc bs P := by
  refine zT_of (Nat.le_of_ble_eq_true rfl) rfl ?_
  show zw RO d 135 P 0 [(0, .ref 28), (1, .int p0)] [] I J D bc bs
  refine zr_aload_n zSm 0 rfl rfl ?_
  refine zr_iload_n zSm 1 rfl rfl ?_
  refine zr_putI zSm 2 rfl zf_11_96 rfl rfl (by decide) zp_11_0 ?_
  refine zr_s zSm 3 rfl rfl ?_
  refine zr_iret zSm 4 rfl rfl rfl ?_
  exact h
theorem w_137a {RO : zRo} {d : Nat} {P : zP} {I : zI} {J : zJ} {D : zD} {bc bs : Nat} {p0 : Int32} {p1 : Int64} (h : zw RO d 137 P 3 [(0, .ref 29), (1, .int p0), (2, .long p1), (4, .int 0)] [] I J D bc bs) : zz RO (d + 1) 137 [.ref 29, .int p0, .long p1] I J D bc bs P := by
  refine zT_of (Nat.le_of_ble_eq_true rfl) rfl ?_
  show zw RO d 137 P 0 [(0, .ref 29), (1, .int p0), (2, .long p1)] [] I J D bc bs
  refine zr_s zSm 0 rfl rfl ?_
  refine zr_istore zSm 1 (ll' := [(4, .int 0), (0, .ref 29), (1, .int p0), (2, .long p1)]) rfl (by decide) rfl ?_
  refine zr_sub [1, 2, 3, 0] rfl ?_
  exact h
theorem wl_137a_3 {RO : zRo} {d : Nat} {P : zP} {I : zI} {J : zJ} {D : zD} {bc bs : Nat} {l1 l4 : Int32} {l2 : Int64} (h : ((l1 ≤ l4 → P (.inl (some (.int (-1)))) I J D) ∧ (¬ (l1 ≤ l4) → (vp_in l4 32 ∧ ((¬ (J 29 l4.toNatClampNeg) = l2 → zw RO d 137 P 3 [(0, .ref 29), (1, .int l1), (2, .long l2), (4, .int (l4 + 1))] [] I J D bc bs) ∧ (¬ (¬ (J 29 l4.toNatClampNeg) = l2) → P (.inl (some (.int l4))) I J D)))))) : zw RO d 137 P 3 [(0, .ref 29), (1, .int l1), (2, .long l2), (4, .int l4)] [] I J D bc bs := by
  refine zr_iload zSm 2 rfl rfl ?_
  refine zr_iload_n zSm 3 rfl rfl ?_
  refine zr_ic zSm 4 27 rfl rfl (fun q1 => ?_) (fun q1 => ?_)
  · have h := h.1 q1
    refine zr_s zSm 15 rfl rfl ?_
    refine zr_iret zSm 16 rfl rfl rfl ?_
    exact h
  · have h := h.2 q1
    refine zr_aload_n zSm 5 rfl rfl ?_
    refine zr_iload zSm 6 rfl rfl ?_
    obtain ⟨b7, h⟩ := h
    refine zr_lald zSm 7 rfl rfl b7 ?_
    refine zr_lload_n zSm 8 rfl rfl ?_
    refine zr_s zSm 9 rfl rfl ?_
    refine zr_if zSm 10 21 rfl rfl (fun q2 => ?_) (fun q2 => ?_)
    · have q2 := zq_ne.mp q2
      have h := h.1 q2
      refine zr_iinc zSm 13 (v := l4 + 1) (ll' := [(4, .int (l4 + 1)), (0, .ref 29), (1, .int l1), (2, .long l2)]) rfl rfl (by decide) rfl rfl ?_
      refine zr_goto zSm 14 3 rfl rfl ?_
      refine zr_sub [1, 2, 3, 0] rfl ?_
      exact h
    · have q2 := (fun z => q2 (zq_ne.mpr z))
      have h := h.2 q2
      refine zr_iload zSm 11 rfl rfl ?_
      refine zr_iret zSm 12 rfl rfl rfl ?_
      exact h
theorem w_137b {RO : zRo} {d : Nat} {P : zP} {I : zI} {J : zJ} {D : zD} {bc bs : Nat} {p0 : Int32} {p1 : Int64} (h : zw RO d 137 P 3 [(0, .ref 34), (1, .int p0), (2, .long p1), (4, .int 0)] [] I J D bc bs) : zz RO (d + 1) 137 [.ref 34, .int p0, .long p1] I J D bc bs P := by
  refine zT_of (Nat.le_of_ble_eq_true rfl) rfl ?_
  show zw RO d 137 P 0 [(0, .ref 34), (1, .int p0), (2, .long p1)] [] I J D bc bs
  refine zr_s zSm 0 rfl rfl ?_
  refine zr_istore zSm 1 (ll' := [(4, .int 0), (0, .ref 34), (1, .int p0), (2, .long p1)]) rfl (by decide) rfl ?_
  refine zr_sub [1, 2, 3, 0] rfl ?_
  exact h
theorem wl_137b_3 {RO : zRo} {d : Nat} {P : zP} {I : zI} {J : zJ} {D : zD} {bc bs : Nat} {l1 l4 : Int32} {l2 : Int64} (h : ((l1 ≤ l4 → P (.inl (some (.int (-1)))) I J D) ∧ (¬ (l1 ≤ l4) → (vp_in l4 46 ∧ ((¬ (J 34 l4.toNatClampNeg) = l2 → zw RO d 137 P 3 [(0, .ref 34), (1, .int l1), (2, .long l2), (4, .int (l4 + 1))] [] I J D bc bs) ∧ (¬ (¬ (J 34 l4.toNatClampNeg) = l2) → P (.inl (some (.int l4))) I J D)))))) : zw RO d 137 P 3 [(0, .ref 34), (1, .int l1), (2, .long l2), (4, .int l4)] [] I J D bc bs := by
  refine zr_iload zSm 2 rfl rfl ?_
  refine zr_iload_n zSm 3 rfl rfl ?_
  refine zr_ic zSm 4 27 rfl rfl (fun q1 => ?_) (fun q1 => ?_)
  · have h := h.1 q1
    refine zr_s zSm 15 rfl rfl ?_
    refine zr_iret zSm 16 rfl rfl rfl ?_
    exact h
  · have h := h.2 q1
    refine zr_aload_n zSm 5 rfl rfl ?_
    refine zr_iload zSm 6 rfl rfl ?_
    obtain ⟨b7, h⟩ := h
    refine zr_lald zSm 7 rfl rfl b7 ?_
    refine zr_lload_n zSm 8 rfl rfl ?_
    refine zr_s zSm 9 rfl rfl ?_
    refine zr_if zSm 10 21 rfl rfl (fun q2 => ?_) (fun q2 => ?_)
    · have q2 := zq_ne.mp q2
      have h := h.1 q2
      refine zr_iinc zSm 13 (v := l4 + 1) (ll' := [(4, .int (l4 + 1)), (0, .ref 34), (1, .int l1), (2, .long l2)]) rfl rfl (by decide) rfl rfl ?_
      refine zr_goto zSm 14 3 rfl rfl ?_
      refine zr_sub [1, 2, 3, 0] rfl ?_
      exact h
    · have q2 := (fun z => q2 (zq_ne.mpr z))
      have h := h.2 q2
      refine zr_iload zSm 11 rfl rfl ?_
      refine zr_iret zSm 12 rfl rfl rfl ?_
      exact h
theorem w_138 {RO : zRo} {d : Nat} {P : zP} {I : zI} {J : zJ} {D : zD} {bc bs : Nat} {p0 p1 p2 p3 p4 : Int32} (h : ((((I 28 3) + 20) ≤ 2000 → (zz RO d 139 [.ref 28, .int p0] (zu I 28 0 0) J D 0 0 (zNv P fun I1 J1 D1 => (zz RO d 139 [.ref 28, .int p1] I1 J1 D1 0 0 (zNv P fun I2 J2 D2 => (zz RO d 139 [.ref 28, .int p2] I2 J2 D2 0 0 (zNv P fun I3 J3 D3 => (zz RO d 139 [.ref 28, .int p3] I3 J3 D3 0 0 (zNv P fun I4 J4 D4 => (zz RO d 139 [.ref 28, .int p4] I4 J4 D4 0 0 (zNv P fun I5 J5 D5 => P (.inl (some (.int (I5 28 3)))) I5 J5 D5))))))))))) ∧ (¬ (((I 28 3) + 20) ≤ 2000) → (zz RO d 135 [.ref 28, .int 1] (zu I 28 0 0) J D 0 0 (zNi P fun v6 I6 J6 D6 => P (.inl (some (.int v6))) I6 J6 D6))))) : zz RO (d + 1) 138 [.ref 28, .int p0, .int p1, .int p2, .int p3, .int p4] I J D bc bs P := by
  refine zT_of (Nat.le_of_ble_eq_true rfl) rfl ?_
  show zw RO d 138 P 0 [(0, .ref 28), (1, .int p0), (2, .int p1), (3, .int p2), (4, .int p3), (5, .int p4)] [] I J D bc bs
  refine zr_aload_n zSm 0 rfl rfl ?_
  refine zr_s zSm 1 rfl rfl ?_
  refine zr_putI zSm 2 rfl zf_11_96 rfl rfl (by decide) zp_11_0 ?_
  refine zr_aload_n zSm 3 rfl rfl ?_
  refine zr_getI zSm 4 rfl zf_11_99 rfl rfl (by decide) ?_
  refine zr_bipush zSm 5 20 rfl rfl ?_
  refine zr_s zSm 6 rfl rfl ?_
  refine zr_sipush zSm 7 2000 rfl rfl ?_
  refine zr_ic zSm 8 24 rfl rfl (fun q1 => ?_) (fun q1 => ?_)
  · have h := h.1 q1
    refine zr_aload_n zSm 13 rfl rfl ?_
    refine zr_iload_n zSm 14 rfl rfl ?_
    refine zr_inv0 15 139 1 [.int p0] rfl rfl zk_11_106 zms_139 rfl ⟨_, _, _, _, rfl, rfl⟩ (Nat.le_of_ble_eq_true rfl) ?_
    refine zcv h (fun I1 J1 D1 h => ?_)
    refine zr_aload_n zSm 16 rfl rfl ?_
    refine zr_iload_n zSm 17 rfl rfl ?_
    refine zr_inv0 18 139 1 [.int p1] rfl rfl zk_11_106 zms_139 rfl ⟨_, _, _, _, rfl, rfl⟩ (Nat.le_of_ble_eq_true rfl) ?_
    refine zcv h (fun I2 J2 D2 h => ?_)
    refine zr_aload_n zSm 19 rfl rfl ?_
    refine zr_iload_n zSm 20 rfl rfl ?_
    refine zr_inv0 21 139 1 [.int p2] rfl rfl zk_11_106 zms_139 rfl ⟨_, _, _, _, rfl, rfl⟩ (Nat.le_of_ble_eq_true rfl) ?_
    refine zcv h (fun I3 J3 D3 h => ?_)
    refine zr_aload_n zSm 22 rfl rfl ?_
    refine zr_iload zSm 23 rfl rfl ?_
    refine zr_inv0 24 139 1 [.int p3] rfl rfl zk_11_106 zms_139 rfl ⟨_, _, _, _, rfl, rfl⟩ (Nat.le_of_ble_eq_true rfl) ?_
    refine zcv h (fun I4 J4 D4 h => ?_)
    refine zr_aload_n zSm 25 rfl rfl ?_
    refine zr_iload zSm 26 rfl rfl ?_
    refine zr_inv0 27 139 1 [.int p4] rfl rfl zk_11_106 zms_139 rfl ⟨_, _, _, _, rfl, rfl⟩ (Nat.le_of_ble_eq_true rfl) ?_
    refine zcv h (fun I5 J5 D5 h => ?_)
    refine zr_aload_n zSm 28 rfl rfl ?_
    refine zr_getI zSm 29 rfl zf_11_99 rfl rfl (by decide) ?_
    refine zr_iret zSm 30 rfl rfl rfl ?_
    exact h
  · have h := h.2 q1
    refine zr_aload_n zSm 9 rfl rfl ?_
    refine zr_s zSm 10 rfl rfl ?_
    refine zr_inv0 11 135 1 [.int 1] rfl rfl zk_11_102 zms_135 rfl ⟨_, _, _, _, rfl, rfl⟩ (Nat.le_of_ble_eq_true rfl) ?_
    refine zci h (fun v6 I6 J6 D6 h => ?_)
    refine zr_iret zSm 12 rfl rfl rfl ?_
    exact h
theorem w_139 {RO : zRo} {d : Nat} {P : zP} {I : zI} {J : zJ} {D : zD} {bc bs : Nat} {p0 : Int32} (h : zw RO d 139 P 3 [(0, .ref 28), (1, .int p0), (2, .int 24)] [] I J D bc bs) : zz RO (d + 1) 139 [.ref 28, .int p0] I J D bc bs P := by
  refine zT_of (Nat.le_of_ble_eq_true rfl) rfl ?_
  show zw RO d 139 P 0 [(0, .ref 28), (1, .int p0)] [] I J D bc bs
  refine zr_bipush zSm 0 24 rfl rfl ?_
  refine zr_istore_n zSm 1 (ll' := [(2, .int 24), (0, .ref 28), (1, .int p0)]) rfl (by decide) rfl ?_
  refine zr_sub [1, 2, 0] rfl ?_
  exact h
theorem wl_139_3 {RO : zRo} {d : Nat} {P : zP} {I : zI} {J : zJ} {D : zD} {bc bs : Nat} {l1 l2 : Int32} (h : ((l2 < 0 → P (.inl none) I J D) ∧ (¬ (l2 < 0) → (vp_in (I 28 3) 2000 ∧ zw RO d 139 P 3 [(0, .ref 28), (1, .int l1), (2, .int (l2 + (-8)))] [] (zu (zu I 30 ((I 28 3).toNatClampNeg) ((l1 >>> (l2 &&& 31)) &&& 255)) 28 3 ((I 28 3) + 1)) J D bc bs)))) : zw RO d 139 P 3 [(0, .ref 28), (1, .int l1), (2, .int l2)] [] I J D bc bs := by
  refine zr_iload_n zSm 2 rfl rfl ?_
  refine zr_if zSm 3 39 rfl rfl (fun q1 => ?_) (fun q1 => ?_)
  · have h := h.1 q1
    refine zr_vret zSm 22 rfl rfl ?_
    exact h
  · have h := h.2 q1
    refine zr_aload_n zSm 4 rfl rfl ?_
    refine zr_getR zSm 5 rfl zf_11_13 rfl rfl (by decide) ?_
    refine zr_aload_n zSm 6 rfl rfl ?_
    refine zr_getI zSm 7 rfl zf_11_99 rfl rfl (by decide) ?_
    refine zr_iload_n zSm 8 rfl rfl ?_
    refine zr_iload_n zSm 9 rfl rfl ?_
    refine zr_s zSm 10 rfl rfl ?_
    refine zr_sipush zSm 11 255 rfl rfl ?_
    refine zr_s zSm 12 rfl rfl ?_
    obtain ⟨b13, h⟩ := h
    refine zr_iast zSm 13 rfl rfl b13 ?_
    refine zr_aload_n zSm 14 rfl rfl ?_
    refine zr_s zSm 15 rfl rfl ?_
    refine zr_getI zSm 16 rfl zf_11_99 rfl rfl (by decide) ?_
    refine zr_s zSm 17 rfl rfl ?_
    refine zr_s zSm 18 rfl rfl ?_
    refine zr_putI zSm 19 rfl zf_11_99 rfl rfl (by decide) zp_11_3 ?_
    refine zr_iinc zSm 20 (v := l2 + (-8)) (ll' := [(2, .int (l2 + (-8))), (0, .ref 28), (1, .int l1)]) rfl rfl (by decide) rfl rfl ?_
    refine zr_goto zSm 21 3 rfl rfl ?_
    refine zr_sub [1, 2, 0] rfl ?_
    exact h
theorem w_140 {RO : zRo} {d : Nat} {P : zP} {I : zI} {J : zJ} {D : zD} {bc bs : Nat} {p0 : Int32} (h : ((¬ (zv_136 (zu I 28 0 0) J p0.toInt64 0 ((I 28 3).toInt64)) = 0 → P (.inl (some (.int p0))) (zu (zu I 28 0 0) 28 3 p0) J D) ∧ (¬ (¬ (zv_136 (zu I 28 0 0) J p0.toInt64 0 ((I 28 3).toInt64)) = 0) → (zz RO (d + 1) 135 [.ref 28, .int 1] (zu I 28 0 0) J D 0 0 (zNi P fun v1 I1 J1 D1 => P (.inl (some (.int v1))) I1 J1 D1))))) : zz RO (d + 2) 140 [.ref 28, .int p0] I J D bc bs P := by
  refine zT_of (Nat.le_of_ble_eq_true rfl) rfl ?_
  show zw RO (d + 1) 140 P 0 [(0, .ref 28), (1, .int p0)] [] I J D bc bs
  refine zr_aload_n zSm 0 rfl rfl ?_
  refine zr_s zSm 1 rfl rfl ?_
  refine zr_putI zSm 2 rfl zf_11_96 rfl rfl (by decide) zp_11_0 ?_
  refine zr_iload_n zSm 3 rfl rfl ?_
  refine zr_s zSm 4 rfl rfl ?_
  refine zr_s zSm 5 rfl rfl ?_
  refine zr_aload_n zSm 6 rfl rfl ?_
  refine zr_getI zSm 7 rfl zf_11_99 rfl rfl (by decide) ?_
  refine zr_s zSm 8 rfl rfl ?_
  refine zr_ins0 9 136 3 [.long p0.toInt64, .long 0, .long ((I 28 3).toInt64)] rfl rfl zk_11_110 zms_136 rfl (Nat.le_of_ble_eq_true rfl) ?_
  refine ze_136 ?_
  refine zNx_i ?_
  refine zr_if zSm 10 25 rfl rfl (fun q1 => ?_) (fun q1 => ?_)
  · have h := h.1 q1
    refine zr_aload_n zSm 15 rfl rfl ?_
    refine zr_iload_n zSm 16 rfl rfl ?_
    refine zr_putI zSm 17 rfl zf_11_99 rfl rfl (by decide) zp_11_3 ?_
    refine zr_iload_n zSm 18 rfl rfl ?_
    refine zr_iret zSm 19 rfl rfl rfl ?_
    exact h
  · have h := h.2 q1
    refine zr_aload_n zSm 11 rfl rfl ?_
    refine zr_s zSm 12 rfl rfl ?_
    refine zr_inv0 13 135 1 [.int 1] rfl rfl zk_11_102 zms_135 rfl ⟨_, _, _, _, rfl, rfl⟩ (Nat.le_of_ble_eq_true rfl) ?_
    refine zci h (fun v1 I1 J1 D1 h => ?_)
    refine zr_iret zSm 14 rfl rfl rfl ?_
    exact h
theorem w_144 {RO : zRo} {d : Nat} {P : zP} {I : zI} {J : zJ} {D : zD} {bc bs : Nat} {p0 p1 : Int32} {p2 : Int64} (h : ((¬ (I 28 4) = 450 → (vp_in (I 28 4) 452 ∧ (vp_in (I 28 4) 452 ∧ (vp_in (I 28 4) 452 ∧ P (.inl none) (zu (zu (zu I 31 ((I 28 4).toNatClampNeg) p0) 32 ((I 28 4).toNatClampNeg) p1) 28 4 ((I 28 4) + 1)) (zu J 33 ((I 28 4).toNatClampNeg) p2) D)))) ∧ (¬ (¬ (I 28 4) = 450) → ((p0 = 202 → (vp_in (I 28 4) 452 ∧ (vp_in (I 28 4) 452 ∧ (vp_in (I 28 4) 452 ∧ P (.inl none) (zu (zu (zu I 31 ((I 28 4).toNatClampNeg) p0) 32 ((I 28 4).toNatClampNeg) p1) 28 4 ((I 28 4) + 1)) (zu J 33 ((I 28 4).toNatClampNeg) p2) D)))) ∧ (¬ (p0 = 202) → (vp_in (I 28 4) 452 ∧ (vp_in (I 28 4) 452 ∧ (vp_in (I 28 4) 452 ∧ P (.inl none) (zu (zu (zu I 31 ((I 28 4).toNatClampNeg) 203) 32 ((I 28 4).toNatClampNeg) p1) 28 4 ((I 28 4) + 1)) (zu J 33 ((I 28 4).toNatClampNeg) p2) D)))))))) : zz RO (d + 1) 144 [.ref 28, .int p0, .int p1, .long p2] I J D bc bs P := by
  refine zT_of (Nat.le_of_ble_eq_true rfl) rfl ?_
  show zw RO d 144 P 0 [(0, .ref 28), (1, .int p0), (2, .int p1), (3, .long p2)] [] I J D bc bs
  refine zr_aload_n zSm 0 rfl rfl ?_
  refine zr_getR zSm 1 rfl zf_11_17 rfl rfl (by decide) ?_
  refine zr_aload_n zSm 2 rfl rfl ?_
  refine zr_getI zSm 3 rfl zf_11_122 rfl rfl (by decide) ?_
  refine zr_aload_n zSm 4 rfl rfl ?_
  refine zr_getI zSm 5 rfl zf_11_122 rfl rfl (by decide) ?_
  refine zr_sipush zSm 6 450 rfl rfl ?_
  refine zr_ic zSm 7 31 rfl rfl (fun q1 => ?_) (fun q1 => ?_)
  · have h := h.1 q1
    refine zr_iload_n zSm 13 rfl rfl ?_
    obtain ⟨b14, h⟩ := h
    refine zr_iast zSm 14 rfl rfl b14 ?_
    refine zr_aload_n zSm 15 rfl rfl ?_
    refine zr_getR zSm 16 rfl zf_11_20 rfl rfl (by decide) ?_
    refine zr_aload_n zSm 17 rfl rfl ?_
    refine zr_getI zSm 18 rfl zf_11_122 rfl rfl (by decide) ?_
    refine zr_iload_n zSm 19 rfl rfl ?_
    obtain ⟨b20, h⟩ := h
    refine zr_iast zSm 20 rfl rfl b20 ?_
    refine zr_aload_n zSm 21 rfl rfl ?_
    refine zr_getR zSm 22 rfl zf_11_23 rfl rfl (by decide) ?_
    refine zr_aload_n zSm 23 rfl rfl ?_
    refine zr_getI zSm 24 rfl zf_11_122 rfl rfl (by decide) ?_
    refine zr_lload_n zSm 25 rfl rfl ?_
    obtain ⟨b26, h⟩ := h
    refine zr_last zSm 26 rfl rfl b26 ?_
    refine zr_aload_n zSm 27 rfl rfl ?_
    refine zr_s zSm 28 rfl rfl ?_
    refine zr_getI zSm 29 rfl zf_11_122 rfl rfl (by decide) ?_
    refine zr_s zSm 30 rfl rfl ?_
    refine zr_s zSm 31 rfl rfl ?_
    refine zr_putI zSm 32 rfl zf_11_122 rfl rfl (by decide) zp_11_4 ?_
    refine zr_vret zSm 33 rfl rfl ?_
    exact h
  · have h := h.2 q1
    refine zr_iload_n zSm 8 rfl rfl ?_
    refine zr_sipush zSm 9 202 rfl rfl ?_
    refine zr_ic zSm 10 31 rfl rfl (fun q2 => ?_) (fun q2 => ?_)
    · have h := h.1 q2
      refine zr_iload_n zSm 13 rfl rfl ?_
      obtain ⟨b14, h⟩ := h
      refine zr_iast zSm 14 rfl rfl b14 ?_
      refine zr_aload_n zSm 15 rfl rfl ?_
      refine zr_getR zSm 16 rfl zf_11_20 rfl rfl (by decide) ?_
      refine zr_aload_n zSm 17 rfl rfl ?_
      refine zr_getI zSm 18 rfl zf_11_122 rfl rfl (by decide) ?_
      refine zr_iload_n zSm 19 rfl rfl ?_
      obtain ⟨b20, h⟩ := h
      refine zr_iast zSm 20 rfl rfl b20 ?_
      refine zr_aload_n zSm 21 rfl rfl ?_
      refine zr_getR zSm 22 rfl zf_11_23 rfl rfl (by decide) ?_
      refine zr_aload_n zSm 23 rfl rfl ?_
      refine zr_getI zSm 24 rfl zf_11_122 rfl rfl (by decide) ?_
      refine zr_lload_n zSm 25 rfl rfl ?_
      obtain ⟨b26, h⟩ := h
      refine zr_last zSm 26 rfl rfl b26 ?_
      refine zr_aload_n zSm 27 rfl rfl ?_
      refine zr_s zSm 28 rfl rfl ?_
      refine zr_getI zSm 29 rfl zf_11_122 rfl rfl (by decide) ?_
      refine zr_s zSm 30 rfl rfl ?_
      refine zr_s zSm 31 rfl rfl ?_
      refine zr_putI zSm 32 rfl zf_11_122 rfl rfl (by decide) zp_11_4 ?_
      refine zr_vret zSm 33 rfl rfl ?_
      exact h
    · have h := h.2 q2
      refine zr_sipush zSm 11 203 rfl rfl ?_
      refine zr_goto zSm 12 32 rfl rfl ?_
      obtain ⟨b14, h⟩ := h
      refine zr_iast zSm 14 rfl rfl b14 ?_
      refine zr_aload_n zSm 15 rfl rfl ?_
      refine zr_getR zSm 16 rfl zf_11_20 rfl rfl (by decide) ?_
      refine zr_aload_n zSm 17 rfl rfl ?_
      refine zr_getI zSm 18 rfl zf_11_122 rfl rfl (by decide) ?_
      refine zr_iload_n zSm 19 rfl rfl ?_
      obtain ⟨b20, h⟩ := h
      refine zr_iast zSm 20 rfl rfl b20 ?_
      refine zr_aload_n zSm 21 rfl rfl ?_
      refine zr_getR zSm 22 rfl zf_11_23 rfl rfl (by decide) ?_
      refine zr_aload_n zSm 23 rfl rfl ?_
      refine zr_getI zSm 24 rfl zf_11_122 rfl rfl (by decide) ?_
      refine zr_lload_n zSm 25 rfl rfl ?_
      obtain ⟨b26, h⟩ := h
      refine zr_last zSm 26 rfl rfl b26 ?_
      refine zr_aload_n zSm 27 rfl rfl ?_
      refine zr_s zSm 28 rfl rfl ?_
      refine zr_getI zSm 29 rfl zf_11_122 rfl rfl (by decide) ?_
      refine zr_s zSm 30 rfl rfl ?_
      refine zr_s zSm 31 rfl rfl ?_
      refine zr_putI zSm 32 rfl zf_11_122 rfl rfl (by decide) zp_11_4 ?_
      refine zr_vret zSm 33 rfl rfl ?_
      exact h
theorem w_145 {RO : zRo} {d : Nat} {P : zP} {I : zI} {J : zJ} {D : zD} {bc bs : Nat}  (h : zw RO (d + 2) 145 P 7 [(0, .ref 28), (1, .int 0)] [] (zu I 28 4 0) J D bc bs) : zz RO (d + 3) 145 [.ref 28] I J D bc bs P := by
  refine zT_of (Nat.le_of_ble_eq_true rfl) rfl ?_
  show zw RO (d + 2) 145 P 0 [(0, .ref 28)] [] I J D bc bs
  refine zr_aload_n zSm 0 rfl rfl ?_
  refine zr_s zSm 1 rfl rfl ?_
  refine zr_putI zSm 2 rfl zf_11_122 rfl rfl (by decide) zp_11_4 ?_
  refine zr_s zSm 3 rfl rfl ?_
  refine zr_istore_n zSm 4 (ll' := [(1, .int 0), (0, .ref 28)]) rfl (by decide) rfl ?_
  refine zr_sub [1, 0] rfl ?_
  exact h
theorem wl_145_7 {RO : zRo} {d : Nat} {P : zP} {I : zI} {J : zJ} {D : zD} {bc bs : Nat} {l1 : Int32} (h : (((I 28 4) = 0 → zw RO (d + 2) 145 P 31 [(0, .ref 28), (1, .int l1)] [] I J D bc bs) ∧ (¬ ((I 28 4) = 0) → (vp_in ((I 28 4) - 1) 452 ∧ ((202 ≤ (I 31 (((I 28 4) - 1).toNatClampNeg)) → P (.inl none) I J D) ∧ (¬ (202 ≤ (I 31 (((I 28 4) - 1).toNatClampNeg))) → zw RO (d + 2) 145 P 31 [(0, .ref 28), (1, .int l1)] [] I J D bc bs)))))) : zw RO (d + 2) 145 P 7 [(0, .ref 28), (1, .int l1)] [] I J D bc bs := by
  refine zr_aload_n zSm 5 rfl rfl ?_
  refine zr_getI zSm 6 rfl zf_11_122 rfl rfl (by decide) ?_
  refine zr_if zSm 7 31 rfl rfl (fun q1 => ?_) (fun q1 => ?_)
  · have h := h.1 q1
    exact h
  · have h := h.2 q1
    refine zr_aload_n zSm 8 rfl rfl ?_
    refine zr_getR zSm 9 rfl zf_11_17 rfl rfl (by decide) ?_
    refine zr_aload_n zSm 10 rfl rfl ?_
    refine zr_getI zSm 11 rfl zf_11_122 rfl rfl (by decide) ?_
    refine zr_s zSm 12 rfl rfl ?_
    refine zr_s zSm 13 rfl rfl ?_
    obtain ⟨b14, h⟩ := h
    refine zr_iald zSm 14 rfl rfl b14 ?_
    refine zr_sipush zSm 15 202 rfl rfl ?_
    refine zr_ic zSm 16 277 rfl rfl (fun q2 => ?_) (fun q2 => ?_)
    · have h := h.1 q2
      refine zr_vret zSm 141 rfl rfl ?_
      exact h
    · have h := h.2 q2
      exact h
theorem wl_145_31 {RO : zRo} {d : Nat} {P : zP} {I : zI} {J : zJ} {D : zD} {bc bs : Nat} {l1 : Int32} (h : (zo_141 I J l1 ∧ (((zv_141 I J l1) = 32 → zw RO (d + 2) 145 P 31 [(0, .ref 28), (1, .int (l1 + 1))] [] I J D bc bs) ∧ (¬ ((zv_141 I J l1) = 32) → (zo_141 I J l1 ∧ ((¬ (zv_141 I J l1) = 10 → (zo_141 I J l1 ∧ ((¬ (zv_141 I J l1) = (-1) → (((zv_142 I J (zv_141 I J l1)) = 0 → (((zv_143 I J (zv_141 I J l1)) = 0 → (zz RO (d + 2) 146 [.ref 28, .int l1] I J D 0 0 (zNi P fun v1 I1 J1 D1 => zw RO (d + 2) 145 P 7 [(0, .ref 28), (1, .int v1)] [] I1 J1 D1 bc bs))) ∧ (¬ ((zv_143 I J (zv_141 I J l1)) = 0) → zw RO (d + 2) 145 P 195 [(0, .ref 28), (1, .int l1), (2, .int (zv_141 I J l1)), (3, .int l1), (4, .long 0)] [] I J D bc bs))) ∧ (¬ ((zv_142 I J (zv_141 I J l1)) = 0) → zw RO (d + 2) 145 P 95 [(0, .ref 28), (1, .int l1), (2, .int (zv_141 I J l1)), (3, .int l1), (4, .long 0)] [] I J D bc bs))) ∧ (¬ (¬ (zv_141 I J l1) = (-1)) → (zz RO (d + 2) 144 [.ref 28, .int 202, .int (I 28 3), .long 0] I J D 0 0 (zNv P fun I2 J2 D2 => zw RO (d + 2) 145 P 7 [(0, .ref 28), (1, .int l1)] [] I2 J2 D2 bc bs)))))) ∧ (¬ (¬ (zv_141 I J l1) = 10) → zw RO (d + 2) 145 P 31 [(0, .ref 28), (1, .int (l1 + 1))] [] I J D bc bs))))))) : zw RO (d + 2) 145 P 31 [(0, .ref 28), (1, .int l1)] [] I J D bc bs := by
  refine zr_aload_n zSm 17 rfl rfl ?_
  refine zr_iload_n zSm 18 rfl rfl ?_
  obtain ⟨b19, h⟩ := h
  refine zr_inv0 19 141 1 [.int l1] rfl rfl zk_11_125 zms_141 rfl ⟨_, _, _, _, rfl, rfl⟩ (Nat.le_of_ble_eq_true rfl) ?_
  refine ze_141 b19 ?_
  refine zNx_i ?_
  refine zr_bipush zSm 20 32 rfl rfl ?_
  refine zr_ic zSm 21 51 rfl rfl (fun q1 => ?_) (fun q1 => ?_)
  · have h := h.1 q1
    refine zr_iinc zSm 27 (v := l1 + 1) (ll' := [(1, .int (l1 + 1)), (0, .ref 28)]) rfl rfl (by decide) rfl rfl ?_
    refine zr_goto zSm 28 31 rfl rfl ?_
    refine zr_sub [1, 0] rfl ?_
    exact h
  · have h := h.2 q1
    refine zr_aload_n zSm 22 rfl rfl ?_
    refine zr_iload_n zSm 23 rfl rfl ?_
    obtain ⟨b24, h⟩ := h
    refine zr_inv0 24 141 1 [.int l1] rfl rfl zk_11_125 zms_141 rfl ⟨_, _, _, _, rfl, rfl⟩ (Nat.le_of_ble_eq_true rfl) ?_
    refine ze_141 b24 ?_
    refine zNx_i ?_
    refine zr_bipush zSm 25 10 rfl rfl ?_
    refine zr_ic zSm 26 57 rfl rfl (fun q2 => ?_) (fun q2 => ?_)
    · have h := h.1 q2
      refine zr_aload_n zSm 29 rfl rfl ?_
      refine zr_iload_n zSm 30 rfl rfl ?_
      obtain ⟨b31, h⟩ := h
      refine zr_inv0 31 141 1 [.int l1] rfl rfl zk_11_125 zms_141 rfl ⟨_, _, _, _, rfl, rfl⟩ (Nat.le_of_ble_eq_true rfl) ?_
      refine ze_141 b31 ?_
      refine zNx_i ?_
      refine zr_istore_n zSm 32 (ll' := [(2, .int (zv_141 I J l1)), (0, .ref 28), (1, .int l1)]) rfl (by decide) rfl ?_
      refine zr_iload_n zSm 33 rfl rfl ?_
      refine zr_istore_n zSm 34 (ll' := [(3, .int l1), (2, .int (zv_141 I J l1)), (0, .ref 28), (1, .int l1)]) rfl (by decide) rfl ?_
      refine zr_s zSm 35 rfl rfl ?_
      refine zr_lstore zSm 36 (ll' := [(4, .long 0), (3, .int l1), (2, .int (zv_141 I J l1)), (0, .ref 28), (1, .int l1)]) rfl (by decide) rfl ?_
      refine zr_iload_n zSm 37 rfl rfl ?_
      refine zr_s zSm 38 rfl rfl ?_
      refine zr_ic zSm 39 88 rfl rfl (fun q3 => ?_) (fun q3 => ?_)
      · have h := h.1 q3
        refine zr_iload_n zSm 47 rfl rfl ?_
        refine zr_ins0 48 142 1 [.int (zv_141 I J l1)] rfl rfl zk_11_132 zms_142 rfl (Nat.le_of_ble_eq_true rfl) ?_
        refine ze_142 ?_
        refine zNx_i ?_
        refine zr_if zSm 49 188 rfl rfl (fun q4 => ?_) (fun q4 => ?_)
        · have h := h.1 q4
          refine zr_iload_n zSm 95 rfl rfl ?_
          refine zr_ins0 96 143 1 [.int (zv_141 I J l1)] rfl rfl zk_11_136 zms_143 rfl (Nat.le_of_ble_eq_true rfl) ?_
          refine ze_143 ?_
          refine zNx_i ?_
          refine zr_if zSm 97 268 rfl rfl (fun q5 => ?_) (fun q5 => ?_)
          · have h := h.1 q5
            refine zr_aload_n zSm 136 rfl rfl ?_
            refine zr_iload_n zSm 137 rfl rfl ?_
            refine zr_inv0 138 146 1 [.int l1] rfl rfl zk_11_144 zms_146 rfl ⟨_, _, _, _, rfl, rfl⟩ (Nat.le_of_ble_eq_true rfl) ?_
            refine zci h (fun v1 I1 J1 D1 h => ?_)
            refine zr_istore_n zSm 139 (ll' := [(1, .int v1), (4, .long 0), (3, .int l1), (2, .int (zv_141 I J l1)), (0, .ref 28)]) rfl (by decide) rfl ?_
            refine zr_goto zSm 140 7 rfl rfl ?_
            refine zr_sub [4, 0] rfl ?_
            exact h
          · have h := h.2 q5
            refine zr_sub [3, 4, 2, 1, 0] rfl ?_
            exact h
        · have h := h.2 q4
          refine zr_sub [3, 4, 2, 1, 0] rfl ?_
          exact h
      · have h := h.2 q3
        refine zr_aload_n zSm 40 rfl rfl ?_
        refine zr_sipush zSm 41 202 rfl rfl ?_
        refine zr_aload_n zSm 42 rfl rfl ?_
        refine zr_getI zSm 43 rfl zf_11_99 rfl rfl (by decide) ?_
        refine zr_s zSm 44 rfl rfl ?_
        refine zr_inv0 45 144 3 [.int 202, .int (I 28 3), .long 0] rfl rfl zk_11_128 zms_144 rfl ⟨_, _, _, _, rfl, rfl⟩ (Nat.le_of_ble_eq_true rfl) ?_
        refine zcv h (fun I2 J2 D2 h => ?_)
        refine zr_goto zSm 46 274 rfl rfl ?_
        refine zr_goto zSm 140 7 rfl rfl ?_
        refine zr_sub [3, 4] rfl ?_
        exact h
    · have h := h.2 q2
      refine zr_iinc zSm 27 (v := l1 + 1) (ll' := [(1, .int (l1 + 1)), (0, .ref 28)]) rfl rfl (by decide) rfl rfl ?_
      refine zr_goto zSm 28 31 rfl rfl ?_
      refine zr_sub [1, 0] rfl ?_
      exact h
theorem wl_145_95 {RO : zRo} {d : Nat} {P : zP} {I : zI} {J : zJ} {D : zD} {bc bs : Nat} {l1 l2 l3 : Int32} {l4 : Int64} (h : (zo_141 I J l1 ∧ ((¬ (zv_142 I J (zv_141 I J l1)) = 0 → (zo_141 I J l1 ∧ zw RO (d + 2) 145 P 95 [(0, .ref 28), (1, .int (l1 + 1)), (2, .int l2), (3, .int l3), (4, .long ((l4 <<< ((8 : Int32).toInt64 &&& 63)) ||| ((zv_141 I J l1).toInt64)))] [] I J D bc bs)) ∧ (¬ (¬ (zv_142 I J (zv_141 I J l1)) = 0) → (zo_141 I J l1 ∧ (((zv_143 I J (zv_141 I J l1)) = 0 → (zz RO (d + 2) 137 [.ref 29, .int 32, .long l4] I J D 0 0 (zNi P fun v1 I1 J1 D1 => (((l1 - l3) ≤ 8 → ((¬ v1 = (-1) → (zz RO (d + 2) 144 [.ref 28, .int v1, .int l3, .long l4] I1 J1 D1 0 0 (zNv P fun I2 J2 D2 => zw RO (d + 2) 145 P 7 [(0, .ref 28), (1, .int l1)] [] I2 J2 D2 bc bs))) ∧ (¬ (¬ v1 = (-1)) → (zz RO (d + 2) 144 [.ref 28, .int 200, .int l3, .long l4] I1 J1 D1 0 0 (zNv P fun I3 J3 D3 => zw RO (d + 2) 145 P 7 [(0, .ref 28), (1, .int l1)] [] I3 J3 D3 bc bs))))) ∧ (¬ ((l1 - l3) ≤ 8) → (zz RO (d + 2) 144 [.ref 28, .int 203, .int l3, .long l4] I1 J1 D1 0 0 (zNv P fun I4 J4 D4 => zw RO (d + 2) 145 P 7 [(0, .ref 28), (1, .int l1)] [] I4 J4 D4 bc bs))))))) ∧ (¬ ((zv_143 I J (zv_141 I J l1)) = 0) → (zo_141 I J l1 ∧ zw RO (d + 2) 145 P 95 [(0, .ref 28), (1, .int (l1 + 1)), (2, .int l2), (3, .int l3), (4, .long ((l4 <<< ((8 : Int32).toInt64 &&& 63)) ||| ((zv_141 I J l1).toInt64)))] [] I J D bc bs)))))))) : zw RO (d + 2) 145 P 95 [(0, .ref 28), (1, .int l1), (2, .int l2), (3, .int l3), (4, .long l4)] [] I J D bc bs := by
  refine zr_aload_n zSm 50 rfl rfl ?_
  refine zr_iload_n zSm 51 rfl rfl ?_
  obtain ⟨b52, h⟩ := h
  refine zr_inv0 52 141 1 [.int l1] rfl rfl zk_11_125 zms_141 rfl ⟨_, _, _, _, rfl, rfl⟩ (Nat.le_of_ble_eq_true rfl) ?_
  refine ze_141 b52 ?_
  refine zNx_i ?_
  refine zr_ins0 53 142 1 [.int (zv_141 I J l1)] rfl rfl zk_11_132 zms_142 rfl (Nat.le_of_ble_eq_true rfl) ?_
  refine ze_142 ?_
  refine zNx_i ?_
  refine zr_if zSm 54 117 rfl rfl (fun q1 => ?_) (fun q1 => ?_)
  · have h := h.1 q1
    refine zr_lload zSm 60 rfl rfl ?_
    refine zr_bipush zSm 61 8 rfl rfl ?_
    refine zr_s zSm 62 rfl rfl ?_
    refine zr_aload_n zSm 63 rfl rfl ?_
    refine zr_iload_n zSm 64 rfl rfl ?_
    obtain ⟨b65, h⟩ := h
    refine zr_inv0 65 141 1 [.int l1] rfl rfl zk_11_125 zms_141 rfl ⟨_, _, _, _, rfl, rfl⟩ (Nat.le_of_ble_eq_true rfl) ?_
    refine ze_141 b65 ?_
    refine zNx_i ?_
    refine zr_s zSm 66 rfl rfl ?_
    refine zr_s zSm 67 rfl rfl ?_
    refine zr_lstore zSm 68 (ll' := [(4, .long ((l4 <<< ((8 : Int32).toInt64 &&& 63)) ||| ((zv_141 I J l1).toInt64))), (0, .ref 28), (1, .int l1), (2, .int l2), (3, .int l3)]) rfl (by decide) rfl ?_
    refine zr_iinc zSm 69 (v := l1 + 1) (ll' := [(1, .int (l1 + 1)), (4, .long ((l4 <<< ((8 : Int32).toInt64 &&& 63)) ||| ((zv_141 I J l1).toInt64))), (0, .ref 28), (2, .int l2), (3, .int l3)]) rfl rfl (by decide) rfl rfl ?_
    refine zr_goto zSm 70 95 rfl rfl ?_
    refine zr_sub [2, 0, 3, 4, 1] rfl ?_
    exact h
  · have h := h.2 q1
    refine zr_aload_n zSm 55 rfl rfl ?_
    refine zr_iload_n zSm 56 rfl rfl ?_
    obtain ⟨b57, h⟩ := h
    refine zr_inv0 57 141 1 [.int l1] rfl rfl zk_11_125 zms_141 rfl ⟨_, _, _, _, rfl, rfl⟩ (Nat.le_of_ble_eq_true rfl) ?_
    refine ze_141 b57 ?_
    refine zNx_i ?_
    refine zr_ins0 58 143 1 [.int (zv_141 I J l1)] rfl rfl zk_11_136 zms_143 rfl (Nat.le_of_ble_eq_true rfl) ?_
    refine ze_143 ?_
    refine zNx_i ?_
    refine zr_if zSm 59 137 rfl rfl (fun q2 => ?_) (fun q2 => ?_)
    · have h := h.1 q2
      refine zr_aload_n zSm 71 rfl rfl ?_
      refine zr_getR zSm 72 rfl zf_11_9 rfl rfl (by decide) ?_
      refine zr_bipush zSm 73 32 rfl rfl ?_
      refine zr_lload zSm 74 rfl rfl ?_
      refine zr_ins0 75 137 3 [.ref 29, .int 32, .long l4] rfl rfl zk_11_139 zms_137 rfl (Nat.le_of_ble_eq_true rfl) ?_
      refine zci h (fun v1 I1 J1 D1 h => ?_)
      refine zr_istore zSm 76 (ll' := [(6, .int v1), (0, .ref 28), (1, .int l1), (2, .int l2), (3, .int l3), (4, .long l4)]) rfl (by decide) rfl ?_
      refine zr_aload_n zSm 77 rfl rfl ?_
      refine zr_iload_n zSm 78 rfl rfl ?_
      refine zr_iload_n zSm 79 rfl rfl ?_
      refine zr_s zSm 80 rfl rfl ?_
      refine zr_bipush zSm 81 8 rfl rfl ?_
      refine zr_ic zSm 82 165 rfl rfl (fun q3 => ?_) (fun q3 => ?_)
      · have h := h.1 q3
        refine zr_iload zSm 85 rfl rfl ?_
        refine zr_s zSm 86 rfl rfl ?_
        refine zr_ic zSm 87 177 rfl rfl (fun q4 => ?_) (fun q4 => ?_)
        · have h := h.1 q4
          refine zr_iload zSm 90 rfl rfl ?_
          refine zr_iload_n zSm 91 rfl rfl ?_
          refine zr_lload zSm 92 rfl rfl ?_
          refine zr_inv0 93 144 3 [.int v1, .int l3, .long l4] rfl rfl zk_11_128 zms_144 rfl ⟨_, _, _, _, rfl, rfl⟩ (Nat.le_of_ble_eq_true rfl) ?_
          refine zcv h (fun I2 J2 D2 h => ?_)
          refine zr_goto zSm 94 274 rfl rfl ?_
          refine zr_goto zSm 140 7 rfl rfl ?_
          refine zr_sub [1, 2] rfl ?_
          exact h
        · have h := h.2 q4
          refine zr_sipush zSm 88 200 rfl rfl ?_
          refine zr_goto zSm 89 179 rfl rfl ?_
          refine zr_iload_n zSm 91 rfl rfl ?_
          refine zr_lload zSm 92 rfl rfl ?_
          refine zr_inv0 93 144 3 [.int 200, .int l3, .long l4] rfl rfl zk_11_128 zms_144 rfl ⟨_, _, _, _, rfl, rfl⟩ (Nat.le_of_ble_eq_true rfl) ?_
          refine zcv h (fun I3 J3 D3 h => ?_)
          refine zr_goto zSm 94 274 rfl rfl ?_
          refine zr_goto zSm 140 7 rfl rfl ?_
          refine zr_sub [1, 2] rfl ?_
          exact h
      · have h := h.2 q3
        refine zr_sipush zSm 83 203 rfl rfl ?_
        refine zr_goto zSm 84 179 rfl rfl ?_
        refine zr_iload_n zSm 91 rfl rfl ?_
        refine zr_lload zSm 92 rfl rfl ?_
        refine zr_inv0 93 144 3 [.int 203, .int l3, .long l4] rfl rfl zk_11_128 zms_144 rfl ⟨_, _, _, _, rfl, rfl⟩ (Nat.le_of_ble_eq_true rfl) ?_
        refine zcv h (fun I4 J4 D4 h => ?_)
        refine zr_goto zSm 94 274 rfl rfl ?_
        refine zr_goto zSm 140 7 rfl rfl ?_
        refine zr_sub [1, 2] rfl ?_
        exact h
    · have h := h.2 q2
      refine zr_lload zSm 60 rfl rfl ?_
      refine zr_bipush zSm 61 8 rfl rfl ?_
      refine zr_s zSm 62 rfl rfl ?_
      refine zr_aload_n zSm 63 rfl rfl ?_
      refine zr_iload_n zSm 64 rfl rfl ?_
      obtain ⟨b65, h⟩ := h
      refine zr_inv0 65 141 1 [.int l1] rfl rfl zk_11_125 zms_141 rfl ⟨_, _, _, _, rfl, rfl⟩ (Nat.le_of_ble_eq_true rfl) ?_
      refine ze_141 b65 ?_
      refine zNx_i ?_
      refine zr_s zSm 66 rfl rfl ?_
      refine zr_s zSm 67 rfl rfl ?_
      refine zr_lstore zSm 68 (ll' := [(4, .long ((l4 <<< ((8 : Int32).toInt64 &&& 63)) ||| ((zv_141 I J l1).toInt64))), (0, .ref 28), (1, .int l1), (2, .int l2), (3, .int l3)]) rfl (by decide) rfl ?_
      refine zr_iinc zSm 69 (v := l1 + 1) (ll' := [(1, .int (l1 + 1)), (4, .long ((l4 <<< ((8 : Int32).toInt64 &&& 63)) ||| ((zv_141 I J l1).toInt64))), (0, .ref 28), (2, .int l2), (3, .int l3)]) rfl rfl (by decide) rfl rfl ?_
      refine zr_goto zSm 70 95 rfl rfl ?_
      refine zr_sub [2, 0, 3, 4, 1] rfl ?_
      exact h
theorem wl_145_195 {RO : zRo} {d : Nat} {P : zP} {I : zI} {J : zJ} {D : zD} {bc bs : Nat} {l1 l2 l3 : Int32} {l4 : Int64} (h : (zo_141 I J l1 ∧ (((zv_143 I J (zv_141 I J l1)) = 0 → (((l1 - l3) ≤ 4 → (zz RO (d + 2) 144 [.ref 28, .int 201, .int l3, .long l4] I J D 0 0 (zNv P fun I1 J1 D1 => zw RO (d + 2) 145 P 7 [(0, .ref 28), (1, .int l1)] [] I1 J1 D1 bc bs))) ∧ (¬ ((l1 - l3) ≤ 4) → (zz RO (d + 2) 144 [.ref 28, .int 203, .int l3, .long l4] I J D 0 0 (zNv P fun I2 J2 D2 => zw RO (d + 2) 145 P 7 [(0, .ref 28), (1, .int l1)] [] I2 J2 D2 bc bs))))) ∧ (¬ ((zv_143 I J (zv_141 I J l1)) = 0) → ((4 ≤ (l1 - l3) → zw RO (d + 2) 145 P 195 [(0, .ref 28), (1, .int (l1 + 1)), (2, .int l2), (3, .int l3), (4, .long 0)] [] I J D bc bs) ∧ (¬ (4 ≤ (l1 - l3)) → (zo_141 I J l1 ∧ zw RO (d + 2) 145 P 195 [(0, .ref 28), (1, .int (l1 + 1)), (2, .int l2), (3, .int l3), (4, .long (((10 * l4) + ((zv_141 I J l1).toInt64)) - 48))] [] I J D bc bs))))))) : zw RO (d + 2) 145 P 195 [(0, .ref 28), (1, .int l1), (2, .int l2), (3, .int l3), (4, .long l4)] [] I J D bc bs := by
  refine zr_aload_n zSm 98 rfl rfl ?_
  refine zr_iload_n zSm 99 rfl rfl ?_
  obtain ⟨b100, h⟩ := h
  refine zr_inv0 100 141 1 [.int l1] rfl rfl zk_11_125 zms_141 rfl ⟨_, _, _, _, rfl, rfl⟩ (Nat.le_of_ble_eq_true rfl) ?_
  refine ze_141 b100 ?_
  refine zNx_i ?_
  refine zr_ins0 101 143 1 [.int (zv_141 I J l1)] rfl rfl zk_11_136 zms_143 rfl (Nat.le_of_ble_eq_true rfl) ?_
  refine ze_143 ?_
  refine zNx_i ?_
  refine zr_if zSm 102 242 rfl rfl (fun q1 => ?_) (fun q1 => ?_)
  · have h := h.1 q1
    refine zr_aload_n zSm 123 rfl rfl ?_
    refine zr_iload_n zSm 124 rfl rfl ?_
    refine zr_iload_n zSm 125 rfl rfl ?_
    refine zr_s zSm 126 rfl rfl ?_
    refine zr_s zSm 127 rfl rfl ?_
    refine zr_ic zSm 128 256 rfl rfl (fun q2 => ?_) (fun q2 => ?_)
    · have h := h.1 q2
      refine zr_sipush zSm 131 201 rfl rfl ?_
      refine zr_iload_n zSm 132 rfl rfl ?_
      refine zr_lload zSm 133 rfl rfl ?_
      refine zr_inv0 134 144 3 [.int 201, .int l3, .long l4] rfl rfl zk_11_128 zms_144 rfl ⟨_, _, _, _, rfl, rfl⟩ (Nat.le_of_ble_eq_true rfl) ?_
      refine zcv h (fun I1 J1 D1 h => ?_)
      refine zr_goto zSm 135 274 rfl rfl ?_
      refine zr_goto zSm 140 7 rfl rfl ?_
      refine zr_sub [0, 1] rfl ?_
      exact h
    · have h := h.2 q2
      refine zr_sipush zSm 129 203 rfl rfl ?_
      refine zr_goto zSm 130 259 rfl rfl ?_
      refine zr_iload_n zSm 132 rfl rfl ?_
      refine zr_lload zSm 133 rfl rfl ?_
      refine zr_inv0 134 144 3 [.int 203, .int l3, .long l4] rfl rfl zk_11_128 zms_144 rfl ⟨_, _, _, _, rfl, rfl⟩ (Nat.le_of_ble_eq_true rfl) ?_
      refine zcv h (fun I2 J2 D2 h => ?_)
      refine zr_goto zSm 135 274 rfl rfl ?_
      refine zr_goto zSm 140 7 rfl rfl ?_
      refine zr_sub [0, 1] rfl ?_
      exact h
  · have h := h.2 q1
    refine zr_iload_n zSm 103 rfl rfl ?_
    refine zr_iload_n zSm 104 rfl rfl ?_
    refine zr_s zSm 105 rfl rfl ?_
    refine zr_s zSm 106 rfl rfl ?_
    refine zr_ic zSm 107 233 rfl rfl (fun q3 => ?_) (fun q3 => ?_)
    · have h := h.1 q3
      refine zr_s zSm 119 rfl rfl ?_
      refine zr_lstore zSm 120 (ll' := [(4, .long 0), (0, .ref 28), (1, .int l1), (2, .int l2), (3, .int l3)]) rfl (by decide) rfl ?_
      refine zr_iinc zSm 121 (v := l1 + 1) (ll' := [(1, .int (l1 + 1)), (4, .long 0), (0, .ref 28), (2, .int l2), (3, .int l3)]) rfl rfl (by decide) rfl rfl ?_
      refine zr_goto zSm 122 195 rfl rfl ?_
      refine zr_sub [2, 0, 3, 4, 1] rfl ?_
      exact h
    · have h := h.2 q3
      refine zr_ldc2 zSm 108 rfl zc_11_142 ?_
      refine zr_lload zSm 109 rfl rfl ?_
      refine zr_s zSm 110 rfl rfl ?_
      refine zr_aload_n zSm 111 rfl rfl ?_
      refine zr_iload_n zSm 112 rfl rfl ?_
      obtain ⟨b113, h⟩ := h
      refine zr_inv0 113 141 1 [.int l1] rfl rfl zk_11_125 zms_141 rfl ⟨_, _, _, _, rfl, rfl⟩ (Nat.le_of_ble_eq_true rfl) ?_
      refine ze_141 b113 ?_
      refine zNx_i ?_
      refine zr_s zSm 114 rfl rfl ?_
      refine zr_s zSm 115 rfl rfl ?_
      refine zr_ldc2 zSm 116 rfl zc_11_118 ?_
      refine zr_s zSm 117 rfl rfl ?_
      refine zr_goto zSm 118 234 rfl rfl ?_
      refine zr_lstore zSm 120 (ll' := [(4, .long (((10 * l4) + ((zv_141 I J l1).toInt64)) - 48)), (0, .ref 28), (1, .int l1), (2, .int l2), (3, .int l3)]) rfl (by decide) rfl ?_
      refine zr_iinc zSm 121 (v := l1 + 1) (ll' := [(1, .int (l1 + 1)), (4, .long (((10 * l4) + ((zv_141 I J l1).toInt64)) - 48)), (0, .ref 28), (2, .int l2), (3, .int l3)]) rfl rfl (by decide) rfl rfl ?_
      refine zr_goto zSm 122 195 rfl rfl ?_
      refine zr_sub [2, 0, 3, 4, 1] rfl ?_
      exact h
theorem w_146 {RO : zRo} {d : Nat} {P : zP} {I : zI} {J : zJ} {D : zD} {bc bs : Nat} {p0 : Int32} (h : (zo_141 I J p0 ∧ (zo_141 I J (p0 + 1) ∧ ((¬ (zv_141 I J p0) = 60 → ((¬ (zv_141 I J p0) = 62 → (zz RO (d + 1) 245 [.ref (110 + 0), .int (zv_141 I J p0)] I J D 0 0 (zNi P fun v1 I1 J1 D1 => ((0 ≤ v1 → (zz RO (d + 1) 144 [.ref 28, .int (100 + v1), .int p0, .long 0] I1 J1 D1 0 0 (zNv P fun I2 J2 D2 => P (.inl (some (.int (p0 + 1)))) I2 J2 D2))) ∧ (¬ (0 ≤ v1) → (zz RO (d + 1) 144 [.ref 28, .int 203, .int p0, .long 0] I1 J1 D1 0 0 (zNv P fun I3 J3 D3 => P (.inl (some (.int (p0 + 1)))) I3 J3 D3))))))) ∧ (¬ (¬ (zv_141 I J p0) = 62) → ((¬ (zv_141 I J (p0 + 1)) = 61 → (zz RO (d + 1) 245 [.ref (110 + 0), .int (zv_141 I J p0)] I J D 0 0 (zNi P fun v4 I4 J4 D4 => ((0 ≤ v4 → (zz RO (d + 1) 144 [.ref 28, .int (100 + v4), .int p0, .long 0] I4 J4 D4 0 0 (zNv P fun I5 J5 D5 => P (.inl (some (.int (p0 + 1)))) I5 J5 D5))) ∧ (¬ (0 ≤ v4) → (zz RO (d + 1) 144 [.ref 28, .int 203, .int p0, .long 0] I4 J4 D4 0 0 (zNv P fun I6 J6 D6 => P (.inl (some (.int (p0 + 1)))) I6 J6 D6))))))) ∧ (¬ (¬ (zv_141 I J (p0 + 1)) = 61) → (zz RO (d + 1) 245 [.ref (110 + 0), .int (zv_141 I J p0)] I J D 0 0 (zNi P fun v7 I7 J7 D7 => (zz RO (d + 1) 144 [.ref 28, .int 114, .int p0, .long 0] I7 J7 D7 0 0 (zNv P fun I8 J8 D8 => P (.inl (some (.int (p0 + 2)))) I8 J8 D8))))))))) ∧ (¬ (¬ (zv_141 I J p0) = 60) → ((¬ (zv_141 I J (p0 + 1)) = 61 → ((¬ (zv_141 I J p0) = 62 → ((¬ (zv_141 I J (p0 + 1)) = 62 → (zz RO (d + 1) 245 [.ref (110 + 0), .int (zv_141 I J p0)] I J D 0 0 (zNi P fun v9 I9 J9 D9 => ((0 ≤ v9 → (zz RO (d + 1) 144 [.ref 28, .int (100 + v9), .int p0, .long 0] I9 J9 D9 0 0 (zNv P fun I10 J10 D10 => P (.inl (some (.int (p0 + 1)))) I10 J10 D10))) ∧ (¬ (0 ≤ v9) → (zz RO (d + 1) 144 [.ref 28, .int 203, .int p0, .long 0] I9 J9 D9 0 0 (zNv P fun I11 J11 D11 => P (.inl (some (.int (p0 + 1)))) I11 J11 D11))))))) ∧ (¬ (¬ (zv_141 I J (p0 + 1)) = 62) → (zz RO (d + 1) 245 [.ref (110 + 0), .int (zv_141 I J p0)] I J D 0 0 (zNi P fun v12 I12 J12 D12 => (zz RO (d + 1) 144 [.ref 28, .int 115, .int p0, .long 0] I12 J12 D12 0 0 (zNv P fun I13 J13 D13 => P (.inl (some (.int (p0 + 2)))) I13 J13 D13))))))) ∧ (¬ (¬ (zv_141 I J p0) = 62) → ((¬ (zv_141 I J (p0 + 1)) = 62 → (zz RO (d + 1) 245 [.ref (110 + 0), .int (zv_141 I J p0)] I J D 0 0 (zNi P fun v14 I14 J14 D14 => ((0 ≤ v14 → (zz RO (d + 1) 144 [.ref 28, .int (100 + v14), .int p0, .long 0] I14 J14 D14 0 0 (zNv P fun I15 J15 D15 => P (.inl (some (.int (p0 + 1)))) I15 J15 D15))) ∧ (¬ (0 ≤ v14) → (zz RO (d + 1) 144 [.ref 28, .int 203, .int p0, .long 0] I14 J14 D14 0 0 (zNv P fun I16 J16 D16 => P (.inl (some (.int (p0 + 1)))) I16 J16 D16))))))) ∧ (¬ (¬ (zv_141 I J (p0 + 1)) = 62) → (zz RO (d + 1) 245 [.ref (110 + 0), .int (zv_141 I J p0)] I J D 0 0 (zNi P fun v17 I17 J17 D17 => (zz RO (d + 1) 144 [.ref 28, .int 115, .int p0, .long 0] I17 J17 D17 0 0 (zNv P fun I18 J18 D18 => P (.inl (some (.int (p0 + 2)))) I18 J18 D18))))))))) ∧ (¬ (¬ (zv_141 I J (p0 + 1)) = 61) → (zz RO (d + 1) 245 [.ref (110 + 0), .int (zv_141 I J p0)] I J D 0 0 (zNi P fun v19 I19 J19 D19 => (zz RO (d + 1) 144 [.ref 28, .int 113, .int p0, .long 0] I19 J19 D19 0 0 (zNv P fun I20 J20 D20 => P (.inl (some (.int (p0 + 2)))) I20 J20 D20))))))))))) : zz RO (d + 2) 146 [.ref 28, .int p0] I J D bc bs P := by
  refine zT_of (Nat.le_of_ble_eq_true rfl) rfl ?_
  show zw RO (d + 1) 146 P 0 [(0, .ref 28), (1, .int p0)] [] I J D bc bs
  refine zr_aload_n zSm 0 rfl rfl ?_
  refine zr_iload_n zSm 1 rfl rfl ?_
  obtain ⟨b2, h⟩ := h
  refine zr_inv0 2 141 1 [.int p0] rfl rfl zk_11_125 zms_141 rfl ⟨_, _, _, _, rfl, rfl⟩ (Nat.le_of_ble_eq_true rfl) ?_
  refine ze_141 b2 ?_
  refine zNx_i ?_
  refine zr_istore_n zSm 3 (ll' := [(2, .int (zv_141 I J p0)), (0, .ref 28), (1, .int p0)]) rfl (by decide) rfl ?_
  refine zr_aload_n zSm 4 rfl rfl ?_
  refine zr_iload_n zSm 5 rfl rfl ?_
  refine zr_s zSm 6 rfl rfl ?_
  refine zr_s zSm 7 rfl rfl ?_
  obtain ⟨b8, h⟩ := h
  refine zr_inv0 8 141 1 [.int (p0 + 1)] rfl rfl zk_11_125 zms_141 rfl ⟨_, _, _, _, rfl, rfl⟩ (Nat.le_of_ble_eq_true rfl) ?_
  refine ze_141 b8 ?_
  refine zNx_i ?_
  refine zr_istore_n zSm 9 (ll' := [(3, .int (zv_141 I J (p0 + 1))), (2, .int (zv_141 I J p0)), (0, .ref 28), (1, .int p0)]) rfl (by decide) rfl ?_
  refine zr_iload_n zSm 10 rfl rfl ?_
  refine zr_bipush zSm 11 60 rfl rfl ?_
  refine zr_ic zSm 12 31 rfl rfl (fun q1 => ?_) (fun q1 => ?_)
  · have h := h.1 q1
    refine zr_iload_n zSm 18 rfl rfl ?_
    refine zr_bipush zSm 19 62 rfl rfl ?_
    refine zr_ic zSm 20 48 rfl rfl (fun q2 => ?_) (fun q2 => ?_)
    · have h := h.1 q2
      refine zr_iload_n zSm 26 rfl rfl ?_
      refine zr_bipush zSm 27 60 rfl rfl ?_
      refine zr_ic zSm 28 65 rfl rfl (fun q3 => ?_) (fun q3 => ?_)
      · refine zr_s zSm 34 rfl rfl ?_
        refine zr_istore zSm 35 (ll' := [(4, .int (-1)), (3, .int (zv_141 I J (p0 + 1))), (2, .int (zv_141 I J p0)), (0, .ref 28), (1, .int p0)]) rfl (by decide) rfl ?_
        refine zr_ldcS 36 0 rfl (by decide +kernel) ?_
        refine zr_iload_n zSm 37 rfl rfl ?_
        refine zr_invS 38 245 1 0 [.int (zv_141 I J p0)] rfl rfl (by decide) zk_11_149 zms_245 rfl rfl (Nat.le_of_ble_eq_true rfl) ?_
        refine zci h (fun v1 I1 J1 D1 h => ?_)
        refine zr_istore zSm 39 (ll' := [(5, .int v1), (4, .int (-1)), (3, .int (zv_141 I J (p0 + 1))), (2, .int (zv_141 I J p0)), (0, .ref 28), (1, .int p0)]) rfl (by decide) rfl ?_
        refine zr_aload_n zSm 40 rfl rfl ?_
        refine zr_iload zSm 41 rfl rfl ?_
        refine zr_s zSm 42 rfl rfl ?_
        refine zr_ic zSm 43 88 rfl rfl (fun q4 => ?_) (fun q4 => ?_)
        · refine zr_iload zSm 46 rfl rfl ?_
          refine zr_if zSm 47 99 rfl rfl (fun q5 => ?_) (fun q5 => ?_)
          · have h := h.1 q5
            refine zr_bipush zSm 50 100 rfl rfl ?_
            refine zr_iload zSm 51 rfl rfl ?_
            refine zr_s zSm 52 rfl rfl ?_
            refine zr_iload_n zSm 53 rfl rfl ?_
            refine zr_s zSm 54 rfl rfl ?_
            refine zr_inv0 55 144 3 [.int (100 + v1), .int p0, .long 0] rfl rfl zk_11_128 zms_144 rfl ⟨_, _, _, _, rfl, rfl⟩ (Nat.le_of_ble_eq_true rfl) ?_
            refine zcv h (fun I2 J2 D2 h => ?_)
            refine zr_iload zSm 56 rfl rfl ?_
            refine zr_s zSm 57 rfl rfl ?_
            refine zr_ic zSm 58 121 rfl rfl (fun q6 => ?_) (fun q6 => ?_)
            · refine zr_iload_n zSm 63 rfl rfl ?_
              refine zr_s zSm 64 rfl rfl ?_
              refine zr_s zSm 65 rfl rfl ?_
              refine zr_iret zSm 66 rfl rfl rfl ?_
              exact h
            · exact absurd q6 (by show ¬ ¬ (((-1) : Int32) = (-1)); decide)
          · have h := h.2 q5
            refine zr_sipush zSm 48 203 rfl rfl ?_
            refine zr_goto zSm 49 104 rfl rfl ?_
            refine zr_iload_n zSm 53 rfl rfl ?_
            refine zr_s zSm 54 rfl rfl ?_
            refine zr_inv0 55 144 3 [.int 203, .int p0, .long 0] rfl rfl zk_11_128 zms_144 rfl ⟨_, _, _, _, rfl, rfl⟩ (Nat.le_of_ble_eq_true rfl) ?_
            refine zcv h (fun I3 J3 D3 h => ?_)
            refine zr_iload zSm 56 rfl rfl ?_
            refine zr_s zSm 57 rfl rfl ?_
            refine zr_ic zSm 58 121 rfl rfl (fun q7 => ?_) (fun q7 => ?_)
            · refine zr_iload_n zSm 63 rfl rfl ?_
              refine zr_s zSm 64 rfl rfl ?_
              refine zr_s zSm 65 rfl rfl ?_
              refine zr_iret zSm 66 rfl rfl rfl ?_
              exact h
            · exact absurd q7 (by show ¬ ¬ (((-1) : Int32) = (-1)); decide)
        · exact absurd q4 (by show ¬ ¬ (((-1) : Int32) = (-1)); decide)
      · exact absurd q1 q3
    · have h := h.2 q2
      refine zr_iload_n zSm 21 rfl rfl ?_
      refine zr_bipush zSm 22 61 rfl rfl ?_
      refine zr_ic zSm 23 48 rfl rfl (fun q8 => ?_) (fun q8 => ?_)
      · have h := h.1 q8
        refine zr_iload_n zSm 26 rfl rfl ?_
        refine zr_bipush zSm 27 60 rfl rfl ?_
        refine zr_ic zSm 28 65 rfl rfl (fun q9 => ?_) (fun q9 => ?_)
        · refine zr_s zSm 34 rfl rfl ?_
          refine zr_istore zSm 35 (ll' := [(4, .int (-1)), (3, .int (zv_141 I J (p0 + 1))), (2, .int (zv_141 I J p0)), (0, .ref 28), (1, .int p0)]) rfl (by decide) rfl ?_
          refine zr_ldcS 36 0 rfl (by decide +kernel) ?_
          refine zr_iload_n zSm 37 rfl rfl ?_
          refine zr_invS 38 245 1 0 [.int (zv_141 I J p0)] rfl rfl (by decide) zk_11_149 zms_245 rfl rfl (Nat.le_of_ble_eq_true rfl) ?_
          refine zci h (fun v4 I4 J4 D4 h => ?_)
          refine zr_istore zSm 39 (ll' := [(5, .int v4), (4, .int (-1)), (3, .int (zv_141 I J (p0 + 1))), (2, .int (zv_141 I J p0)), (0, .ref 28), (1, .int p0)]) rfl (by decide) rfl ?_
          refine zr_aload_n zSm 40 rfl rfl ?_
          refine zr_iload zSm 41 rfl rfl ?_
          refine zr_s zSm 42 rfl rfl ?_
          refine zr_ic zSm 43 88 rfl rfl (fun q10 => ?_) (fun q10 => ?_)
          · refine zr_iload zSm 46 rfl rfl ?_
            refine zr_if zSm 47 99 rfl rfl (fun q11 => ?_) (fun q11 => ?_)
            · have h := h.1 q11
              refine zr_bipush zSm 50 100 rfl rfl ?_
              refine zr_iload zSm 51 rfl rfl ?_
              refine zr_s zSm 52 rfl rfl ?_
              refine zr_iload_n zSm 53 rfl rfl ?_
              refine zr_s zSm 54 rfl rfl ?_
              refine zr_inv0 55 144 3 [.int (100 + v4), .int p0, .long 0] rfl rfl zk_11_128 zms_144 rfl ⟨_, _, _, _, rfl, rfl⟩ (Nat.le_of_ble_eq_true rfl) ?_
              refine zcv h (fun I5 J5 D5 h => ?_)
              refine zr_iload zSm 56 rfl rfl ?_
              refine zr_s zSm 57 rfl rfl ?_
              refine zr_ic zSm 58 121 rfl rfl (fun q12 => ?_) (fun q12 => ?_)
              · refine zr_iload_n zSm 63 rfl rfl ?_
                refine zr_s zSm 64 rfl rfl ?_
                refine zr_s zSm 65 rfl rfl ?_
                refine zr_iret zSm 66 rfl rfl rfl ?_
                exact h
              · exact absurd q12 (by show ¬ ¬ (((-1) : Int32) = (-1)); decide)
            · have h := h.2 q11
              refine zr_sipush zSm 48 203 rfl rfl ?_
              refine zr_goto zSm 49 104 rfl rfl ?_
              refine zr_iload_n zSm 53 rfl rfl ?_
              refine zr_s zSm 54 rfl rfl ?_
              refine zr_inv0 55 144 3 [.int 203, .int p0, .long 0] rfl rfl zk_11_128 zms_144 rfl ⟨_, _, _, _, rfl, rfl⟩ (Nat.le_of_ble_eq_true rfl) ?_
              refine zcv h (fun I6 J6 D6 h => ?_)
              refine zr_iload zSm 56 rfl rfl ?_
              refine zr_s zSm 57 rfl rfl ?_
              refine zr_ic zSm 58 121 rfl rfl (fun q13 => ?_) (fun q13 => ?_)
              · refine zr_iload_n zSm 63 rfl rfl ?_
                refine zr_s zSm 64 rfl rfl ?_
                refine zr_s zSm 65 rfl rfl ?_
                refine zr_iret zSm 66 rfl rfl rfl ?_
                exact h
              · exact absurd q13 (by show ¬ ¬ (((-1) : Int32) = (-1)); decide)
          · exact absurd q10 (by show ¬ ¬ (((-1) : Int32) = (-1)); decide)
        · exact absurd q1 q9
      · have h := h.2 q8
        refine zr_bipush zSm 24 114 rfl rfl ?_
        refine zr_goto zSm 25 66 rfl rfl ?_
        refine zr_istore zSm 35 (ll' := [(4, .int 114), (3, .int (zv_141 I J (p0 + 1))), (2, .int (zv_141 I J p0)), (0, .ref 28), (1, .int p0)]) rfl (by decide) rfl ?_
        refine zr_ldcS 36 0 rfl (by decide +kernel) ?_
        refine zr_iload_n zSm 37 rfl rfl ?_
        refine zr_invS 38 245 1 0 [.int (zv_141 I J p0)] rfl rfl (by decide) zk_11_149 zms_245 rfl rfl (Nat.le_of_ble_eq_true rfl) ?_
        refine zci h (fun v7 I7 J7 D7 h => ?_)
        refine zr_istore zSm 39 (ll' := [(5, .int v7), (4, .int 114), (3, .int (zv_141 I J (p0 + 1))), (2, .int (zv_141 I J p0)), (0, .ref 28), (1, .int p0)]) rfl (by decide) rfl ?_
        refine zr_aload_n zSm 40 rfl rfl ?_
        refine zr_iload zSm 41 rfl rfl ?_
        refine zr_s zSm 42 rfl rfl ?_
        refine zr_ic zSm 43 88 rfl rfl (fun q14 => ?_) (fun q14 => ?_)
        · exact absurd q14 (by show ¬ ((114 : Int32) = (-1)); decide)
        · refine zr_iload zSm 44 rfl rfl ?_
          refine zr_goto zSm 45 104 rfl rfl ?_
          refine zr_iload_n zSm 53 rfl rfl ?_
          refine zr_s zSm 54 rfl rfl ?_
          refine zr_inv0 55 144 3 [.int 114, .int p0, .long 0] rfl rfl zk_11_128 zms_144 rfl ⟨_, _, _, _, rfl, rfl⟩ (Nat.le_of_ble_eq_true rfl) ?_
          refine zcv h (fun I8 J8 D8 h => ?_)
          refine zr_iload zSm 56 rfl rfl ?_
          refine zr_s zSm 57 rfl rfl ?_
          refine zr_ic zSm 58 121 rfl rfl (fun q15 => ?_) (fun q15 => ?_)
          · exact absurd q15 (by show ¬ ((114 : Int32) = (-1)); decide)
          · refine zr_iload_n zSm 59 rfl rfl ?_
            refine zr_s zSm 60 rfl rfl ?_
            refine zr_s zSm 61 rfl rfl ?_
            refine zr_goto zSm 62 124 rfl rfl ?_
            refine zr_iret zSm 66 rfl rfl rfl ?_
            exact h
  · have h := h.2 q1
    refine zr_iload_n zSm 13 rfl rfl ?_
    refine zr_bipush zSm 14 61 rfl rfl ?_
    refine zr_ic zSm 15 31 rfl rfl (fun q16 => ?_) (fun q16 => ?_)
    · have h := h.1 q16
      refine zr_iload_n zSm 18 rfl rfl ?_
      refine zr_bipush zSm 19 62 rfl rfl ?_
      refine zr_ic zSm 20 48 rfl rfl (fun q17 => ?_) (fun q17 => ?_)
      · have h := h.1 q17
        refine zr_iload_n zSm 26 rfl rfl ?_
        refine zr_bipush zSm 27 60 rfl rfl ?_
        refine zr_ic zSm 28 65 rfl rfl (fun q18 => ?_) (fun q18 => ?_)
        · exact absurd q18 q1
        · refine zr_iload_n zSm 29 rfl rfl ?_
          refine zr_bipush zSm 30 62 rfl rfl ?_
          refine zr_ic zSm 31 65 rfl rfl (fun q19 => ?_) (fun q19 => ?_)
          · have h := h.1 q19
            refine zr_s zSm 34 rfl rfl ?_
            refine zr_istore zSm 35 (ll' := [(4, .int (-1)), (3, .int (zv_141 I J (p0 + 1))), (2, .int (zv_141 I J p0)), (0, .ref 28), (1, .int p0)]) rfl (by decide) rfl ?_
            refine zr_ldcS 36 0 rfl (by decide +kernel) ?_
            refine zr_iload_n zSm 37 rfl rfl ?_
            refine zr_invS 38 245 1 0 [.int (zv_141 I J p0)] rfl rfl (by decide) zk_11_149 zms_245 rfl rfl (Nat.le_of_ble_eq_true rfl) ?_
            refine zci h (fun v9 I9 J9 D9 h => ?_)
            refine zr_istore zSm 39 (ll' := [(5, .int v9), (4, .int (-1)), (3, .int (zv_141 I J (p0 + 1))), (2, .int (zv_141 I J p0)), (0, .ref 28), (1, .int p0)]) rfl (by decide) rfl ?_
            refine zr_aload_n zSm 40 rfl rfl ?_
            refine zr_iload zSm 41 rfl rfl ?_
            refine zr_s zSm 42 rfl rfl ?_
            refine zr_ic zSm 43 88 rfl rfl (fun q20 => ?_) (fun q20 => ?_)
            · refine zr_iload zSm 46 rfl rfl ?_
              refine zr_if zSm 47 99 rfl rfl (fun q21 => ?_) (fun q21 => ?_)
              · have h := h.1 q21
                refine zr_bipush zSm 50 100 rfl rfl ?_
                refine zr_iload zSm 51 rfl rfl ?_
                refine zr_s zSm 52 rfl rfl ?_
                refine zr_iload_n zSm 53 rfl rfl ?_
                refine zr_s zSm 54 rfl rfl ?_
                refine zr_inv0 55 144 3 [.int (100 + v9), .int p0, .long 0] rfl rfl zk_11_128 zms_144 rfl ⟨_, _, _, _, rfl, rfl⟩ (Nat.le_of_ble_eq_true rfl) ?_
                refine zcv h (fun I10 J10 D10 h => ?_)
                refine zr_iload zSm 56 rfl rfl ?_
                refine zr_s zSm 57 rfl rfl ?_
                refine zr_ic zSm 58 121 rfl rfl (fun q22 => ?_) (fun q22 => ?_)
                · refine zr_iload_n zSm 63 rfl rfl ?_
                  refine zr_s zSm 64 rfl rfl ?_
                  refine zr_s zSm 65 rfl rfl ?_
                  refine zr_iret zSm 66 rfl rfl rfl ?_
                  exact h
                · exact absurd q22 (by show ¬ ¬ (((-1) : Int32) = (-1)); decide)
              · have h := h.2 q21
                refine zr_sipush zSm 48 203 rfl rfl ?_
                refine zr_goto zSm 49 104 rfl rfl ?_
                refine zr_iload_n zSm 53 rfl rfl ?_
                refine zr_s zSm 54 rfl rfl ?_
                refine zr_inv0 55 144 3 [.int 203, .int p0, .long 0] rfl rfl zk_11_128 zms_144 rfl ⟨_, _, _, _, rfl, rfl⟩ (Nat.le_of_ble_eq_true rfl) ?_
                refine zcv h (fun I11 J11 D11 h => ?_)
                refine zr_iload zSm 56 rfl rfl ?_
                refine zr_s zSm 57 rfl rfl ?_
                refine zr_ic zSm 58 121 rfl rfl (fun q23 => ?_) (fun q23 => ?_)
                · refine zr_iload_n zSm 63 rfl rfl ?_
                  refine zr_s zSm 64 rfl rfl ?_
                  refine zr_s zSm 65 rfl rfl ?_
                  refine zr_iret zSm 66 rfl rfl rfl ?_
                  exact h
                · exact absurd q23 (by show ¬ ¬ (((-1) : Int32) = (-1)); decide)
            · exact absurd q20 (by show ¬ ¬ (((-1) : Int32) = (-1)); decide)
          · have h := h.2 q19
            refine zr_bipush zSm 32 115 rfl rfl ?_
            refine zr_goto zSm 33 66 rfl rfl ?_
            refine zr_istore zSm 35 (ll' := [(4, .int 115), (3, .int (zv_141 I J (p0 + 1))), (2, .int (zv_141 I J p0)), (0, .ref 28), (1, .int p0)]) rfl (by decide) rfl ?_
            refine zr_ldcS 36 0 rfl (by decide +kernel) ?_
            refine zr_iload_n zSm 37 rfl rfl ?_
            refine zr_invS 38 245 1 0 [.int (zv_141 I J p0)] rfl rfl (by decide) zk_11_149 zms_245 rfl rfl (Nat.le_of_ble_eq_true rfl) ?_
            refine zci h (fun v12 I12 J12 D12 h => ?_)
            refine zr_istore zSm 39 (ll' := [(5, .int v12), (4, .int 115), (3, .int (zv_141 I J (p0 + 1))), (2, .int (zv_141 I J p0)), (0, .ref 28), (1, .int p0)]) rfl (by decide) rfl ?_
            refine zr_aload_n zSm 40 rfl rfl ?_
            refine zr_iload zSm 41 rfl rfl ?_
            refine zr_s zSm 42 rfl rfl ?_
            refine zr_ic zSm 43 88 rfl rfl (fun q24 => ?_) (fun q24 => ?_)
            · exact absurd q24 (by show ¬ ((115 : Int32) = (-1)); decide)
            · refine zr_iload zSm 44 rfl rfl ?_
              refine zr_goto zSm 45 104 rfl rfl ?_
              refine zr_iload_n zSm 53 rfl rfl ?_
              refine zr_s zSm 54 rfl rfl ?_
              refine zr_inv0 55 144 3 [.int 115, .int p0, .long 0] rfl rfl zk_11_128 zms_144 rfl ⟨_, _, _, _, rfl, rfl⟩ (Nat.le_of_ble_eq_true rfl) ?_
              refine zcv h (fun I13 J13 D13 h => ?_)
              refine zr_iload zSm 56 rfl rfl ?_
              refine zr_s zSm 57 rfl rfl ?_
              refine zr_ic zSm 58 121 rfl rfl (fun q25 => ?_) (fun q25 => ?_)
              · exact absurd q25 (by show ¬ ((115 : Int32) = (-1)); decide)
              · refine zr_iload_n zSm 59 rfl rfl ?_
                refine zr_s zSm 60 rfl rfl ?_
                refine zr_s zSm 61 rfl rfl ?_
                refine zr_goto zSm 62 124 rfl rfl ?_
                refine zr_iret zSm 66 rfl rfl rfl ?_
                exact h
      · have h := h.2 q17
        refine zr_iload_n zSm 21 rfl rfl ?_
        refine zr_bipush zSm 22 61 rfl rfl ?_
        refine zr_ic zSm 23 48 rfl rfl (fun q26 => ?_) (fun q26 => ?_)
        · refine zr_iload_n zSm 26 rfl rfl ?_
          refine zr_bipush zSm 27 60 rfl rfl ?_
          refine zr_ic zSm 28 65 rfl rfl (fun q27 => ?_) (fun q27 => ?_)
          · exact absurd q27 q1
          · refine zr_iload_n zSm 29 rfl rfl ?_
            refine zr_bipush zSm 30 62 rfl rfl ?_
            refine zr_ic zSm 31 65 rfl rfl (fun q28 => ?_) (fun q28 => ?_)
            · have h := h.1 q28
              refine zr_s zSm 34 rfl rfl ?_
              refine zr_istore zSm 35 (ll' := [(4, .int (-1)), (3, .int (zv_141 I J (p0 + 1))), (2, .int (zv_141 I J p0)), (0, .ref 28), (1, .int p0)]) rfl (by decide) rfl ?_
              refine zr_ldcS 36 0 rfl (by decide +kernel) ?_
              refine zr_iload_n zSm 37 rfl rfl ?_
              refine zr_invS 38 245 1 0 [.int (zv_141 I J p0)] rfl rfl (by decide) zk_11_149 zms_245 rfl rfl (Nat.le_of_ble_eq_true rfl) ?_
              refine zci h (fun v14 I14 J14 D14 h => ?_)
              refine zr_istore zSm 39 (ll' := [(5, .int v14), (4, .int (-1)), (3, .int (zv_141 I J (p0 + 1))), (2, .int (zv_141 I J p0)), (0, .ref 28), (1, .int p0)]) rfl (by decide) rfl ?_
              refine zr_aload_n zSm 40 rfl rfl ?_
              refine zr_iload zSm 41 rfl rfl ?_
              refine zr_s zSm 42 rfl rfl ?_
              refine zr_ic zSm 43 88 rfl rfl (fun q29 => ?_) (fun q29 => ?_)
              · refine zr_iload zSm 46 rfl rfl ?_
                refine zr_if zSm 47 99 rfl rfl (fun q30 => ?_) (fun q30 => ?_)
                · have h := h.1 q30
                  refine zr_bipush zSm 50 100 rfl rfl ?_
                  refine zr_iload zSm 51 rfl rfl ?_
                  refine zr_s zSm 52 rfl rfl ?_
                  refine zr_iload_n zSm 53 rfl rfl ?_
                  refine zr_s zSm 54 rfl rfl ?_
                  refine zr_inv0 55 144 3 [.int (100 + v14), .int p0, .long 0] rfl rfl zk_11_128 zms_144 rfl ⟨_, _, _, _, rfl, rfl⟩ (Nat.le_of_ble_eq_true rfl) ?_
                  refine zcv h (fun I15 J15 D15 h => ?_)
                  refine zr_iload zSm 56 rfl rfl ?_
                  refine zr_s zSm 57 rfl rfl ?_
                  refine zr_ic zSm 58 121 rfl rfl (fun q31 => ?_) (fun q31 => ?_)
                  · refine zr_iload_n zSm 63 rfl rfl ?_
                    refine zr_s zSm 64 rfl rfl ?_
                    refine zr_s zSm 65 rfl rfl ?_
                    refine zr_iret zSm 66 rfl rfl rfl ?_
                    exact h
                  · exact absurd q31 (by show ¬ ¬ (((-1) : Int32) = (-1)); decide)
                · have h := h.2 q30
                  refine zr_sipush zSm 48 203 rfl rfl ?_
                  refine zr_goto zSm 49 104 rfl rfl ?_
                  refine zr_iload_n zSm 53 rfl rfl ?_
                  refine zr_s zSm 54 rfl rfl ?_
                  refine zr_inv0 55 144 3 [.int 203, .int p0, .long 0] rfl rfl zk_11_128 zms_144 rfl ⟨_, _, _, _, rfl, rfl⟩ (Nat.le_of_ble_eq_true rfl) ?_
                  refine zcv h (fun I16 J16 D16 h => ?_)
                  refine zr_iload zSm 56 rfl rfl ?_
                  refine zr_s zSm 57 rfl rfl ?_
                  refine zr_ic zSm 58 121 rfl rfl (fun q32 => ?_) (fun q32 => ?_)
                  · refine zr_iload_n zSm 63 rfl rfl ?_
                    refine zr_s zSm 64 rfl rfl ?_
                    refine zr_s zSm 65 rfl rfl ?_
                    refine zr_iret zSm 66 rfl rfl rfl ?_
                    exact h
                  · exact absurd q32 (by show ¬ ¬ (((-1) : Int32) = (-1)); decide)
              · exact absurd q29 (by show ¬ ¬ (((-1) : Int32) = (-1)); decide)
            · have h := h.2 q28
              refine zr_bipush zSm 32 115 rfl rfl ?_
              refine zr_goto zSm 33 66 rfl rfl ?_
              refine zr_istore zSm 35 (ll' := [(4, .int 115), (3, .int (zv_141 I J (p0 + 1))), (2, .int (zv_141 I J p0)), (0, .ref 28), (1, .int p0)]) rfl (by decide) rfl ?_
              refine zr_ldcS 36 0 rfl (by decide +kernel) ?_
              refine zr_iload_n zSm 37 rfl rfl ?_
              refine zr_invS 38 245 1 0 [.int (zv_141 I J p0)] rfl rfl (by decide) zk_11_149 zms_245 rfl rfl (Nat.le_of_ble_eq_true rfl) ?_
              refine zci h (fun v17 I17 J17 D17 h => ?_)
              refine zr_istore zSm 39 (ll' := [(5, .int v17), (4, .int 115), (3, .int (zv_141 I J (p0 + 1))), (2, .int (zv_141 I J p0)), (0, .ref 28), (1, .int p0)]) rfl (by decide) rfl ?_
              refine zr_aload_n zSm 40 rfl rfl ?_
              refine zr_iload zSm 41 rfl rfl ?_
              refine zr_s zSm 42 rfl rfl ?_
              refine zr_ic zSm 43 88 rfl rfl (fun q33 => ?_) (fun q33 => ?_)
              · exact absurd q33 (by show ¬ ((115 : Int32) = (-1)); decide)
              · refine zr_iload zSm 44 rfl rfl ?_
                refine zr_goto zSm 45 104 rfl rfl ?_
                refine zr_iload_n zSm 53 rfl rfl ?_
                refine zr_s zSm 54 rfl rfl ?_
                refine zr_inv0 55 144 3 [.int 115, .int p0, .long 0] rfl rfl zk_11_128 zms_144 rfl ⟨_, _, _, _, rfl, rfl⟩ (Nat.le_of_ble_eq_true rfl) ?_
                refine zcv h (fun I18 J18 D18 h => ?_)
                refine zr_iload zSm 56 rfl rfl ?_
                refine zr_s zSm 57 rfl rfl ?_
                refine zr_ic zSm 58 121 rfl rfl (fun q34 => ?_) (fun q34 => ?_)
                · exact absurd q34 (by show ¬ ((115 : Int32) = (-1)); decide)
                · refine zr_iload_n zSm 59 rfl rfl ?_
                  refine zr_s zSm 60 rfl rfl ?_
                  refine zr_s zSm 61 rfl rfl ?_
                  refine zr_goto zSm 62 124 rfl rfl ?_
                  refine zr_iret zSm 66 rfl rfl rfl ?_
                  exact h
        · exact absurd q16 q26
    · have h := h.2 q16
      refine zr_bipush zSm 16 113 rfl rfl ?_
      refine zr_goto zSm 17 66 rfl rfl ?_
      refine zr_istore zSm 35 (ll' := [(4, .int 113), (3, .int (zv_141 I J (p0 + 1))), (2, .int (zv_141 I J p0)), (0, .ref 28), (1, .int p0)]) rfl (by decide) rfl ?_
      refine zr_ldcS 36 0 rfl (by decide +kernel) ?_
      refine zr_iload_n zSm 37 rfl rfl ?_
      refine zr_invS 38 245 1 0 [.int (zv_141 I J p0)] rfl rfl (by decide) zk_11_149 zms_245 rfl rfl (Nat.le_of_ble_eq_true rfl) ?_
      refine zci h (fun v19 I19 J19 D19 h => ?_)
      refine zr_istore zSm 39 (ll' := [(5, .int v19), (4, .int 113), (3, .int (zv_141 I J (p0 + 1))), (2, .int (zv_141 I J p0)), (0, .ref 28), (1, .int p0)]) rfl (by decide) rfl ?_
      refine zr_aload_n zSm 40 rfl rfl ?_
      refine zr_iload zSm 41 rfl rfl ?_
      refine zr_s zSm 42 rfl rfl ?_
      refine zr_ic zSm 43 88 rfl rfl (fun q35 => ?_) (fun q35 => ?_)
      · exact absurd q35 (by show ¬ ((113 : Int32) = (-1)); decide)
      · refine zr_iload zSm 44 rfl rfl ?_
        refine zr_goto zSm 45 104 rfl rfl ?_
        refine zr_iload_n zSm 53 rfl rfl ?_
        refine zr_s zSm 54 rfl rfl ?_
        refine zr_inv0 55 144 3 [.int 113, .int p0, .long 0] rfl rfl zk_11_128 zms_144 rfl ⟨_, _, _, _, rfl, rfl⟩ (Nat.le_of_ble_eq_true rfl) ?_
        refine zcv h (fun I20 J20 D20 h => ?_)
        refine zr_iload zSm 56 rfl rfl ?_
        refine zr_s zSm 57 rfl rfl ?_
        refine zr_ic zSm 58 121 rfl rfl (fun q36 => ?_) (fun q36 => ?_)
        · exact absurd q36 (by show ¬ ((113 : Int32) = (-1)); decide)
        · refine zr_iload_n zSm 59 rfl rfl ?_
          refine zr_s zSm 60 rfl rfl ?_
          refine zr_s zSm 61 rfl rfl ?_
          refine zr_goto zSm 62 124 rfl rfl ?_
          refine zr_iret zSm 66 rfl rfl rfl ?_
          exact h
theorem w_147 {RO : zRo} {d : Nat} {P : zP} {I : zI} {J : zJ} {D : zD} {bc bs : Nat}  (h : zw RO d 147 P 7 [(0, .ref 28), (1, .int 0)] [] (zu I 28 8 0) J D bc bs) : zz RO (d + 1) 147 [.ref 28] I J D bc bs P := by
  refine zT_of (Nat.le_of_ble_eq_true rfl) rfl ?_
  show zw RO d 147 P 0 [(0, .ref 28)] [] I J D bc bs
  refine zr_aload_n zSm 0 rfl rfl ?_
  refine zr_s zSm 1 rfl rfl ?_
  refine zr_putI zSm 2 rfl zf_11_151 rfl rfl (by decide) zp_11_8 ?_
  refine zr_s zSm 3 rfl rfl ?_
  refine zr_istore_n zSm 4 (ll' := [(1, .int 0), (0, .ref 28)]) rfl (by decide) rfl ?_
  refine zr_sub [1, 0] rfl ?_
  exact h
theorem wl_147_7 {RO : zRo} {d : Nat} {P : zP} {I : zI} {J : zJ} {D : zD} {bc bs : Nat} {l1 : Int32} (h : ((8 < l1 → zw RO d 147 P 28 [(0, .ref 28), (1, .int 0)] [] I J D bc bs) ∧ (¬ (8 < l1) → (vp_in l1 9 ∧ zw RO d 147 P 7 [(0, .ref 28), (1, .int (l1 + 1))] [] (zu I 37 l1.toNatClampNeg 0) J D bc bs)))) : zw RO d 147 P 7 [(0, .ref 28), (1, .int l1)] [] I J D bc bs := by
  refine zr_iload_n zSm 5 rfl rfl ?_
  refine zr_bipush zSm 6 8 rfl rfl ?_
  refine zr_ic zSm 7 26 rfl rfl (fun q1 => ?_) (fun q1 => ?_)
  · have h := h.1 q1
    refine zr_s zSm 15 rfl rfl ?_
    refine zr_istore_n zSm 16 (ll' := [(1, .int 0), (0, .ref 28)]) rfl (by decide) rfl ?_
    refine zr_sub [1, 0] rfl ?_
    exact h
  · have h := h.2 q1
    refine zr_aload_n zSm 8 rfl rfl ?_
    refine zr_getR zSm 9 rfl zf_11_35 rfl rfl (by decide) ?_
    refine zr_iload_n zSm 10 rfl rfl ?_
    refine zr_s zSm 11 rfl rfl ?_
    obtain ⟨b12, h⟩ := h
    refine zr_iast zSm 12 rfl rfl b12 ?_
    refine zr_iinc zSm 13 (v := l1 + 1) (ll' := [(1, .int (l1 + 1)), (0, .ref 28)]) rfl rfl (by decide) rfl rfl ?_
    refine zr_goto zSm 14 7 rfl rfl ?_
    refine zr_sub [1, 0] rfl ?_
    exact h
theorem wl_147_28 {RO : zRo} {d : Nat} {P : zP} {I : zI} {J : zJ} {D : zD} {bc bs : Nat} {l1 : Int32} (h : ((6 ≤ l1 → P (.inl none) (zu (zu (zu (zu (zu I 28 19 0) 28 23 0) 28 30 0) 28 47 0) 28 45 0) J D) ∧ (¬ (6 ≤ l1) → (vp_in l1 6 ∧ zw RO d 147 P 28 [(0, .ref 28), (1, .int (l1 + 1))] [] (zu I 39 l1.toNatClampNeg 0) J D bc bs)))) : zw RO d 147 P 28 [(0, .ref 28), (1, .int l1)] [] I J D bc bs := by
  refine zr_iload_n zSm 17 rfl rfl ?_
  refine zr_bipush zSm 18 6 rfl rfl ?_
  refine zr_ic zSm 19 47 rfl rfl (fun q1 => ?_) (fun q1 => ?_)
  · have h := h.1 q1
    refine zr_aload_n zSm 27 rfl rfl ?_
    refine zr_s zSm 28 rfl rfl ?_
    refine zr_putI zSm 29 rfl zf_11_154 rfl rfl (by decide) zp_11_19 ?_
    refine zr_aload_n zSm 30 rfl rfl ?_
    refine zr_s zSm 31 rfl rfl ?_
    refine zr_putZ zSm 32 rfl zf_11_157 rfl rfl (by decide) zp_11_23 (Or.inl rfl) ?_
    refine zr_aload_n zSm 33 rfl rfl ?_
    refine zr_s zSm 34 rfl rfl ?_
    refine zr_putI zSm 35 rfl zf_11_161 rfl rfl (by decide) zp_11_30 ?_
    refine zr_aload_n zSm 36 rfl rfl ?_
    refine zr_s zSm 37 rfl rfl ?_
    refine zr_putI zSm 38 rfl zf_11_164 rfl rfl (by decide) zp_11_47 ?_
    refine zr_aload_n zSm 39 rfl rfl ?_
    refine zr_s zSm 40 rfl rfl ?_
    refine zr_putI zSm 41 rfl zf_11_167 rfl rfl (by decide) zp_11_45 ?_
    refine zr_vret zSm 42 rfl rfl ?_
    exact h
  · have h := h.2 q1
    refine zr_aload_n zSm 20 rfl rfl ?_
    refine zr_getR zSm 21 rfl zf_11_41 rfl rfl (by decide) ?_
    refine zr_iload_n zSm 22 rfl rfl ?_
    refine zr_s zSm 23 rfl rfl ?_
    obtain ⟨b24, h⟩ := h
    refine zr_iast zSm 24 rfl rfl b24 ?_
    refine zr_iinc zSm 25 (v := l1 + 1) (ll' := [(1, .int (l1 + 1)), (0, .ref 28)]) rfl rfl (by decide) rfl rfl ?_
    refine zr_goto zSm 26 28 rfl rfl ?_
    refine zr_sub [1, 0] rfl ?_
    exact h
theorem w_150 {RO : zRo} {d : Nat} {P : zP} {I : zI} {J : zJ} {D : zD} {bc bs : Nat} {p0 p1 p2 : Int32} (h : (((I 28 25) = 0 → P (.inl none) I J D) ∧ (¬ ((I 28 25) = 0) → ((¬ p0 = 0 → P (.inl none) I J D) ∧ (¬ (¬ p0 = 0) → ((1 ≤ bc ∧ 8 ≤ bs) ∧ P (.inr (3, p1, p2)) I J D)))))) : zz RO (d + 1) 150 [.ref 28, .int p0, .int p1, .int p2] I J D bc bs P := by
  refine zT_of (Nat.le_of_ble_eq_true rfl) rfl ?_
  show zw RO d 150 P 0 [(0, .ref 28), (1, .int p0), (2, .int p1), (3, .int p2)] [] I J D bc bs
  refine zr_aload_n zSm 0 rfl rfl ?_
  refine zr_getZ zSm 1 rfl zf_11_178 rfl rfl (by decide) ?_
  refine zr_if zSm 2 21 rfl rfl (fun q1 => ?_) (fun q1 => ?_)
  · have h := h.1 q1
    refine zr_vret zSm 11 rfl rfl ?_
    exact h
  · have h := h.2 q1
    refine zr_iload_n zSm 3 rfl rfl ?_
    refine zr_if zSm 4 21 rfl rfl (fun q2 => ?_) (fun q2 => ?_)
    · have h := h.1 q2
      refine zr_vret zSm 11 rfl rfl ?_
      exact h
    · have h := h.2 q2
      refine zr_must rfl rfl h.1 ?_
      exact h.2
theorem w_151 {RO : zRo} {d : Nat} {P : zP} {I : zI} {J : zJ} {D : zD} {bc bs : Nat} {p0 : Int32} (h : (zo_148 I J p0 ∧ ((¬ (zv_148 I J p0) = 0 → P (.inl none) (zu I 28 24 ((I 28 24) + 1)) J D) ∧ (¬ (¬ (zv_148 I J p0) = 0) → ((1 ≤ bc ∧ 8 ≤ bs) ∧ vp_in (I 28 24) 452 ∧ P (.inr (3, 1, I 32 ((I 28 24).toNatClampNeg))) I J D))))) : zz RO (d + 2) 151 [.ref 28, .int p0] I J D bc bs P := by
  refine zT_of (Nat.le_of_ble_eq_true rfl) rfl ?_
  show zw RO (d + 1) 151 P 0 [(0, .ref 28), (1, .int p0)] [] I J D bc bs
  refine zr_aload_n zSm 0 rfl rfl ?_
  refine zr_iload_n zSm 1 rfl rfl ?_
  obtain ⟨b2, h⟩ := h
  refine zr_inv0 2 148 1 [.int p0] rfl rfl zk_11_181 zms_148 rfl ⟨_, _, _, _, rfl, rfl⟩ (Nat.le_of_ble_eq_true rfl) ?_
  refine ze_148 b2 ?_
  refine zNx_i ?_
  refine zr_if zSm 3 13 rfl rfl (fun q1 => ?_) (fun q1 => ?_)
  · have h := h.1 q1
    refine zr_aload_n zSm 7 rfl rfl ?_
    refine zr_s zSm 8 rfl rfl ?_
    refine zr_getI zSm 9 rfl zf_11_170 rfl rfl (by decide) ?_
    refine zr_s zSm 10 rfl rfl ?_
    refine zr_s zSm 11 rfl rfl ?_
    refine zr_putI zSm 12 rfl zf_11_170 rfl rfl (by decide) zp_11_24 ?_
    refine zr_vret zSm 13 rfl rfl ?_
    exact h
  · have h := h.2 q1
    refine zr_wrong 184 ⟨List.mem_of_getElem? (i := 4) rfl, List.mem_of_getElem? (i := 5) rfl, zk_11_184, List.mem_of_getElem? (i := 6) rfl⟩ rfl rfl (by decide) rfl h.1 h.2.1 ?_
    exact h.2.2
theorem w_152 {RO : zRo} {d : Nat} {P : zP} {I : zI} {J : zJ} {D : zD} {bc bs : Nat} {p0 : Int32} (h : (zo_148 I J p0 ∧ (((zv_148 I J p0) = 0 → P (.inl (some (.int (zv_148 I J p0)))) I J D) ∧ (¬ ((zv_148 I J p0) = 0) → P (.inl (some (.int (zv_148 I J p0)))) (zu I 28 24 ((I 28 24) + 1)) J D)))) : zz RO (d + 2) 152 [.ref 28, .int p0] I J D bc bs P := by
  refine zT_of (Nat.le_of_ble_eq_true rfl) rfl ?_
  show zw RO (d + 1) 152 P 0 [(0, .ref 28), (1, .int p0)] [] I J D bc bs
  refine zr_aload_n zSm 0 rfl rfl ?_
  refine zr_iload_n zSm 1 rfl rfl ?_
  obtain ⟨b2, h⟩ := h
  refine zr_inv0 2 148 1 [.int p0] rfl rfl zk_11_181 zms_148 rfl ⟨_, _, _, _, rfl, rfl⟩ (Nat.le_of_ble_eq_true rfl) ?_
  refine ze_148 b2 ?_
  refine zNx_i ?_
  refine zr_istore_n zSm 3 (ll' := [(2, .int (zv_148 I J p0)), (0, .ref 28), (1, .int p0)]) rfl (by decide) rfl ?_
  refine zr_iload_n zSm 4 rfl rfl ?_
  refine zr_if zSm 5 20 rfl rfl (fun q1 => ?_) (fun q1 => ?_)
  · have h := h.1 q1
    refine zr_iload_n zSm 12 rfl rfl ?_
    refine zr_iret zSm 13 rfl rfl (zn_b zvb_148) ?_
    exact h
  · have h := h.2 q1
    refine zr_aload_n zSm 6 rfl rfl ?_
    refine zr_s zSm 7 rfl rfl ?_
    refine zr_getI zSm 8 rfl zf_11_170 rfl rfl (by decide) ?_
    refine zr_s zSm 9 rfl rfl ?_
    refine zr_s zSm 10 rfl rfl ?_
    refine zr_putI zSm 11 rfl zf_11_170 rfl rfl (by decide) zp_11_24 ?_
    refine zr_iload_n zSm 12 rfl rfl ?_
    refine zr_iret zSm 13 rfl rfl (zn_b zvb_148) ?_
    exact h
theorem w_153 {RO : zRo} {d : Nat} {P : zP} {I : zI} {J : zJ} {D : zD} {bc bs : Nat}  (h : ((¬ (I 28 27) = 8 → P (.inl none) (zu (zu I 28 27 ((I 28 27) + 1)) 28 24 ((I 28 24) + 1)) J D) ∧ (¬ (¬ (I 28 27) = 8) → ((1 ≤ bc ∧ 8 ≤ bs) ∧ vp_in (I 28 24) 452 ∧ P (.inr (3, 1, I 32 ((I 28 24).toNatClampNeg))) I J D)))) : zz RO (d + 1) 153 [.ref 28] I J D bc bs P := by
  refine zT_of (Nat.le_of_ble_eq_true rfl) rfl ?_
  show zw RO d 153 P 0 [(0, .ref 28)] [] I J D bc bs
  refine zr_aload_n zSm 0 rfl rfl ?_
  refine zr_getI zSm 1 rfl zf_11_188 rfl rfl (by decide) ?_
  refine zr_bipush zSm 2 8 rfl rfl ?_
  refine zr_ic zSm 3 14 rfl rfl (fun q1 => ?_) (fun q1 => ?_)
  · have h := h.1 q1
    refine zr_aload_n zSm 7 rfl rfl ?_
    refine zr_s zSm 8 rfl rfl ?_
    refine zr_getI zSm 9 rfl zf_11_188 rfl rfl (by decide) ?_
    refine zr_s zSm 10 rfl rfl ?_
    refine zr_s zSm 11 rfl rfl ?_
    refine zr_putI zSm 12 rfl zf_11_188 rfl rfl (by decide) zp_11_27 ?_
    refine zr_aload_n zSm 13 rfl rfl ?_
    refine zr_s zSm 14 rfl rfl ?_
    refine zr_getI zSm 15 rfl zf_11_170 rfl rfl (by decide) ?_
    refine zr_s zSm 16 rfl rfl ?_
    refine zr_s zSm 17 rfl rfl ?_
    refine zr_putI zSm 18 rfl zf_11_170 rfl rfl (by decide) zp_11_24 ?_
    refine zr_vret zSm 19 rfl rfl ?_
    exact h
  · have h := h.2 q1
    refine zr_wrong 184 ⟨List.mem_of_getElem? (i := 4) rfl, List.mem_of_getElem? (i := 5) rfl, zk_11_184, List.mem_of_getElem? (i := 6) rfl⟩ rfl rfl (by decide) rfl h.1 h.2.1 ?_
    exact h.2.2
theorem w_154 {RO : zRo} {d : Nat} {P : zP} {I : zI} {J : zJ} {D : zD} {bc bs : Nat} {p0 p1 p2 : Int32} (h : ((¬ (I 28 25) = 0 → (vp_in (I 28 19) 1350 ∧ (vp_in (I 28 19) 1350 ∧ (vp_in (I 28 19) 1350 ∧ P (.inl (some (.int (((I 28 19) + 1) - 1)))) (zu (zu (zu (zu I 43 ((I 28 19).toNatClampNeg) p0) 44 ((I 28 19).toNatClampNeg) p1) 45 ((I 28 19).toNatClampNeg) p2) 28 19 ((I 28 19) + 1)) J D)))) ∧ (¬ (¬ (I 28 25) = 0) → P (.inl (some (.int 0))) I J D))) : zz RO (d + 1) 154 [.ref 28, .int p0, .int p1, .int p2] I J D bc bs P := by
  refine zT_of (Nat.le_of_ble_eq_true rfl) rfl ?_
  show zw RO d 154 P 0 [(0, .ref 28), (1, .int p0), (2, .int p1), (3, .int p2)] [] I J D bc bs
  refine zr_aload_n zSm 0 rfl rfl ?_
  refine zr_getZ zSm 1 rfl zf_11_178 rfl rfl (by decide) ?_
  refine zr_if zSm 2 9 rfl rfl (fun q1 => ?_) (fun q1 => ?_)
  · have h := h.1 q1
    refine zr_aload_n zSm 5 rfl rfl ?_
    refine zr_getR zSm 6 rfl zf_11_53 rfl rfl (by decide) ?_
    refine zr_aload_n zSm 7 rfl rfl ?_
    refine zr_getI zSm 8 rfl zf_11_154 rfl rfl (by decide) ?_
    refine zr_iload_n zSm 9 rfl rfl ?_
    obtain ⟨b10, h⟩ := h
    refine zr_iast zSm 10 rfl rfl b10 ?_
    refine zr_aload_n zSm 11 rfl rfl ?_
    refine zr_getR zSm 12 rfl zf_11_56 rfl rfl (by decide) ?_
    refine zr_aload_n zSm 13 rfl rfl ?_
    refine zr_getI zSm 14 rfl zf_11_154 rfl rfl (by decide) ?_
    refine zr_iload_n zSm 15 rfl rfl ?_
    obtain ⟨b16, h⟩ := h
    refine zr_iast zSm 16 rfl rfl b16 ?_
    refine zr_aload_n zSm 17 rfl rfl ?_
    refine zr_getR zSm 18 rfl zf_11_59 rfl rfl (by decide) ?_
    refine zr_aload_n zSm 19 rfl rfl ?_
    refine zr_getI zSm 20 rfl zf_11_154 rfl rfl (by decide) ?_
    refine zr_iload_n zSm 21 rfl rfl ?_
    obtain ⟨b22, h⟩ := h
    refine zr_iast zSm 22 rfl rfl b22 ?_
    refine zr_aload_n zSm 23 rfl rfl ?_
    refine zr_s zSm 24 rfl rfl ?_
    refine zr_getI zSm 25 rfl zf_11_154 rfl rfl (by decide) ?_
    refine zr_s zSm 26 rfl rfl ?_
    refine zr_s zSm 27 rfl rfl ?_
    refine zr_putI zSm 28 rfl zf_11_154 rfl rfl (by decide) zp_11_19 ?_
    refine zr_aload_n zSm 29 rfl rfl ?_
    refine zr_getI zSm 30 rfl zf_11_154 rfl rfl (by decide) ?_
    refine zr_s zSm 31 rfl rfl ?_
    refine zr_s zSm 32 rfl rfl ?_
    refine zr_iret zSm 33 rfl rfl rfl ?_
    exact h
  · have h := h.2 q1
    refine zr_s zSm 3 rfl rfl ?_
    refine zr_iret zSm 4 rfl rfl rfl ?_
    exact h
theorem w_155 {RO : zRo} {d : Nat} {P : zP} {I : zI} {J : zJ} {D : zD} {bc bs : Nat} {p0 : Int32} (h : (zz RO d 154 [.ref 28, .int p0, .int 0, .int 0] I J D 0 0 (zNi P fun v1 I1 J1 D1 => P (.inl none) I1 J1 D1))) : zz RO (d + 1) 155 [.ref 28, .int p0] I J D bc bs P := by
  refine zT_of (Nat.le_of_ble_eq_true rfl) rfl ?_
  show zw RO d 155 P 0 [(0, .ref 28), (1, .int p0)] [] I J D bc bs
  refine zr_aload_n zSm 0 rfl rfl ?_
  refine zr_iload_n zSm 1 rfl rfl ?_
  refine zr_s zSm 2 rfl rfl ?_
  refine zr_s zSm 3 rfl rfl ?_
  refine zr_inv0 4 154 3 [.int p0, .int 0, .int 0] rfl rfl zk_11_191 zms_154 rfl ⟨_, _, _, _, rfl, rfl⟩ (Nat.le_of_ble_eq_true rfl) ?_
  refine zci h (fun v1 I1 J1 D1 h => ?_)
  refine zr_s zSm 5 rfl rfl ?_
  refine zr_vret zSm 6 rfl rfl ?_
  exact h

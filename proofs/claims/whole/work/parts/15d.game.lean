/-! ===== written by wip/whole/lay15.py: walks, a formula each ===== -/
theorem w_27 {RO : zRo} {d : Nat} {P : zP} {I : zI} {J : zJ} {D : zD} {bc bs : Nat}  (h : P (.inl none) (zu (zu (zu (zu I 23 5 (-1)) 23 4 0) 20 2 0) 20 3 0) (zu J 20 9 0) D) : zz RO (d + 1) 27 [.ref 23] I J D bc bs P := by
  refine zT_of (Nat.le_of_ble_eq_true rfl) rfl ?_
  show zw RO d 27 P 0 [(0, .ref 23)] [] I J D bc bs
  refine zr_aload_n zSm 0 rfl rfl ?_
  refine zr_s zSm 1 rfl rfl ?_
  refine zr_putI zSm 2 rfl zf_2_27 rfl rfl (by decide) zp_2_5 ?_
  refine zr_aload_n zSm 3 rfl rfl ?_
  refine zr_s zSm 4 rfl rfl ?_
  refine zr_putI zSm 5 rfl zf_2_31 rfl rfl (by decide) zp_2_4 ?_
  refine zr_aload_n zSm 6 rfl rfl ?_
  refine zr_getR zSm 7 rfl zf_2_15 rfl rfl (by decide) ?_
  refine zr_s zSm 8 rfl rfl ?_
  refine zr_putI zSm 9 rfl zf_2_34 rfl rfl (by decide) zp_6_2 ?_
  refine zr_aload_n zSm 10 rfl rfl ?_
  refine zr_getR zSm 11 rfl zf_2_15 rfl rfl (by decide) ?_
  refine zr_s zSm 12 rfl rfl ?_
  refine zr_putI zSm 13 rfl zf_2_39 rfl rfl (by decide) zp_6_3 ?_
  refine zr_aload_n zSm 14 rfl rfl ?_
  refine zr_getR zSm 15 rfl zf_2_15 rfl rfl (by decide) ?_
  refine zr_s zSm 16 rfl rfl ?_
  refine zr_putJ zSm 17 rfl zf_2_42 rfl rfl (by decide) zp_6_9 ?_
  refine zr_vret zSm 18 rfl rfl ?_
  exact h
theorem w_28 {RO : zRo} {d : Nat} {P : zP} {I : zI} {J : zJ} {D : zD} {bc bs : Nat} {p0 : Int32} {p1 : Int64} (h : (zz RO d 29 [.ref 23] (zu (zu (zu (zu (zu (zu (zu (zu I 23 4 0) 23 5 0) 23 6 (-1)) 23 7 (-1)) 23 8 0) 20 2 p0) 20 3 0) 20 4 1) (zu (zu J 23 9 p1) 20 9 p1) D 0 0 (zNv P fun I1 J1 D1 => (zz RO d 30 [.ref 23, .int 0] I1 J1 D1 0 0 (zNv P fun I2 J2 D2 => (zz RO d 40 [.ref 23] I2 J2 D2 0 0 (zNv P fun I3 J3 D3 => ((¬ (I3 23 5) = 0 → P (.inl none) I3 J3 D3) ∧ (¬ (¬ (I3 23 5) = 0) → (((I3 20 7) = 0 → P (.inl none) I3 J3 D3) ∧ (¬ ((I3 20 7) = 0) → (zz RO d 41 [.ref 23] I3 J3 D3 0 0 (zNv P fun I4 J4 D4 => P (.inl none) I4 J4 D4))))))))))))) : zz RO (d + 1) 28 [.ref 23, .int p0, .long p1] I J D bc bs P := by
  refine zT_of (Nat.le_of_ble_eq_true rfl) rfl ?_
  show zw RO d 28 P 0 [(0, .ref 23), (1, .int p0), (2, .long p1)] [] I J D bc bs
  refine zr_aload_n zSm 0 rfl rfl ?_
  refine zr_lload_n zSm 1 rfl rfl ?_
  refine zr_putJ zSm 2 rfl zf_2_46 rfl rfl (by decide) zp_2_9 ?_
  refine zr_aload_n zSm 3 rfl rfl ?_
  refine zr_s zSm 4 rfl rfl ?_
  refine zr_putI zSm 5 rfl zf_2_31 rfl rfl (by decide) zp_2_4 ?_
  refine zr_aload_n zSm 6 rfl rfl ?_
  refine zr_s zSm 7 rfl rfl ?_
  refine zr_putI zSm 8 rfl zf_2_27 rfl rfl (by decide) zp_2_5 ?_
  refine zr_aload_n zSm 9 rfl rfl ?_
  refine zr_s zSm 10 rfl rfl ?_
  refine zr_putI zSm 11 rfl zf_2_49 rfl rfl (by decide) zp_2_6 ?_
  refine zr_aload_n zSm 12 rfl rfl ?_
  refine zr_s zSm 13 rfl rfl ?_
  refine zr_putI zSm 14 rfl zf_2_52 rfl rfl (by decide) zp_2_7 ?_
  refine zr_aload_n zSm 15 rfl rfl ?_
  refine zr_s zSm 16 rfl rfl ?_
  refine zr_putI zSm 17 rfl zf_2_55 rfl rfl (by decide) zp_2_8 ?_
  refine zr_aload_n zSm 18 rfl rfl ?_
  refine zr_getR zSm 19 rfl zf_2_15 rfl rfl (by decide) ?_
  refine zr_iload_n zSm 20 rfl rfl ?_
  refine zr_putI zSm 21 rfl zf_2_34 rfl rfl (by decide) zp_6_2 ?_
  refine zr_aload_n zSm 22 rfl rfl ?_
  refine zr_getR zSm 23 rfl zf_2_15 rfl rfl (by decide) ?_
  refine zr_lload_n zSm 24 rfl rfl ?_
  refine zr_putJ zSm 25 rfl zf_2_42 rfl rfl (by decide) zp_6_9 ?_
  refine zr_aload_n zSm 26 rfl rfl ?_
  refine zr_getR zSm 27 rfl zf_2_15 rfl rfl (by decide) ?_
  refine zr_s zSm 28 rfl rfl ?_
  refine zr_putI zSm 29 rfl zf_2_39 rfl rfl (by decide) zp_6_3 ?_
  refine zr_aload_n zSm 30 rfl rfl ?_
  refine zr_getR zSm 31 rfl zf_2_15 rfl rfl (by decide) ?_
  refine zr_s zSm 32 rfl rfl ?_
  refine zr_putI zSm 33 rfl zf_2_58 rfl rfl (by decide) zp_6_4 ?_
  refine zr_aload_n zSm 34 rfl rfl ?_
  refine zr_inv0 35 29 0 [] rfl rfl zk_2_61 zms_29 rfl ⟨_, _, _, _, rfl, rfl⟩ (Nat.le_of_ble_eq_true rfl) ?_
  refine zcv h (fun I1 J1 D1 h => ?_)
  refine zr_aload_n zSm 36 rfl rfl ?_
  refine zr_s zSm 37 rfl rfl ?_
  refine zr_inv0 38 30 1 [.int 0] rfl rfl zk_2_64 zms_30 rfl ⟨_, _, _, _, rfl, rfl⟩ (Nat.le_of_ble_eq_true rfl) ?_
  refine zcv h (fun I2 J2 D2 h => ?_)
  refine zr_aload_n zSm 39 rfl rfl ?_
  refine zr_inv0 40 40 0 [] rfl rfl zk_2_68 zms_40 rfl ⟨_, _, _, _, rfl, rfl⟩ (Nat.le_of_ble_eq_true rfl) ?_
  refine zcv h (fun I3 J3 D3 h => ?_)
  refine zr_aload_n zSm 41 rfl rfl ?_
  refine zr_getI zSm 42 rfl zf_2_27 rfl rfl (by decide) ?_
  refine zr_if zSm 43 96 rfl rfl (fun q1 => ?_) (fun q1 => ?_)
  · have h := h.1 q1
    refine zr_vret zSm 50 rfl rfl ?_
    exact h
  · have h := h.2 q1
    refine zr_aload_n zSm 44 rfl rfl ?_
    refine zr_getR zSm 45 rfl zf_2_15 rfl rfl (by decide) ?_
    refine zr_getZ zSm 46 rfl zf_2_71 rfl rfl (by decide) ?_
    refine zr_if zSm 47 96 rfl rfl (fun q2 => ?_) (fun q2 => ?_)
    · have h := h.1 q2
      refine zr_vret zSm 50 rfl rfl ?_
      exact h
    · have h := h.2 q2
      refine zr_aload_n zSm 48 rfl rfl ?_
      refine zr_inv0 49 41 0 [] rfl rfl zk_2_75 zms_41 rfl ⟨_, _, _, _, rfl, rfl⟩ (Nat.le_of_ble_eq_true rfl) ?_
      refine zcv h (fun I4 J4 D4 h => ?_)
      refine zr_vret zSm 50 rfl rfl ?_
      exact h
theorem w_29 {RO : zRo} {d : Nat} {P : zP} {I : zI} {J : zJ} {D : zD} {bc bs : Nat}  (h : zw RO (d + 1) 29 P 2 [(0, .ref 23), (1, .int 0)] [] I J D bc bs) : zz RO (d + 2) 29 [.ref 23] I J D bc bs P := by
  refine zT_of (Nat.le_of_ble_eq_true rfl) rfl ?_
  show zw RO (d + 1) 29 P 0 [(0, .ref 23)] [] I J D bc bs
  refine zr_s zSm 0 rfl rfl ?_
  refine zr_istore_n zSm 1 (ll' := [(1, .int 0), (0, .ref 23)]) rfl (by decide) rfl ?_
  refine zr_sub [1, 0] rfl ?_
  exact h
theorem wl_29_2 {RO : zRo} {d : Nat} {P : zP} {I : zI} {J : zJ} {D : zD} {bc bs : Nat} {l1 : Int32} (h : ((6 ≤ l1 → zw RO (d + 1) 29 P 51 [(0, .ref 23), (1, .int 0)] [] I J D bc bs) ∧ (¬ (6 ≤ l1) → zw RO (d + 1) 29 P 10 [(0, .ref 23), (1, .int l1), (2, .int 0)] [] I J D bc bs))) : zw RO (d + 1) 29 P 2 [(0, .ref 23), (1, .int l1)] [] I J D bc bs := by
  refine zr_iload_n zSm 2 rfl rfl ?_
  refine zr_bipush zSm 3 6 rfl rfl ?_
  refine zr_ic zSm 4 49 rfl rfl (fun q1 => ?_) (fun q1 => ?_)
  · have h := h.1 q1
    refine zr_s zSm 27 rfl rfl ?_
    refine zr_istore_n zSm 28 (ll' := [(1, .int 0), (0, .ref 23)]) rfl (by decide) rfl ?_
    refine zr_sub [1, 0] rfl ?_
    exact h
  · have h := h.2 q1
    refine zr_s zSm 5 rfl rfl ?_
    refine zr_istore_n zSm 6 (ll' := [(2, .int 0), (0, .ref 23), (1, .int l1)]) rfl (by decide) rfl ?_
    refine zr_sub [1, 2, 0] rfl ?_
    exact h
theorem wl_29_10 {RO : zRo} {d : Nat} {P : zP} {I : zI} {J : zJ} {D : zD} {bc bs : Nat} {l1 l2 : Int32} (h : ((4 ≤ l2 → zw RO (d + 1) 29 P 2 [(0, .ref 23), (1, .int (l1 + 1))] [] I J D bc bs) ∧ (¬ (4 ≤ l2) → (zz RO (d + 1) 85 [.ref 20, .int ((l2 * 6) + l1), .int (zv_76 I J l1 2)] I J D 0 0 (zNv P fun I1 J1 D1 => zw RO (d + 1) 29 P 10 [(0, .ref 23), (1, .int l1), (2, .int (l2 + 1))] [] I1 J1 D1 bc bs))))) : zw RO (d + 1) 29 P 10 [(0, .ref 23), (1, .int l1), (2, .int l2)] [] I J D bc bs := by
  refine zr_iload_n zSm 7 rfl rfl ?_
  refine zr_s zSm 8 rfl rfl ?_
  refine zr_ic zSm 9 43 rfl rfl (fun q1 => ?_) (fun q1 => ?_)
  · have h := h.1 q1
    refine zr_iinc zSm 25 (v := l1 + 1) (ll' := [(1, .int (l1 + 1)), (0, .ref 23), (2, .int l2)]) rfl rfl (by decide) rfl rfl ?_
    refine zr_goto zSm 26 2 rfl rfl ?_
    refine zr_sub [1, 0] rfl ?_
    exact h
  · have h := h.2 q1
    refine zr_aload_n zSm 10 rfl rfl ?_
    refine zr_getR zSm 11 rfl zf_2_15 rfl rfl (by decide) ?_
    refine zr_iload_n zSm 12 rfl rfl ?_
    refine zr_bipush zSm 13 6 rfl rfl ?_
    refine zr_s zSm 14 rfl rfl ?_
    refine zr_iload_n zSm 15 rfl rfl ?_
    refine zr_s zSm 16 rfl rfl ?_
    refine zr_aload_n zSm 17 rfl rfl ?_
    refine zr_getR zSm 18 rfl zf_2_9 rfl rfl (by decide) ?_
    refine zr_iload_n zSm 19 rfl rfl ?_
    refine zr_s zSm 20 rfl rfl ?_
    refine zr_inv0 21 76 2 [.int l1, .int 2] rfl rfl zk_2_78 zms_76 rfl ⟨_, _, _, _, rfl, rfl⟩ (Nat.le_of_ble_eq_true rfl) ?_
    refine ze_76 ?_
    refine zNx_i ?_
    refine zr_inv0 22 85 2 [.int ((l2 * 6) + l1), .int (zv_76 I J l1 2)] rfl rfl zk_2_84 zms_85 rfl ⟨_, _, _, _, rfl, rfl⟩ (Nat.le_of_ble_eq_true rfl) ?_
    refine zcv h (fun I1 J1 D1 h => ?_)
    refine zr_iinc zSm 23 (v := l2 + 1) (ll' := [(2, .int (l2 + 1)), (0, .ref 23), (1, .int l1)]) rfl rfl (by decide) rfl rfl ?_
    refine zr_goto zSm 24 10 rfl rfl ?_
    refine zr_sub [1, 2, 0] rfl ?_
    exact h
theorem wl_29_51 {RO : zRo} {d : Nat} {P : zP} {I : zI} {J : zJ} {D : zD} {bc bs : Nat} {l1 : Int32} (h : ((6 ≤ l1 → P (.inl none) I J D) ∧ (¬ (6 ≤ l1) → (zz RO (d + 1) 85 [.ref 20, .int (24 + l1), .int (zv_76 I J (6 + l1) 2)] I J D 0 0 (zNv P fun I1 J1 D1 => zw RO (d + 1) 29 P 51 [(0, .ref 23), (1, .int (l1 + 1))] [] I1 J1 D1 bc bs))))) : zw RO (d + 1) 29 P 51 [(0, .ref 23), (1, .int l1)] [] I J D bc bs := by
  refine zr_iload_n zSm 29 rfl rfl ?_
  refine zr_bipush zSm 30 6 rfl rfl ?_
  refine zr_ic zSm 31 86 rfl rfl (fun q1 => ?_) (fun q1 => ?_)
  · have h := h.1 q1
    refine zr_vret zSm 47 rfl rfl ?_
    exact h
  · have h := h.2 q1
    refine zr_aload_n zSm 32 rfl rfl ?_
    refine zr_getR zSm 33 rfl zf_2_15 rfl rfl (by decide) ?_
    refine zr_bipush zSm 34 24 rfl rfl ?_
    refine zr_iload_n zSm 35 rfl rfl ?_
    refine zr_s zSm 36 rfl rfl ?_
    refine zr_aload_n zSm 37 rfl rfl ?_
    refine zr_getR zSm 38 rfl zf_2_9 rfl rfl (by decide) ?_
    refine zr_bipush zSm 39 6 rfl rfl ?_
    refine zr_iload_n zSm 40 rfl rfl ?_
    refine zr_s zSm 41 rfl rfl ?_
    refine zr_s zSm 42 rfl rfl ?_
    refine zr_inv0 43 76 2 [.int (6 + l1), .int 2] rfl rfl zk_2_78 zms_76 rfl ⟨_, _, _, _, rfl, rfl⟩ (Nat.le_of_ble_eq_true rfl) ?_
    refine ze_76 ?_
    refine zNx_i ?_
    refine zr_inv0 44 85 2 [.int (24 + l1), .int (zv_76 I J (6 + l1) 2)] rfl rfl zk_2_84 zms_85 rfl ⟨_, _, _, _, rfl, rfl⟩ (Nat.le_of_ble_eq_true rfl) ?_
    refine zcv h (fun I1 J1 D1 h => ?_)
    refine zr_iinc zSm 45 (v := l1 + 1) (ll' := [(1, .int (l1 + 1)), (0, .ref 23)]) rfl rfl (by decide) rfl rfl ?_
    refine zr_goto zSm 46 51 rfl rfl ?_
    refine zr_sub [1, 0] rfl ?_
    exact h
theorem w_30 {RO : zRo} {d : Nat} {P : zP} {I : zI} {J : zJ} {D : zD} {bc bs : Nat} {p0 : Int32} (h : P (.inl none) (zu (zu (zu (zu I 20 5 p0) 20 6 0) 20 7 0) 20 8 0) J D) : zz RO (d + 1) 30 [.ref 23, .int p0] I J D bc bs P := by
  refine zT_of (Nat.le_of_ble_eq_true rfl) rfl ?_
  show zw RO d 30 P 0 [(0, .ref 23), (1, .int p0)] [] I J D bc bs
  refine zr_aload_n zSm 0 rfl rfl ?_
  refine zr_getR zSm 1 rfl zf_2_15 rfl rfl (by decide) ?_
  refine zr_iload_n zSm 2 rfl rfl ?_
  refine zr_putI zSm 3 rfl zf_2_88 rfl rfl (by decide) zp_6_5 ?_
  refine zr_aload_n zSm 4 rfl rfl ?_
  refine zr_getR zSm 5 rfl zf_2_15 rfl rfl (by decide) ?_
  refine zr_s zSm 6 rfl rfl ?_
  refine zr_putI zSm 7 rfl zf_2_91 rfl rfl (by decide) zp_6_6 ?_
  refine zr_aload_n zSm 8 rfl rfl ?_
  refine zr_getR zSm 9 rfl zf_2_15 rfl rfl (by decide) ?_
  refine zr_s zSm 10 rfl rfl ?_
  refine zr_putZ zSm 11 rfl zf_2_71 rfl rfl (by decide) zp_6_7 (Or.inl rfl) ?_
  refine zr_aload_n zSm 12 rfl rfl ?_
  refine zr_getR zSm 13 rfl zf_2_15 rfl rfl (by decide) ?_
  refine zr_s zSm 14 rfl rfl ?_
  refine zr_putZ zSm 15 rfl zf_2_94 rfl rfl (by decide) zp_6_8 (Or.inl rfl) ?_
  refine zr_vret zSm 16 rfl rfl ?_
  exact h
theorem w_32 {RO : zRo} {d : Nat} {P : zP} {I : zI} {J : zJ} {D : zD} {bc bs : Nat} {p0 p1 p2 : Int32} (h : (((I 23 5) = 0 → ((¬ p0 = 0 → (((I 20 3) ≤ 0 → P (.inl (some (.int 0))) I J D) ∧ (¬ ((I 20 3) ≤ 0) → ((10 ≤ (I 20 3) → P (.inl (some (.int 0))) I J D) ∧ (¬ (10 ≤ (I 20 3)) → (zz RO (d + 1) 33 [.ref 23, .int (zv_80 I J (12 + p1)), .int (I 23 7), .int p2] I J D 0 0 (zNi P fun v1 I1 J1 D1 => ((v1 = 0 → P (.inl (some (.int 0))) I1 J1 D1) ∧ (¬ (v1 = 0) → P (.inl (some (.int 1))) I1 J1 D1))))))))) ∧ (¬ (¬ p0 = 0) → ((¬ (I 20 3) = 0 → P (.inl (some (.int 0))) I J D) ∧ (¬ (¬ (I 20 3) = 0) → (((zv_78 I J (I 20 6) p1) = 0 → P (.inl (some (.int 0))) I J D) ∧ (¬ ((zv_78 I J (I 20 6) p1) = 0) → (zz RO (d + 1) 33 [.ref 23, .int (zv_80 I J p1), .int (I 20 5), .int p2] I J D 0 0 (zNi P fun v2 I2 J2 D2 => ((v2 = 0 → P (.inl (some (.int 0))) I2 J2 D2) ∧ (¬ (v2 = 0) → P (.inl (some (.int 1))) I2 J2 D2))))))))))) ∧ (¬ ((I 23 5) = 0) → P (.inl (some (.int 0))) I J D))) : zz RO (d + 2) 32 [.ref 23, .int p0, .int p1, .int p2] I J D bc bs P := by
  refine zT_of (Nat.le_of_ble_eq_true rfl) rfl ?_
  show zw RO (d + 1) 32 P 0 [(0, .ref 23), (1, .int p0), (2, .int p1), (3, .int p2)] [] I J D bc bs
  refine zr_aload_n zSm 0 rfl rfl ?_
  refine zr_getI zSm 1 rfl zf_2_27 rfl rfl (by decide) ?_
  refine zr_if zSm 2 9 rfl rfl (fun q1 => ?_) (fun q1 => ?_)
  · have h := h.1 q1
    refine zr_iload_n zSm 5 rfl rfl ?_
    refine zr_if zSm 6 70 rfl rfl (fun q2 => ?_) (fun q2 => ?_)
    · have h := h.1 q2
      refine zr_aload_n zSm 34 rfl rfl ?_
      refine zr_getR zSm 35 rfl zf_2_15 rfl rfl (by decide) ?_
      refine zr_getI zSm 36 rfl zf_2_39 rfl rfl (by decide) ?_
      refine zr_if zSm 37 119 rfl rfl (fun q3 => ?_) (fun q3 => ?_)
      · have h := h.1 q3
        refine zr_s zSm 57 rfl rfl ?_
        refine zr_iret zSm 58 rfl rfl (zn_b (Or.inl rfl)) ?_
        exact h
      · have h := h.2 q3
        refine zr_aload_n zSm 38 rfl rfl ?_
        refine zr_getR zSm 39 rfl zf_2_15 rfl rfl (by decide) ?_
        refine zr_getI zSm 40 rfl zf_2_39 rfl rfl (by decide) ?_
        refine zr_bipush zSm 41 10 rfl rfl ?_
        refine zr_ic zSm 42 119 rfl rfl (fun q4 => ?_) (fun q4 => ?_)
        · have h := h.1 q4
          refine zr_s zSm 57 rfl rfl ?_
          refine zr_iret zSm 58 rfl rfl (zn_b (Or.inl rfl)) ?_
          exact h
        · have h := h.2 q4
          refine zr_aload_n zSm 43 rfl rfl ?_
          refine zr_aload_n zSm 44 rfl rfl ?_
          refine zr_getR zSm 45 rfl zf_2_9 rfl rfl (by decide) ?_
          refine zr_bipush zSm 46 12 rfl rfl ?_
          refine zr_iload_n zSm 47 rfl rfl ?_
          refine zr_s zSm 48 rfl rfl ?_
          refine zr_inv0 49 80 1 [.int (12 + p1)] rfl rfl zk_2_101 zms_80 rfl ⟨_, _, _, _, rfl, rfl⟩ (Nat.le_of_ble_eq_true rfl) ?_
          refine ze_80 ?_
          refine zNx_i ?_
          refine zr_aload_n zSm 50 rfl rfl ?_
          refine zr_getI zSm 51 rfl zf_2_52 rfl rfl (by decide) ?_
          refine zr_iload_n zSm 52 rfl rfl ?_
          refine zr_inv0 53 33 3 [.int (zv_80 I J (12 + p1)), .int (I 23 7), .int p2] rfl rfl zk_2_105 zms_33 rfl ⟨_, _, _, _, rfl, rfl⟩ (Nat.le_of_ble_eq_true rfl) ?_
          refine zci h (fun v1 I1 J1 D1 h => ?_)
          refine zr_if zSm 54 119 rfl rfl (fun q5 => ?_) (fun q5 => ?_)
          · have h := h.1 q5
            refine zr_s zSm 57 rfl rfl ?_
            refine zr_iret zSm 58 rfl rfl (zn_b (Or.inl rfl)) ?_
            exact h
          · have h := h.2 q5
            refine zr_s zSm 55 rfl rfl ?_
            refine zr_goto zSm 56 120 rfl rfl ?_
            refine zr_iret zSm 58 rfl rfl (zn_b (Or.inr rfl)) ?_
            exact h
    · have h := h.2 q2
      refine zr_aload_n zSm 7 rfl rfl ?_
      refine zr_getR zSm 8 rfl zf_2_15 rfl rfl (by decide) ?_
      refine zr_getI zSm 9 rfl zf_2_39 rfl rfl (by decide) ?_
      refine zr_if zSm 10 68 rfl rfl (fun q6 => ?_) (fun q6 => ?_)
      · have h := h.1 q6
        refine zr_s zSm 32 rfl rfl ?_
        refine zr_iret zSm 33 rfl rfl (zn_b (Or.inl rfl)) ?_
        exact h
      · have h := h.2 q6
        refine zr_aload_n zSm 11 rfl rfl ?_
        refine zr_getR zSm 12 rfl zf_2_9 rfl rfl (by decide) ?_
        refine zr_aload_n zSm 13 rfl rfl ?_
        refine zr_getR zSm 14 rfl zf_2_15 rfl rfl (by decide) ?_
        refine zr_getI zSm 15 rfl zf_2_91 rfl rfl (by decide) ?_
        refine zr_iload_n zSm 16 rfl rfl ?_
        refine zr_inv0 17 78 2 [.int (I 20 6), .int p1] rfl rfl zk_2_97 zms_78 rfl ⟨_, _, _, _, rfl, rfl⟩ (Nat.le_of_ble_eq_true rfl) ?_
        refine ze_78 ?_
        refine zNx_i ?_
        refine zr_if zSm 18 68 rfl rfl (fun q7 => ?_) (fun q7 => ?_)
        · have h := h.1 q7
          refine zr_s zSm 32 rfl rfl ?_
          refine zr_iret zSm 33 rfl rfl (zn_b (Or.inl rfl)) ?_
          exact h
        · have h := h.2 q7
          refine zr_aload_n zSm 19 rfl rfl ?_
          refine zr_aload_n zSm 20 rfl rfl ?_
          refine zr_getR zSm 21 rfl zf_2_9 rfl rfl (by decide) ?_
          refine zr_iload_n zSm 22 rfl rfl ?_
          refine zr_inv0 23 80 1 [.int p1] rfl rfl zk_2_101 zms_80 rfl ⟨_, _, _, _, rfl, rfl⟩ (Nat.le_of_ble_eq_true rfl) ?_
          refine ze_80 ?_
          refine zNx_i ?_
          refine zr_aload_n zSm 24 rfl rfl ?_
          refine zr_getR zSm 25 rfl zf_2_15 rfl rfl (by decide) ?_
          refine zr_getI zSm 26 rfl zf_2_88 rfl rfl (by decide) ?_
          refine zr_iload_n zSm 27 rfl rfl ?_
          refine zr_inv0 28 33 3 [.int (zv_80 I J p1), .int (I 20 5), .int p2] rfl rfl zk_2_105 zms_33 rfl ⟨_, _, _, _, rfl, rfl⟩ (Nat.le_of_ble_eq_true rfl) ?_
          refine zci h (fun v2 I2 J2 D2 h => ?_)
          refine zr_if zSm 29 68 rfl rfl (fun q8 => ?_) (fun q8 => ?_)
          · have h := h.1 q8
            refine zr_s zSm 32 rfl rfl ?_
            refine zr_iret zSm 33 rfl rfl (zn_b (Or.inl rfl)) ?_
            exact h
          · have h := h.2 q8
            refine zr_s zSm 30 rfl rfl ?_
            refine zr_goto zSm 31 69 rfl rfl ?_
            refine zr_iret zSm 33 rfl rfl (zn_b (Or.inr rfl)) ?_
            exact h
  · have h := h.2 q1
    refine zr_s zSm 3 rfl rfl ?_
    refine zr_iret zSm 4 rfl rfl (zn_b (Or.inl rfl)) ?_
    exact h
theorem w_33 {RO : zRo} {d : Nat} {P : zP} {I : zI} {J : zJ} {D : zD} {bc bs : Nat} {p0 p1 p2 : Int32} (h : ((p0 < 0 → P (.inl (some (.int 1))) I J D) ∧ (¬ (p0 < 0) → (zz RO d 43 [.ref 24, .int p0, .int p1, .int p2] I J D 0 0 (zNl P fun v1 I1 J1 D1 => ((v1 = 0 → P (.inl (some (.int 0))) I1 J1 D1) ∧ (¬ (v1 = 0) → P (.inl (some (.int 1))) I1 J1 D1))))))) : zz RO (d + 1) 33 [.ref 23, .int p0, .int p1, .int p2] I J D bc bs P := by
  refine zT_of (Nat.le_of_ble_eq_true rfl) rfl ?_
  show zw RO d 33 P 0 [(0, .ref 23), (1, .int p0), (2, .int p1), (3, .int p2)] [] I J D bc bs
  refine zr_iload_n zSm 0 rfl rfl ?_
  refine zr_if zSm 1 19 rfl rfl (fun q1 => ?_) (fun q1 => ?_)
  · have h := h.1 q1
    refine zr_s zSm 11 rfl rfl ?_
    refine zr_goto zSm 12 24 rfl rfl ?_
    refine zr_iret zSm 14 rfl rfl (zn_b (Or.inr rfl)) ?_
    exact h
  · have h := h.2 q1
    refine zr_aload_n zSm 2 rfl rfl ?_
    refine zr_getR zSm 3 rfl zf_2_19 rfl rfl (by decide) ?_
    refine zr_iload_n zSm 4 rfl rfl ?_
    refine zr_iload_n zSm 5 rfl rfl ?_
    refine zr_iload_n zSm 6 rfl rfl ?_
    refine zr_inv0 7 43 3 [.int p0, .int p1, .int p2] rfl rfl zk_2_109 zms_43 rfl ⟨_, _, _, _, rfl, rfl⟩ (Nat.le_of_ble_eq_true rfl) ?_
    refine zcl h (fun v1 I1 J1 D1 h => ?_)
    refine zr_s zSm 8 rfl rfl ?_
    refine zr_s zSm 9 rfl rfl ?_
    refine zr_if zSm 10 23 rfl rfl (fun q2 => ?_) (fun q2 => ?_)
    · have q2 := zq_eq.mp q2
      have h := h.1 q2
      refine zr_s zSm 13 rfl rfl ?_
      refine zr_iret zSm 14 rfl rfl (zn_b (Or.inl rfl)) ?_
      exact h
    · have q2 := (fun z => q2 (zq_eq.mpr z))
      have h := h.2 q2
      refine zr_s zSm 11 rfl rfl ?_
      refine zr_goto zSm 12 24 rfl rfl ?_
      refine zr_iret zSm 14 rfl rfl (zn_b (Or.inr rfl)) ?_
      exact h
theorem w_34 {RO : zRo} {d : Nat} {P : zP} {I : zI} {J : zJ} {D : zD} {bc bs : Nat} {p0 p1 p2 : Int32} (h : (((I 20 3) ≤ 0 → zw RO (d + 1) 34 P 26 [(0, .ref 23), (1, .int p0), (2, .int p1), (3, .int p2), (4, .int (I 20 5))] [] I J D bc bs) ∧ (¬ ((I 20 3) ≤ 0) → zw RO (d + 1) 34 P 26 [(0, .ref 23), (1, .int p0), (2, .int p1), (3, .int p2), (4, .int (I 23 7))] [] I J D bc bs))) : zz RO (d + 2) 34 [.ref 23, .int p0, .int p1, .int p2] I J D bc bs P := by
  refine zT_of (Nat.le_of_ble_eq_true rfl) rfl ?_
  show zw RO (d + 1) 34 P 0 [(0, .ref 23), (1, .int p0), (2, .int p1), (3, .int p2)] [] I J D bc bs
  refine zr_aload_n zSm 0 rfl rfl ?_
  refine zr_getR zSm 1 rfl zf_2_15 rfl rfl (by decide) ?_
  refine zr_getI zSm 2 rfl zf_2_39 rfl rfl (by decide) ?_
  refine zr_if zSm 3 17 rfl rfl (fun q1 => ?_) (fun q1 => ?_)
  · have h := h.1 q1
    refine zr_aload_n zSm 7 rfl rfl ?_
    refine zr_getR zSm 8 rfl zf_2_15 rfl rfl (by decide) ?_
    refine zr_getI zSm 9 rfl zf_2_88 rfl rfl (by decide) ?_
    refine zr_istore zSm 10 (ll' := [(4, .int (I 20 5)), (0, .ref 23), (1, .int p0), (2, .int p1), (3, .int p2)]) rfl (by decide) rfl ?_
    refine zr_sub [1, 2, 3, 4, 0] rfl ?_
    exact h
  · have h := h.2 q1
    refine zr_aload_n zSm 4 rfl rfl ?_
    refine zr_getI zSm 5 rfl zf_2_52 rfl rfl (by decide) ?_
    refine zr_goto zSm 6 24 rfl rfl ?_
    refine zr_istore zSm 10 (ll' := [(4, .int (I 23 7)), (0, .ref 23), (1, .int p0), (2, .int p1), (3, .int p2)]) rfl (by decide) rfl ?_
    refine zr_sub [1, 2, 3, 4, 0] rfl ?_
    exact h
theorem wl_34_26 {RO : zRo} {d : Nat} {P : zP} {I : zI} {J : zJ} {D : zD} {bc bs : Nat} {l1 l2 l3 l4 : Int32} (h : (zz RO (d + 1) 35 [.ref 23, .int l1, .int l2, .int l3, .int l4] I J D 0 0 (zNv P fun I1 J1 D1 => ((l1 = 2 → (((I1 20 3) ≤ 0 → (((zv_75 I1 J1 2) ≤ ((I1 20 6) + 1) → zw RO (d + 1) 34 P 122 [(0, .ref 23), (1, .int l1), (2, .int l2), (3, .int l3), (4, .int l4), (5, .int 1)] [] I1 J1 D1 bc bs) ∧ (¬ ((zv_75 I1 J1 2) ≤ ((I1 20 6) + 1)) → (zz RO (d + 1) 40 [.ref 23] (zu I1 20 6 ((I1 20 6) + 1)) J1 D1 0 0 (zNv P fun I2 J2 D2 => zw RO (d + 1) 34 P 122 [(0, .ref 23), (1, .int l1), (2, .int l2), (3, .int l3), (4, .int l4), (5, .int 0)] [] I2 J2 D2 bc bs))))) ∧ (¬ ((I1 20 3) ≤ 0) → (zz RO (d + 1) 38 [.ref 23] I1 J1 D1 0 0 (zNv P fun I3 J3 D3 => zw RO (d + 1) 34 P 122 [(0, .ref 23), (1, .int l1), (2, .int l2), (3, .int l3), (4, .int l4), (5, .int 0)] [] I3 J3 D3 bc bs))))) ∧ (¬ (l1 = 2) → (zz RO (d + 1) 87 [.ref 20, .int l1, .int l2, .int l4, .int l3] I1 J1 D1 0 0 (zNv P fun I4 J4 D4 => (zz RO (d + 1) 37 [.ref 23] I4 J4 D4 0 0 (zNv P fun I5 J5 D5 => zw RO (d + 1) 34 P 122 [(0, .ref 23), (1, .int l1), (2, .int l2), (3, .int l3), (4, .int l4), (5, .int 0)] [] I5 J5 D5 bc bs))))))))) : zw RO (d + 1) 34 P 26 [(0, .ref 23), (1, .int l1), (2, .int l2), (3, .int l3), (4, .int l4)] [] I J D bc bs := by
  refine zr_aload_n zSm 11 rfl rfl ?_
  refine zr_iload_n zSm 12 rfl rfl ?_
  refine zr_iload_n zSm 13 rfl rfl ?_
  refine zr_iload_n zSm 14 rfl rfl ?_
  refine zr_iload zSm 15 rfl rfl ?_
  refine zr_inv0 16 35 4 [.int l1, .int l2, .int l3, .int l4] rfl rfl zk_2_115 zms_35 rfl ⟨_, _, _, _, rfl, rfl⟩ (Nat.le_of_ble_eq_true rfl) ?_
  refine zcv h (fun I1 J1 D1 h => ?_)
  refine zr_s zSm 17 rfl rfl ?_
  refine zr_istore zSm 18 (ll' := [(5, .int 0), (0, .ref 23), (1, .int l1), (2, .int l2), (3, .int l3), (4, .int l4)]) rfl (by decide) rfl ?_
  refine zr_iload_n zSm 19 rfl rfl ?_
  refine zr_s zSm 20 rfl rfl ?_
  refine zr_ic zSm 21 62 rfl rfl (fun q1 => ?_) (fun q1 => ?_)
  · have h := h.1 q1
    refine zr_aload_n zSm 32 rfl rfl ?_
    refine zr_getR zSm 33 rfl zf_2_15 rfl rfl (by decide) ?_
    refine zr_getI zSm 34 rfl zf_2_39 rfl rfl (by decide) ?_
    refine zr_if zSm 35 79 rfl rfl (fun q2 => ?_) (fun q2 => ?_)
    · have h := h.1 q2
      refine zr_aload_n zSm 39 rfl rfl ?_
      refine zr_getR zSm 40 rfl zf_2_15 rfl rfl (by decide) ?_
      refine zr_getI zSm 41 rfl zf_2_91 rfl rfl (by decide) ?_
      refine zr_s zSm 42 rfl rfl ?_
      refine zr_s zSm 43 rfl rfl ?_
      refine zr_aload_n zSm 44 rfl rfl ?_
      refine zr_getR zSm 45 rfl zf_2_9 rfl rfl (by decide) ?_
      refine zr_s zSm 46 rfl rfl ?_
      refine zr_inv0 47 75 1 [.int 2] rfl rfl zk_2_128 zms_75 rfl ⟨_, _, _, _, rfl, rfl⟩ (Nat.le_of_ble_eq_true rfl) ?_
      refine ze_75 ?_
      refine zNx_i ?_
      refine zr_ic zSm 48 119 rfl rfl (fun q3 => ?_) (fun q3 => ?_)
      · have h := h.1 q3
        refine zr_s zSm 59 rfl rfl ?_
        refine zr_istore zSm 60 (ll' := [(5, .int 1), (0, .ref 23), (1, .int l1), (2, .int l2), (3, .int l3), (4, .int l4)]) rfl (by decide) rfl ?_
        refine zr_sub [1, 2, 3, 4, 5, 0] rfl ?_
        exact h
      · have h := h.2 q3
        refine zr_aload_n zSm 49 rfl rfl ?_
        refine zr_getR zSm 50 rfl zf_2_15 rfl rfl (by decide) ?_
        refine zr_s zSm 51 rfl rfl ?_
        refine zr_getI zSm 52 rfl zf_2_91 rfl rfl (by decide) ?_
        refine zr_s zSm 53 rfl rfl ?_
        refine zr_s zSm 54 rfl rfl ?_
        refine zr_putI zSm 55 rfl zf_2_91 rfl rfl (by decide) zp_6_6 ?_
        refine zr_aload_n zSm 56 rfl rfl ?_
        refine zr_inv0 57 40 0 [] rfl rfl zk_2_68 zms_40 rfl ⟨_, _, _, _, rfl, rfl⟩ (Nat.le_of_ble_eq_true rfl) ?_
        refine zcv h (fun I2 J2 D2 h => ?_)
        refine zr_goto zSm 58 122 rfl rfl ?_
        refine zr_sub [1, 2, 3, 4, 5, 0] rfl ?_
        exact h
    · have h := h.2 q2
      refine zr_aload_n zSm 36 rfl rfl ?_
      refine zr_inv0 37 38 0 [] rfl rfl zk_2_125 zms_38 rfl ⟨_, _, _, _, rfl, rfl⟩ (Nat.le_of_ble_eq_true rfl) ?_
      refine zcv h (fun I3 J3 D3 h => ?_)
      refine zr_goto zSm 38 122 rfl rfl ?_
      refine zr_sub [1, 2, 3, 4, 5, 0] rfl ?_
      exact h
  · have h := h.2 q1
    refine zr_aload_n zSm 22 rfl rfl ?_
    refine zr_getR zSm 23 rfl zf_2_15 rfl rfl (by decide) ?_
    refine zr_iload_n zSm 24 rfl rfl ?_
    refine zr_iload_n zSm 25 rfl rfl ?_
    refine zr_iload zSm 26 rfl rfl ?_
    refine zr_iload_n zSm 27 rfl rfl ?_
    refine zr_inv0 28 87 4 [.int l1, .int l2, .int l4, .int l3] rfl rfl zk_2_119 zms_87 rfl ⟨_, _, _, _, rfl, rfl⟩ (Nat.le_of_ble_eq_true rfl) ?_
    refine zcv h (fun I4 J4 D4 h => ?_)
    refine zr_aload_n zSm 29 rfl rfl ?_
    refine zr_inv0 30 37 0 [] rfl rfl zk_2_122 zms_37 rfl ⟨_, _, _, _, rfl, rfl⟩ (Nat.le_of_ble_eq_true rfl) ?_
    refine zcv h (fun I5 J5 D5 h => ?_)
    refine zr_goto zSm 31 122 rfl rfl ?_
    refine zr_sub [1, 2, 3, 4, 5, 0] rfl ?_
    exact h
theorem wl_34_122 {RO : zRo} {d : Nat} {P : zP} {I : zI} {J : zJ} {D : zD} {bc bs : Nat} {l1 l2 l3 l4 l5 : Int32} (h : ((¬ (I 23 5) = 0 → P (.inl none) I J D) ∧ (¬ (¬ (I 23 5) = 0) → ((¬ (I 20 3) = 0 → (((I 23 4) < 250 → P (.inl none) I J D) ∧ (¬ ((I 23 4) < 250) → (zz RO (d + 1) 36 [.ref 23, .int 2, .int (-1)] I J D 0 0 (zNv P fun I1 J1 D1 => P (.inl none) I1 J1 D1))))) ∧ (¬ (¬ (I 20 3) = 0) → ((¬ l5 = 0 → (zz RO (d + 1) 41 [.ref 23] I J D 0 0 (zNv P fun I2 J2 D2 => ((¬ (I2 23 5) = 0 → P (.inl none) I2 J2 D2) ∧ (¬ (¬ (I2 23 5) = 0) → (((I2 23 4) < 250 → P (.inl none) I2 J2 D2) ∧ (¬ ((I2 23 4) < 250) → (zz RO (d + 1) 36 [.ref 23, .int 2, .int (-1)] I2 J2 D2 0 0 (zNv P fun I3 J3 D3 => P (.inl none) I3 J3 D3))))))))) ∧ (¬ (¬ l5 = 0) → (((I 20 7) = 0 → (((I 23 4) < 250 → P (.inl none) I J D) ∧ (¬ ((I 23 4) < 250) → (zz RO (d + 1) 36 [.ref 23, .int 2, .int (-1)] I J D 0 0 (zNv P fun I4 J4 D4 => P (.inl none) I4 J4 D4))))) ∧ (¬ ((I 20 7) = 0) → (zz RO (d + 1) 41 [.ref 23] I J D 0 0 (zNv P fun I5 J5 D5 => ((¬ (I5 23 5) = 0 → P (.inl none) I5 J5 D5) ∧ (¬ (¬ (I5 23 5) = 0) → (((I5 23 4) < 250 → P (.inl none) I5 J5 D5) ∧ (¬ ((I5 23 4) < 250) → (zz RO (d + 1) 36 [.ref 23, .int 2, .int (-1)] I5 J5 D5 0 0 (zNv P fun I6 J6 D6 => P (.inl none) I6 J6 D6))))))))))))))))) : zw RO (d + 1) 34 P 122 [(0, .ref 23), (1, .int l1), (2, .int l2), (3, .int l3), (4, .int l4), (5, .int l5)] [] I J D bc bs := by
  refine zr_aload_n zSm 61 rfl rfl ?_
  refine zr_getI zSm 62 rfl zf_2_27 rfl rfl (by decide) ?_
  refine zr_if zSm 63 158 rfl rfl (fun q1 => ?_) (fun q1 => ?_)
  · have h := h.1 q1
    refine zr_aload_n zSm 76 rfl rfl ?_
    refine zr_getI zSm 77 rfl zf_2_27 rfl rfl (by decide) ?_
    refine zr_if zSm 78 181 rfl rfl (fun q2 => ?_) (fun q2 => ?_)
    · refine zr_vret zSm 87 rfl rfl ?_
      exact h
    · exact absurd q1 q2
  · have h := h.2 q1
    refine zr_aload_n zSm 64 rfl rfl ?_
    refine zr_getR zSm 65 rfl zf_2_15 rfl rfl (by decide) ?_
    refine zr_getI zSm 66 rfl zf_2_39 rfl rfl (by decide) ?_
    refine zr_if zSm 67 158 rfl rfl (fun q3 => ?_) (fun q3 => ?_)
    · have h := h.1 q3
      refine zr_aload_n zSm 76 rfl rfl ?_
      refine zr_getI zSm 77 rfl zf_2_27 rfl rfl (by decide) ?_
      refine zr_if zSm 78 181 rfl rfl (fun q4 => ?_) (fun q4 => ?_)
      · exact absurd q4 q1
      · refine zr_aload_n zSm 79 rfl rfl ?_
        refine zr_getI zSm 80 rfl zf_2_31 rfl rfl (by decide) ?_
        refine zr_sipush zSm 81 250 rfl rfl ?_
        refine zr_ic zSm 82 181 rfl rfl (fun q5 => ?_) (fun q5 => ?_)
        · have h := h.1 q5
          refine zr_vret zSm 87 rfl rfl ?_
          exact h
        · have h := h.2 q5
          refine zr_aload_n zSm 83 rfl rfl ?_
          refine zr_s zSm 84 rfl rfl ?_
          refine zr_s zSm 85 rfl rfl ?_
          refine zr_inv0 86 36 2 [.int 2, .int (-1)] rfl rfl zk_2_131 zms_36 rfl ⟨_, _, _, _, rfl, rfl⟩ (Nat.le_of_ble_eq_true rfl) ?_
          refine zcv h (fun I1 J1 D1 h => ?_)
          refine zr_vret zSm 87 rfl rfl ?_
          exact h
    · have h := h.2 q3
      refine zr_iload zSm 68 rfl rfl ?_
      refine zr_if zSm 69 154 rfl rfl (fun q6 => ?_) (fun q6 => ?_)
      · have h := h.1 q6
        refine zr_aload_n zSm 74 rfl rfl ?_
        refine zr_inv0 75 41 0 [] rfl rfl zk_2_75 zms_41 rfl ⟨_, _, _, _, rfl, rfl⟩ (Nat.le_of_ble_eq_true rfl) ?_
        refine zcv h (fun I2 J2 D2 h => ?_)
        refine zr_aload_n zSm 76 rfl rfl ?_
        refine zr_getI zSm 77 rfl zf_2_27 rfl rfl (by decide) ?_
        refine zr_if zSm 78 181 rfl rfl (fun q7 => ?_) (fun q7 => ?_)
        · have h := h.1 q7
          refine zr_vret zSm 87 rfl rfl ?_
          exact h
        · have h := h.2 q7
          refine zr_aload_n zSm 79 rfl rfl ?_
          refine zr_getI zSm 80 rfl zf_2_31 rfl rfl (by decide) ?_
          refine zr_sipush zSm 81 250 rfl rfl ?_
          refine zr_ic zSm 82 181 rfl rfl (fun q8 => ?_) (fun q8 => ?_)
          · have h := h.1 q8
            refine zr_vret zSm 87 rfl rfl ?_
            exact h
          · have h := h.2 q8
            refine zr_aload_n zSm 83 rfl rfl ?_
            refine zr_s zSm 84 rfl rfl ?_
            refine zr_s zSm 85 rfl rfl ?_
            refine zr_inv0 86 36 2 [.int 2, .int (-1)] rfl rfl zk_2_131 zms_36 rfl ⟨_, _, _, _, rfl, rfl⟩ (Nat.le_of_ble_eq_true rfl) ?_
            refine zcv h (fun I3 J3 D3 h => ?_)
            refine zr_vret zSm 87 rfl rfl ?_
            exact h
      · have h := h.2 q6
        refine zr_aload_n zSm 70 rfl rfl ?_
        refine zr_getR zSm 71 rfl zf_2_15 rfl rfl (by decide) ?_
        refine zr_getZ zSm 72 rfl zf_2_71 rfl rfl (by decide) ?_
        refine zr_if zSm 73 158 rfl rfl (fun q9 => ?_) (fun q9 => ?_)
        · have h := h.1 q9
          refine zr_aload_n zSm 76 rfl rfl ?_
          refine zr_getI zSm 77 rfl zf_2_27 rfl rfl (by decide) ?_
          refine zr_if zSm 78 181 rfl rfl (fun q10 => ?_) (fun q10 => ?_)
          · exact absurd q10 q1
          · refine zr_aload_n zSm 79 rfl rfl ?_
            refine zr_getI zSm 80 rfl zf_2_31 rfl rfl (by decide) ?_
            refine zr_sipush zSm 81 250 rfl rfl ?_
            refine zr_ic zSm 82 181 rfl rfl (fun q11 => ?_) (fun q11 => ?_)
            · have h := h.1 q11
              refine zr_vret zSm 87 rfl rfl ?_
              exact h
            · have h := h.2 q11
              refine zr_aload_n zSm 83 rfl rfl ?_
              refine zr_s zSm 84 rfl rfl ?_
              refine zr_s zSm 85 rfl rfl ?_
              refine zr_inv0 86 36 2 [.int 2, .int (-1)] rfl rfl zk_2_131 zms_36 rfl ⟨_, _, _, _, rfl, rfl⟩ (Nat.le_of_ble_eq_true rfl) ?_
              refine zcv h (fun I4 J4 D4 h => ?_)
              refine zr_vret zSm 87 rfl rfl ?_
              exact h
        · have h := h.2 q9
          refine zr_aload_n zSm 74 rfl rfl ?_
          refine zr_inv0 75 41 0 [] rfl rfl zk_2_75 zms_41 rfl ⟨_, _, _, _, rfl, rfl⟩ (Nat.le_of_ble_eq_true rfl) ?_
          refine zcv h (fun I5 J5 D5 h => ?_)
          refine zr_aload_n zSm 76 rfl rfl ?_
          refine zr_getI zSm 77 rfl zf_2_27 rfl rfl (by decide) ?_
          refine zr_if zSm 78 181 rfl rfl (fun q12 => ?_) (fun q12 => ?_)
          · have h := h.1 q12
            refine zr_vret zSm 87 rfl rfl ?_
            exact h
          · have h := h.2 q12
            refine zr_aload_n zSm 79 rfl rfl ?_
            refine zr_getI zSm 80 rfl zf_2_31 rfl rfl (by decide) ?_
            refine zr_sipush zSm 81 250 rfl rfl ?_
            refine zr_ic zSm 82 181 rfl rfl (fun q13 => ?_) (fun q13 => ?_)
            · have h := h.1 q13
              refine zr_vret zSm 87 rfl rfl ?_
              exact h
            · have h := h.2 q13
              refine zr_aload_n zSm 83 rfl rfl ?_
              refine zr_s zSm 84 rfl rfl ?_
              refine zr_s zSm 85 rfl rfl ?_
              refine zr_inv0 86 36 2 [.int 2, .int (-1)] rfl rfl zk_2_131 zms_36 rfl ⟨_, _, _, _, rfl, rfl⟩ (Nat.le_of_ble_eq_true rfl) ?_
              refine zcv h (fun I6 J6 D6 h => ?_)
              refine zr_vret zSm 87 rfl rfl ?_
              exact h
theorem w_35 {RO : zRo} {d : Nat} {P : zP} {I : zI} {J : zJ} {D : zD} {bc bs : Nat} {p0 p1 p2 p3 : Int32} (h : ((((I 23 4) * 4) < 0 → P (.inl none) I J D) ∧ (¬ (((I 23 4) * 4) < 0) → ((1000 ≤ (((I 23 4) * 4) + 3) → P (.inl none) I J D) ∧ (¬ (1000 ≤ (((I 23 4) * 4) + 3)) → (vp_in ((I 23 4) * 4) 1000 ∧ (vp_in (((I 23 4) * 4) + 1) 1000 ∧ (vp_in (((I 23 4) * 4) + 2) 1000 ∧ (vp_in (((I 23 4) * 4) + 3) 1000 ∧ P (.inl none) (zu (zu (zu (zu (zu I 27 (((I 23 4) * 4).toNatClampNeg) p0) 27 ((((I 23 4) * 4) + 1).toNatClampNeg) p1) 27 ((((I 23 4) * 4) + 2).toNatClampNeg) p2) 27 ((((I 23 4) * 4) + 3).toNatClampNeg) p3) 23 4 ((I 23 4) + 1)) J D))))))))) : zz RO (d + 1) 35 [.ref 23, .int p0, .int p1, .int p2, .int p3] I J D bc bs P := by
  refine zT_of (Nat.le_of_ble_eq_true rfl) rfl ?_
  show zw RO d 35 P 0 [(0, .ref 23), (1, .int p0), (2, .int p1), (3, .int p2), (4, .int p3)] [] I J D bc bs
  refine zr_aload_n zSm 0 rfl rfl ?_
  refine zr_getI zSm 1 rfl zf_2_31 rfl rfl (by decide) ?_
  refine zr_s zSm 2 rfl rfl ?_
  refine zr_s zSm 3 rfl rfl ?_
  refine zr_istore zSm 4 (ll' := [(5, .int ((I 23 4) * 4)), (0, .ref 23), (1, .int p0), (2, .int p1), (3, .int p2), (4, .int p3)]) rfl (by decide) rfl ?_
  refine zr_iload zSm 5 rfl rfl ?_
  refine zr_if zSm 6 74 rfl rfl (fun q1 => ?_) (fun q1 => ?_)
  · have h := h.1 q1
    refine zr_vret zSm 46 rfl rfl ?_
    exact h
  · have h := h.2 q1
    refine zr_iload zSm 7 rfl rfl ?_
    refine zr_s zSm 8 rfl rfl ?_
    refine zr_s zSm 9 rfl rfl ?_
    refine zr_aload_n zSm 10 rfl rfl ?_
    refine zr_getR zSm 11 rfl zf_2_23 rfl rfl (by decide) ?_
    refine zr_alen zSm 12 1000 rfl rfl rfl ?_
    refine zr_ic zSm 13 74 rfl rfl (fun q2 => ?_) (fun q2 => ?_)
    · have h := h.1 q2
      refine zr_vret zSm 46 rfl rfl ?_
      exact h
    · have h := h.2 q2
      refine zr_aload_n zSm 14 rfl rfl ?_
      refine zr_getR zSm 15 rfl zf_2_23 rfl rfl (by decide) ?_
      refine zr_iload zSm 16 rfl rfl ?_
      refine zr_iload_n zSm 17 rfl rfl ?_
      obtain ⟨b18, h⟩ := h
      refine zr_iast zSm 18 rfl rfl b18 ?_
      refine zr_aload_n zSm 19 rfl rfl ?_
      refine zr_getR zSm 20 rfl zf_2_23 rfl rfl (by decide) ?_
      refine zr_iload zSm 21 rfl rfl ?_
      refine zr_s zSm 22 rfl rfl ?_
      refine zr_s zSm 23 rfl rfl ?_
      refine zr_iload_n zSm 24 rfl rfl ?_
      obtain ⟨b25, h⟩ := h
      refine zr_iast zSm 25 rfl rfl b25 ?_
      refine zr_aload_n zSm 26 rfl rfl ?_
      refine zr_getR zSm 27 rfl zf_2_23 rfl rfl (by decide) ?_
      refine zr_iload zSm 28 rfl rfl ?_
      refine zr_s zSm 29 rfl rfl ?_
      refine zr_s zSm 30 rfl rfl ?_
      refine zr_iload_n zSm 31 rfl rfl ?_
      obtain ⟨b32, h⟩ := h
      refine zr_iast zSm 32 rfl rfl b32 ?_
      refine zr_aload_n zSm 33 rfl rfl ?_
      refine zr_getR zSm 34 rfl zf_2_23 rfl rfl (by decide) ?_
      refine zr_iload zSm 35 rfl rfl ?_
      refine zr_s zSm 36 rfl rfl ?_
      refine zr_s zSm 37 rfl rfl ?_
      refine zr_iload zSm 38 rfl rfl ?_
      obtain ⟨b39, h⟩ := h
      refine zr_iast zSm 39 rfl rfl b39 ?_
      refine zr_aload_n zSm 40 rfl rfl ?_
      refine zr_s zSm 41 rfl rfl ?_
      refine zr_getI zSm 42 rfl zf_2_31 rfl rfl (by decide) ?_
      refine zr_s zSm 43 rfl rfl ?_
      refine zr_s zSm 44 rfl rfl ?_
      refine zr_putI zSm 45 rfl zf_2_31 rfl rfl (by decide) zp_2_4 ?_
      refine zr_vret zSm 46 rfl rfl ?_
      exact h
theorem w_36 {RO : zRo} {d : Nat} {P : zP} {I : zI} {J : zJ} {D : zD} {bc bs : Nat} {p0 p1 : Int32} (h : P (.inl none) (zu (zu (zu (zu I 23 5 p0) 23 6 p1) 23 7 (-1)) 23 8 0) J D) : zz RO (d + 1) 36 [.ref 23, .int p0, .int p1] I J D bc bs P := by
  refine zT_of (Nat.le_of_ble_eq_true rfl) rfl ?_
  show zw RO d 36 P 0 [(0, .ref 23), (1, .int p0), (2, .int p1)] [] I J D bc bs
  refine zr_aload_n zSm 0 rfl rfl ?_
  refine zr_iload_n zSm 1 rfl rfl ?_
  refine zr_putI zSm 2 rfl zf_2_27 rfl rfl (by decide) zp_2_5 ?_
  refine zr_aload_n zSm 3 rfl rfl ?_
  refine zr_iload_n zSm 4 rfl rfl ?_
  refine zr_putI zSm 5 rfl zf_2_49 rfl rfl (by decide) zp_2_6 ?_
  refine zr_aload_n zSm 6 rfl rfl ?_
  refine zr_s zSm 7 rfl rfl ?_
  refine zr_putI zSm 8 rfl zf_2_52 rfl rfl (by decide) zp_2_7 ?_
  refine zr_aload_n zSm 9 rfl rfl ?_
  refine zr_s zSm 10 rfl rfl ?_
  refine zr_putI zSm 11 rfl zf_2_55 rfl rfl (by decide) zp_2_8 ?_
  refine zr_vret zSm 12 rfl rfl ?_
  exact h
theorem w_37 {RO : zRo} {d : Nat} {P : zP} {I : zI} {J : zJ} {D : zD} {bc bs : Nat}  (h : (((I 20 3) ≤ 0 → P (.inl none) (zu (zu I 23 8 0) 23 7 (-1)) J D) ∧ (¬ ((I 20 3) ≤ 0) → P (.inl none) (zu (zu I 23 8 0) 23 7 (zv_83 (zu I 23 8 0) J (zv_86 (zu I 23 8 0) J ((I 20 3) - 1) 2))) J D))) : zz RO (d + 2) 37 [.ref 23] I J D bc bs P := by
  refine zT_of (Nat.le_of_ble_eq_true rfl) rfl ?_
  show zw RO (d + 1) 37 P 0 [(0, .ref 23)] [] I J D bc bs
  refine zr_aload_n zSm 0 rfl rfl ?_
  refine zr_s zSm 1 rfl rfl ?_
  refine zr_putI zSm 2 rfl zf_2_55 rfl rfl (by decide) zp_2_8 ?_
  refine zr_aload_n zSm 3 rfl rfl ?_
  refine zr_aload_n zSm 4 rfl rfl ?_
  refine zr_getR zSm 5 rfl zf_2_15 rfl rfl (by decide) ?_
  refine zr_getI zSm 6 rfl zf_2_39 rfl rfl (by decide) ?_
  refine zr_if zSm 7 43 rfl rfl (fun q1 => ?_) (fun q1 => ?_)
  · have h := h.1 q1
    refine zr_s zSm 21 rfl rfl ?_
    refine zr_putI zSm 22 rfl zf_2_52 rfl rfl (by decide) zp_2_7 ?_
    refine zr_vret zSm 23 rfl rfl ?_
    exact h
  · have h := h.2 q1
    refine zr_aload_n zSm 8 rfl rfl ?_
    refine zr_getR zSm 9 rfl zf_2_15 rfl rfl (by decide) ?_
    refine zr_aload_n zSm 10 rfl rfl ?_
    refine zr_getR zSm 11 rfl zf_2_15 rfl rfl (by decide) ?_
    refine zr_aload_n zSm 12 rfl rfl ?_
    refine zr_getR zSm 13 rfl zf_2_15 rfl rfl (by decide) ?_
    refine zr_getI zSm 14 rfl zf_2_39 rfl rfl (by decide) ?_
    refine zr_s zSm 15 rfl rfl ?_
    refine zr_s zSm 16 rfl rfl ?_
    refine zr_s zSm 17 rfl rfl ?_
    refine zr_inv0 18 86 2 [.int ((I 20 3) - 1), .int 2] rfl rfl zk_2_134 zms_86 rfl ⟨_, _, _, _, rfl, rfl⟩ (Nat.le_of_ble_eq_true rfl) ?_
    refine ze_86 ?_
    refine zNx_i ?_
    refine zr_inv0 19 83 1 [.int (zv_86 (zu I 23 8 0) J ((I 20 3) - 1) 2)] rfl rfl zk_2_137 zms_83 rfl ⟨_, _, _, _, rfl, rfl⟩ (Nat.le_of_ble_eq_true rfl) ?_
    refine ze_83 ?_
    refine zNx_i ?_
    refine zr_goto zSm 20 44 rfl rfl ?_
    refine zr_putI zSm 22 rfl zf_2_52 rfl rfl (by decide) zp_2_7 ?_
    refine zr_vret zSm 23 rfl rfl ?_
    exact h
theorem w_38 {RO : zRo} {d : Nat} {P : zP} {I : zI} {J : zJ} {D : zD} {bc bs : Nat}  (h : ((((I 20 2) - 1) ≤ ((I 23 8) + 1) → ((¬ (zv_86 (zu I 23 8 ((I 23 8) + 1)) J ((I 20 3) - 1) 0) = 1 → (zz RO (d + 1) 43 [.ref 24, .int (zv_81 (zu (zu I 23 8 ((I 23 8) + 1)) 20 3 ((I 20 3) - 1)) J (zv_86 (zu I 23 8 ((I 23 8) + 1)) J ((I 20 3) - 1) 1)), .int (zv_86 (zu (zu I 23 8 ((I 23 8) + 1)) 20 3 ((I 20 3) - 1)) J ((I 20 3) - 1) 2), .int (zv_86 (zu (zu I 23 8 ((I 23 8) + 1)) 20 3 ((I 20 3) - 1)) J ((I 20 3) - 1) 3)] (zu (zu I 23 8 ((I 23 8) + 1)) 20 3 ((I 20 3) - 1)) J D 0 0 (zNl P fun v1 I1 J1 D1 => (zz RO (d + 1) 39 [.ref 23] I1 J1 D1 0 0 (zNv P fun I2 J2 D2 => ((¬ (I2 23 5) = 0 → P (.inl none) I2 J2 D2) ∧ (¬ (¬ (I2 23 5) = 0) → (zz RO (d + 1) 37 [.ref 23] I2 J2 D2 0 0 (zNv P fun I3 J3 D3 => P (.inl none) I3 J3 D3))))))))) ∧ (¬ (¬ (zv_86 (zu I 23 8 ((I 23 8) + 1)) J ((I 20 3) - 1) 0) = 1) → (zz RO (d + 1) 43 [.ref 24, .int (zv_81 (zu (zu I 23 8 ((I 23 8) + 1)) 20 3 ((I 20 3) - 1)) J ((zv_86 (zu I 23 8 ((I 23 8) + 1)) J ((I 20 3) - 1) 1) + 12)), .int (zv_86 (zu (zu I 23 8 ((I 23 8) + 1)) 20 3 ((I 20 3) - 1)) J ((I 20 3) - 1) 2), .int (zv_86 (zu (zu I 23 8 ((I 23 8) + 1)) 20 3 ((I 20 3) - 1)) J ((I 20 3) - 1) 3)] (zu (zu I 23 8 ((I 23 8) + 1)) 20 3 ((I 20 3) - 1)) J D 0 0 (zNl P fun v4 I4 J4 D4 => (zz RO (d + 1) 39 [.ref 23] I4 J4 D4 0 0 (zNv P fun I5 J5 D5 => ((¬ (I5 23 5) = 0 → P (.inl none) I5 J5 D5) ∧ (¬ (¬ (I5 23 5) = 0) → (zz RO (d + 1) 37 [.ref 23] I5 J5 D5 0 0 (zNv P fun I6 J6 D6 => P (.inl none) I6 J6 D6))))))))))) ∧ (¬ (((I 20 2) - 1) ≤ ((I 23 8) + 1)) → P (.inl none) (zu (zu I 23 8 ((I 23 8) + 1)) 23 7 (zv_83 (zu I 23 8 ((I 23 8) + 1)) J (I 23 7))) J D))) : zz RO (d + 2) 38 [.ref 23] I J D bc bs P := by
  refine zT_of (Nat.le_of_ble_eq_true rfl) rfl ?_
  show zw RO (d + 1) 38 P 0 [(0, .ref 23)] [] I J D bc bs
  refine zr_aload_n zSm 0 rfl rfl ?_
  refine zr_s zSm 1 rfl rfl ?_
  refine zr_getI zSm 2 rfl zf_2_55 rfl rfl (by decide) ?_
  refine zr_s zSm 3 rfl rfl ?_
  refine zr_s zSm 4 rfl rfl ?_
  refine zr_putI zSm 5 rfl zf_2_55 rfl rfl (by decide) zp_2_8 ?_
  refine zr_aload_n zSm 6 rfl rfl ?_
  refine zr_getI zSm 7 rfl zf_2_55 rfl rfl (by decide) ?_
  refine zr_aload_n zSm 8 rfl rfl ?_
  refine zr_getR zSm 9 rfl zf_2_15 rfl rfl (by decide) ?_
  refine zr_getI zSm 10 rfl zf_2_34 rfl rfl (by decide) ?_
  refine zr_s zSm 11 rfl rfl ?_
  refine zr_s zSm 12 rfl rfl ?_
  refine zr_ic zSm 13 42 rfl rfl (fun q1 => ?_) (fun q1 => ?_)
  · have h := h.1 q1
    refine zr_aload_n zSm 22 rfl rfl ?_
    refine zr_getR zSm 23 rfl zf_2_15 rfl rfl (by decide) ?_
    refine zr_getI zSm 24 rfl zf_2_39 rfl rfl (by decide) ?_
    refine zr_s zSm 25 rfl rfl ?_
    refine zr_s zSm 26 rfl rfl ?_
    refine zr_istore_n zSm 27 (ll' := [(1, .int ((I 20 3) - 1)), (0, .ref 23)]) rfl (by decide) rfl ?_
    refine zr_aload_n zSm 28 rfl rfl ?_
    refine zr_getR zSm 29 rfl zf_2_15 rfl rfl (by decide) ?_
    refine zr_iload_n zSm 30 rfl rfl ?_
    refine zr_s zSm 31 rfl rfl ?_
    refine zr_inv0 32 86 2 [.int ((I 20 3) - 1), .int 1] rfl rfl zk_2_134 zms_86 rfl ⟨_, _, _, _, rfl, rfl⟩ (Nat.le_of_ble_eq_true rfl) ?_
    refine ze_86 ?_
    refine zNx_i ?_
    refine zr_istore_n zSm 33 (ll' := [(2, .int (zv_86 (zu I 23 8 ((I 23 8) + 1)) J ((I 20 3) - 1) 1)), (1, .int ((I 20 3) - 1)), (0, .ref 23)]) rfl (by decide) rfl ?_
    refine zr_aload_n zSm 34 rfl rfl ?_
    refine zr_getR zSm 35 rfl zf_2_15 rfl rfl (by decide) ?_
    refine zr_iload_n zSm 36 rfl rfl ?_
    refine zr_s zSm 37 rfl rfl ?_
    refine zr_inv0 38 86 2 [.int ((I 20 3) - 1), .int 0] rfl rfl zk_2_134 zms_86 rfl ⟨_, _, _, _, rfl, rfl⟩ (Nat.le_of_ble_eq_true rfl) ?_
    refine ze_86 ?_
    refine zNx_i ?_
    refine zr_s zSm 39 rfl rfl ?_
    refine zr_ic zSm 40 78 rfl rfl (fun q2 => ?_) (fun q2 => ?_)
    · have h := h.1 q2
      refine zr_aload_n zSm 42 rfl rfl ?_
      refine zr_getR zSm 43 rfl zf_2_15 rfl rfl (by decide) ?_
      refine zr_iload_n zSm 44 rfl rfl ?_
      refine zr_putI zSm 45 rfl zf_2_39 rfl rfl (by decide) zp_6_3 ?_
      refine zr_aload_n zSm 46 rfl rfl ?_
      refine zr_getR zSm 47 rfl zf_2_19 rfl rfl (by decide) ?_
      refine zr_aload_n zSm 48 rfl rfl ?_
      refine zr_getR zSm 49 rfl zf_2_9 rfl rfl (by decide) ?_
      refine zr_iload_n zSm 50 rfl rfl ?_
      refine zr_inv0 51 81 1 [.int (zv_86 (zu I 23 8 ((I 23 8) + 1)) J ((I 20 3) - 1) 1)] rfl rfl zk_2_140 zms_81 rfl ⟨_, _, _, _, rfl, rfl⟩ (Nat.le_of_ble_eq_true rfl) ?_
      refine ze_81 ?_
      refine zNx_i ?_
      refine zr_aload_n zSm 52 rfl rfl ?_
      refine zr_getR zSm 53 rfl zf_2_15 rfl rfl (by decide) ?_
      refine zr_iload_n zSm 54 rfl rfl ?_
      refine zr_s zSm 55 rfl rfl ?_
      refine zr_inv0 56 86 2 [.int ((I 20 3) - 1), .int 2] rfl rfl zk_2_134 zms_86 rfl ⟨_, _, _, _, rfl, rfl⟩ (Nat.le_of_ble_eq_true rfl) ?_
      refine ze_86 ?_
      refine zNx_i ?_
      refine zr_aload_n zSm 57 rfl rfl ?_
      refine zr_getR zSm 58 rfl zf_2_15 rfl rfl (by decide) ?_
      refine zr_iload_n zSm 59 rfl rfl ?_
      refine zr_s zSm 60 rfl rfl ?_
      refine zr_inv0 61 86 2 [.int ((I 20 3) - 1), .int 3] rfl rfl zk_2_134 zms_86 rfl ⟨_, _, _, _, rfl, rfl⟩ (Nat.le_of_ble_eq_true rfl) ?_
      refine ze_86 ?_
      refine zNx_i ?_
      refine zr_inv0 62 43 3 [.int (zv_81 (zu (zu I 23 8 ((I 23 8) + 1)) 20 3 ((I 20 3) - 1)) J (zv_86 (zu I 23 8 ((I 23 8) + 1)) J ((I 20 3) - 1) 1)), .int (zv_86 (zu (zu I 23 8 ((I 23 8) + 1)) 20 3 ((I 20 3) - 1)) J ((I 20 3) - 1) 2), .int (zv_86 (zu (zu I 23 8 ((I 23 8) + 1)) 20 3 ((I 20 3) - 1)) J ((I 20 3) - 1) 3)] rfl rfl zk_2_109 zms_43 rfl ⟨_, _, _, _, rfl, rfl⟩ (Nat.le_of_ble_eq_true rfl) ?_
      refine zcl h (fun v1 I1 J1 D1 h => ?_)
      refine zr_s zSm 63 rfl rfl ?_
      refine zr_aload_n zSm 64 rfl rfl ?_
      refine zr_inv0 65 39 0 [] rfl rfl zk_2_143 zms_39 rfl ⟨_, _, _, _, rfl, rfl⟩ (Nat.le_of_ble_eq_true rfl) ?_
      refine zcv h (fun I2 J2 D2 h => ?_)
      refine zr_aload_n zSm 66 rfl rfl ?_
      refine zr_getI zSm 67 rfl zf_2_27 rfl rfl (by decide) ?_
      refine zr_if zSm 68 135 rfl rfl (fun q3 => ?_) (fun q3 => ?_)
      · have h := h.1 q3
        refine zr_vret zSm 71 rfl rfl ?_
        exact h
      · have h := h.2 q3
        refine zr_aload_n zSm 69 rfl rfl ?_
        refine zr_inv0 70 37 0 [] rfl rfl zk_2_122 zms_37 rfl ⟨_, _, _, _, rfl, rfl⟩ (Nat.le_of_ble_eq_true rfl) ?_
        refine zcv h (fun I3 J3 D3 h => ?_)
        refine zr_vret zSm 71 rfl rfl ?_
        exact h
    · have h := h.2 q2
      refine zr_iinc zSm 41 (v := (zv_86 (zu I 23 8 ((I 23 8) + 1)) J ((I 20 3) - 1) 1) + 12) (ll' := [(2, .int ((zv_86 (zu I 23 8 ((I 23 8) + 1)) J ((I 20 3) - 1) 1) + 12)), (1, .int ((I 20 3) - 1)), (0, .ref 23)]) rfl rfl (by decide) rfl rfl ?_
      refine zr_aload_n zSm 42 rfl rfl ?_
      refine zr_getR zSm 43 rfl zf_2_15 rfl rfl (by decide) ?_
      refine zr_iload_n zSm 44 rfl rfl ?_
      refine zr_putI zSm 45 rfl zf_2_39 rfl rfl (by decide) zp_6_3 ?_
      refine zr_aload_n zSm 46 rfl rfl ?_
      refine zr_getR zSm 47 rfl zf_2_19 rfl rfl (by decide) ?_
      refine zr_aload_n zSm 48 rfl rfl ?_
      refine zr_getR zSm 49 rfl zf_2_9 rfl rfl (by decide) ?_
      refine zr_iload_n zSm 50 rfl rfl ?_
      refine zr_inv0 51 81 1 [.int ((zv_86 (zu I 23 8 ((I 23 8) + 1)) J ((I 20 3) - 1) 1) + 12)] rfl rfl zk_2_140 zms_81 rfl ⟨_, _, _, _, rfl, rfl⟩ (Nat.le_of_ble_eq_true rfl) ?_
      refine ze_81 ?_
      refine zNx_i ?_
      refine zr_aload_n zSm 52 rfl rfl ?_
      refine zr_getR zSm 53 rfl zf_2_15 rfl rfl (by decide) ?_
      refine zr_iload_n zSm 54 rfl rfl ?_
      refine zr_s zSm 55 rfl rfl ?_
      refine zr_inv0 56 86 2 [.int ((I 20 3) - 1), .int 2] rfl rfl zk_2_134 zms_86 rfl ⟨_, _, _, _, rfl, rfl⟩ (Nat.le_of_ble_eq_true rfl) ?_
      refine ze_86 ?_
      refine zNx_i ?_
      refine zr_aload_n zSm 57 rfl rfl ?_
      refine zr_getR zSm 58 rfl zf_2_15 rfl rfl (by decide) ?_
      refine zr_iload_n zSm 59 rfl rfl ?_
      refine zr_s zSm 60 rfl rfl ?_
      refine zr_inv0 61 86 2 [.int ((I 20 3) - 1), .int 3] rfl rfl zk_2_134 zms_86 rfl ⟨_, _, _, _, rfl, rfl⟩ (Nat.le_of_ble_eq_true rfl) ?_
      refine ze_86 ?_
      refine zNx_i ?_
      refine zr_inv0 62 43 3 [.int (zv_81 (zu (zu I 23 8 ((I 23 8) + 1)) 20 3 ((I 20 3) - 1)) J ((zv_86 (zu I 23 8 ((I 23 8) + 1)) J ((I 20 3) - 1) 1) + 12)), .int (zv_86 (zu (zu I 23 8 ((I 23 8) + 1)) 20 3 ((I 20 3) - 1)) J ((I 20 3) - 1) 2), .int (zv_86 (zu (zu I 23 8 ((I 23 8) + 1)) 20 3 ((I 20 3) - 1)) J ((I 20 3) - 1) 3)] rfl rfl zk_2_109 zms_43 rfl ⟨_, _, _, _, rfl, rfl⟩ (Nat.le_of_ble_eq_true rfl) ?_
      refine zcl h (fun v4 I4 J4 D4 h => ?_)
      refine zr_s zSm 63 rfl rfl ?_
      refine zr_aload_n zSm 64 rfl rfl ?_
      refine zr_inv0 65 39 0 [] rfl rfl zk_2_143 zms_39 rfl ⟨_, _, _, _, rfl, rfl⟩ (Nat.le_of_ble_eq_true rfl) ?_
      refine zcv h (fun I5 J5 D5 h => ?_)
      refine zr_aload_n zSm 66 rfl rfl ?_
      refine zr_getI zSm 67 rfl zf_2_27 rfl rfl (by decide) ?_
      refine zr_if zSm 68 135 rfl rfl (fun q4 => ?_) (fun q4 => ?_)
      · have h := h.1 q4
        refine zr_vret zSm 71 rfl rfl ?_
        exact h
      · have h := h.2 q4
        refine zr_aload_n zSm 69 rfl rfl ?_
        refine zr_inv0 70 37 0 [] rfl rfl zk_2_122 zms_37 rfl ⟨_, _, _, _, rfl, rfl⟩ (Nat.le_of_ble_eq_true rfl) ?_
        refine zcv h (fun I6 J6 D6 h => ?_)
        refine zr_vret zSm 71 rfl rfl ?_
        exact h
  · have h := h.2 q1
    refine zr_aload_n zSm 14 rfl rfl ?_
    refine zr_aload_n zSm 15 rfl rfl ?_
    refine zr_getR zSm 16 rfl zf_2_15 rfl rfl (by decide) ?_
    refine zr_aload_n zSm 17 rfl rfl ?_
    refine zr_getI zSm 18 rfl zf_2_52 rfl rfl (by decide) ?_
    refine zr_inv0 19 83 1 [.int (I 23 7)] rfl rfl zk_2_137 zms_83 rfl ⟨_, _, _, _, rfl, rfl⟩ (Nat.le_of_ble_eq_true rfl) ?_
    refine ze_83 ?_
    refine zNx_i ?_
    refine zr_putI zSm 20 rfl zf_2_52 rfl rfl (by decide) zp_2_7 ?_
    refine zr_vret zSm 21 rfl rfl ?_
    exact h
theorem w_39 {RO : zRo} {d : Nat} {P : zP} {I : zI} {J : zJ} {D : zD} {bc bs : Nat}  (h : zw RO (d + 1) 39 P 10 [(0, .ref 23), (1, .int (I 20 5)), (2, .int 0)] [] I J D bc bs) : zz RO (d + 2) 39 [.ref 23] I J D bc bs P := by
  refine zT_of (Nat.le_of_ble_eq_true rfl) rfl ?_
  show zw RO (d + 1) 39 P 0 [(0, .ref 23)] [] I J D bc bs
  refine zr_aload_n zSm 0 rfl rfl ?_
  refine zr_getR zSm 1 rfl zf_2_15 rfl rfl (by decide) ?_
  refine zr_getI zSm 2 rfl zf_2_88 rfl rfl (by decide) ?_
  refine zr_istore_n zSm 3 (ll' := [(1, .int (I 20 5)), (0, .ref 23)]) rfl (by decide) rfl ?_
  refine zr_s zSm 4 rfl rfl ?_
  refine zr_istore_n zSm 5 (ll' := [(2, .int 0), (1, .int (I 20 5)), (0, .ref 23)]) rfl (by decide) rfl ?_
  refine zr_sub [2, 1, 0] rfl ?_
  exact h
theorem wl_39_10 {RO : zRo} {d : Nat} {P : zP} {I : zI} {J : zJ} {D : zD} {bc bs : Nat} {l1 l2 : Int32} (h : (((I 20 2) ≤ l2 → P (.inl none) I J D) ∧ (¬ ((I 20 2) ≤ l2) → (zz RO (d + 1) 43 [.ref 24, .int (I 12 6), .int l1, .int (zv_83 I J l1)] I J D 0 0 (zNl P fun v1 I1 J1 D1 => ((v1 = 0 → zw RO (d + 1) 39 P 10 [(0, .ref 23), (1, .int (zv_83 I J l1)), (2, .int (l2 + 1))] [] I1 J1 D1 bc bs) ∧ (¬ (v1 = 0) → (zz RO (d + 1) 36 [.ref 23, .int 1, .int l1] I1 J1 D1 0 0 (zNv P fun I2 J2 D2 => P (.inl none) I2 J2 D2))))))))) : zw RO (d + 1) 39 P 10 [(0, .ref 23), (1, .int l1), (2, .int l2)] [] I J D bc bs := by
  refine zr_iload_n zSm 6 rfl rfl ?_
  refine zr_aload_n zSm 7 rfl rfl ?_
  refine zr_getR zSm 8 rfl zf_2_15 rfl rfl (by decide) ?_
  refine zr_getI zSm 9 rfl zf_2_34 rfl rfl (by decide) ?_
  refine zr_ic zSm 10 66 rfl rfl (fun q1 => ?_) (fun q1 => ?_)
  · have h := h.1 q1
    refine zr_vret zSm 36 rfl rfl ?_
    exact h
  · have h := h.2 q1
    refine zr_aload_n zSm 11 rfl rfl ?_
    refine zr_getR zSm 12 rfl zf_2_15 rfl rfl (by decide) ?_
    refine zr_iload_n zSm 13 rfl rfl ?_
    refine zr_inv0 14 83 1 [.int l1] rfl rfl zk_2_137 zms_83 rfl ⟨_, _, _, _, rfl, rfl⟩ (Nat.le_of_ble_eq_true rfl) ?_
    refine ze_83 ?_
    refine zNx_i ?_
    refine zr_istore_n zSm 15 (ll' := [(3, .int (zv_83 I J l1)), (0, .ref 23), (1, .int l1), (2, .int l2)]) rfl (by decide) rfl ?_
    refine zr_aload_n zSm 16 rfl rfl ?_
    refine zr_getR zSm 17 rfl zf_2_19 rfl rfl (by decide) ?_
    refine zr_aload_n zSm 18 rfl rfl ?_
    refine zr_getR zSm 19 rfl zf_2_9 rfl rfl (by decide) ?_
    refine zr_getI zSm 20 rfl zf_2_146 rfl rfl (by decide) ?_
    refine zr_iload_n zSm 21 rfl rfl ?_
    refine zr_iload_n zSm 22 rfl rfl ?_
    refine zr_inv0 23 43 3 [.int (I 12 6), .int l1, .int (zv_83 I J l1)] rfl rfl zk_2_109 zms_43 rfl ⟨_, _, _, _, rfl, rfl⟩ (Nat.le_of_ble_eq_true rfl) ?_
    refine zcl h (fun v1 I1 J1 D1 h => ?_)
    refine zr_s zSm 24 rfl rfl ?_
    refine zr_s zSm 25 rfl rfl ?_
    refine zr_if zSm 26 58 rfl rfl (fun q2 => ?_) (fun q2 => ?_)
    · have q2 := zq_eq.mp q2
      have h := h.1 q2
      refine zr_iload_n zSm 32 rfl rfl ?_
      refine zr_istore_n zSm 33 (ll' := [(1, .int (zv_83 I J l1)), (3, .int (zv_83 I J l1)), (0, .ref 23), (2, .int l2)]) rfl (by decide) rfl ?_
      refine zr_iinc zSm 34 (v := l2 + 1) (ll' := [(2, .int (l2 + 1)), (1, .int (zv_83 I J l1)), (3, .int (zv_83 I J l1)), (0, .ref 23)]) rfl rfl (by decide) rfl rfl ?_
      refine zr_goto zSm 35 10 rfl rfl ?_
      refine zr_sub [3, 1, 0] rfl ?_
      exact h
    · have q2 := (fun z => q2 (zq_eq.mpr z))
      have h := h.2 q2
      refine zr_aload_n zSm 27 rfl rfl ?_
      refine zr_s zSm 28 rfl rfl ?_
      refine zr_iload_n zSm 29 rfl rfl ?_
      refine zr_inv0 30 36 2 [.int 1, .int l1] rfl rfl zk_2_131 zms_36 rfl ⟨_, _, _, _, rfl, rfl⟩ (Nat.le_of_ble_eq_true rfl) ?_
      refine zcv h (fun I2 J2 D2 h => ?_)
      refine zr_vret zSm 31 rfl rfl ?_
      exact h
theorem w_40 {RO : zRo} {d : Nat} {P : zP} {I : zI} {J : zJ} {D : zD} {bc bs : Nat}  (h : zw RO (d + 1) 40 P 26 [(0, .ref 23), (1, .int (zv_75 I J 5)), (2, .int (zv_83 I J (I 20 5))), (3, .int 0)] [] I J D bc bs) : zz RO (d + 2) 40 [.ref 23] I J D bc bs P := by
  refine zT_of (Nat.le_of_ble_eq_true rfl) rfl ?_
  show zw RO (d + 1) 40 P 0 [(0, .ref 23)] [] I J D bc bs
  refine zr_aload_n zSm 0 rfl rfl ?_
  refine zr_getR zSm 1 rfl zf_2_9 rfl rfl (by decide) ?_
  refine zr_s zSm 2 rfl rfl ?_
  refine zr_inv0 3 75 1 [.int 5] rfl rfl zk_2_128 zms_75 rfl ⟨_, _, _, _, rfl, rfl⟩ (Nat.le_of_ble_eq_true rfl) ?_
  refine ze_75 ?_
  refine zNx_i ?_
  refine zr_istore_n zSm 4 (ll' := [(1, .int (zv_75 I J 5)), (0, .ref 23)]) rfl (by decide) rfl ?_
  refine zr_aload_n zSm 5 rfl rfl ?_
  refine zr_getR zSm 6 rfl zf_2_15 rfl rfl (by decide) ?_
  refine zr_aload_n zSm 7 rfl rfl ?_
  refine zr_getR zSm 8 rfl zf_2_15 rfl rfl (by decide) ?_
  refine zr_getI zSm 9 rfl zf_2_88 rfl rfl (by decide) ?_
  refine zr_inv0 10 83 1 [.int (I 20 5)] rfl rfl zk_2_137 zms_83 rfl ⟨_, _, _, _, rfl, rfl⟩ (Nat.le_of_ble_eq_true rfl) ?_
  refine ze_83 ?_
  refine zNx_i ?_
  refine zr_istore_n zSm 11 (ll' := [(2, .int (zv_83 I J (I 20 5))), (1, .int (zv_75 I J 5)), (0, .ref 23)]) rfl (by decide) rfl ?_
  refine zr_s zSm 12 rfl rfl ?_
  refine zr_istore_n zSm 13 (ll' := [(3, .int 0), (2, .int (zv_83 I J (I 20 5))), (1, .int (zv_75 I J 5)), (0, .ref 23)]) rfl (by decide) rfl ?_
  refine zr_sub [3, 2, 1, 0] rfl ?_
  exact h
theorem wl_40_26 {RO : zRo} {d : Nat} {P : zP} {I : zI} {J : zJ} {D : zD} {bc bs : Nat} {l1 l2 l3 : Int32} (h : ((l1 ≤ l3 → P (.inl none) I J D) ∧ (¬ (l1 ≤ l3) → ((¬ (I 23 5) = 0 → P (.inl none) I J D) ∧ (¬ (¬ (I 23 5) = 0) → (((zv_79 I J l3 (I 20 6)) = 0 → zw RO (d + 1) 40 P 26 [(0, .ref 23), (1, .int l1), (2, .int l2), (3, .int (l3 + 1))] [] I J D bc bs) ∧ (¬ ((zv_79 I J l3 (I 20 6)) = 0) → (zz RO (d + 1) 33 [.ref 23, .int (zv_80 I J (20 + l3)), .int (I 20 5), .int l2] I J D 0 0 (zNi P fun v1 I1 J1 D1 => ((v1 = 0 → zw RO (d + 1) 40 P 26 [(0, .ref 23), (1, .int l1), (2, .int l2), (3, .int (l3 + 1))] [] I1 J1 D1 bc bs) ∧ (¬ (v1 = 0) → (zz RO (d + 1) 43 [.ref 24, .int (zv_81 I1 J1 (20 + l3)), .int (I1 20 5), .int l2] I1 J1 D1 0 0 (zNl P fun v2 I2 J2 D2 => (zz RO (d + 1) 39 [.ref 23] I2 J2 D2 0 0 (zNv P fun I3 J3 D3 => zw RO (d + 1) 40 P 26 [(0, .ref 23), (1, .int l1), (2, .int l2), (3, .int (l3 + 1))] [] I3 J3 D3 bc bs))))))))))))))) : zw RO (d + 1) 40 P 26 [(0, .ref 23), (1, .int l1), (2, .int l2), (3, .int l3)] [] I J D bc bs := by
  refine zr_iload_n zSm 14 rfl rfl ?_
  refine zr_iload_n zSm 15 rfl rfl ?_
  refine zr_ic zSm 16 121 rfl rfl (fun q1 => ?_) (fun q1 => ?_)
  · have h := h.1 q1
    refine zr_vret zSm 59 rfl rfl ?_
    exact h
  · have h := h.2 q1
    refine zr_aload_n zSm 17 rfl rfl ?_
    refine zr_getI zSm 18 rfl zf_2_27 rfl rfl (by decide) ?_
    refine zr_if zSm 19 121 rfl rfl (fun q2 => ?_) (fun q2 => ?_)
    · have h := h.1 q2
      refine zr_vret zSm 59 rfl rfl ?_
      exact h
    · have h := h.2 q2
      refine zr_bipush zSm 20 20 rfl rfl ?_
      refine zr_iload_n zSm 21 rfl rfl ?_
      refine zr_s zSm 22 rfl rfl ?_
      refine zr_istore zSm 23 (ll' := [(4, .int (20 + l3)), (0, .ref 23), (1, .int l1), (2, .int l2), (3, .int l3)]) rfl (by decide) rfl ?_
      refine zr_aload_n zSm 24 rfl rfl ?_
      refine zr_getR zSm 25 rfl zf_2_9 rfl rfl (by decide) ?_
      refine zr_iload_n zSm 26 rfl rfl ?_
      refine zr_aload_n zSm 27 rfl rfl ?_
      refine zr_getR zSm 28 rfl zf_2_15 rfl rfl (by decide) ?_
      refine zr_getI zSm 29 rfl zf_2_91 rfl rfl (by decide) ?_
      refine zr_inv0 30 79 2 [.int l3, .int (I 20 6)] rfl rfl zk_2_149 zms_79 rfl ⟨_, _, _, _, rfl, rfl⟩ (Nat.le_of_ble_eq_true rfl) ?_
      refine ze_79 ?_
      refine zNx_i ?_
      refine zr_if zSm 31 115 rfl rfl (fun q3 => ?_) (fun q3 => ?_)
      · have h := h.1 q3
        refine zr_iinc zSm 57 (v := l3 + 1) (ll' := [(3, .int (l3 + 1)), (4, .int (20 + l3)), (0, .ref 23), (1, .int l1), (2, .int l2)]) rfl rfl (by decide) rfl rfl ?_
        refine zr_goto zSm 58 26 rfl rfl ?_
        refine zr_sub [2, 3, 4, 0] rfl ?_
        exact h
      · have h := h.2 q3
        refine zr_aload_n zSm 32 rfl rfl ?_
        refine zr_aload_n zSm 33 rfl rfl ?_
        refine zr_getR zSm 34 rfl zf_2_9 rfl rfl (by decide) ?_
        refine zr_iload zSm 35 rfl rfl ?_
        refine zr_inv0 36 80 1 [.int (20 + l3)] rfl rfl zk_2_101 zms_80 rfl ⟨_, _, _, _, rfl, rfl⟩ (Nat.le_of_ble_eq_true rfl) ?_
        refine ze_80 ?_
        refine zNx_i ?_
        refine zr_aload_n zSm 37 rfl rfl ?_
        refine zr_getR zSm 38 rfl zf_2_15 rfl rfl (by decide) ?_
        refine zr_getI zSm 39 rfl zf_2_88 rfl rfl (by decide) ?_
        refine zr_iload_n zSm 40 rfl rfl ?_
        refine zr_inv0 41 33 3 [.int (zv_80 I J (20 + l3)), .int (I 20 5), .int l2] rfl rfl zk_2_105 zms_33 rfl ⟨_, _, _, _, rfl, rfl⟩ (Nat.le_of_ble_eq_true rfl) ?_
        refine zci h (fun v1 I1 J1 D1 h => ?_)
        refine zr_if zSm 42 115 rfl rfl (fun q4 => ?_) (fun q4 => ?_)
        · have h := h.1 q4
          refine zr_iinc zSm 57 (v := l3 + 1) (ll' := [(3, .int (l3 + 1)), (4, .int (20 + l3)), (0, .ref 23), (1, .int l1), (2, .int l2)]) rfl rfl (by decide) rfl rfl ?_
          refine zr_goto zSm 58 26 rfl rfl ?_
          refine zr_sub [2, 3, 4, 0] rfl ?_
          exact h
        · have h := h.2 q4
          refine zr_aload_n zSm 43 rfl rfl ?_
          refine zr_getR zSm 44 rfl zf_2_19 rfl rfl (by decide) ?_
          refine zr_aload_n zSm 45 rfl rfl ?_
          refine zr_getR zSm 46 rfl zf_2_9 rfl rfl (by decide) ?_
          refine zr_iload zSm 47 rfl rfl ?_
          refine zr_inv0 48 81 1 [.int (20 + l3)] rfl rfl zk_2_140 zms_81 rfl ⟨_, _, _, _, rfl, rfl⟩ (Nat.le_of_ble_eq_true rfl) ?_
          refine ze_81 ?_
          refine zNx_i ?_
          refine zr_aload_n zSm 49 rfl rfl ?_
          refine zr_getR zSm 50 rfl zf_2_15 rfl rfl (by decide) ?_
          refine zr_getI zSm 51 rfl zf_2_88 rfl rfl (by decide) ?_
          refine zr_iload_n zSm 52 rfl rfl ?_
          refine zr_inv0 53 43 3 [.int (zv_81 I1 J1 (20 + l3)), .int (I1 20 5), .int l2] rfl rfl zk_2_109 zms_43 rfl ⟨_, _, _, _, rfl, rfl⟩ (Nat.le_of_ble_eq_true rfl) ?_
          refine zcl h (fun v2 I2 J2 D2 h => ?_)
          refine zr_s zSm 54 rfl rfl ?_
          refine zr_aload_n zSm 55 rfl rfl ?_
          refine zr_inv0 56 39 0 [] rfl rfl zk_2_143 zms_39 rfl ⟨_, _, _, _, rfl, rfl⟩ (Nat.le_of_ble_eq_true rfl) ?_
          refine zcv h (fun I3 J3 D3 h => ?_)
          refine zr_iinc zSm 57 (v := l3 + 1) (ll' := [(3, .int (l3 + 1)), (4, .int (20 + l3)), (0, .ref 23), (1, .int l1), (2, .int l2)]) rfl rfl (by decide) rfl rfl ?_
          refine zr_goto zSm 58 26 rfl rfl ?_
          refine zr_sub [2, 3, 4, 0] rfl ?_
          exact h
theorem w_41 {RO : zRo} {d : Nat} {P : zP} {I : zI} {J : zJ} {D : zD} {bc bs : Nat}  (h : zw RO (d + 1) 41 P 4 [(0, .ref 23), (1, .int 1), (2, .int 0)] [] I J D bc bs) : zz RO (d + 2) 41 [.ref 23] I J D bc bs P := by
  refine zT_of (Nat.le_of_ble_eq_true rfl) rfl ?_
  show zw RO (d + 1) 41 P 0 [(0, .ref 23)] [] I J D bc bs
  refine zr_s zSm 0 rfl rfl ?_
  refine zr_istore_n zSm 1 (ll' := [(1, .int 1), (0, .ref 23)]) rfl (by decide) rfl ?_
  refine zr_s zSm 2 rfl rfl ?_
  refine zr_istore_n zSm 3 (ll' := [(2, .int 0), (1, .int 1), (0, .ref 23)]) rfl (by decide) rfl ?_
  refine zr_sub [2, 1, 0] rfl ?_
  exact h
theorem wl_41_4 {RO : zRo} {d : Nat} {P : zP} {I : zI} {J : zJ} {D : zD} {bc bs : Nat} {l1 l2 : Int32} (h : ((100 < l2 → P (.inl none) I J D) ∧ (¬ (100 < l2) → ((l1 = 0 → P (.inl none) I J D) ∧ (¬ (l1 = 0) → ((¬ (I 23 5) = 0 → P (.inl none) I J D) ∧ (¬ (¬ (I 23 5) = 0) → (((I 20 8) = 0 → ((¬ (zv_83 I J (I 20 5)) = 0 → ((50 < (I 20 4) → (zz RO (d + 1) 36 [.ref 23, .int 2, .int (-1)] I J D 0 0 (zNv P fun I1 J1 D1 => zw RO (d + 1) 41 P 4 [(0, .ref 23), (1, .int l1), (2, .int (l2 + 1))] [] I1 J1 D1 bc bs))) ∧ (¬ (50 < (I 20 4)) → ((l2 < 100 → (zz RO (d + 1) 30 [.ref 23, .int (zv_83 I J (I 20 5))] (zu I 20 4 (I 20 4)) J D 0 0 (zNv P fun I2 J2 D2 => (zz RO (d + 1) 40 [.ref 23] I2 J2 D2 0 0 (zNv P fun I3 J3 D3 => zw RO (d + 1) 41 P 4 [(0, .ref 23), (1, .int (I3 20 7)), (2, .int (l2 + 1))] [] I3 J3 D3 bc bs))))) ∧ (¬ (l2 < 100) → (zz RO (d + 1) 36 [.ref 23, .int 2, .int (-1)] I J D 0 0 (zNv P fun I4 J4 D4 => zw RO (d + 1) 41 P 4 [(0, .ref 23), (1, .int l1), (2, .int (l2 + 1))] [] I4 J4 D4 bc bs))))))) ∧ (¬ (¬ (zv_83 I J (I 20 5)) = 0) → ((50 < ((I 20 4) + 1) → (zz RO (d + 1) 36 [.ref 23, .int 2, .int (-1)] I J D 0 0 (zNv P fun I5 J5 D5 => zw RO (d + 1) 41 P 4 [(0, .ref 23), (1, .int l1), (2, .int (l2 + 1))] [] I5 J5 D5 bc bs))) ∧ (¬ (50 < ((I 20 4) + 1)) → ((l2 < 100 → (zz RO (d + 1) 30 [.ref 23, .int (zv_83 I J (I 20 5))] (zu I 20 4 ((I 20 4) + 1)) J D 0 0 (zNv P fun I6 J6 D6 => (zz RO (d + 1) 40 [.ref 23] I6 J6 D6 0 0 (zNv P fun I7 J7 D7 => zw RO (d + 1) 41 P 4 [(0, .ref 23), (1, .int (I7 20 7)), (2, .int (l2 + 1))] [] I7 J7 D7 bc bs))))) ∧ (¬ (l2 < 100) → (zz RO (d + 1) 36 [.ref 23, .int 2, .int (-1)] I J D 0 0 (zNv P fun I8 J8 D8 => zw RO (d + 1) 41 P 4 [(0, .ref 23), (1, .int l1), (2, .int (l2 + 1))] [] I8 J8 D8 bc bs))))))))) ∧ (¬ ((I 20 8) = 0) → ((¬ (I 20 5) = 0 → ((50 < (I 20 4) → (zz RO (d + 1) 36 [.ref 23, .int 2, .int (-1)] I J D 0 0 (zNv P fun I9 J9 D9 => zw RO (d + 1) 41 P 4 [(0, .ref 23), (1, .int l1), (2, .int (l2 + 1))] [] I9 J9 D9 bc bs))) ∧ (¬ (50 < (I 20 4)) → ((l2 < 100 → (zz RO (d + 1) 30 [.ref 23, .int (I 20 5)] (zu I 20 4 (I 20 4)) J D 0 0 (zNv P fun I10 J10 D10 => (zz RO (d + 1) 40 [.ref 23] I10 J10 D10 0 0 (zNv P fun I11 J11 D11 => zw RO (d + 1) 41 P 4 [(0, .ref 23), (1, .int (I11 20 7)), (2, .int (l2 + 1))] [] I11 J11 D11 bc bs))))) ∧ (¬ (l2 < 100) → (zz RO (d + 1) 36 [.ref 23, .int 2, .int (-1)] I J D 0 0 (zNv P fun I12 J12 D12 => zw RO (d + 1) 41 P 4 [(0, .ref 23), (1, .int l1), (2, .int (l2 + 1))] [] I12 J12 D12 bc bs))))))) ∧ (¬ (¬ (I 20 5) = 0) → ((50 < (I 20 4) → (zz RO (d + 1) 36 [.ref 23, .int 2, .int (-1)] I J D 0 0 (zNv P fun I13 J13 D13 => zw RO (d + 1) 41 P 4 [(0, .ref 23), (1, .int l1), (2, .int (l2 + 1))] [] I13 J13 D13 bc bs))) ∧ (¬ (50 < (I 20 4)) → ((l2 < 100 → (zz RO (d + 1) 30 [.ref 23, .int (I 20 5)] (zu I 20 4 (I 20 4)) J D 0 0 (zNv P fun I14 J14 D14 => (zz RO (d + 1) 40 [.ref 23] I14 J14 D14 0 0 (zNv P fun I15 J15 D15 => zw RO (d + 1) 41 P 4 [(0, .ref 23), (1, .int (I15 20 7)), (2, .int (l2 + 1))] [] I15 J15 D15 bc bs))))) ∧ (¬ (l2 < 100) → (zz RO (d + 1) 36 [.ref 23, .int 2, .int (-1)] I J D 0 0 (zNv P fun I16 J16 D16 => zw RO (d + 1) 41 P 4 [(0, .ref 23), (1, .int l1), (2, .int (l2 + 1))] [] I16 J16 D16 bc bs))))))))))))))))) : zw RO (d + 1) 41 P 4 [(0, .ref 23), (1, .int l1), (2, .int l2)] [] I J D bc bs := by
  refine zr_iload_n zSm 4 rfl rfl ?_
  refine zr_bipush zSm 5 100 rfl rfl ?_
  refine zr_ic zSm 6 145 rfl rfl (fun q1 => ?_) (fun q1 => ?_)
  · have h := h.1 q1
    refine zr_vret zSm 69 rfl rfl ?_
    exact h
  · have h := h.2 q1
    refine zr_iload_n zSm 7 rfl rfl ?_
    refine zr_if zSm 8 145 rfl rfl (fun q2 => ?_) (fun q2 => ?_)
    · have h := h.1 q2
      refine zr_vret zSm 69 rfl rfl ?_
      exact h
    · have h := h.2 q2
      refine zr_aload_n zSm 9 rfl rfl ?_
      refine zr_getI zSm 10 rfl zf_2_27 rfl rfl (by decide) ?_
      refine zr_if zSm 11 145 rfl rfl (fun q3 => ?_) (fun q3 => ?_)
      · have h := h.1 q3
        refine zr_vret zSm 69 rfl rfl ?_
        exact h
      · have h := h.2 q3
        refine zr_aload_n zSm 12 rfl rfl ?_
        refine zr_getR zSm 13 rfl zf_2_15 rfl rfl (by decide) ?_
        refine zr_getZ zSm 14 rfl zf_2_94 rfl rfl (by decide) ?_
        refine zr_if zSm 15 41 rfl rfl (fun q4 => ?_) (fun q4 => ?_)
        · have h := h.1 q4
          refine zr_aload_n zSm 20 rfl rfl ?_
          refine zr_getR zSm 21 rfl zf_2_15 rfl rfl (by decide) ?_
          refine zr_aload_n zSm 22 rfl rfl ?_
          refine zr_getR zSm 23 rfl zf_2_15 rfl rfl (by decide) ?_
          refine zr_getI zSm 24 rfl zf_2_88 rfl rfl (by decide) ?_
          refine zr_inv0 25 83 1 [.int (I 20 5)] rfl rfl zk_2_137 zms_83 rfl ⟨_, _, _, _, rfl, rfl⟩ (Nat.le_of_ble_eq_true rfl) ?_
          refine ze_83 ?_
          refine zNx_i ?_
          refine zr_istore_n zSm 26 (ll' := [(3, .int (zv_83 I J (I 20 5))), (0, .ref 23), (1, .int l1), (2, .int l2)]) rfl (by decide) rfl ?_
          refine zr_iload_n zSm 27 rfl rfl ?_
          refine zr_if zSm 28 82 rfl rfl (fun q5 => ?_) (fun q5 => ?_)
          · have h := h.1 q5
            refine zr_aload_n zSm 39 rfl rfl ?_
            refine zr_getR zSm 40 rfl zf_2_15 rfl rfl (by decide) ?_
            refine zr_getI zSm 41 rfl zf_2_58 rfl rfl (by decide) ?_
            refine zr_istore zSm 42 (ll' := [(4, .int (I 20 4)), (3, .int (zv_83 I J (I 20 5))), (0, .ref 23), (1, .int l1), (2, .int l2)]) rfl (by decide) rfl ?_
            refine zr_iload zSm 43 rfl rfl ?_
            refine zr_bipush zSm 44 50 rfl rfl ?_
            refine zr_ic zSm 45 104 rfl rfl (fun q6 => ?_) (fun q6 => ?_)
            · have h := h.1 q6
              refine zr_aload_n zSm 49 rfl rfl ?_
              refine zr_s zSm 50 rfl rfl ?_
              refine zr_s zSm 51 rfl rfl ?_
              refine zr_inv0 52 36 2 [.int 2, .int (-1)] rfl rfl zk_2_131 zms_36 rfl ⟨_, _, _, _, rfl, rfl⟩ (Nat.le_of_ble_eq_true rfl) ?_
              refine zcv h (fun I1 J1 D1 h => ?_)
              refine zr_goto zSm 53 139 rfl rfl ?_
              refine zr_iinc zSm 67 (v := l2 + 1) (ll' := [(2, .int (l2 + 1)), (4, .int (I 20 4)), (3, .int (zv_83 I J (I 20 5))), (0, .ref 23), (1, .int l1)]) rfl rfl (by decide) rfl rfl ?_
              refine zr_goto zSm 68 4 rfl rfl ?_
              refine zr_sub [3, 4, 0] rfl ?_
              exact h
            · have h := h.2 q6
              refine zr_iload_n zSm 46 rfl rfl ?_
              refine zr_bipush zSm 47 100 rfl rfl ?_
              refine zr_ic zSm 48 113 rfl rfl (fun q7 => ?_) (fun q7 => ?_)
              · have h := h.1 q7
                refine zr_aload_n zSm 54 rfl rfl ?_
                refine zr_getR zSm 55 rfl zf_2_15 rfl rfl (by decide) ?_
                refine zr_iload zSm 56 rfl rfl ?_
                refine zr_putI zSm 57 rfl zf_2_58 rfl rfl (by decide) zp_6_4 ?_
                refine zr_aload_n zSm 58 rfl rfl ?_
                refine zr_iload_n zSm 59 rfl rfl ?_
                refine zr_inv0 60 30 1 [.int (zv_83 I J (I 20 5))] rfl rfl zk_2_64 zms_30 rfl ⟨_, _, _, _, rfl, rfl⟩ (Nat.le_of_ble_eq_true rfl) ?_
                refine zcv h (fun I2 J2 D2 h => ?_)
                refine zr_aload_n zSm 61 rfl rfl ?_
                refine zr_inv0 62 40 0 [] rfl rfl zk_2_68 zms_40 rfl ⟨_, _, _, _, rfl, rfl⟩ (Nat.le_of_ble_eq_true rfl) ?_
                refine zcv h (fun I3 J3 D3 h => ?_)
                refine zr_aload_n zSm 63 rfl rfl ?_
                refine zr_getR zSm 64 rfl zf_2_15 rfl rfl (by decide) ?_
                refine zr_getZ zSm 65 rfl zf_2_71 rfl rfl (by decide) ?_
                refine zr_istore_n zSm 66 (ll' := [(1, .int (I3 20 7)), (4, .int (I 20 4)), (3, .int (zv_83 I J (I 20 5))), (0, .ref 23), (2, .int l2)]) rfl (by decide) rfl ?_
                refine zr_iinc zSm 67 (v := l2 + 1) (ll' := [(2, .int (l2 + 1)), (1, .int (I3 20 7)), (4, .int (I 20 4)), (3, .int (zv_83 I J (I 20 5))), (0, .ref 23)]) rfl rfl (by decide) rfl rfl ?_
                refine zr_goto zSm 68 4 rfl rfl ?_
                refine zr_sub [4, 1, 0] rfl ?_
                exact h
              · have h := h.2 q7
                refine zr_aload_n zSm 49 rfl rfl ?_
                refine zr_s zSm 50 rfl rfl ?_
                refine zr_s zSm 51 rfl rfl ?_
                refine zr_inv0 52 36 2 [.int 2, .int (-1)] rfl rfl zk_2_131 zms_36 rfl ⟨_, _, _, _, rfl, rfl⟩ (Nat.le_of_ble_eq_true rfl) ?_
                refine zcv h (fun I4 J4 D4 h => ?_)
                refine zr_goto zSm 53 139 rfl rfl ?_
                refine zr_iinc zSm 67 (v := l2 + 1) (ll' := [(2, .int (l2 + 1)), (4, .int (I 20 4)), (3, .int (zv_83 I J (I 20 5))), (0, .ref 23), (1, .int l1)]) rfl rfl (by decide) rfl rfl ?_
                refine zr_goto zSm 68 4 rfl rfl ?_
                refine zr_sub [3, 4, 0] rfl ?_
                exact h
          · have h := h.2 q5
            refine zr_aload_n zSm 29 rfl rfl ?_
            refine zr_getR zSm 30 rfl zf_2_15 rfl rfl (by decide) ?_
            refine zr_getZ zSm 31 rfl zf_2_94 rfl rfl (by decide) ?_
            refine zr_if zSm 32 82 rfl rfl (fun q8 => ?_) (fun q8 => ?_)
            · first | exact absurd q8 q4 | exact absurd q4 q8 | exact absurd (Int32.not_lt.mp q8) q4 | exact absurd (Int32.not_lt.mp q4) q8 | exact absurd (Int32.not_le.mp q8) q4 | exact absurd (Int32.not_le.mp q4) q8 | exact absurd q8 (Int32.not_lt.mpr q4) | exact absurd q4 (Int32.not_lt.mpr q8) | exact absurd q8 (Int32.not_le.mpr q4) | exact absurd q4 (Int32.not_le.mpr q8)
            · refine zr_aload_n zSm 33 rfl rfl ?_
              refine zr_getR zSm 34 rfl zf_2_15 rfl rfl (by decide) ?_
              refine zr_getI zSm 35 rfl zf_2_58 rfl rfl (by decide) ?_
              refine zr_s zSm 36 rfl rfl ?_
              refine zr_s zSm 37 rfl rfl ?_
              refine zr_goto zSm 38 89 rfl rfl ?_
              refine zr_istore zSm 42 (ll' := [(4, .int ((I 20 4) + 1)), (3, .int (zv_83 I J (I 20 5))), (0, .ref 23), (1, .int l1), (2, .int l2)]) rfl (by decide) rfl ?_
              refine zr_iload zSm 43 rfl rfl ?_
              refine zr_bipush zSm 44 50 rfl rfl ?_
              refine zr_ic zSm 45 104 rfl rfl (fun q9 => ?_) (fun q9 => ?_)
              · have h := h.1 q9
                refine zr_aload_n zSm 49 rfl rfl ?_
                refine zr_s zSm 50 rfl rfl ?_
                refine zr_s zSm 51 rfl rfl ?_
                refine zr_inv0 52 36 2 [.int 2, .int (-1)] rfl rfl zk_2_131 zms_36 rfl ⟨_, _, _, _, rfl, rfl⟩ (Nat.le_of_ble_eq_true rfl) ?_
                refine zcv h (fun I5 J5 D5 h => ?_)
                refine zr_goto zSm 53 139 rfl rfl ?_
                refine zr_iinc zSm 67 (v := l2 + 1) (ll' := [(2, .int (l2 + 1)), (4, .int ((I 20 4) + 1)), (3, .int (zv_83 I J (I 20 5))), (0, .ref 23), (1, .int l1)]) rfl rfl (by decide) rfl rfl ?_
                refine zr_goto zSm 68 4 rfl rfl ?_
                refine zr_sub [3, 4, 0] rfl ?_
                exact h
              · have h := h.2 q9
                refine zr_iload_n zSm 46 rfl rfl ?_
                refine zr_bipush zSm 47 100 rfl rfl ?_
                refine zr_ic zSm 48 113 rfl rfl (fun q10 => ?_) (fun q10 => ?_)
                · have h := h.1 q10
                  refine zr_aload_n zSm 54 rfl rfl ?_
                  refine zr_getR zSm 55 rfl zf_2_15 rfl rfl (by decide) ?_
                  refine zr_iload zSm 56 rfl rfl ?_
                  refine zr_putI zSm 57 rfl zf_2_58 rfl rfl (by decide) zp_6_4 ?_
                  refine zr_aload_n zSm 58 rfl rfl ?_
                  refine zr_iload_n zSm 59 rfl rfl ?_
                  refine zr_inv0 60 30 1 [.int (zv_83 I J (I 20 5))] rfl rfl zk_2_64 zms_30 rfl ⟨_, _, _, _, rfl, rfl⟩ (Nat.le_of_ble_eq_true rfl) ?_
                  refine zcv h (fun I6 J6 D6 h => ?_)
                  refine zr_aload_n zSm 61 rfl rfl ?_
                  refine zr_inv0 62 40 0 [] rfl rfl zk_2_68 zms_40 rfl ⟨_, _, _, _, rfl, rfl⟩ (Nat.le_of_ble_eq_true rfl) ?_
                  refine zcv h (fun I7 J7 D7 h => ?_)
                  refine zr_aload_n zSm 63 rfl rfl ?_
                  refine zr_getR zSm 64 rfl zf_2_15 rfl rfl (by decide) ?_
                  refine zr_getZ zSm 65 rfl zf_2_71 rfl rfl (by decide) ?_
                  refine zr_istore_n zSm 66 (ll' := [(1, .int (I7 20 7)), (4, .int ((I 20 4) + 1)), (3, .int (zv_83 I J (I 20 5))), (0, .ref 23), (2, .int l2)]) rfl (by decide) rfl ?_
                  refine zr_iinc zSm 67 (v := l2 + 1) (ll' := [(2, .int (l2 + 1)), (1, .int (I7 20 7)), (4, .int ((I 20 4) + 1)), (3, .int (zv_83 I J (I 20 5))), (0, .ref 23)]) rfl rfl (by decide) rfl rfl ?_
                  refine zr_goto zSm 68 4 rfl rfl ?_
                  refine zr_sub [4, 1, 0] rfl ?_
                  exact h
                · have h := h.2 q10
                  refine zr_aload_n zSm 49 rfl rfl ?_
                  refine zr_s zSm 50 rfl rfl ?_
                  refine zr_s zSm 51 rfl rfl ?_
                  refine zr_inv0 52 36 2 [.int 2, .int (-1)] rfl rfl zk_2_131 zms_36 rfl ⟨_, _, _, _, rfl, rfl⟩ (Nat.le_of_ble_eq_true rfl) ?_
                  refine zcv h (fun I8 J8 D8 h => ?_)
                  refine zr_goto zSm 53 139 rfl rfl ?_
                  refine zr_iinc zSm 67 (v := l2 + 1) (ll' := [(2, .int (l2 + 1)), (4, .int ((I 20 4) + 1)), (3, .int (zv_83 I J (I 20 5))), (0, .ref 23), (1, .int l1)]) rfl rfl (by decide) rfl rfl ?_
                  refine zr_goto zSm 68 4 rfl rfl ?_
                  refine zr_sub [3, 4, 0] rfl ?_
                  exact h
        · have h := h.2 q4
          refine zr_aload_n zSm 16 rfl rfl ?_
          refine zr_getR zSm 17 rfl zf_2_15 rfl rfl (by decide) ?_
          refine zr_getI zSm 18 rfl zf_2_88 rfl rfl (by decide) ?_
          refine zr_goto zSm 19 55 rfl rfl ?_
          refine zr_istore_n zSm 26 (ll' := [(3, .int (I 20 5)), (0, .ref 23), (1, .int l1), (2, .int l2)]) rfl (by decide) rfl ?_
          refine zr_iload_n zSm 27 rfl rfl ?_
          refine zr_if zSm 28 82 rfl rfl (fun q11 => ?_) (fun q11 => ?_)
          · have h := h.1 q11
            refine zr_aload_n zSm 39 rfl rfl ?_
            refine zr_getR zSm 40 rfl zf_2_15 rfl rfl (by decide) ?_
            refine zr_getI zSm 41 rfl zf_2_58 rfl rfl (by decide) ?_
            refine zr_istore zSm 42 (ll' := [(4, .int (I 20 4)), (3, .int (I 20 5)), (0, .ref 23), (1, .int l1), (2, .int l2)]) rfl (by decide) rfl ?_
            refine zr_iload zSm 43 rfl rfl ?_
            refine zr_bipush zSm 44 50 rfl rfl ?_
            refine zr_ic zSm 45 104 rfl rfl (fun q12 => ?_) (fun q12 => ?_)
            · have h := h.1 q12
              refine zr_aload_n zSm 49 rfl rfl ?_
              refine zr_s zSm 50 rfl rfl ?_
              refine zr_s zSm 51 rfl rfl ?_
              refine zr_inv0 52 36 2 [.int 2, .int (-1)] rfl rfl zk_2_131 zms_36 rfl ⟨_, _, _, _, rfl, rfl⟩ (Nat.le_of_ble_eq_true rfl) ?_
              refine zcv h (fun I9 J9 D9 h => ?_)
              refine zr_goto zSm 53 139 rfl rfl ?_
              refine zr_iinc zSm 67 (v := l2 + 1) (ll' := [(2, .int (l2 + 1)), (4, .int (I 20 4)), (3, .int (I 20 5)), (0, .ref 23), (1, .int l1)]) rfl rfl (by decide) rfl rfl ?_
              refine zr_goto zSm 68 4 rfl rfl ?_
              refine zr_sub [3, 4, 0] rfl ?_
              exact h
            · have h := h.2 q12
              refine zr_iload_n zSm 46 rfl rfl ?_
              refine zr_bipush zSm 47 100 rfl rfl ?_
              refine zr_ic zSm 48 113 rfl rfl (fun q13 => ?_) (fun q13 => ?_)
              · have h := h.1 q13
                refine zr_aload_n zSm 54 rfl rfl ?_
                refine zr_getR zSm 55 rfl zf_2_15 rfl rfl (by decide) ?_
                refine zr_iload zSm 56 rfl rfl ?_
                refine zr_putI zSm 57 rfl zf_2_58 rfl rfl (by decide) zp_6_4 ?_
                refine zr_aload_n zSm 58 rfl rfl ?_
                refine zr_iload_n zSm 59 rfl rfl ?_
                refine zr_inv0 60 30 1 [.int (I 20 5)] rfl rfl zk_2_64 zms_30 rfl ⟨_, _, _, _, rfl, rfl⟩ (Nat.le_of_ble_eq_true rfl) ?_
                refine zcv h (fun I10 J10 D10 h => ?_)
                refine zr_aload_n zSm 61 rfl rfl ?_
                refine zr_inv0 62 40 0 [] rfl rfl zk_2_68 zms_40 rfl ⟨_, _, _, _, rfl, rfl⟩ (Nat.le_of_ble_eq_true rfl) ?_
                refine zcv h (fun I11 J11 D11 h => ?_)
                refine zr_aload_n zSm 63 rfl rfl ?_
                refine zr_getR zSm 64 rfl zf_2_15 rfl rfl (by decide) ?_
                refine zr_getZ zSm 65 rfl zf_2_71 rfl rfl (by decide) ?_
                refine zr_istore_n zSm 66 (ll' := [(1, .int (I11 20 7)), (4, .int (I 20 4)), (3, .int (I 20 5)), (0, .ref 23), (2, .int l2)]) rfl (by decide) rfl ?_
                refine zr_iinc zSm 67 (v := l2 + 1) (ll' := [(2, .int (l2 + 1)), (1, .int (I11 20 7)), (4, .int (I 20 4)), (3, .int (I 20 5)), (0, .ref 23)]) rfl rfl (by decide) rfl rfl ?_
                refine zr_goto zSm 68 4 rfl rfl ?_
                refine zr_sub [4, 1, 0] rfl ?_
                exact h
              · have h := h.2 q13
                refine zr_aload_n zSm 49 rfl rfl ?_
                refine zr_s zSm 50 rfl rfl ?_
                refine zr_s zSm 51 rfl rfl ?_
                refine zr_inv0 52 36 2 [.int 2, .int (-1)] rfl rfl zk_2_131 zms_36 rfl ⟨_, _, _, _, rfl, rfl⟩ (Nat.le_of_ble_eq_true rfl) ?_
                refine zcv h (fun I12 J12 D12 h => ?_)
                refine zr_goto zSm 53 139 rfl rfl ?_
                refine zr_iinc zSm 67 (v := l2 + 1) (ll' := [(2, .int (l2 + 1)), (4, .int (I 20 4)), (3, .int (I 20 5)), (0, .ref 23), (1, .int l1)]) rfl rfl (by decide) rfl rfl ?_
                refine zr_goto zSm 68 4 rfl rfl ?_
                refine zr_sub [3, 4, 0] rfl ?_
                exact h
          · have h := h.2 q11
            refine zr_aload_n zSm 29 rfl rfl ?_
            refine zr_getR zSm 30 rfl zf_2_15 rfl rfl (by decide) ?_
            refine zr_getZ zSm 31 rfl zf_2_94 rfl rfl (by decide) ?_
            refine zr_if zSm 32 82 rfl rfl (fun q14 => ?_) (fun q14 => ?_)
            · refine zr_aload_n zSm 39 rfl rfl ?_
              refine zr_getR zSm 40 rfl zf_2_15 rfl rfl (by decide) ?_
              refine zr_getI zSm 41 rfl zf_2_58 rfl rfl (by decide) ?_
              refine zr_istore zSm 42 (ll' := [(4, .int (I 20 4)), (3, .int (I 20 5)), (0, .ref 23), (1, .int l1), (2, .int l2)]) rfl (by decide) rfl ?_
              refine zr_iload zSm 43 rfl rfl ?_
              refine zr_bipush zSm 44 50 rfl rfl ?_
              refine zr_ic zSm 45 104 rfl rfl (fun q15 => ?_) (fun q15 => ?_)
              · have h := h.1 q15
                refine zr_aload_n zSm 49 rfl rfl ?_
                refine zr_s zSm 50 rfl rfl ?_
                refine zr_s zSm 51 rfl rfl ?_
                refine zr_inv0 52 36 2 [.int 2, .int (-1)] rfl rfl zk_2_131 zms_36 rfl ⟨_, _, _, _, rfl, rfl⟩ (Nat.le_of_ble_eq_true rfl) ?_
                refine zcv h (fun I13 J13 D13 h => ?_)
                refine zr_goto zSm 53 139 rfl rfl ?_
                refine zr_iinc zSm 67 (v := l2 + 1) (ll' := [(2, .int (l2 + 1)), (4, .int (I 20 4)), (3, .int (I 20 5)), (0, .ref 23), (1, .int l1)]) rfl rfl (by decide) rfl rfl ?_
                refine zr_goto zSm 68 4 rfl rfl ?_
                refine zr_sub [3, 4, 0] rfl ?_
                exact h
              · have h := h.2 q15
                refine zr_iload_n zSm 46 rfl rfl ?_
                refine zr_bipush zSm 47 100 rfl rfl ?_
                refine zr_ic zSm 48 113 rfl rfl (fun q16 => ?_) (fun q16 => ?_)
                · have h := h.1 q16
                  refine zr_aload_n zSm 54 rfl rfl ?_
                  refine zr_getR zSm 55 rfl zf_2_15 rfl rfl (by decide) ?_
                  refine zr_iload zSm 56 rfl rfl ?_
                  refine zr_putI zSm 57 rfl zf_2_58 rfl rfl (by decide) zp_6_4 ?_
                  refine zr_aload_n zSm 58 rfl rfl ?_
                  refine zr_iload_n zSm 59 rfl rfl ?_
                  refine zr_inv0 60 30 1 [.int (I 20 5)] rfl rfl zk_2_64 zms_30 rfl ⟨_, _, _, _, rfl, rfl⟩ (Nat.le_of_ble_eq_true rfl) ?_
                  refine zcv h (fun I14 J14 D14 h => ?_)
                  refine zr_aload_n zSm 61 rfl rfl ?_
                  refine zr_inv0 62 40 0 [] rfl rfl zk_2_68 zms_40 rfl ⟨_, _, _, _, rfl, rfl⟩ (Nat.le_of_ble_eq_true rfl) ?_
                  refine zcv h (fun I15 J15 D15 h => ?_)
                  refine zr_aload_n zSm 63 rfl rfl ?_
                  refine zr_getR zSm 64 rfl zf_2_15 rfl rfl (by decide) ?_
                  refine zr_getZ zSm 65 rfl zf_2_71 rfl rfl (by decide) ?_
                  refine zr_istore_n zSm 66 (ll' := [(1, .int (I15 20 7)), (4, .int (I 20 4)), (3, .int (I 20 5)), (0, .ref 23), (2, .int l2)]) rfl (by decide) rfl ?_
                  refine zr_iinc zSm 67 (v := l2 + 1) (ll' := [(2, .int (l2 + 1)), (1, .int (I15 20 7)), (4, .int (I 20 4)), (3, .int (I 20 5)), (0, .ref 23)]) rfl rfl (by decide) rfl rfl ?_
                  refine zr_goto zSm 68 4 rfl rfl ?_
                  refine zr_sub [4, 1, 0] rfl ?_
                  exact h
                · have h := h.2 q16
                  refine zr_aload_n zSm 49 rfl rfl ?_
                  refine zr_s zSm 50 rfl rfl ?_
                  refine zr_s zSm 51 rfl rfl ?_
                  refine zr_inv0 52 36 2 [.int 2, .int (-1)] rfl rfl zk_2_131 zms_36 rfl ⟨_, _, _, _, rfl, rfl⟩ (Nat.le_of_ble_eq_true rfl) ?_
                  refine zcv h (fun I16 J16 D16 h => ?_)
                  refine zr_goto zSm 53 139 rfl rfl ?_
                  refine zr_iinc zSm 67 (v := l2 + 1) (ll' := [(2, .int (l2 + 1)), (4, .int (I 20 4)), (3, .int (I 20 5)), (0, .ref 23), (1, .int l1)]) rfl rfl (by decide) rfl rfl ?_
                  refine zr_goto zSm 68 4 rfl rfl ?_
                  refine zr_sub [3, 4, 0] rfl ?_
                  exact h
            · first | exact absurd q14 q4 | exact absurd q4 q14 | exact absurd (Int32.not_lt.mp q14) q4 | exact absurd (Int32.not_lt.mp q4) q14 | exact absurd (Int32.not_le.mp q14) q4 | exact absurd (Int32.not_le.mp q4) q14 | exact absurd q14 (Int32.not_lt.mpr q4) | exact absurd q4 (Int32.not_lt.mpr q14) | exact absurd q14 (Int32.not_le.mpr q4) | exact absurd q4 (Int32.not_le.mpr q14)
theorem w_85 {RO : zRo} {d : Nat} {P : zP} {I : zI} {J : zJ} {D : zD} {bc bs : Nat} {p0 p1 : Int32} (h : ((p0 < 0 → P (.inl none) I J D) ∧ (¬ (p0 < 0) → ((30 ≤ p0 → P (.inl none) I J D) ∧ (¬ (30 ≤ p0) → P (.inl none) (zu I 21 p0.toNatClampNeg p1) J D))))) : zz RO (d + 1) 85 [.ref 20, .int p0, .int p1] I J D bc bs P := by
  refine zT_of (Nat.le_of_ble_eq_true rfl) rfl ?_
  show zw RO d 85 P 0 [(0, .ref 20), (1, .int p0), (2, .int p1)] [] I J D bc bs
  refine zr_iload_n zSm 0 rfl rfl ?_
  refine zr_if zSm 1 20 rfl rfl (fun q1 => ?_) (fun q1 => ?_)
  · have h := h.1 q1
    refine zr_vret zSm 12 rfl rfl ?_
    exact h
  · have h := h.2 q1
    refine zr_iload_n zSm 2 rfl rfl ?_
    refine zr_aload_n zSm 3 rfl rfl ?_
    refine zr_getR zSm 4 rfl zf_6_11 rfl rfl (by decide) ?_
    refine zr_alen zSm 5 30 rfl rfl rfl ?_
    refine zr_ic zSm 6 20 rfl rfl (fun q2 => ?_) (fun q2 => ?_)
    · have h := h.1 q2
      refine zr_vret zSm 12 rfl rfl ?_
      exact h
    · have h := h.2 q2
      refine zr_aload_n zSm 7 rfl rfl ?_
      refine zr_getR zSm 8 rfl zf_6_11 rfl rfl (by decide) ?_
      refine zr_iload_n zSm 9 rfl rfl ?_
      refine zr_iload_n zSm 10 rfl rfl ?_
      refine zr_iast zSm 11 rfl rfl (zin (zlo1 q1) (zhi1 q2) (by decide)) ?_
      refine zr_vret zSm 12 rfl rfl ?_
      exact h
theorem w_87 {RO : zRo} {d : Nat} {P : zP} {I : zI} {J : zJ} {D : zD} {bc bs : Nat} {p0 p1 p2 p3 : Int32} (h : ((((I 20 3) * 4) < 0 → P (.inl none) I J D) ∧ (¬ (((I 20 3) * 4) < 0) → ((40 ≤ (((I 20 3) * 4) + 3) → P (.inl none) I J D) ∧ (¬ (40 ≤ (((I 20 3) * 4) + 3)) → (vp_in ((I 20 3) * 4) 40 ∧ (vp_in (((I 20 3) * 4) + 1) 40 ∧ (vp_in (((I 20 3) * 4) + 2) 40 ∧ (vp_in (((I 20 3) * 4) + 3) 40 ∧ P (.inl none) (zu (zu (zu (zu (zu I 22 (((I 20 3) * 4).toNatClampNeg) p0) 22 ((((I 20 3) * 4) + 1).toNatClampNeg) p1) 22 ((((I 20 3) * 4) + 2).toNatClampNeg) p2) 22 ((((I 20 3) * 4) + 3).toNatClampNeg) p3) 20 3 ((I 20 3) + 1)) J D))))))))) : zz RO (d + 1) 87 [.ref 20, .int p0, .int p1, .int p2, .int p3] I J D bc bs P := by
  refine zT_of (Nat.le_of_ble_eq_true rfl) rfl ?_
  show zw RO d 87 P 0 [(0, .ref 20), (1, .int p0), (2, .int p1), (3, .int p2), (4, .int p3)] [] I J D bc bs
  refine zr_aload_n zSm 0 rfl rfl ?_
  refine zr_getI zSm 1 rfl zf_6_22 rfl rfl (by decide) ?_
  refine zr_s zSm 2 rfl rfl ?_
  refine zr_s zSm 3 rfl rfl ?_
  refine zr_istore zSm 4 (ll' := [(5, .int ((I 20 3) * 4)), (0, .ref 20), (1, .int p0), (2, .int p1), (3, .int p2), (4, .int p3)]) rfl (by decide) rfl ?_
  refine zr_iload zSm 5 rfl rfl ?_
  refine zr_if zSm 6 74 rfl rfl (fun q1 => ?_) (fun q1 => ?_)
  · have h := h.1 q1
    refine zr_vret zSm 46 rfl rfl ?_
    exact h
  · have h := h.2 q1
    refine zr_iload zSm 7 rfl rfl ?_
    refine zr_s zSm 8 rfl rfl ?_
    refine zr_s zSm 9 rfl rfl ?_
    refine zr_aload_n zSm 10 rfl rfl ?_
    refine zr_getR zSm 11 rfl zf_6_15 rfl rfl (by decide) ?_
    refine zr_alen zSm 12 40 rfl rfl rfl ?_
    refine zr_ic zSm 13 74 rfl rfl (fun q2 => ?_) (fun q2 => ?_)
    · have h := h.1 q2
      refine zr_vret zSm 46 rfl rfl ?_
      exact h
    · have h := h.2 q2
      refine zr_aload_n zSm 14 rfl rfl ?_
      refine zr_getR zSm 15 rfl zf_6_15 rfl rfl (by decide) ?_
      refine zr_iload zSm 16 rfl rfl ?_
      refine zr_iload_n zSm 17 rfl rfl ?_
      obtain ⟨b18, h⟩ := h
      refine zr_iast zSm 18 rfl rfl b18 ?_
      refine zr_aload_n zSm 19 rfl rfl ?_
      refine zr_getR zSm 20 rfl zf_6_15 rfl rfl (by decide) ?_
      refine zr_iload zSm 21 rfl rfl ?_
      refine zr_s zSm 22 rfl rfl ?_
      refine zr_s zSm 23 rfl rfl ?_
      refine zr_iload_n zSm 24 rfl rfl ?_
      obtain ⟨b25, h⟩ := h
      refine zr_iast zSm 25 rfl rfl b25 ?_
      refine zr_aload_n zSm 26 rfl rfl ?_
      refine zr_getR zSm 27 rfl zf_6_15 rfl rfl (by decide) ?_
      refine zr_iload zSm 28 rfl rfl ?_
      refine zr_s zSm 29 rfl rfl ?_
      refine zr_s zSm 30 rfl rfl ?_
      refine zr_iload_n zSm 31 rfl rfl ?_
      obtain ⟨b32, h⟩ := h
      refine zr_iast zSm 32 rfl rfl b32 ?_
      refine zr_aload_n zSm 33 rfl rfl ?_
      refine zr_getR zSm 34 rfl zf_6_15 rfl rfl (by decide) ?_
      refine zr_iload zSm 35 rfl rfl ?_
      refine zr_s zSm 36 rfl rfl ?_
      refine zr_s zSm 37 rfl rfl ?_
      refine zr_iload zSm 38 rfl rfl ?_
      obtain ⟨b39, h⟩ := h
      refine zr_iast zSm 39 rfl rfl b39 ?_
      refine zr_aload_n zSm 40 rfl rfl ?_
      refine zr_s zSm 41 rfl rfl ?_
      refine zr_getI zSm 42 rfl zf_6_22 rfl rfl (by decide) ?_
      refine zr_s zSm 43 rfl rfl ?_
      refine zr_s zSm 44 rfl rfl ?_
      refine zr_putI zSm 45 rfl zf_6_22 rfl rfl (by decide) zp_6_3 ?_
      refine zr_vret zSm 46 rfl rfl ?_
      exact h

/-! ===== written by wip/whole/lay15.py: walks, a formula each ===== -/
theorem w_7 {RO : zRo} {d : Nat} {P : zP} {I : zI} {J : zJ} {D : zD} {bc bs : Nat}  (h : zw RO (d + 1) 7 P 30 [(0, .ref 11), (1, .int 0)] [] (zu (zu (zu I 11 2 0) 11 3 (zv_93 (zu I 11 2 0) J 0)) 8 2 0) J D bc bs) : zz RO (d + 2) 7 [.ref 11] I J D bc bs P := by
  refine zT_of (Nat.le_of_ble_eq_true rfl) rfl ?_
  show zw RO (d + 1) 7 P 0 [(0, .ref 11)] [] I J D bc bs
  refine zr_aload_n zSm 0 rfl rfl ?_
  refine zr_s zSm 1 rfl rfl ?_
  refine zr_putI zSm 2 rfl zf_1_19 rfl rfl (by decide) zp_1_2 ?_
  refine zr_aload_n zSm 3 rfl rfl ?_
  refine zr_aload_n zSm 4 rfl rfl ?_
  refine zr_getR zSm 5 rfl zf_1_9 rfl rfl (by decide) ?_
  refine zr_aload_n zSm 6 rfl rfl ?_
  refine zr_getI zSm 7 rfl zf_1_19 rfl rfl (by decide) ?_
  refine zr_inv0 8 93 1 [.int 0] rfl rfl zk_1_23 zms_93 rfl ⟨_, _, _, _, rfl, rfl⟩ (Nat.le_of_ble_eq_true rfl) ?_
  refine ze_93 ?_
  refine zNx_i ?_
  refine zr_putI zSm 9 rfl zf_1_29 rfl rfl (by decide) zp_1_3 ?_
  refine zr_aload_n zSm 10 rfl rfl ?_
  refine zr_getR zSm 11 rfl zf_1_15 rfl rfl (by decide) ?_
  refine zr_s zSm 12 rfl rfl ?_
  refine zr_putI zSm 13 rfl zf_1_32 rfl rfl (by decide) zp_0_2 ?_
  refine zr_s zSm 14 rfl rfl ?_
  refine zr_istore_n zSm 15 (ll' := [(1, .int 0), (0, .ref 11)]) rfl (by decide) rfl ?_
  refine zr_sub [1, 0] rfl ?_
  exact h
theorem wl_7_30 {RO : zRo} {d : Nat} {P : zP} {I : zI} {J : zJ} {D : zD} {bc bs : Nat} {l1 : Int32} (h : ((450 ≤ l1 → P (.inl (some (.int (I 11 2)))) I J D) ∧ (¬ (450 ≤ l1) → (((I 11 3) = 0 → P (.inl (some (.int (I 11 2)))) I J D) ∧ (¬ ((I 11 3) = 0) → (zz RO (d + 1) 10 [.ref 11, .int (I 11 3)] I J D 0 0 (zNv P fun I1 J1 D1 => ((¬ (I1 11 3) = 1 → zw RO (d + 1) 7 P 30 [(0, .ref 11), (1, .int (l1 + 1))] [] I1 J1 D1 bc bs) ∧ (¬ (¬ (I1 11 3) = 1) → P (.inl (some (.int (-1)))) I1 J1 D1))))))))) : zw RO (d + 1) 7 P 30 [(0, .ref 11), (1, .int l1)] [] I J D bc bs := by
  refine zr_iload_n zSm 16 rfl rfl ?_
  refine zr_sipush zSm 17 450 rfl rfl ?_
  refine zr_ic zSm 18 68 rfl rfl (fun q1 => ?_) (fun q1 => ?_)
  · have h := h.1 q1
    refine zr_aload_n zSm 34 rfl rfl ?_
    refine zr_getI zSm 35 rfl zf_1_19 rfl rfl (by decide) ?_
    refine zr_iret zSm 36 rfl rfl rfl ?_
    exact h
  · have h := h.2 q1
    refine zr_aload_n zSm 19 rfl rfl ?_
    refine zr_getI zSm 20 rfl zf_1_29 rfl rfl (by decide) ?_
    refine zr_if zSm 21 68 rfl rfl (fun q2 => ?_) (fun q2 => ?_)
    · have h := h.1 q2
      refine zr_aload_n zSm 34 rfl rfl ?_
      refine zr_getI zSm 35 rfl zf_1_19 rfl rfl (by decide) ?_
      refine zr_iret zSm 36 rfl rfl rfl ?_
      exact h
    · have h := h.2 q2
      refine zr_aload_n zSm 22 rfl rfl ?_
      refine zr_aload_n zSm 23 rfl rfl ?_
      refine zr_getI zSm 24 rfl zf_1_29 rfl rfl (by decide) ?_
      refine zr_inv0 25 10 1 [.int (I 11 3)] rfl rfl zk_1_37 zms_10 rfl ⟨_, _, _, _, rfl, rfl⟩ (Nat.le_of_ble_eq_true rfl) ?_
      refine zcv h (fun I1 J1 D1 h => ?_)
      refine zr_aload_n zSm 26 rfl rfl ?_
      refine zr_getI zSm 27 rfl zf_1_29 rfl rfl (by decide) ?_
      refine zr_s zSm 28 rfl rfl ?_
      refine zr_ic zSm 29 62 rfl rfl (fun q3 => ?_) (fun q3 => ?_)
      · have h := h.1 q3
        refine zr_iinc zSm 32 (v := l1 + 1) (ll' := [(1, .int (l1 + 1)), (0, .ref 11)]) rfl rfl (by decide) rfl rfl ?_
        refine zr_goto zSm 33 30 rfl rfl ?_
        refine zr_sub [1, 0] rfl ?_
        exact h
      · have h := h.2 q3
        refine zr_s zSm 30 rfl rfl ?_
        refine zr_iret zSm 31 rfl rfl rfl ?_
        exact h
theorem w_8 {RO : zRo} {d : Nat} {P : zP} {I : zI} {J : zJ} {D : zD} {bc bs : Nat} {p0 : Int32} (h : ((¬ (I 11 3) = p0 → (zz RO (d + 1) 9 [.ref 11] I J D 0 0 (zNv P fun I1 J1 D1 => P (.inl none) I1 J1 D1))) ∧ (¬ (¬ (I 11 3) = p0) → P (.inl none) (zu (zu I 11 2 ((I 11 2) + 1)) 11 3 (zv_93 (zu I 11 2 ((I 11 2) + 1)) J ((I 11 2) + 1))) J D))) : zz RO (d + 2) 8 [.ref 11, .int p0] I J D bc bs P := by
  refine zT_of (Nat.le_of_ble_eq_true rfl) rfl ?_
  show zw RO (d + 1) 8 P 0 [(0, .ref 11), (1, .int p0)] [] I J D bc bs
  refine zr_aload_n zSm 0 rfl rfl ?_
  refine zr_getI zSm 1 rfl zf_1_29 rfl rfl (by decide) ?_
  refine zr_iload_n zSm 2 rfl rfl ?_
  refine zr_ic zSm 3 36 rfl rfl (fun q1 => ?_) (fun q1 => ?_)
  · have h := h.1 q1
    refine zr_aload_n zSm 18 rfl rfl ?_
    refine zr_inv0 19 9 0 [] rfl rfl zk_1_41 zms_9 rfl ⟨_, _, _, _, rfl, rfl⟩ (Nat.le_of_ble_eq_true rfl) ?_
    refine zcv h (fun I1 J1 D1 h => ?_)
    refine zr_vret zSm 20 rfl rfl ?_
    exact h
  · have h := h.2 q1
    refine zr_aload_n zSm 4 rfl rfl ?_
    refine zr_s zSm 5 rfl rfl ?_
    refine zr_getI zSm 6 rfl zf_1_19 rfl rfl (by decide) ?_
    refine zr_s zSm 7 rfl rfl ?_
    refine zr_s zSm 8 rfl rfl ?_
    refine zr_putI zSm 9 rfl zf_1_19 rfl rfl (by decide) zp_1_2 ?_
    refine zr_aload_n zSm 10 rfl rfl ?_
    refine zr_aload_n zSm 11 rfl rfl ?_
    refine zr_getR zSm 12 rfl zf_1_9 rfl rfl (by decide) ?_
    refine zr_aload_n zSm 13 rfl rfl ?_
    refine zr_getI zSm 14 rfl zf_1_19 rfl rfl (by decide) ?_
    refine zr_inv0 15 93 1 [.int ((I 11 2) + 1)] rfl rfl zk_1_23 zms_93 rfl ⟨_, _, _, _, rfl, rfl⟩ (Nat.le_of_ble_eq_true rfl) ?_
    refine ze_93 ?_
    refine zNx_i ?_
    refine zr_putI zSm 16 rfl zf_1_29 rfl rfl (by decide) zp_1_3 ?_
    refine zr_goto zSm 17 40 rfl rfl ?_
    refine zr_vret zSm 20 rfl rfl ?_
    exact h
theorem w_9 {RO : zRo} {d : Nat} {P : zP} {I : zI} {J : zJ} {D : zD} {bc bs : Nat}  (h : P (.inl none) (zu I 11 3 0) J D) : zz RO (d + 1) 9 [.ref 11] I J D bc bs P := by
  refine zT_of (Nat.le_of_ble_eq_true rfl) rfl ?_
  show zw RO d 9 P 0 [(0, .ref 11)] [] I J D bc bs
  refine zr_aload_n zSm 0 rfl rfl ?_
  refine zr_s zSm 1 rfl rfl ?_
  refine zr_putI zSm 2 rfl zf_1_29 rfl rfl (by decide) zp_1_3 ?_
  refine zr_vret zSm 3 rfl rfl ?_
  exact h
theorem w_10 {RO : zRo} {d : Nat} {P : zP} {I : zI} {J : zJ} {D : zD} {bc bs : Nat} {p0 : Int32} (h : ((p0 < 4 → (zz RO d 9 [.ref 11] I J D 0 0 (zNv P fun I1 J1 D1 => P (.inl none) I1 J1 D1))) ∧ (¬ (p0 < 4) → ((p0 ≤ 10 → ((¬ p0 = 10 → (zz RO d 8 [.ref 11, .int p0] I J D 0 0 (zNv P fun I2 J2 D2 => (zz RO d 8 [.ref 11, .int 2] I2 J2 D2 0 0 (zNv P fun I3 J3 D3 => ((p0 = 4 → (zz RO d 13 [.ref 11] I3 J3 D3 0 0 (zNv P fun I4 J4 D4 => P (.inl none) I4 J4 D4))) ∧ (¬ (p0 = 4) → ((¬ p0 = 5 → ((¬ p0 = 6 → ((¬ p0 = 9 → ((¬ (I3 11 3) = 13 → (zz RO d 12 [.ref 11, .int 14] I3 J3 D3 0 0 (zNv P fun I5 J5 D5 => (zz RO d 16 [.ref 11, .int 0] I5 J5 D5 0 0 (zNv P fun I6 J6 D6 => (zz RO d 1 [.ref 8, .int 54, .int 0] I6 J6 D6 0 0 (zNi P fun v7 I7 J7 D7 => (zz RO d 8 [.ref 11, .int 15] I7 J7 D7 0 0 (zNv P fun I8 J8 D8 => P (.inl none) I8 J8 D8))))))))) ∧ (¬ (¬ (I3 11 3) = 13) → (zz RO d 11 [.ref 11, .int 13] I3 J3 D3 0 0 (zNv P fun I9 J9 D9 => (zz RO d 12 [.ref 11, .int 14] I9 J9 D9 0 0 (zNv P fun I10 J10 D10 => (zz RO d 16 [.ref 11, .int 0] I10 J10 D10 0 0 (zNv P fun I11 J11 D11 => (zz RO d 1 [.ref 8, .int 54, .int 0] I11 J11 D11 0 0 (zNi P fun v12 I12 J12 D12 => (zz RO d 8 [.ref 11, .int 15] I12 J12 D12 0 0 (zNv P fun I13 J13 D13 => P (.inl none) I13 J13 D13))))))))))))) ∧ (¬ (¬ p0 = 9) → (zz RO d 8 [.ref 11, .int 12] I3 J3 D3 0 0 (zNv P fun I14 J14 D14 => (zz RO d 8 [.ref 11, .int 2] I14 J14 D14 0 0 (zNv P fun I15 J15 D15 => ((¬ (I15 11 3) = 13 → (zz RO d 12 [.ref 11, .int 14] I15 J15 D15 0 0 (zNv P fun I16 J16 D16 => (zz RO d 16 [.ref 11, .int 0] I16 J16 D16 0 0 (zNv P fun I17 J17 D17 => (zz RO d 1 [.ref 8, .int 54, .int 0] I17 J17 D17 0 0 (zNi P fun v18 I18 J18 D18 => (zz RO d 8 [.ref 11, .int 15] I18 J18 D18 0 0 (zNv P fun I19 J19 D19 => P (.inl none) I19 J19 D19))))))))) ∧ (¬ (¬ (I15 11 3) = 13) → (zz RO d 11 [.ref 11, .int 13] I15 J15 D15 0 0 (zNv P fun I20 J20 D20 => (zz RO d 12 [.ref 11, .int 14] I20 J20 D20 0 0 (zNv P fun I21 J21 D21 => (zz RO d 16 [.ref 11, .int 0] I21 J21 D21 0 0 (zNv P fun I22 J22 D22 => (zz RO d 1 [.ref 8, .int 54, .int 0] I22 J22 D22 0 0 (zNi P fun v23 I23 J23 D23 => (zz RO d 8 [.ref 11, .int 15] I23 J23 D23 0 0 (zNv P fun I24 J24 D24 => P (.inl none) I24 J24 D24))))))))))))))))))) ∧ (¬ (¬ p0 = 6) → (zz RO d 15 [.ref 11] I3 J3 D3 0 0 (zNv P fun I25 J25 D25 => P (.inl none) I25 J25 D25))))) ∧ (¬ (¬ p0 = 5) → (zz RO d 13 [.ref 11] I3 J3 D3 0 0 (zNv P fun I26 J26 D26 => P (.inl none) I26 J26 D26))))))))))) ∧ (¬ (¬ p0 = 10) → (zz RO d 11 [.ref 11, .int 10] I J D 0 0 (zNv P fun I27 J27 D27 => (zz RO d 8 [.ref 11, .int 39] I27 J27 D27 0 0 (zNv P fun I28 J28 D28 => P (.inl none) I28 J28 D28))))))) ∧ (¬ (p0 ≤ 10) → (zz RO d 9 [.ref 11] I J D 0 0 (zNv P fun I29 J29 D29 => P (.inl none) I29 J29 D29))))))) : zz RO (d + 1) 10 [.ref 11, .int p0] I J D bc bs P := by
  refine zT_of (Nat.le_of_ble_eq_true rfl) rfl ?_
  show zw RO d 10 P 0 [(0, .ref 11), (1, .int p0)] [] I J D bc bs
  refine zr_iload_n zSm 0 rfl rfl ?_
  refine zr_s zSm 1 rfl rfl ?_
  refine zr_ic zSm 2 11 rfl rfl (fun q1 => ?_) (fun q1 => ?_)
  · have h := h.1 q1
    refine zr_aload_n zSm 6 rfl rfl ?_
    refine zr_inv0 7 9 0 [] rfl rfl zk_1_41 zms_9 rfl ⟨_, _, _, _, rfl, rfl⟩ (Nat.le_of_ble_eq_true rfl) ?_
    refine zcv h (fun I1 J1 D1 h => ?_)
    refine zr_vret zSm 8 rfl rfl ?_
    exact h
  · have h := h.2 q1
    refine zr_iload_n zSm 3 rfl rfl ?_
    refine zr_bipush zSm 4 10 rfl rfl ?_
    refine zr_ic zSm 5 16 rfl rfl (fun q2 => ?_) (fun q2 => ?_)
    · have h := h.1 q2
      refine zr_iload_n zSm 9 rfl rfl ?_
      refine zr_bipush zSm 10 10 rfl rfl ?_
      refine zr_ic zSm 11 35 rfl rfl (fun q3 => ?_) (fun q3 => ?_)
      · have h := h.1 q3
        refine zr_aload_n zSm 19 rfl rfl ?_
        refine zr_iload_n zSm 20 rfl rfl ?_
        refine zr_inv0 21 8 1 [.int p0] rfl rfl zk_1_47 zms_8 rfl ⟨_, _, _, _, rfl, rfl⟩ (Nat.le_of_ble_eq_true rfl) ?_
        refine zcv h (fun I2 J2 D2 h => ?_)
        refine zr_aload_n zSm 22 rfl rfl ?_
        refine zr_s zSm 23 rfl rfl ?_
        refine zr_inv0 24 8 1 [.int 2] rfl rfl zk_1_47 zms_8 rfl ⟨_, _, _, _, rfl, rfl⟩ (Nat.le_of_ble_eq_true rfl) ?_
        refine zcv h (fun I3 J3 D3 h => ?_)
        refine zr_iload_n zSm 25 rfl rfl ?_
        refine zr_s zSm 26 rfl rfl ?_
        refine zr_ic zSm 27 55 rfl rfl (fun q4 => ?_) (fun q4 => ?_)
        · have h := h.1 q4
          refine zr_aload_n zSm 31 rfl rfl ?_
          refine zr_inv0 32 13 0 [] rfl rfl zk_1_50 zms_13 rfl ⟨_, _, _, _, rfl, rfl⟩ (Nat.le_of_ble_eq_true rfl) ?_
          refine zcv h (fun I4 J4 D4 h => ?_)
          refine zr_vret zSm 33 rfl rfl ?_
          exact h
        · have h := h.2 q4
          refine zr_iload_n zSm 28 rfl rfl ?_
          refine zr_s zSm 29 rfl rfl ?_
          refine zr_ic zSm 30 60 rfl rfl (fun q5 => ?_) (fun q5 => ?_)
          · have h := h.1 q5
            refine zr_iload_n zSm 34 rfl rfl ?_
            refine zr_bipush zSm 35 6 rfl rfl ?_
            refine zr_ic zSm 36 71 rfl rfl (fun q6 => ?_) (fun q6 => ?_)
            · have h := h.1 q6
              refine zr_iload_n zSm 40 rfl rfl ?_
              refine zr_bipush zSm 41 9 rfl rfl ?_
              refine zr_ic zSm 42 88 rfl rfl (fun q7 => ?_) (fun q7 => ?_)
              · have h := h.1 q7
                refine zr_aload_n zSm 49 rfl rfl ?_
                refine zr_getI zSm 50 rfl zf_1_29 rfl rfl (by decide) ?_
                refine zr_bipush zSm 51 13 rfl rfl ?_
                refine zr_ic zSm 52 103 rfl rfl (fun q8 => ?_) (fun q8 => ?_)
                · have h := h.1 q8
                  refine zr_aload_n zSm 56 rfl rfl ?_
                  refine zr_bipush zSm 57 14 rfl rfl ?_
                  refine zr_inv0 58 12 1 [.int 14] rfl rfl zk_1_56 zms_12 rfl ⟨_, _, _, _, rfl, rfl⟩ (Nat.le_of_ble_eq_true rfl) ?_
                  refine zcv h (fun I5 J5 D5 h => ?_)
                  refine zr_aload_n zSm 59 rfl rfl ?_
                  refine zr_s zSm 60 rfl rfl ?_
                  refine zr_inv0 61 16 1 [.int 0] rfl rfl zk_1_59 zms_16 rfl ⟨_, _, _, _, rfl, rfl⟩ (Nat.le_of_ble_eq_true rfl) ?_
                  refine zcv h (fun I6 J6 D6 h => ?_)
                  refine zr_aload_n zSm 62 rfl rfl ?_
                  refine zr_getR zSm 63 rfl zf_1_15 rfl rfl (by decide) ?_
                  refine zr_bipush zSm 64 54 rfl rfl ?_
                  refine zr_s zSm 65 rfl rfl ?_
                  refine zr_inv0 66 1 2 [.int 54, .int 0] rfl rfl zk_1_62 zms_1 rfl ⟨_, _, _, _, rfl, rfl⟩ (Nat.le_of_ble_eq_true rfl) ?_
                  refine zci h (fun v7 I7 J7 D7 h => ?_)
                  refine zr_s zSm 67 rfl rfl ?_
                  refine zr_aload_n zSm 68 rfl rfl ?_
                  refine zr_bipush zSm 69 15 rfl rfl ?_
                  refine zr_inv0 70 8 1 [.int 15] rfl rfl zk_1_47 zms_8 rfl ⟨_, _, _, _, rfl, rfl⟩ (Nat.le_of_ble_eq_true rfl) ?_
                  refine zcv h (fun I8 J8 D8 h => ?_)
                  refine zr_vret zSm 71 rfl rfl ?_
                  exact h
                · have h := h.2 q8
                  refine zr_aload_n zSm 53 rfl rfl ?_
                  refine zr_bipush zSm 54 13 rfl rfl ?_
                  refine zr_inv0 55 11 1 [.int 13] rfl rfl zk_1_44 zms_11 rfl ⟨_, _, _, _, rfl, rfl⟩ (Nat.le_of_ble_eq_true rfl) ?_
                  refine zcv h (fun I9 J9 D9 h => ?_)
                  refine zr_aload_n zSm 56 rfl rfl ?_
                  refine zr_bipush zSm 57 14 rfl rfl ?_
                  refine zr_inv0 58 12 1 [.int 14] rfl rfl zk_1_56 zms_12 rfl ⟨_, _, _, _, rfl, rfl⟩ (Nat.le_of_ble_eq_true rfl) ?_
                  refine zcv h (fun I10 J10 D10 h => ?_)
                  refine zr_aload_n zSm 59 rfl rfl ?_
                  refine zr_s zSm 60 rfl rfl ?_
                  refine zr_inv0 61 16 1 [.int 0] rfl rfl zk_1_59 zms_16 rfl ⟨_, _, _, _, rfl, rfl⟩ (Nat.le_of_ble_eq_true rfl) ?_
                  refine zcv h (fun I11 J11 D11 h => ?_)
                  refine zr_aload_n zSm 62 rfl rfl ?_
                  refine zr_getR zSm 63 rfl zf_1_15 rfl rfl (by decide) ?_
                  refine zr_bipush zSm 64 54 rfl rfl ?_
                  refine zr_s zSm 65 rfl rfl ?_
                  refine zr_inv0 66 1 2 [.int 54, .int 0] rfl rfl zk_1_62 zms_1 rfl ⟨_, _, _, _, rfl, rfl⟩ (Nat.le_of_ble_eq_true rfl) ?_
                  refine zci h (fun v12 I12 J12 D12 h => ?_)
                  refine zr_s zSm 67 rfl rfl ?_
                  refine zr_aload_n zSm 68 rfl rfl ?_
                  refine zr_bipush zSm 69 15 rfl rfl ?_
                  refine zr_inv0 70 8 1 [.int 15] rfl rfl zk_1_47 zms_8 rfl ⟨_, _, _, _, rfl, rfl⟩ (Nat.le_of_ble_eq_true rfl) ?_
                  refine zcv h (fun I13 J13 D13 h => ?_)
                  refine zr_vret zSm 71 rfl rfl ?_
                  exact h
              · have h := h.2 q7
                refine zr_aload_n zSm 43 rfl rfl ?_
                refine zr_bipush zSm 44 12 rfl rfl ?_
                refine zr_inv0 45 8 1 [.int 12] rfl rfl zk_1_47 zms_8 rfl ⟨_, _, _, _, rfl, rfl⟩ (Nat.le_of_ble_eq_true rfl) ?_
                refine zcv h (fun I14 J14 D14 h => ?_)
                refine zr_aload_n zSm 46 rfl rfl ?_
                refine zr_s zSm 47 rfl rfl ?_
                refine zr_inv0 48 8 1 [.int 2] rfl rfl zk_1_47 zms_8 rfl ⟨_, _, _, _, rfl, rfl⟩ (Nat.le_of_ble_eq_true rfl) ?_
                refine zcv h (fun I15 J15 D15 h => ?_)
                refine zr_aload_n zSm 49 rfl rfl ?_
                refine zr_getI zSm 50 rfl zf_1_29 rfl rfl (by decide) ?_
                refine zr_bipush zSm 51 13 rfl rfl ?_
                refine zr_ic zSm 52 103 rfl rfl (fun q9 => ?_) (fun q9 => ?_)
                · have h := h.1 q9
                  refine zr_aload_n zSm 56 rfl rfl ?_
                  refine zr_bipush zSm 57 14 rfl rfl ?_
                  refine zr_inv0 58 12 1 [.int 14] rfl rfl zk_1_56 zms_12 rfl ⟨_, _, _, _, rfl, rfl⟩ (Nat.le_of_ble_eq_true rfl) ?_
                  refine zcv h (fun I16 J16 D16 h => ?_)
                  refine zr_aload_n zSm 59 rfl rfl ?_
                  refine zr_s zSm 60 rfl rfl ?_
                  refine zr_inv0 61 16 1 [.int 0] rfl rfl zk_1_59 zms_16 rfl ⟨_, _, _, _, rfl, rfl⟩ (Nat.le_of_ble_eq_true rfl) ?_
                  refine zcv h (fun I17 J17 D17 h => ?_)
                  refine zr_aload_n zSm 62 rfl rfl ?_
                  refine zr_getR zSm 63 rfl zf_1_15 rfl rfl (by decide) ?_
                  refine zr_bipush zSm 64 54 rfl rfl ?_
                  refine zr_s zSm 65 rfl rfl ?_
                  refine zr_inv0 66 1 2 [.int 54, .int 0] rfl rfl zk_1_62 zms_1 rfl ⟨_, _, _, _, rfl, rfl⟩ (Nat.le_of_ble_eq_true rfl) ?_
                  refine zci h (fun v18 I18 J18 D18 h => ?_)
                  refine zr_s zSm 67 rfl rfl ?_
                  refine zr_aload_n zSm 68 rfl rfl ?_
                  refine zr_bipush zSm 69 15 rfl rfl ?_
                  refine zr_inv0 70 8 1 [.int 15] rfl rfl zk_1_47 zms_8 rfl ⟨_, _, _, _, rfl, rfl⟩ (Nat.le_of_ble_eq_true rfl) ?_
                  refine zcv h (fun I19 J19 D19 h => ?_)
                  refine zr_vret zSm 71 rfl rfl ?_
                  exact h
                · have h := h.2 q9
                  refine zr_aload_n zSm 53 rfl rfl ?_
                  refine zr_bipush zSm 54 13 rfl rfl ?_
                  refine zr_inv0 55 11 1 [.int 13] rfl rfl zk_1_44 zms_11 rfl ⟨_, _, _, _, rfl, rfl⟩ (Nat.le_of_ble_eq_true rfl) ?_
                  refine zcv h (fun I20 J20 D20 h => ?_)
                  refine zr_aload_n zSm 56 rfl rfl ?_
                  refine zr_bipush zSm 57 14 rfl rfl ?_
                  refine zr_inv0 58 12 1 [.int 14] rfl rfl zk_1_56 zms_12 rfl ⟨_, _, _, _, rfl, rfl⟩ (Nat.le_of_ble_eq_true rfl) ?_
                  refine zcv h (fun I21 J21 D21 h => ?_)
                  refine zr_aload_n zSm 59 rfl rfl ?_
                  refine zr_s zSm 60 rfl rfl ?_
                  refine zr_inv0 61 16 1 [.int 0] rfl rfl zk_1_59 zms_16 rfl ⟨_, _, _, _, rfl, rfl⟩ (Nat.le_of_ble_eq_true rfl) ?_
                  refine zcv h (fun I22 J22 D22 h => ?_)
                  refine zr_aload_n zSm 62 rfl rfl ?_
                  refine zr_getR zSm 63 rfl zf_1_15 rfl rfl (by decide) ?_
                  refine zr_bipush zSm 64 54 rfl rfl ?_
                  refine zr_s zSm 65 rfl rfl ?_
                  refine zr_inv0 66 1 2 [.int 54, .int 0] rfl rfl zk_1_62 zms_1 rfl ⟨_, _, _, _, rfl, rfl⟩ (Nat.le_of_ble_eq_true rfl) ?_
                  refine zci h (fun v23 I23 J23 D23 h => ?_)
                  refine zr_s zSm 67 rfl rfl ?_
                  refine zr_aload_n zSm 68 rfl rfl ?_
                  refine zr_bipush zSm 69 15 rfl rfl ?_
                  refine zr_inv0 70 8 1 [.int 15] rfl rfl zk_1_47 zms_8 rfl ⟨_, _, _, _, rfl, rfl⟩ (Nat.le_of_ble_eq_true rfl) ?_
                  refine zcv h (fun I24 J24 D24 h => ?_)
                  refine zr_vret zSm 71 rfl rfl ?_
                  exact h
            · have h := h.2 q6
              refine zr_aload_n zSm 37 rfl rfl ?_
              refine zr_inv0 38 15 0 [] rfl rfl zk_1_53 zms_15 rfl ⟨_, _, _, _, rfl, rfl⟩ (Nat.le_of_ble_eq_true rfl) ?_
              refine zcv h (fun I25 J25 D25 h => ?_)
              refine zr_vret zSm 39 rfl rfl ?_
              exact h
          · have h := h.2 q5
            refine zr_aload_n zSm 31 rfl rfl ?_
            refine zr_inv0 32 13 0 [] rfl rfl zk_1_50 zms_13 rfl ⟨_, _, _, _, rfl, rfl⟩ (Nat.le_of_ble_eq_true rfl) ?_
            refine zcv h (fun I26 J26 D26 h => ?_)
            refine zr_vret zSm 33 rfl rfl ?_
            exact h
      · have h := h.2 q3
        refine zr_aload_n zSm 12 rfl rfl ?_
        refine zr_bipush zSm 13 10 rfl rfl ?_
        refine zr_inv0 14 11 1 [.int 10] rfl rfl zk_1_44 zms_11 rfl ⟨_, _, _, _, rfl, rfl⟩ (Nat.le_of_ble_eq_true rfl) ?_
        refine zcv h (fun I27 J27 D27 h => ?_)
        refine zr_aload_n zSm 15 rfl rfl ?_
        refine zr_bipush zSm 16 39 rfl rfl ?_
        refine zr_inv0 17 8 1 [.int 39] rfl rfl zk_1_47 zms_8 rfl ⟨_, _, _, _, rfl, rfl⟩ (Nat.le_of_ble_eq_true rfl) ?_
        refine zcv h (fun I28 J28 D28 h => ?_)
        refine zr_vret zSm 18 rfl rfl ?_
        exact h
    · have h := h.2 q2
      refine zr_aload_n zSm 6 rfl rfl ?_
      refine zr_inv0 7 9 0 [] rfl rfl zk_1_41 zms_9 rfl ⟨_, _, _, _, rfl, rfl⟩ (Nat.le_of_ble_eq_true rfl) ?_
      refine zcv h (fun I29 J29 D29 h => ?_)
      refine zr_vret zSm 8 rfl rfl ?_
      exact h
theorem w_11 {RO : zRo} {d : Nat} {P : zP} {I : zI} {J : zJ} {D : zD} {bc bs : Nat} {p0 : Int32} (h : (zz RO d 12 [.ref 11, .int p0] I J D 0 0 (zNv P fun I1 J1 D1 => (zz RO d 22 [.ref 11, .int 0, .int 0] I1 J1 D1 0 0 (zNv P fun I2 J2 D2 => (zz RO d 1 [.ref 8, .int 54, .int 0] I2 J2 D2 0 0 (zNi P fun v3 I3 J3 D3 => P (.inl none) I3 J3 D3))))))) : zz RO (d + 1) 11 [.ref 11, .int p0] I J D bc bs P := by
  refine zT_of (Nat.le_of_ble_eq_true rfl) rfl ?_
  show zw RO d 11 P 0 [(0, .ref 11), (1, .int p0)] [] I J D bc bs
  refine zr_aload_n zSm 0 rfl rfl ?_
  refine zr_iload_n zSm 1 rfl rfl ?_
  refine zr_inv0 2 12 1 [.int p0] rfl rfl zk_1_56 zms_12 rfl ⟨_, _, _, _, rfl, rfl⟩ (Nat.le_of_ble_eq_true rfl) ?_
  refine zcv h (fun I1 J1 D1 h => ?_)
  refine zr_aload_n zSm 3 rfl rfl ?_
  refine zr_s zSm 4 rfl rfl ?_
  refine zr_s zSm 5 rfl rfl ?_
  refine zr_inv0 6 22 2 [.int 0, .int 0] rfl rfl zk_1_66 zms_22 rfl ⟨_, _, _, _, rfl, rfl⟩ (Nat.le_of_ble_eq_true rfl) ?_
  refine zcv h (fun I2 J2 D2 h => ?_)
  refine zr_aload_n zSm 7 rfl rfl ?_
  refine zr_getR zSm 8 rfl zf_1_15 rfl rfl (by decide) ?_
  refine zr_bipush zSm 9 54 rfl rfl ?_
  refine zr_s zSm 10 rfl rfl ?_
  refine zr_inv0 11 1 2 [.int 54, .int 0] rfl rfl zk_1_62 zms_1 rfl ⟨_, _, _, _, rfl, rfl⟩ (Nat.le_of_ble_eq_true rfl) ?_
  refine zci h (fun v3 I3 J3 D3 h => ?_)
  refine zr_s zSm 12 rfl rfl ?_
  refine zr_vret zSm 13 rfl rfl ?_
  exact h
theorem w_12 {RO : zRo} {d : Nat} {P : zP} {I : zI} {J : zJ} {D : zD} {bc bs : Nat} {p0 : Int32} (h : ((¬ (I 11 3) = p0 → (zz RO d 8 [.ref 11, .int p0] I J D 0 0 (zNv P fun I1 J1 D1 => P (.inl none) I1 J1 D1))) ∧ (¬ (¬ (I 11 3) = p0) → (zz RO d 96 [.ref 3, .int (I 11 2), .long ((I 8 2).toInt64)] I J D 0 0 (zNv P fun I2 J2 D2 => (zz RO d 8 [.ref 11, .int p0] I2 J2 D2 0 0 (zNv P fun I3 J3 D3 => P (.inl none) I3 J3 D3))))))) : zz RO (d + 1) 12 [.ref 11, .int p0] I J D bc bs P := by
  refine zT_of (Nat.le_of_ble_eq_true rfl) rfl ?_
  show zw RO d 12 P 0 [(0, .ref 11), (1, .int p0)] [] I J D bc bs
  refine zr_aload_n zSm 0 rfl rfl ?_
  refine zr_getI zSm 1 rfl zf_1_29 rfl rfl (by decide) ?_
  refine zr_iload_n zSm 2 rfl rfl ?_
  refine zr_ic zSm 3 27 rfl rfl (fun q1 => ?_) (fun q1 => ?_)
  · have h := h.1 q1
    refine zr_aload_n zSm 13 rfl rfl ?_
    refine zr_iload_n zSm 14 rfl rfl ?_
    refine zr_inv0 15 8 1 [.int p0] rfl rfl zk_1_47 zms_8 rfl ⟨_, _, _, _, rfl, rfl⟩ (Nat.le_of_ble_eq_true rfl) ?_
    refine zcv h (fun I1 J1 D1 h => ?_)
    refine zr_vret zSm 16 rfl rfl ?_
    exact h
  · have h := h.2 q1
    refine zr_aload_n zSm 4 rfl rfl ?_
    refine zr_getR zSm 5 rfl zf_1_9 rfl rfl (by decide) ?_
    refine zr_aload_n zSm 6 rfl rfl ?_
    refine zr_getI zSm 7 rfl zf_1_19 rfl rfl (by decide) ?_
    refine zr_aload_n zSm 8 rfl rfl ?_
    refine zr_getR zSm 9 rfl zf_1_15 rfl rfl (by decide) ?_
    refine zr_getI zSm 10 rfl zf_1_32 rfl rfl (by decide) ?_
    refine zr_s zSm 11 rfl rfl ?_
    refine zr_inv0 12 96 2 [.int (I 11 2), .long ((I 8 2).toInt64)] rfl rfl zk_1_70 zms_96 rfl ⟨_, _, _, _, rfl, rfl⟩ (Nat.le_of_ble_eq_true rfl) ?_
    refine zcv h (fun I2 J2 D2 h => ?_)
    refine zr_aload_n zSm 13 rfl rfl ?_
    refine zr_iload_n zSm 14 rfl rfl ?_
    refine zr_inv0 15 8 1 [.int p0] rfl rfl zk_1_47 zms_8 rfl ⟨_, _, _, _, rfl, rfl⟩ (Nat.le_of_ble_eq_true rfl) ?_
    refine zcv h (fun I3 J3 D3 h => ?_)
    refine zr_vret zSm 16 rfl rfl ?_
    exact h
theorem w_13 {RO : zRo} {d : Nat} {P : zP} {I : zI} {J : zJ} {D : zD} {bc bs : Nat}  (h : (zz RO d 14 [.ref 11] I J D 0 0 (zNv P fun I1 J1 D1 => (zz RO d 8 [.ref 11, .int 11] I1 J1 D1 0 0 (zNv P fun I2 J2 D2 => (zz RO d 14 [.ref 11] I2 J2 D2 0 0 (zNv P fun I3 J3 D3 => (zz RO d 8 [.ref 11, .int 12] I3 J3 D3 0 0 (zNv P fun I4 J4 D4 => (zz RO d 14 [.ref 11] I4 J4 D4 0 0 (zNv P fun I5 J5 D5 => (zz RO d 8 [.ref 11, .int 39] I5 J5 D5 0 0 (zNv P fun I6 J6 D6 => P (.inl none) I6 J6 D6))))))))))))) : zz RO (d + 1) 13 [.ref 11] I J D bc bs P := by
  refine zT_of (Nat.le_of_ble_eq_true rfl) rfl ?_
  show zw RO d 13 P 0 [(0, .ref 11)] [] I J D bc bs
  refine zr_aload_n zSm 0 rfl rfl ?_
  refine zr_inv0 1 14 0 [] rfl rfl zk_1_74 zms_14 rfl ⟨_, _, _, _, rfl, rfl⟩ (Nat.le_of_ble_eq_true rfl) ?_
  refine zcv h (fun I1 J1 D1 h => ?_)
  refine zr_aload_n zSm 2 rfl rfl ?_
  refine zr_bipush zSm 3 11 rfl rfl ?_
  refine zr_inv0 4 8 1 [.int 11] rfl rfl zk_1_47 zms_8 rfl ⟨_, _, _, _, rfl, rfl⟩ (Nat.le_of_ble_eq_true rfl) ?_
  refine zcv h (fun I2 J2 D2 h => ?_)
  refine zr_aload_n zSm 5 rfl rfl ?_
  refine zr_inv0 6 14 0 [] rfl rfl zk_1_74 zms_14 rfl ⟨_, _, _, _, rfl, rfl⟩ (Nat.le_of_ble_eq_true rfl) ?_
  refine zcv h (fun I3 J3 D3 h => ?_)
  refine zr_aload_n zSm 7 rfl rfl ?_
  refine zr_bipush zSm 8 12 rfl rfl ?_
  refine zr_inv0 9 8 1 [.int 12] rfl rfl zk_1_47 zms_8 rfl ⟨_, _, _, _, rfl, rfl⟩ (Nat.le_of_ble_eq_true rfl) ?_
  refine zcv h (fun I4 J4 D4 h => ?_)
  refine zr_aload_n zSm 10 rfl rfl ?_
  refine zr_inv0 11 14 0 [] rfl rfl zk_1_74 zms_14 rfl ⟨_, _, _, _, rfl, rfl⟩ (Nat.le_of_ble_eq_true rfl) ?_
  refine zcv h (fun I5 J5 D5 h => ?_)
  refine zr_aload_n zSm 12 rfl rfl ?_
  refine zr_bipush zSm 13 39 rfl rfl ?_
  refine zr_inv0 14 8 1 [.int 39] rfl rfl zk_1_47 zms_8 rfl ⟨_, _, _, _, rfl, rfl⟩ (Nat.le_of_ble_eq_true rfl) ?_
  refine zcv h (fun I6 J6 D6 h => ?_)
  refine zr_vret zSm 15 rfl rfl ?_
  exact h
theorem w_14 {RO : zRo} {d : Nat} {P : zP} {I : zI} {J : zJ} {D : zD} {bc bs : Nat}  (h : ((¬ (I 11 3) = 43 → (zz RO d 8 [.ref 11, .int 3] I J D 0 0 (zNv P fun I1 J1 D1 => P (.inl none) I1 J1 D1))) ∧ (¬ (¬ (I 11 3) = 43) → (zz RO d 8 [.ref 11, .int 43] I J D 0 0 (zNv P fun I2 J2 D2 => (zz RO d 8 [.ref 11, .int 3] I2 J2 D2 0 0 (zNv P fun I3 J3 D3 => P (.inl none) I3 J3 D3))))))) : zz RO (d + 1) 14 [.ref 11] I J D bc bs P := by
  refine zT_of (Nat.le_of_ble_eq_true rfl) rfl ?_
  show zw RO d 14 P 0 [(0, .ref 11)] [] I J D bc bs
  refine zr_aload_n zSm 0 rfl rfl ?_
  refine zr_getI zSm 1 rfl zf_1_29 rfl rfl (by decide) ?_
  refine zr_bipush zSm 2 43 rfl rfl ?_
  refine zr_ic zSm 3 15 rfl rfl (fun q1 => ?_) (fun q1 => ?_)
  · have h := h.1 q1
    refine zr_aload_n zSm 7 rfl rfl ?_
    refine zr_s zSm 8 rfl rfl ?_
    refine zr_inv0 9 8 1 [.int 3] rfl rfl zk_1_47 zms_8 rfl ⟨_, _, _, _, rfl, rfl⟩ (Nat.le_of_ble_eq_true rfl) ?_
    refine zcv h (fun I1 J1 D1 h => ?_)
    refine zr_vret zSm 10 rfl rfl ?_
    exact h
  · have h := h.2 q1
    refine zr_aload_n zSm 4 rfl rfl ?_
    refine zr_bipush zSm 5 43 rfl rfl ?_
    refine zr_inv0 6 8 1 [.int 43] rfl rfl zk_1_47 zms_8 rfl ⟨_, _, _, _, rfl, rfl⟩ (Nat.le_of_ble_eq_true rfl) ?_
    refine zcv h (fun I2 J2 D2 h => ?_)
    refine zr_aload_n zSm 7 rfl rfl ?_
    refine zr_s zSm 8 rfl rfl ?_
    refine zr_inv0 9 8 1 [.int 3] rfl rfl zk_1_47 zms_8 rfl ⟨_, _, _, _, rfl, rfl⟩ (Nat.le_of_ble_eq_true rfl) ?_
    refine zcv h (fun I3 J3 D3 h => ?_)
    refine zr_vret zSm 10 rfl rfl ?_
    exact h
theorem w_15 {RO : zRo} {d : Nat} {P : zP} {I : zI} {J : zJ} {D : zD} {bc bs : Nat}  (h : (zz RO d 8 [.ref 11, .int 40] I J D 0 0 (zNv P fun I1 J1 D1 => (zz RO d 8 [.ref 11, .int 2] I1 J1 D1 0 0 (zNv P fun I2 J2 D2 => zw RO d 15 P 13 [(0, .ref 11), (1, .int 0)] [] I2 J2 D2 bc bs))))) : zz RO (d + 1) 15 [.ref 11] I J D bc bs P := by
  refine zT_of (Nat.le_of_ble_eq_true rfl) rfl ?_
  show zw RO d 15 P 0 [(0, .ref 11)] [] I J D bc bs
  refine zr_aload_n zSm 0 rfl rfl ?_
  refine zr_bipush zSm 1 40 rfl rfl ?_
  refine zr_inv0 2 8 1 [.int 40] rfl rfl zk_1_47 zms_8 rfl ⟨_, _, _, _, rfl, rfl⟩ (Nat.le_of_ble_eq_true rfl) ?_
  refine zcv h (fun I1 J1 D1 h => ?_)
  refine zr_aload_n zSm 3 rfl rfl ?_
  refine zr_s zSm 4 rfl rfl ?_
  refine zr_inv0 5 8 1 [.int 2] rfl rfl zk_1_47 zms_8 rfl ⟨_, _, _, _, rfl, rfl⟩ (Nat.le_of_ble_eq_true rfl) ?_
  refine zcv h (fun I2 J2 D2 h => ?_)
  refine zr_s zSm 6 rfl rfl ?_
  refine zr_istore_n zSm 7 (ll' := [(1, .int 0), (0, .ref 11)]) rfl (by decide) rfl ?_
  refine zr_sub [1, 0] rfl ?_
  exact h
theorem wl_15_13 {RO : zRo} {d : Nat} {P : zP} {I : zI} {J : zJ} {D : zD} {bc bs : Nat} {l1 : Int32} (h : ((450 ≤ l1 → (zz RO d 8 [.ref 11, .int 39] I J D 0 0 (zNv P fun I1 J1 D1 => P (.inl none) I1 J1 D1))) ∧ (¬ (450 ≤ l1) → ((¬ (I 11 3) = 38 → (zz RO d 8 [.ref 11, .int 39] I J D 0 0 (zNv P fun I2 J2 D2 => P (.inl none) I2 J2 D2))) ∧ (¬ (¬ (I 11 3) = 38) → (zz RO d 8 [.ref 11, .int 38] I J D 0 0 (zNv P fun I3 J3 D3 => (zz RO d 8 [.ref 11, .int 2] I3 J3 D3 0 0 (zNv P fun I4 J4 D4 => zw RO d 15 P 13 [(0, .ref 11), (1, .int (l1 + 1))] [] I4 J4 D4 bc bs))))))))) : zw RO d 15 P 13 [(0, .ref 11), (1, .int l1)] [] I J D bc bs := by
  refine zr_iload_n zSm 8 rfl rfl ?_
  refine zr_sipush zSm 9 450 rfl rfl ?_
  refine zr_ic zSm 10 46 rfl rfl (fun q1 => ?_) (fun q1 => ?_)
  · have h := h.1 q1
    refine zr_aload_n zSm 23 rfl rfl ?_
    refine zr_bipush zSm 24 39 rfl rfl ?_
    refine zr_inv0 25 8 1 [.int 39] rfl rfl zk_1_47 zms_8 rfl ⟨_, _, _, _, rfl, rfl⟩ (Nat.le_of_ble_eq_true rfl) ?_
    refine zcv h (fun I1 J1 D1 h => ?_)
    refine zr_vret zSm 26 rfl rfl ?_
    exact h
  · have h := h.2 q1
    refine zr_aload_n zSm 11 rfl rfl ?_
    refine zr_getI zSm 12 rfl zf_1_29 rfl rfl (by decide) ?_
    refine zr_bipush zSm 13 38 rfl rfl ?_
    refine zr_ic zSm 14 46 rfl rfl (fun q2 => ?_) (fun q2 => ?_)
    · have h := h.1 q2
      refine zr_aload_n zSm 23 rfl rfl ?_
      refine zr_bipush zSm 24 39 rfl rfl ?_
      refine zr_inv0 25 8 1 [.int 39] rfl rfl zk_1_47 zms_8 rfl ⟨_, _, _, _, rfl, rfl⟩ (Nat.le_of_ble_eq_true rfl) ?_
      refine zcv h (fun I2 J2 D2 h => ?_)
      refine zr_vret zSm 26 rfl rfl ?_
      exact h
    · have h := h.2 q2
      refine zr_aload_n zSm 15 rfl rfl ?_
      refine zr_bipush zSm 16 38 rfl rfl ?_
      refine zr_inv0 17 8 1 [.int 38] rfl rfl zk_1_47 zms_8 rfl ⟨_, _, _, _, rfl, rfl⟩ (Nat.le_of_ble_eq_true rfl) ?_
      refine zcv h (fun I3 J3 D3 h => ?_)
      refine zr_aload_n zSm 18 rfl rfl ?_
      refine zr_s zSm 19 rfl rfl ?_
      refine zr_inv0 20 8 1 [.int 2] rfl rfl zk_1_47 zms_8 rfl ⟨_, _, _, _, rfl, rfl⟩ (Nat.le_of_ble_eq_true rfl) ?_
      refine zcv h (fun I4 J4 D4 h => ?_)
      refine zr_iinc zSm 21 (v := l1 + 1) (ll' := [(1, .int (l1 + 1)), (0, .ref 11)]) rfl rfl (by decide) rfl rfl ?_
      refine zr_goto zSm 22 13 rfl rfl ?_
      refine zr_sub [1, 0] rfl ?_
      exact h
theorem w_16 {RO : zRo} {d : Nat} {P : zP} {I : zI} {J : zJ} {D : zD} {bc bs : Nat} {p0 : Int32} (h : zw RO (d + 1) 16 P 2 [(0, .ref 11), (1, .int p0), (2, .int 0)] [] I J D bc bs) : zz RO (d + 2) 16 [.ref 11, .int p0] I J D bc bs P := by
  refine zT_of (Nat.le_of_ble_eq_true rfl) rfl ?_
  show zw RO (d + 1) 16 P 0 [(0, .ref 11), (1, .int p0)] [] I J D bc bs
  refine zr_s zSm 0 rfl rfl ?_
  refine zr_istore_n zSm 1 (ll' := [(2, .int 0), (0, .ref 11), (1, .int p0)]) rfl (by decide) rfl ?_
  refine zr_sub [1, 2, 0] rfl ?_
  exact h
theorem wl_16_2 {RO : zRo} {d : Nat} {P : zP} {I : zI} {J : zJ} {D : zD} {bc bs : Nat} {l1 l2 : Int32} (h : ((450 ≤ l2 → P (.inl none) I J D) ∧ (¬ (450 ≤ l2) → (((zv_17 I J (I 11 3)) = 0 → P (.inl none) I J D) ∧ (¬ ((zv_17 I J (I 11 3)) = 0) → (zz RO (d + 1) 18 [.ref 11, .int (I 11 3), .int l1] I J D 0 0 (zNv P fun I1 J1 D1 => zw RO (d + 1) 16 P 2 [(0, .ref 11), (1, .int l1), (2, .int (l2 + 1))] [] I1 J1 D1 bc bs))))))) : zw RO (d + 1) 16 P 2 [(0, .ref 11), (1, .int l1), (2, .int l2)] [] I J D bc bs := by
  refine zr_iload_n zSm 2 rfl rfl ?_
  refine zr_sipush zSm 3 450 rfl rfl ?_
  refine zr_ic zSm 4 34 rfl rfl (fun q1 => ?_) (fun q1 => ?_)
  · have h := h.1 q1
    refine zr_vret zSm 16 rfl rfl ?_
    exact h
  · have h := h.2 q1
    refine zr_aload_n zSm 5 rfl rfl ?_
    refine zr_getI zSm 6 rfl zf_1_29 rfl rfl (by decide) ?_
    refine zr_ins0 7 17 1 [.int (I 11 3)] rfl rfl zk_1_77 zms_17 rfl (Nat.le_of_ble_eq_true rfl) ?_
    refine ze_17 ?_
    refine zNx_i ?_
    refine zr_if zSm 8 34 rfl rfl (fun q2 => ?_) (fun q2 => ?_)
    · have h := h.1 q2
      refine zr_vret zSm 16 rfl rfl ?_
      exact h
    · have h := h.2 q2
      refine zr_aload_n zSm 9 rfl rfl ?_
      refine zr_aload_n zSm 10 rfl rfl ?_
      refine zr_getI zSm 11 rfl zf_1_29 rfl rfl (by decide) ?_
      refine zr_iload_n zSm 12 rfl rfl ?_
      refine zr_inv0 13 18 2 [.int (I 11 3), .int l1] rfl rfl zk_1_81 zms_18 rfl ⟨_, _, _, _, rfl, rfl⟩ (Nat.le_of_ble_eq_true rfl) ?_
      refine zcv h (fun I1 J1 D1 h => ?_)
      refine zr_iinc zSm 14 (v := l2 + 1) (ll' := [(2, .int (l2 + 1)), (0, .ref 11), (1, .int l1)]) rfl rfl (by decide) rfl rfl ?_
      refine zr_goto zSm 15 2 rfl rfl ?_
      refine zr_sub [1, 2, 0] rfl ?_
      exact h
theorem w_18 {RO : zRo} {d : Nat} {P : zP} {I : zI} {J : zJ} {D : zD} {bc bs : Nat} {p0 p1 : Int32} (h : ((p0 = 18 → ((p1 < 4 → (zz RO d 19 [.ref 11, .int (p1 + 1)] I J D 0 0 (zNv P fun I1 J1 D1 => P (.inl none) I1 J1 D1))) ∧ (¬ (p1 < 4) → (zz RO d 9 [.ref 11] I J D 0 0 (zNv P fun I2 J2 D2 => P (.inl none) I2 J2 D2))))) ∧ (¬ (p0 = 18) → ((¬ p0 = 24 → (zz RO d 8 [.ref 11, .int p0] I J D 0 0 (zNv P fun I3 J3 D3 => ((p0 = 16 → (zz RO d 21 [.ref 11] I3 J3 D3 0 0 (zNi P fun v4 I4 J4 D4 => (zz RO d 22 [.ref 11, .int 0, .int 0] I4 J4 D4 0 0 (zNv P fun I5 J5 D5 => (zz RO d 1 [.ref 8, .int p0, .int v4] I5 J5 D5 0 0 (zNi P fun v6 I6 J6 D6 => (zz RO d 8 [.ref 11, .int 39] I6 J6 D6 0 0 (zNv P fun I7 J7 D7 => P (.inl none) I7 J7 D7))))))))) ∧ (¬ (p0 = 16) → ((¬ p0 = 17 → (zz RO d 1 [.ref 8, .int p0, .int 0] I3 J3 D3 0 0 (zNi P fun v8 I8 J8 D8 => (zz RO d 8 [.ref 11, .int 39] I8 J8 D8 0 0 (zNv P fun I9 J9 D9 => P (.inl none) I9 J9 D9))))) ∧ (¬ (¬ p0 = 17) → (zz RO d 21 [.ref 11] I3 J3 D3 0 0 (zNi P fun v10 I10 J10 D10 => (zz RO d 22 [.ref 11, .int 0, .int 0] I10 J10 D10 0 0 (zNv P fun I11 J11 D11 => (zz RO d 1 [.ref 8, .int p0, .int v10] I11 J11 D11 0 0 (zNi P fun v12 I12 J12 D12 => (zz RO d 8 [.ref 11, .int 39] I12 J12 D12 0 0 (zNv P fun I13 J13 D13 => P (.inl none) I13 J13 D13))))))))))))))) ∧ (¬ (¬ p0 = 24) → ((p1 < 4 → (zz RO d 20 [.ref 11, .int (p1 + 1)] I J D 0 0 (zNv P fun I14 J14 D14 => P (.inl none) I14 J14 D14))) ∧ (¬ (p1 < 4) → (zz RO d 9 [.ref 11] I J D 0 0 (zNv P fun I15 J15 D15 => P (.inl none) I15 J15 D15))))))))) : zz RO (d + 1) 18 [.ref 11, .int p0, .int p1] I J D bc bs P := by
  refine zT_of (Nat.le_of_ble_eq_true rfl) rfl ?_
  show zw RO d 18 P 0 [(0, .ref 11), (1, .int p0), (2, .int p1)] [] I J D bc bs
  refine zr_iload_n zSm 0 rfl rfl ?_
  refine zr_bipush zSm 1 18 rfl rfl ?_
  refine zr_ic zSm 2 12 rfl rfl (fun q1 => ?_) (fun q1 => ?_)
  · have h := h.1 q1
    refine zr_iload_n zSm 6 rfl rfl ?_
    refine zr_s zSm 7 rfl rfl ?_
    refine zr_ic zSm 8 24 rfl rfl (fun q2 => ?_) (fun q2 => ?_)
    · have h := h.1 q2
      refine zr_iload_n zSm 12 rfl rfl ?_
      refine zr_bipush zSm 13 18 rfl rfl ?_
      refine zr_ic zSm 14 40 rfl rfl (fun q3 => ?_) (fun q3 => ?_)
      · first | exact absurd q3 q1 | exact absurd q1 q3 | exact absurd (Int32.not_lt.mp q3) q1 | exact absurd (Int32.not_lt.mp q1) q3 | exact absurd (Int32.not_le.mp q3) q1 | exact absurd (Int32.not_le.mp q1) q3 | exact absurd q3 (Int32.not_lt.mpr q1) | exact absurd q1 (Int32.not_lt.mpr q3) | exact absurd q3 (Int32.not_le.mpr q1) | exact absurd q1 (Int32.not_le.mpr q3)
      · refine zr_aload_n zSm 15 rfl rfl ?_
        refine zr_iload_n zSm 16 rfl rfl ?_
        refine zr_s zSm 17 rfl rfl ?_
        refine zr_s zSm 18 rfl rfl ?_
        refine zr_inv0 19 19 1 [.int (p1 + 1)] rfl rfl zk_1_84 zms_19 rfl ⟨_, _, _, _, rfl, rfl⟩ (Nat.le_of_ble_eq_true rfl) ?_
        refine zcv h (fun I1 J1 D1 h => ?_)
        refine zr_goto zSm 20 47 rfl rfl ?_
        refine zr_vret zSm 26 rfl rfl ?_
        exact h
    · have h := h.2 q2
      refine zr_aload_n zSm 9 rfl rfl ?_
      refine zr_inv0 10 9 0 [] rfl rfl zk_1_41 zms_9 rfl ⟨_, _, _, _, rfl, rfl⟩ (Nat.le_of_ble_eq_true rfl) ?_
      refine zcv h (fun I2 J2 D2 h => ?_)
      refine zr_goto zSm 11 47 rfl rfl ?_
      refine zr_vret zSm 26 rfl rfl ?_
      exact h
  · have h := h.2 q1
    refine zr_iload_n zSm 3 rfl rfl ?_
    refine zr_bipush zSm 4 24 rfl rfl ?_
    refine zr_ic zSm 5 48 rfl rfl (fun q4 => ?_) (fun q4 => ?_)
    · have h := h.1 q4
      refine zr_aload_n zSm 27 rfl rfl ?_
      refine zr_iload_n zSm 28 rfl rfl ?_
      refine zr_inv0 29 8 1 [.int p0] rfl rfl zk_1_47 zms_8 rfl ⟨_, _, _, _, rfl, rfl⟩ (Nat.le_of_ble_eq_true rfl) ?_
      refine zcv h (fun I3 J3 D3 h => ?_)
      refine zr_s zSm 30 rfl rfl ?_
      refine zr_istore_n zSm 31 (ll' := [(3, .int 0), (0, .ref 11), (1, .int p0), (2, .int p1)]) rfl (by decide) rfl ?_
      refine zr_iload_n zSm 32 rfl rfl ?_
      refine zr_bipush zSm 33 16 rfl rfl ?_
      refine zr_ic zSm 34 67 rfl rfl (fun q5 => ?_) (fun q5 => ?_)
      · have h := h.1 q5
        refine zr_aload_n zSm 38 rfl rfl ?_
        refine zr_inv0 39 21 0 [] rfl rfl zk_1_90 zms_21 rfl ⟨_, _, _, _, rfl, rfl⟩ (Nat.le_of_ble_eq_true rfl) ?_
        refine zci h (fun v4 I4 J4 D4 h => ?_)
        refine zr_istore_n zSm 40 (ll' := [(3, .int v4), (0, .ref 11), (1, .int p0), (2, .int p1)]) rfl (by decide) rfl ?_
        refine zr_aload_n zSm 41 rfl rfl ?_
        refine zr_s zSm 42 rfl rfl ?_
        refine zr_s zSm 43 rfl rfl ?_
        refine zr_inv0 44 22 2 [.int 0, .int 0] rfl rfl zk_1_66 zms_22 rfl ⟨_, _, _, _, rfl, rfl⟩ (Nat.le_of_ble_eq_true rfl) ?_
        refine zcv h (fun I5 J5 D5 h => ?_)
        refine zr_aload_n zSm 45 rfl rfl ?_
        refine zr_getR zSm 46 rfl zf_1_15 rfl rfl (by decide) ?_
        refine zr_iload_n zSm 47 rfl rfl ?_
        refine zr_iload_n zSm 48 rfl rfl ?_
        refine zr_inv0 49 1 2 [.int p0, .int v4] rfl rfl zk_1_62 zms_1 rfl ⟨_, _, _, _, rfl, rfl⟩ (Nat.le_of_ble_eq_true rfl) ?_
        refine zci h (fun v6 I6 J6 D6 h => ?_)
        refine zr_s zSm 50 rfl rfl ?_
        refine zr_aload_n zSm 51 rfl rfl ?_
        refine zr_bipush zSm 52 39 rfl rfl ?_
        refine zr_inv0 53 8 1 [.int 39] rfl rfl zk_1_47 zms_8 rfl ⟨_, _, _, _, rfl, rfl⟩ (Nat.le_of_ble_eq_true rfl) ?_
        refine zcv h (fun I7 J7 D7 h => ?_)
        refine zr_vret zSm 54 rfl rfl ?_
        exact h
      · have h := h.2 q5
        refine zr_iload_n zSm 35 rfl rfl ?_
        refine zr_bipush zSm 36 17 rfl rfl ?_
        refine zr_ic zSm 37 78 rfl rfl (fun q6 => ?_) (fun q6 => ?_)
        · have h := h.1 q6
          refine zr_aload_n zSm 45 rfl rfl ?_
          refine zr_getR zSm 46 rfl zf_1_15 rfl rfl (by decide) ?_
          refine zr_iload_n zSm 47 rfl rfl ?_
          refine zr_iload_n zSm 48 rfl rfl ?_
          refine zr_inv0 49 1 2 [.int p0, .int 0] rfl rfl zk_1_62 zms_1 rfl ⟨_, _, _, _, rfl, rfl⟩ (Nat.le_of_ble_eq_true rfl) ?_
          refine zci h (fun v8 I8 J8 D8 h => ?_)
          refine zr_s zSm 50 rfl rfl ?_
          refine zr_aload_n zSm 51 rfl rfl ?_
          refine zr_bipush zSm 52 39 rfl rfl ?_
          refine zr_inv0 53 8 1 [.int 39] rfl rfl zk_1_47 zms_8 rfl ⟨_, _, _, _, rfl, rfl⟩ (Nat.le_of_ble_eq_true rfl) ?_
          refine zcv h (fun I9 J9 D9 h => ?_)
          refine zr_vret zSm 54 rfl rfl ?_
          exact h
        · have h := h.2 q6
          refine zr_aload_n zSm 38 rfl rfl ?_
          refine zr_inv0 39 21 0 [] rfl rfl zk_1_90 zms_21 rfl ⟨_, _, _, _, rfl, rfl⟩ (Nat.le_of_ble_eq_true rfl) ?_
          refine zci h (fun v10 I10 J10 D10 h => ?_)
          refine zr_istore_n zSm 40 (ll' := [(3, .int v10), (0, .ref 11), (1, .int p0), (2, .int p1)]) rfl (by decide) rfl ?_
          refine zr_aload_n zSm 41 rfl rfl ?_
          refine zr_s zSm 42 rfl rfl ?_
          refine zr_s zSm 43 rfl rfl ?_
          refine zr_inv0 44 22 2 [.int 0, .int 0] rfl rfl zk_1_66 zms_22 rfl ⟨_, _, _, _, rfl, rfl⟩ (Nat.le_of_ble_eq_true rfl) ?_
          refine zcv h (fun I11 J11 D11 h => ?_)
          refine zr_aload_n zSm 45 rfl rfl ?_
          refine zr_getR zSm 46 rfl zf_1_15 rfl rfl (by decide) ?_
          refine zr_iload_n zSm 47 rfl rfl ?_
          refine zr_iload_n zSm 48 rfl rfl ?_
          refine zr_inv0 49 1 2 [.int p0, .int v10] rfl rfl zk_1_62 zms_1 rfl ⟨_, _, _, _, rfl, rfl⟩ (Nat.le_of_ble_eq_true rfl) ?_
          refine zci h (fun v12 I12 J12 D12 h => ?_)
          refine zr_s zSm 50 rfl rfl ?_
          refine zr_aload_n zSm 51 rfl rfl ?_
          refine zr_bipush zSm 52 39 rfl rfl ?_
          refine zr_inv0 53 8 1 [.int 39] rfl rfl zk_1_47 zms_8 rfl ⟨_, _, _, _, rfl, rfl⟩ (Nat.le_of_ble_eq_true rfl) ?_
          refine zcv h (fun I13 J13 D13 h => ?_)
          refine zr_vret zSm 54 rfl rfl ?_
          exact h
    · have h := h.2 q4
      refine zr_iload_n zSm 6 rfl rfl ?_
      refine zr_s zSm 7 rfl rfl ?_
      refine zr_ic zSm 8 24 rfl rfl (fun q7 => ?_) (fun q7 => ?_)
      · have h := h.1 q7
        refine zr_iload_n zSm 12 rfl rfl ?_
        refine zr_bipush zSm 13 18 rfl rfl ?_
        refine zr_ic zSm 14 40 rfl rfl (fun q8 => ?_) (fun q8 => ?_)
        · refine zr_aload_n zSm 21 rfl rfl ?_
          refine zr_iload_n zSm 22 rfl rfl ?_
          refine zr_s zSm 23 rfl rfl ?_
          refine zr_s zSm 24 rfl rfl ?_
          refine zr_inv0 25 20 1 [.int (p1 + 1)] rfl rfl zk_1_87 zms_20 rfl ⟨_, _, _, _, rfl, rfl⟩ (Nat.le_of_ble_eq_true rfl) ?_
          refine zcv h (fun I14 J14 D14 h => ?_)
          refine zr_vret zSm 26 rfl rfl ?_
          exact h
        · first | exact absurd q8 q1 | exact absurd q1 q8 | exact absurd (Int32.not_lt.mp q8) q1 | exact absurd (Int32.not_lt.mp q1) q8 | exact absurd (Int32.not_le.mp q8) q1 | exact absurd (Int32.not_le.mp q1) q8 | exact absurd q8 (Int32.not_lt.mpr q1) | exact absurd q1 (Int32.not_lt.mpr q8) | exact absurd q8 (Int32.not_le.mpr q1) | exact absurd q1 (Int32.not_le.mpr q8)
      · have h := h.2 q7
        refine zr_aload_n zSm 9 rfl rfl ?_
        refine zr_inv0 10 9 0 [] rfl rfl zk_1_41 zms_9 rfl ⟨_, _, _, _, rfl, rfl⟩ (Nat.le_of_ble_eq_true rfl) ?_
        refine zcv h (fun I15 J15 D15 h => ?_)
        refine zr_goto zSm 11 47 rfl rfl ?_
        refine zr_vret zSm 26 rfl rfl ?_
        exact h
theorem w_19 {RO : zRo} {d : Nat} {P : zP} {I : zI} {J : zJ} {D : zD} {bc bs : Nat} {p0 : Int32} (h : (zz RO d 8 [.ref 11, .int 18] I J D 0 0 (zNv P fun I1 J1 D1 => (zz RO d 22 [.ref 11, .int 0, .int 0] I1 J1 D1 0 0 (zNv P fun I2 J2 D2 => (zz RO d 8 [.ref 11, .int 19] I2 J2 D2 0 0 (zNv P fun I3 J3 D3 => (zz RO d 1 [.ref 8, .int 18, .int 0] I3 J3 D3 0 0 (zNi P fun v4 I4 J4 D4 => (zz RO d 16 [.ref 11, .int p0] I4 J4 D4 0 0 (zNv P fun I5 J5 D5 => ((¬ (I5 11 3) = 20 → (zz RO d 2 [.ref 8, .int v4] I5 J5 D5 0 0 (zNv P fun I6 J6 D6 => (zz RO d 8 [.ref 11, .int 15] I6 J6 D6 0 0 (zNv P fun I7 J7 D7 => P (.inl none) I7 J7 D7))))) ∧ (¬ (¬ (I5 11 3) = 20) → (zz RO d 8 [.ref 11, .int 20] I5 J5 D5 0 0 (zNv P fun I8 J8 D8 => (zz RO d 1 [.ref 8, .int 20, .int 0] I8 J8 D8 0 0 (zNi P fun v9 I9 J9 D9 => (zz RO d 2 [.ref 8, .int v4] I9 J9 D9 0 0 (zNv P fun I10 J10 D10 => (zz RO d 16 [.ref 11, .int p0] I10 J10 D10 0 0 (zNv P fun I11 J11 D11 => (zz RO d 2 [.ref 8, .int v9] I11 J11 D11 0 0 (zNv P fun I12 J12 D12 => (zz RO d 8 [.ref 11, .int 15] I12 J12 D12 0 0 (zNv P fun I13 J13 D13 => P (.inl none) I13 J13 D13))))))))))))))))))))))))) : zz RO (d + 1) 19 [.ref 11, .int p0] I J D bc bs P := by
  refine zT_of (Nat.le_of_ble_eq_true rfl) rfl ?_
  show zw RO d 19 P 0 [(0, .ref 11), (1, .int p0)] [] I J D bc bs
  refine zr_aload_n zSm 0 rfl rfl ?_
  refine zr_bipush zSm 1 18 rfl rfl ?_
  refine zr_inv0 2 8 1 [.int 18] rfl rfl zk_1_47 zms_8 rfl ⟨_, _, _, _, rfl, rfl⟩ (Nat.le_of_ble_eq_true rfl) ?_
  refine zcv h (fun I1 J1 D1 h => ?_)
  refine zr_aload_n zSm 3 rfl rfl ?_
  refine zr_s zSm 4 rfl rfl ?_
  refine zr_s zSm 5 rfl rfl ?_
  refine zr_inv0 6 22 2 [.int 0, .int 0] rfl rfl zk_1_66 zms_22 rfl ⟨_, _, _, _, rfl, rfl⟩ (Nat.le_of_ble_eq_true rfl) ?_
  refine zcv h (fun I2 J2 D2 h => ?_)
  refine zr_aload_n zSm 7 rfl rfl ?_
  refine zr_bipush zSm 8 19 rfl rfl ?_
  refine zr_inv0 9 8 1 [.int 19] rfl rfl zk_1_47 zms_8 rfl ⟨_, _, _, _, rfl, rfl⟩ (Nat.le_of_ble_eq_true rfl) ?_
  refine zcv h (fun I3 J3 D3 h => ?_)
  refine zr_aload_n zSm 10 rfl rfl ?_
  refine zr_getR zSm 11 rfl zf_1_15 rfl rfl (by decide) ?_
  refine zr_bipush zSm 12 18 rfl rfl ?_
  refine zr_s zSm 13 rfl rfl ?_
  refine zr_inv0 14 1 2 [.int 18, .int 0] rfl rfl zk_1_62 zms_1 rfl ⟨_, _, _, _, rfl, rfl⟩ (Nat.le_of_ble_eq_true rfl) ?_
  refine zci h (fun v4 I4 J4 D4 h => ?_)
  refine zr_istore_n zSm 15 (ll' := [(2, .int v4), (0, .ref 11), (1, .int p0)]) rfl (by decide) rfl ?_
  refine zr_aload_n zSm 16 rfl rfl ?_
  refine zr_iload_n zSm 17 rfl rfl ?_
  refine zr_inv0 18 16 1 [.int p0] rfl rfl zk_1_59 zms_16 rfl ⟨_, _, _, _, rfl, rfl⟩ (Nat.le_of_ble_eq_true rfl) ?_
  refine zcv h (fun I5 J5 D5 h => ?_)
  refine zr_aload_n zSm 19 rfl rfl ?_
  refine zr_getI zSm 20 rfl zf_1_29 rfl rfl (by decide) ?_
  refine zr_bipush zSm 21 20 rfl rfl ?_
  refine zr_ic zSm 22 75 rfl rfl (fun q1 => ?_) (fun q1 => ?_)
  · have h := h.1 q1
    refine zr_aload_n zSm 41 rfl rfl ?_
    refine zr_getR zSm 42 rfl zf_1_15 rfl rfl (by decide) ?_
    refine zr_iload_n zSm 43 rfl rfl ?_
    refine zr_inv0 44 2 1 [.int v4] rfl rfl zk_1_94 zms_2 rfl ⟨_, _, _, _, rfl, rfl⟩ (Nat.le_of_ble_eq_true rfl) ?_
    refine zcv h (fun I6 J6 D6 h => ?_)
    refine zr_aload_n zSm 45 rfl rfl ?_
    refine zr_bipush zSm 46 15 rfl rfl ?_
    refine zr_inv0 47 8 1 [.int 15] rfl rfl zk_1_47 zms_8 rfl ⟨_, _, _, _, rfl, rfl⟩ (Nat.le_of_ble_eq_true rfl) ?_
    refine zcv h (fun I7 J7 D7 h => ?_)
    refine zr_vret zSm 48 rfl rfl ?_
    exact h
  · have h := h.2 q1
    refine zr_aload_n zSm 23 rfl rfl ?_
    refine zr_bipush zSm 24 20 rfl rfl ?_
    refine zr_inv0 25 8 1 [.int 20] rfl rfl zk_1_47 zms_8 rfl ⟨_, _, _, _, rfl, rfl⟩ (Nat.le_of_ble_eq_true rfl) ?_
    refine zcv h (fun I8 J8 D8 h => ?_)
    refine zr_aload_n zSm 26 rfl rfl ?_
    refine zr_getR zSm 27 rfl zf_1_15 rfl rfl (by decide) ?_
    refine zr_bipush zSm 28 20 rfl rfl ?_
    refine zr_s zSm 29 rfl rfl ?_
    refine zr_inv0 30 1 2 [.int 20, .int 0] rfl rfl zk_1_62 zms_1 rfl ⟨_, _, _, _, rfl, rfl⟩ (Nat.le_of_ble_eq_true rfl) ?_
    refine zci h (fun v9 I9 J9 D9 h => ?_)
    refine zr_istore_n zSm 31 (ll' := [(3, .int v9), (2, .int v4), (0, .ref 11), (1, .int p0)]) rfl (by decide) rfl ?_
    refine zr_aload_n zSm 32 rfl rfl ?_
    refine zr_getR zSm 33 rfl zf_1_15 rfl rfl (by decide) ?_
    refine zr_iload_n zSm 34 rfl rfl ?_
    refine zr_inv0 35 2 1 [.int v4] rfl rfl zk_1_94 zms_2 rfl ⟨_, _, _, _, rfl, rfl⟩ (Nat.le_of_ble_eq_true rfl) ?_
    refine zcv h (fun I10 J10 D10 h => ?_)
    refine zr_iload_n zSm 36 rfl rfl ?_
    refine zr_istore_n zSm 37 (ll' := [(2, .int v9), (3, .int v9), (0, .ref 11), (1, .int p0)]) rfl (by decide) rfl ?_
    refine zr_aload_n zSm 38 rfl rfl ?_
    refine zr_iload_n zSm 39 rfl rfl ?_
    refine zr_inv0 40 16 1 [.int p0] rfl rfl zk_1_59 zms_16 rfl ⟨_, _, _, _, rfl, rfl⟩ (Nat.le_of_ble_eq_true rfl) ?_
    refine zcv h (fun I11 J11 D11 h => ?_)
    refine zr_aload_n zSm 41 rfl rfl ?_
    refine zr_getR zSm 42 rfl zf_1_15 rfl rfl (by decide) ?_
    refine zr_iload_n zSm 43 rfl rfl ?_
    refine zr_inv0 44 2 1 [.int v9] rfl rfl zk_1_94 zms_2 rfl ⟨_, _, _, _, rfl, rfl⟩ (Nat.le_of_ble_eq_true rfl) ?_
    refine zcv h (fun I12 J12 D12 h => ?_)
    refine zr_aload_n zSm 45 rfl rfl ?_
    refine zr_bipush zSm 46 15 rfl rfl ?_
    refine zr_inv0 47 8 1 [.int 15] rfl rfl zk_1_47 zms_8 rfl ⟨_, _, _, _, rfl, rfl⟩ (Nat.le_of_ble_eq_true rfl) ?_
    refine zcv h (fun I13 J13 D13 h => ?_)
    refine zr_vret zSm 48 rfl rfl ?_
    exact h
theorem w_20 {RO : zRo} {d : Nat} {P : zP} {I : zI} {J : zJ} {D : zD} {bc bs : Nat} {p0 : Int32} (h : (zz RO d 8 [.ref 11, .int 24] I J D 0 0 (zNv P fun I1 J1 D1 => (zz RO d 1 [.ref 8, .int 24, .int 0] I1 J1 D1 0 0 (zNi P fun v2 I2 J2 D2 => (zz RO d 16 [.ref 11, .int p0] I2 J2 D2 0 0 (zNv P fun I3 J3 D3 => (zz RO d 1 [.ref 8, .int 53, .int (v2 + 1)] I3 J3 D3 0 0 (zNi P fun v4 I4 J4 D4 => (zz RO d 8 [.ref 11, .int 15] I4 J4 D4 0 0 (zNv P fun I5 J5 D5 => P (.inl none) I5 J5 D5))))))))))) : zz RO (d + 1) 20 [.ref 11, .int p0] I J D bc bs P := by
  refine zT_of (Nat.le_of_ble_eq_true rfl) rfl ?_
  show zw RO d 20 P 0 [(0, .ref 11), (1, .int p0)] [] I J D bc bs
  refine zr_aload_n zSm 0 rfl rfl ?_
  refine zr_bipush zSm 1 24 rfl rfl ?_
  refine zr_inv0 2 8 1 [.int 24] rfl rfl zk_1_47 zms_8 rfl ⟨_, _, _, _, rfl, rfl⟩ (Nat.le_of_ble_eq_true rfl) ?_
  refine zcv h (fun I1 J1 D1 h => ?_)
  refine zr_aload_n zSm 3 rfl rfl ?_
  refine zr_getR zSm 4 rfl zf_1_15 rfl rfl (by decide) ?_
  refine zr_bipush zSm 5 24 rfl rfl ?_
  refine zr_s zSm 6 rfl rfl ?_
  refine zr_inv0 7 1 2 [.int 24, .int 0] rfl rfl zk_1_62 zms_1 rfl ⟨_, _, _, _, rfl, rfl⟩ (Nat.le_of_ble_eq_true rfl) ?_
  refine zci h (fun v2 I2 J2 D2 h => ?_)
  refine zr_istore_n zSm 8 (ll' := [(2, .int v2), (0, .ref 11), (1, .int p0)]) rfl (by decide) rfl ?_
  refine zr_aload_n zSm 9 rfl rfl ?_
  refine zr_iload_n zSm 10 rfl rfl ?_
  refine zr_inv0 11 16 1 [.int p0] rfl rfl zk_1_59 zms_16 rfl ⟨_, _, _, _, rfl, rfl⟩ (Nat.le_of_ble_eq_true rfl) ?_
  refine zcv h (fun I3 J3 D3 h => ?_)
  refine zr_aload_n zSm 12 rfl rfl ?_
  refine zr_getR zSm 13 rfl zf_1_15 rfl rfl (by decide) ?_
  refine zr_bipush zSm 14 53 rfl rfl ?_
  refine zr_iload_n zSm 15 rfl rfl ?_
  refine zr_s zSm 16 rfl rfl ?_
  refine zr_s zSm 17 rfl rfl ?_
  refine zr_inv0 18 1 2 [.int 53, .int (v2 + 1)] rfl rfl zk_1_62 zms_1 rfl ⟨_, _, _, _, rfl, rfl⟩ (Nat.le_of_ble_eq_true rfl) ?_
  refine zci h (fun v4 I4 J4 D4 h => ?_)
  refine zr_s zSm 19 rfl rfl ?_
  refine zr_aload_n zSm 20 rfl rfl ?_
  refine zr_bipush zSm 21 15 rfl rfl ?_
  refine zr_inv0 22 8 1 [.int 15] rfl rfl zk_1_47 zms_8 rfl ⟨_, _, _, _, rfl, rfl⟩ (Nat.le_of_ble_eq_true rfl) ?_
  refine zcv h (fun I5 J5 D5 h => ?_)
  refine zr_vret zSm 23 rfl rfl ?_
  exact h
theorem w_21 {RO : zRo} {d : Nat} {P : zP} {I : zI} {J : zJ} {D : zD} {bc bs : Nat}  (h : ((¬ (I 11 3) = 25 → ((¬ (I 11 3) = 26 → (zz RO d 8 [.ref 11, .int 2] I J D 0 0 (zNv P fun I1 J1 D1 => P (.inl (some (.int ((I1 11 2) - 1)))) I1 J1 D1))) ∧ (¬ (¬ (I 11 3) = 26) → (zz RO d 8 [.ref 11, .int 26] I J D 0 0 (zNv P fun I2 J2 D2 => (zz RO d 8 [.ref 11, .int 2] I2 J2 D2 0 0 (zNv P fun I3 J3 D3 => P (.inl (some (.int ((I3 11 2) - 1)))) I3 J3 D3))))))) ∧ (¬ (¬ (I 11 3) = 25) → (zz RO d 8 [.ref 11, .int 25] I J D 0 0 (zNv P fun I4 J4 D4 => (zz RO d 8 [.ref 11, .int 2] I4 J4 D4 0 0 (zNv P fun I5 J5 D5 => P (.inl (some (.int ((I5 11 2) - 1)))) I5 J5 D5))))))) : zz RO (d + 1) 21 [.ref 11] I J D bc bs P := by
  refine zT_of (Nat.le_of_ble_eq_true rfl) rfl ?_
  show zw RO d 21 P 0 [(0, .ref 11)] [] I J D bc bs
  refine zr_aload_n zSm 0 rfl rfl ?_
  refine zr_getI zSm 1 rfl zf_1_29 rfl rfl (by decide) ?_
  refine zr_bipush zSm 2 25 rfl rfl ?_
  refine zr_ic zSm 3 18 rfl rfl (fun q1 => ?_) (fun q1 => ?_)
  · have h := h.1 q1
    refine zr_aload_n zSm 8 rfl rfl ?_
    refine zr_getI zSm 9 rfl zf_1_29 rfl rfl (by decide) ?_
    refine zr_bipush zSm 10 26 rfl rfl ?_
    refine zr_ic zSm 11 33 rfl rfl (fun q2 => ?_) (fun q2 => ?_)
    · have h := h.1 q2
      refine zr_aload_n zSm 15 rfl rfl ?_
      refine zr_s zSm 16 rfl rfl ?_
      refine zr_inv0 17 8 1 [.int 2] rfl rfl zk_1_47 zms_8 rfl ⟨_, _, _, _, rfl, rfl⟩ (Nat.le_of_ble_eq_true rfl) ?_
      refine zcv h (fun I1 J1 D1 h => ?_)
      refine zr_aload_n zSm 18 rfl rfl ?_
      refine zr_getI zSm 19 rfl zf_1_19 rfl rfl (by decide) ?_
      refine zr_s zSm 20 rfl rfl ?_
      refine zr_s zSm 21 rfl rfl ?_
      refine zr_iret zSm 22 rfl rfl rfl ?_
      exact h
    · have h := h.2 q2
      refine zr_aload_n zSm 12 rfl rfl ?_
      refine zr_bipush zSm 13 26 rfl rfl ?_
      refine zr_inv0 14 8 1 [.int 26] rfl rfl zk_1_47 zms_8 rfl ⟨_, _, _, _, rfl, rfl⟩ (Nat.le_of_ble_eq_true rfl) ?_
      refine zcv h (fun I2 J2 D2 h => ?_)
      refine zr_aload_n zSm 15 rfl rfl ?_
      refine zr_s zSm 16 rfl rfl ?_
      refine zr_inv0 17 8 1 [.int 2] rfl rfl zk_1_47 zms_8 rfl ⟨_, _, _, _, rfl, rfl⟩ (Nat.le_of_ble_eq_true rfl) ?_
      refine zcv h (fun I3 J3 D3 h => ?_)
      refine zr_aload_n zSm 18 rfl rfl ?_
      refine zr_getI zSm 19 rfl zf_1_19 rfl rfl (by decide) ?_
      refine zr_s zSm 20 rfl rfl ?_
      refine zr_s zSm 21 rfl rfl ?_
      refine zr_iret zSm 22 rfl rfl rfl ?_
      exact h
  · have h := h.2 q1
    refine zr_aload_n zSm 4 rfl rfl ?_
    refine zr_bipush zSm 5 25 rfl rfl ?_
    refine zr_inv0 6 8 1 [.int 25] rfl rfl zk_1_47 zms_8 rfl ⟨_, _, _, _, rfl, rfl⟩ (Nat.le_of_ble_eq_true rfl) ?_
    refine zcv h (fun I4 J4 D4 h => ?_)
    refine zr_goto zSm 7 33 rfl rfl ?_
    refine zr_aload_n zSm 15 rfl rfl ?_
    refine zr_s zSm 16 rfl rfl ?_
    refine zr_inv0 17 8 1 [.int 2] rfl rfl zk_1_47 zms_8 rfl ⟨_, _, _, _, rfl, rfl⟩ (Nat.le_of_ble_eq_true rfl) ?_
    refine zcv h (fun I5 J5 D5 h => ?_)
    refine zr_aload_n zSm 18 rfl rfl ?_
    refine zr_getI zSm 19 rfl zf_1_19 rfl rfl (by decide) ?_
    refine zr_s zSm 20 rfl rfl ?_
    refine zr_s zSm 21 rfl rfl ?_
    refine zr_iret zSm 22 rfl rfl rfl ?_
    exact h
theorem w_22 {RO : zRo} {d : Nat} {P : zP} {I : zI} {J : zJ} {D : zD} {bc bs : Nat} {p0 p1 : Int32} (h : ((p0 < 5 → (zz RO (d + 1) 22 [.ref 11, .int (p0 + 1), .int p1] I J D 0 0 (zNv P fun I1 J1 D1 => zw RO (d + 1) 22 P 25 [(0, .ref 11), (1, .int p0), (2, .int p1), (3, .int 0)] [] I1 J1 D1 bc bs))) ∧ (¬ (p0 < 5) → (zz RO (d + 1) 24 [.ref 11, .int (I 11 3), .int p1] I J D 0 0 (zNv P fun I2 J2 D2 => P (.inl none) I2 J2 D2))))) : zz RO (d + 2) 22 [.ref 11, .int p0, .int p1] I J D bc bs P := by
  refine zT_of (Nat.le_of_ble_eq_true rfl) rfl ?_
  show zw RO (d + 1) 22 P 0 [(0, .ref 11), (1, .int p0), (2, .int p1)] [] I J D bc bs
  refine zr_iload_n zSm 0 rfl rfl ?_
  refine zr_s zSm 1 rfl rfl ?_
  refine zr_ic zSm 2 15 rfl rfl (fun q1 => ?_) (fun q1 => ?_)
  · have h := h.1 q1
    refine zr_aload_n zSm 9 rfl rfl ?_
    refine zr_iload_n zSm 10 rfl rfl ?_
    refine zr_s zSm 11 rfl rfl ?_
    refine zr_s zSm 12 rfl rfl ?_
    refine zr_iload_n zSm 13 rfl rfl ?_
    refine zr_inv0 14 22 2 [.int (p0 + 1), .int p1] rfl rfl zk_1_66 zms_22 rfl ⟨_, _, _, _, rfl, rfl⟩ (Nat.le_of_ble_eq_true rfl) ?_
    refine zcv h (fun I1 J1 D1 h => ?_)
    refine zr_s zSm 15 rfl rfl ?_
    refine zr_istore_n zSm 16 (ll' := [(3, .int 0), (0, .ref 11), (1, .int p0), (2, .int p1)]) rfl (by decide) rfl ?_
    refine zr_sub [1, 2, 3, 0] rfl ?_
    exact h
  · have h := h.2 q1
    refine zr_aload_n zSm 3 rfl rfl ?_
    refine zr_aload_n zSm 4 rfl rfl ?_
    refine zr_getI zSm 5 rfl zf_1_29 rfl rfl (by decide) ?_
    refine zr_iload_n zSm 6 rfl rfl ?_
    refine zr_inv0 7 24 2 [.int (I 11 3), .int p1] rfl rfl zk_1_97 zms_24 rfl ⟨_, _, _, _, rfl, rfl⟩ (Nat.le_of_ble_eq_true rfl) ?_
    refine zcv h (fun I2 J2 D2 h => ?_)
    refine zr_vret zSm 8 rfl rfl ?_
    exact h
theorem wl_22_25 {RO : zRo} {d : Nat} {P : zP} {I : zI} {J : zJ} {D : zD} {bc bs : Nat} {l1 l2 l3 : Int32} (h : ((450 ≤ l3 → P (.inl none) I J D) ∧ (¬ (450 ≤ l3) → ((¬ (zv_23 I J (I 11 3)) = l1 → P (.inl none) I J D) ∧ (¬ (¬ (zv_23 I J (I 11 3)) = l1) → (zz RO (d + 1) 8 [.ref 11, .int (I 11 3)] I J D 0 0 (zNv P fun I1 J1 D1 => (zz RO (d + 1) 22 [.ref 11, .int (l1 + 1), .int l2] I1 J1 D1 0 0 (zNv P fun I2 J2 D2 => (zz RO (d + 1) 1 [.ref 8, .int (I 11 3), .int 0] I2 J2 D2 0 0 (zNi P fun v3 I3 J3 D3 => ((¬ l1 = 2 → zw RO (d + 1) 22 P 25 [(0, .ref 11), (1, .int l1), (2, .int l2), (3, .int (l3 + 1))] [] I3 J3 D3 bc bs) ∧ (¬ (¬ l1 = 2) → P (.inl none) I3 J3 D3))))))))))))) : zw RO (d + 1) 22 P 25 [(0, .ref 11), (1, .int l1), (2, .int l2), (3, .int l3)] [] I J D bc bs := by
  refine zr_iload_n zSm 17 rfl rfl ?_
  refine zr_sipush zSm 18 450 rfl rfl ?_
  refine zr_ic zSm 19 86 rfl rfl (fun q1 => ?_) (fun q1 => ?_)
  · have h := h.1 q1
    refine zr_vret zSm 49 rfl rfl ?_
    exact h
  · have h := h.2 q1
    refine zr_aload_n zSm 20 rfl rfl ?_
    refine zr_getI zSm 21 rfl zf_1_29 rfl rfl (by decide) ?_
    refine zr_ins0 22 23 1 [.int (I 11 3)] rfl rfl zk_1_100 zms_23 rfl (Nat.le_of_ble_eq_true rfl) ?_
    refine ze_23 ?_
    refine zNx_i ?_
    refine zr_iload_n zSm 23 rfl rfl ?_
    refine zr_ic zSm 24 86 rfl rfl (fun q2 => ?_) (fun q2 => ?_)
    · have h := h.1 q2
      refine zr_vret zSm 49 rfl rfl ?_
      exact h
    · have h := h.2 q2
      refine zr_aload_n zSm 25 rfl rfl ?_
      refine zr_getI zSm 26 rfl zf_1_29 rfl rfl (by decide) ?_
      refine zr_istore zSm 27 (ll' := [(4, .int (I 11 3)), (0, .ref 11), (1, .int l1), (2, .int l2), (3, .int l3)]) rfl (by decide) rfl ?_
      refine zr_aload_n zSm 28 rfl rfl ?_
      refine zr_iload zSm 29 rfl rfl ?_
      refine zr_inv0 30 8 1 [.int (I 11 3)] rfl rfl zk_1_47 zms_8 rfl ⟨_, _, _, _, rfl, rfl⟩ (Nat.le_of_ble_eq_true rfl) ?_
      refine zcv h (fun I1 J1 D1 h => ?_)
      refine zr_aload_n zSm 31 rfl rfl ?_
      refine zr_iload_n zSm 32 rfl rfl ?_
      refine zr_s zSm 33 rfl rfl ?_
      refine zr_s zSm 34 rfl rfl ?_
      refine zr_iload_n zSm 35 rfl rfl ?_
      refine zr_inv0 36 22 2 [.int (l1 + 1), .int l2] rfl rfl zk_1_66 zms_22 rfl ⟨_, _, _, _, rfl, rfl⟩ (Nat.le_of_ble_eq_true rfl) ?_
      refine zcv h (fun I2 J2 D2 h => ?_)
      refine zr_aload_n zSm 37 rfl rfl ?_
      refine zr_getR zSm 38 rfl zf_1_15 rfl rfl (by decide) ?_
      refine zr_iload zSm 39 rfl rfl ?_
      refine zr_s zSm 40 rfl rfl ?_
      refine zr_inv0 41 1 2 [.int (I 11 3), .int 0] rfl rfl zk_1_62 zms_1 rfl ⟨_, _, _, _, rfl, rfl⟩ (Nat.le_of_ble_eq_true rfl) ?_
      refine zci h (fun v3 I3 J3 D3 h => ?_)
      refine zr_s zSm 42 rfl rfl ?_
      refine zr_iload_n zSm 43 rfl rfl ?_
      refine zr_s zSm 44 rfl rfl ?_
      refine zr_ic zSm 45 80 rfl rfl (fun q3 => ?_) (fun q3 => ?_)
      · have h := h.1 q3
        refine zr_iinc zSm 47 (v := l3 + 1) (ll' := [(3, .int (l3 + 1)), (4, .int (I 11 3)), (0, .ref 11), (1, .int l1), (2, .int l2)]) rfl rfl (by decide) rfl rfl ?_
        refine zr_goto zSm 48 25 rfl rfl ?_
        refine zr_sub [2, 3, 4, 0] rfl ?_
        exact h
      · have h := h.2 q3
        refine zr_vret zSm 46 rfl rfl ?_
        exact h
theorem w_24 {RO : zRo} {d : Nat} {P : zP} {I : zI} {J : zJ} {D : zD} {bc bs : Nat} {p0 p1 : Int32} (h : (((p0 = 2 ∨ p0 = 25 ∨ p0 = 26) → (zz RO d 21 [.ref 11] I J D 0 0 (zNi P fun v1 I1 J1 D1 => (zz RO d 1 [.ref 8, .int 2, .int v1] I1 J1 D1 0 0 (zNi P fun v2 I2 J2 D2 => P (.inl none) I2 J2 D2))))) ∧ (¬ ((p0 = 2 ∨ p0 = 25 ∨ p0 = 26)) → (((p0 = 3 ∨ p0 = 28 ∨ p0 = 29 ∨ p0 = 30 ∨ p0 = 31 ∨ p0 = 32) → (zz RO d 1 [.ref 8, .int p0, .int (I 11 2)] I J D 0 0 (zNi P fun v3 I3 J3 D3 => (zz RO d 8 [.ref 11, .int p0] I3 J3 D3 0 0 (zNv P fun I4 J4 D4 => P (.inl none) I4 J4 D4))))) ∧ (¬ ((p0 = 3 ∨ p0 = 28 ∨ p0 = 29 ∨ p0 = 30 ∨ p0 = 31 ∨ p0 = 32)) → (((p0 = 27 ∨ p0 = 35 ∨ p0 = 36 ∨ p0 = 43) → (zz RO d 25 [.ref 11, .int p0, .int (p1 + 1)] I J D 0 0 (zNv P fun I5 J5 D5 => P (.inl none) I5 J5 D5))) ∧ (¬ ((p0 = 27 ∨ p0 = 35 ∨ p0 = 36 ∨ p0 = 43)) → (zz RO d 9 [.ref 11] I J D 0 0 (zNv P fun I6 J6 D6 => P (.inl none) I6 J6 D6))))))))) : zz RO (d + 1) 24 [.ref 11, .int p0, .int p1] I J D bc bs P := by
  refine zT_of (Nat.le_of_ble_eq_true rfl) rfl ?_
  show zw RO d 24 P 0 [(0, .ref 11), (1, .int p0), (2, .int p1)] [] I J D bc bs
  refine zr_iload_n zSm 0 rfl rfl ?_
  by_cases q1 : (p0 = 2 ∨ p0 = 25 ∨ p0 = 26)
  · have h := h.1 q1
    refine zr_tsG 1 205 [2, 25, 26] rfl (by simp only [List.mem_cons, List.not_mem_nil, or_false]; exact q1) (by decide) ?_
    refine zr_aload_n zSm 13 rfl rfl ?_
    refine zr_getR zSm 14 rfl zf_1_15 rfl rfl (by decide) ?_
    refine zr_s zSm 15 rfl rfl ?_
    refine zr_aload_n zSm 16 rfl rfl ?_
    refine zr_inv0 17 21 0 [] rfl rfl zk_1_90 zms_21 rfl ⟨_, _, _, _, rfl, rfl⟩ (Nat.le_of_ble_eq_true rfl) ?_
    refine zci h (fun v1 I1 J1 D1 h => ?_)
    refine zr_inv0 18 1 2 [.int 2, .int v1] rfl rfl zk_1_62 zms_1 rfl ⟨_, _, _, _, rfl, rfl⟩ (Nat.le_of_ble_eq_true rfl) ?_
    refine zci h (fun v2 I2 J2 D2 h => ?_)
    refine zr_s zSm 19 rfl rfl ?_
    refine zr_goto zSm 20 236 rfl rfl ?_
    refine zr_vret zSm 30 rfl rfl ?_
    exact h
  · have h := h.2 q1
    by_cases q2 : (p0 = 3 ∨ p0 = 28 ∨ p0 = 29 ∨ p0 = 30 ∨ p0 = 31 ∨ p0 = 32)
    · have h := h.1 q2
      refine zr_tsG 1 184 [3, 28, 29, 30, 31, 32] rfl (by simp only [List.mem_cons, List.not_mem_nil, or_false]; exact q2) (by decide) ?_
      refine zr_aload_n zSm 2 rfl rfl ?_
      refine zr_getR zSm 3 rfl zf_1_15 rfl rfl (by decide) ?_
      refine zr_iload_n zSm 4 rfl rfl ?_
      refine zr_aload_n zSm 5 rfl rfl ?_
      refine zr_getI zSm 6 rfl zf_1_19 rfl rfl (by decide) ?_
      refine zr_inv0 7 1 2 [.int p0, .int (I 11 2)] rfl rfl zk_1_62 zms_1 rfl ⟨_, _, _, _, rfl, rfl⟩ (Nat.le_of_ble_eq_true rfl) ?_
      refine zci h (fun v3 I3 J3 D3 h => ?_)
      refine zr_s zSm 8 rfl rfl ?_
      refine zr_aload_n zSm 9 rfl rfl ?_
      refine zr_iload_n zSm 10 rfl rfl ?_
      refine zr_inv0 11 8 1 [.int p0] rfl rfl zk_1_47 zms_8 rfl ⟨_, _, _, _, rfl, rfl⟩ (Nat.le_of_ble_eq_true rfl) ?_
      refine zcv h (fun I4 J4 D4 h => ?_)
      refine zr_goto zSm 12 236 rfl rfl ?_
      refine zr_vret zSm 30 rfl rfl ?_
      exact h
    · have h := h.2 q2
      by_cases q3 : (p0 = 27 ∨ p0 = 35 ∨ p0 = 36 ∨ p0 = 43)
      · have h := h.1 q3
        refine zr_tsG 1 221 [27, 35, 36, 43] rfl (by simp only [List.mem_cons, List.not_mem_nil, or_false]; exact q3) (by decide) ?_
        refine zr_aload_n zSm 21 rfl rfl ?_
        refine zr_iload_n zSm 22 rfl rfl ?_
        refine zr_iload_n zSm 23 rfl rfl ?_
        refine zr_s zSm 24 rfl rfl ?_
        refine zr_s zSm 25 rfl rfl ?_
        refine zr_inv0 26 25 2 [.int p0, .int (p1 + 1)] rfl rfl zk_1_103 zms_25 rfl ⟨_, _, _, _, rfl, rfl⟩ (Nat.le_of_ble_eq_true rfl) ?_
        refine zcv h (fun I5 J5 D5 h => ?_)
        refine zr_goto zSm 27 236 rfl rfl ?_
        refine zr_vret zSm 30 rfl rfl ?_
        exact h
      · have h := h.2 q3
        refine zr_tsD 1 232 [2, 3, 25, 26, 27, 28, 29, 30, 31, 32, 35, 36, 43] rfl ?_ (by decide) rfl ?_
        · intro hx
          simp only [List.mem_cons, List.not_mem_nil, or_false] at hx
          rcases hx with e | e | e | e | e | e | e | e | e | e | e | e | e
          · exact q1 (Or.inl e)
          · exact q2 (Or.inl e)
          · exact q1 (Or.inr (Or.inl e))
          · exact q1 (Or.inr (Or.inr (e)))
          · exact q3 (Or.inl e)
          · exact q2 (Or.inr (Or.inl e))
          · exact q2 (Or.inr (Or.inr (Or.inl e)))
          · exact q2 (Or.inr (Or.inr (Or.inr (Or.inl e))))
          · exact q2 (Or.inr (Or.inr (Or.inr (Or.inr (Or.inl e)))))
          · exact q2 (Or.inr (Or.inr (Or.inr (Or.inr (Or.inr (e))))))
          · exact q3 (Or.inr (Or.inl e))
          · exact q3 (Or.inr (Or.inr (Or.inl e)))
          · exact q3 (Or.inr (Or.inr (Or.inr (e))))
        · refine zr_aload_n zSm 28 rfl rfl ?_
          refine zr_inv0 29 9 0 [] rfl rfl zk_1_41 zms_9 rfl ⟨_, _, _, _, rfl, rfl⟩ (Nat.le_of_ble_eq_true rfl) ?_
          refine zcv h (fun I6 J6 D6 h => ?_)
          refine zr_vret zSm 30 rfl rfl ?_
          exact h
theorem w_25 {RO : zRo} {d : Nat} {P : zP} {I : zI} {J : zJ} {D : zD} {bc bs : Nat} {p0 p1 : Int32} (h : ((p1 ≤ 8 → (zz RO d 8 [.ref 11, .int p0] I J D 0 0 (zNv P fun I1 J1 D1 => ((¬ p0 = 36 → (zz RO d 24 [.ref 11, .int (I1 11 3), .int p1] I1 J1 D1 0 0 (zNv P fun I2 J2 D2 => ((¬ p0 = 43 → (zz RO d 1 [.ref 8, .int p0, .int 0] I2 J2 D2 0 0 (zNi P fun v3 I3 J3 D3 => P (.inl none) I3 J3 D3))) ∧ (¬ (¬ p0 = 43) → (zz RO d 1 [.ref 8, .int 52, .int 0] I2 J2 D2 0 0 (zNi P fun v4 I4 J4 D4 => P (.inl none) I4 J4 D4))))))) ∧ (¬ (¬ p0 = 36) → (zz RO d 22 [.ref 11, .int 0, .int p1] I1 J1 D1 0 0 (zNv P fun I5 J5 D5 => (zz RO d 8 [.ref 11, .int 37] I5 J5 D5 0 0 (zNv P fun I6 J6 D6 => P (.inl none) I6 J6 D6))))))))) ∧ (¬ (p1 ≤ 8) → (zz RO d 9 [.ref 11] I J D 0 0 (zNv P fun I7 J7 D7 => P (.inl none) I7 J7 D7))))) : zz RO (d + 1) 25 [.ref 11, .int p0, .int p1] I J D bc bs P := by
  refine zT_of (Nat.le_of_ble_eq_true rfl) rfl ?_
  show zw RO d 25 P 0 [(0, .ref 11), (1, .int p0), (2, .int p1)] [] I J D bc bs
  refine zr_iload_n zSm 0 rfl rfl ?_
  refine zr_bipush zSm 1 8 rfl rfl ?_
  refine zr_ic zSm 2 11 rfl rfl (fun q1 => ?_) (fun q1 => ?_)
  · have h := h.1 q1
    refine zr_aload_n zSm 6 rfl rfl ?_
    refine zr_iload_n zSm 7 rfl rfl ?_
    refine zr_inv0 8 8 1 [.int p0] rfl rfl zk_1_47 zms_8 rfl ⟨_, _, _, _, rfl, rfl⟩ (Nat.le_of_ble_eq_true rfl) ?_
    refine zcv h (fun I1 J1 D1 h => ?_)
    refine zr_iload_n zSm 9 rfl rfl ?_
    refine zr_bipush zSm 10 36 rfl rfl ?_
    refine zr_ic zSm 11 37 rfl rfl (fun q2 => ?_) (fun q2 => ?_)
    · have h := h.1 q2
      refine zr_aload_n zSm 20 rfl rfl ?_
      refine zr_aload_n zSm 21 rfl rfl ?_
      refine zr_getI zSm 22 rfl zf_1_29 rfl rfl (by decide) ?_
      refine zr_iload_n zSm 23 rfl rfl ?_
      refine zr_inv0 24 24 2 [.int (I1 11 3), .int p1] rfl rfl zk_1_97 zms_24 rfl ⟨_, _, _, _, rfl, rfl⟩ (Nat.le_of_ble_eq_true rfl) ?_
      refine zcv h (fun I2 J2 D2 h => ?_)
      refine zr_aload_n zSm 25 rfl rfl ?_
      refine zr_getR zSm 26 rfl zf_1_15 rfl rfl (by decide) ?_
      refine zr_iload_n zSm 27 rfl rfl ?_
      refine zr_bipush zSm 28 43 rfl rfl ?_
      refine zr_ic zSm 29 61 rfl rfl (fun q3 => ?_) (fun q3 => ?_)
      · have h := h.1 q3
        refine zr_iload_n zSm 32 rfl rfl ?_
        refine zr_s zSm 33 rfl rfl ?_
        refine zr_inv0 34 1 2 [.int p0, .int 0] rfl rfl zk_1_62 zms_1 rfl ⟨_, _, _, _, rfl, rfl⟩ (Nat.le_of_ble_eq_true rfl) ?_
        refine zci h (fun v3 I3 J3 D3 h => ?_)
        refine zr_s zSm 35 rfl rfl ?_
        refine zr_vret zSm 36 rfl rfl ?_
        exact h
      · have h := h.2 q3
        refine zr_bipush zSm 30 52 rfl rfl ?_
        refine zr_goto zSm 31 62 rfl rfl ?_
        refine zr_s zSm 33 rfl rfl ?_
        refine zr_inv0 34 1 2 [.int 52, .int 0] rfl rfl zk_1_62 zms_1 rfl ⟨_, _, _, _, rfl, rfl⟩ (Nat.le_of_ble_eq_true rfl) ?_
        refine zci h (fun v4 I4 J4 D4 h => ?_)
        refine zr_s zSm 35 rfl rfl ?_
        refine zr_vret zSm 36 rfl rfl ?_
        exact h
    · have h := h.2 q2
      refine zr_aload_n zSm 12 rfl rfl ?_
      refine zr_s zSm 13 rfl rfl ?_
      refine zr_iload_n zSm 14 rfl rfl ?_
      refine zr_inv0 15 22 2 [.int 0, .int p1] rfl rfl zk_1_66 zms_22 rfl ⟨_, _, _, _, rfl, rfl⟩ (Nat.le_of_ble_eq_true rfl) ?_
      refine zcv h (fun I5 J5 D5 h => ?_)
      refine zr_aload_n zSm 16 rfl rfl ?_
      refine zr_bipush zSm 17 37 rfl rfl ?_
      refine zr_inv0 18 8 1 [.int 37] rfl rfl zk_1_47 zms_8 rfl ⟨_, _, _, _, rfl, rfl⟩ (Nat.le_of_ble_eq_true rfl) ?_
      refine zcv h (fun I6 J6 D6 h => ?_)
      refine zr_goto zSm 19 67 rfl rfl ?_
      refine zr_vret zSm 36 rfl rfl ?_
      exact h
  · have h := h.2 q1
    refine zr_aload_n zSm 3 rfl rfl ?_
    refine zr_inv0 4 9 0 [] rfl rfl zk_1_41 zms_9 rfl ⟨_, _, _, _, rfl, rfl⟩ (Nat.le_of_ble_eq_true rfl) ?_
    refine zcv h (fun I7 J7 D7 h => ?_)
    refine zr_vret zSm 5 rfl rfl ?_
    exact h

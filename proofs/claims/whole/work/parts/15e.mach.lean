/-! ===== written by wip/whole/lay15.py: walks, a formula each ===== -/
theorem w_43 {RO : zRo} {d : Nat} {P : zP} {I : zI} {J : zJ} {D : zD} {bc bs : Nat} {p0 p1 p2 : Int32} (h : zw RO (d + 2) 43 P 37 [(0, .ref 24), (1, .int p0), (2, .int p1), (3, .int p2), (4, .int p0), (5, .int (zv_3 (zu (zu (zu (zu I 24 7 p1) 24 8 p2) 24 5 0) 24 6 0) J p0)), (6, .int 0)] [] (zu (zu (zu (zu I 24 7 p1) 24 8 p2) 24 5 0) 24 6 0) J D bc bs) : zz RO (d + 3) 43 [.ref 24, .int p0, .int p1, .int p2] I J D bc bs P := by
  refine zT_of (Nat.le_of_ble_eq_true rfl) rfl ?_
  show zw RO (d + 2) 43 P 0 [(0, .ref 24), (1, .int p0), (2, .int p1), (3, .int p2)] [] I J D bc bs
  refine zr_aload_n zSm 0 rfl rfl ?_
  refine zr_iload_n zSm 1 rfl rfl ?_
  refine zr_putI zSm 2 rfl zf_3_31 rfl rfl (by decide) zp_3_7 ?_
  refine zr_aload_n zSm 3 rfl rfl ?_
  refine zr_iload_n zSm 4 rfl rfl ?_
  refine zr_putI zSm 5 rfl zf_3_35 rfl rfl (by decide) zp_3_8 ?_
  refine zr_aload_n zSm 6 rfl rfl ?_
  refine zr_s zSm 7 rfl rfl ?_
  refine zr_putI zSm 8 rfl zf_3_38 rfl rfl (by decide) zp_3_5 ?_
  refine zr_aload_n zSm 9 rfl rfl ?_
  refine zr_s zSm 10 rfl rfl ?_
  refine zr_putI zSm 11 rfl zf_3_41 rfl rfl (by decide) zp_3_6 ?_
  refine zr_iload_n zSm 12 rfl rfl ?_
  refine zr_istore zSm 13 (ll' := [(4, .int p0), (0, .ref 24), (1, .int p0), (2, .int p1), (3, .int p2)]) rfl (by decide) rfl ?_
  refine zr_aload_n zSm 14 rfl rfl ?_
  refine zr_getR zSm 15 rfl zf_3_9 rfl rfl (by decide) ?_
  refine zr_iload zSm 16 rfl rfl ?_
  refine zr_inv0 17 3 1 [.int p0] rfl rfl zk_3_44 zms_3 rfl ⟨_, _, _, _, rfl, rfl⟩ (Nat.le_of_ble_eq_true rfl) ?_
  refine ze_3 ?_
  refine zNx_i ?_
  refine zr_istore zSm 18 (ll' := [(5, .int (zv_3 (zu (zu (zu (zu I 24 7 p1) 24 8 p2) 24 5 0) 24 6 0) J p0)), (4, .int p0), (0, .ref 24), (1, .int p0), (2, .int p1), (3, .int p2)]) rfl (by decide) rfl ?_
  refine zr_s zSm 19 rfl rfl ?_
  refine zr_istore zSm 20 (ll' := [(6, .int 0), (5, .int (zv_3 (zu (zu (zu (zu I 24 7 p1) 24 8 p2) 24 5 0) 24 6 0) J p0)), (4, .int p0), (0, .ref 24), (1, .int p0), (2, .int p1), (3, .int p2)]) rfl (by decide) rfl ?_
  refine zr_sub [3, 4, 5, 6, 2, 1, 0] rfl ?_
  exact h
theorem wl_43_37 {RO : zRo} {d : Nat} {P : zP} {I : zI} {J : zJ} {D : zD} {bc bs : Nat} {l1 l2 l3 l4 l5 l6 : Int32} (h : ((1000000 ≤ l6 → (zz RO (d + 2) 48 [.ref 24] I J D 0 0 (zNl P fun v1 I1 J1 D1 => P (.inl (some (.long v1))) I1 J1 D1))) ∧ (¬ (1000000 ≤ l6) → ((l5 = 54 → (zz RO (d + 2) 48 [.ref 24] I J D 0 0 (zNl P fun v2 I2 J2 D2 => P (.inl (some (.long v2))) I2 J2 D2))) ∧ (¬ (l5 = 54) → (((zv_44 I J l5) = 0 → (((zv_45 I J l5) = 0 → (((zv_46 I J l5) = 0 → ((l5 = 16 → (zz RO (d + 2) 48 [.ref 24] I J D 0 0 (zNl P fun v3 I3 J3 D3 => (zz RO (d + 2) 56 [.ref 24, .int l5, .int (zv_50 I J (zv_4 I J l4)), .long v3] I3 J3 D3 0 0 (zNv P fun I4 J4 D4 => zw RO (d + 2) 43 P 37 [(0, .ref 24), (1, .int l1), (2, .int l2), (3, .int l3), (4, .int (l4 + 1)), (5, .int (zv_3 I4 J4 (l4 + 1))), (6, .int (l6 + 1))] [] I4 J4 D4 bc bs))))) ∧ (¬ (l5 = 16) → ((¬ l5 = 17 → ((¬ l5 = 53 → (zz RO (d + 2) 55 [.ref 24, .int l5, .int (zv_4 I J l4), .int (l4 + 1)] I J D 0 0 (zNi P fun v5 I5 J5 D5 => zw RO (d + 2) 43 P 37 [(0, .ref 24), (1, .int l1), (2, .int l2), (3, .int l3), (4, .int v5), (5, .int (zv_3 I5 J5 v5)), (6, .int (l6 + 1))] [] I5 J5 D5 bc bs))) ∧ (¬ (¬ l5 = 53) → (zz RO (d + 2) 58 [.ref 24] I J D 0 0 (zNi P fun v6 I6 J6 D6 => ((v6 = 0 → zw RO (d + 2) 43 P 37 [(0, .ref 24), (1, .int l1), (2, .int l2), (3, .int l3), (4, .int (l4 + 1)), (5, .int (zv_3 I6 J6 (l4 + 1))), (6, .int (l6 + 1))] [] I6 J6 D6 bc bs) ∧ (¬ (v6 = 0) → zw RO (d + 2) 43 P 37 [(0, .ref 24), (1, .int l1), (2, .int l2), (3, .int l3), (4, .int (zv_4 I J l4)), (5, .int (zv_3 I6 J6 (zv_4 I J l4))), (6, .int (l6 + 1))] [] I6 J6 D6 bc bs))))))) ∧ (¬ (¬ l5 = 17) → (zz RO (d + 2) 48 [.ref 24] I J D 0 0 (zNl P fun v7 I7 J7 D7 => (zz RO (d + 2) 56 [.ref 24, .int l5, .int (zv_50 I J (zv_4 I J l4)), .long v7] I7 J7 D7 0 0 (zNv P fun I8 J8 D8 => zw RO (d + 2) 43 P 37 [(0, .ref 24), (1, .int l1), (2, .int l2), (3, .int l3), (4, .int (l4 + 1)), (5, .int (zv_3 I8 J8 (l4 + 1))), (6, .int (l6 + 1))] [] I8 J8 D8 bc bs))))))))) ∧ (¬ ((zv_46 I J l5) = 0) → (zz RO (d + 2) 48 [.ref 24] I J D 0 0 (zNl P fun v9 I9 J9 D9 => (zz RO (d + 2) 48 [.ref 24] I9 J9 D9 0 0 (zNl P fun v10 I10 J10 D10 => (zz RO (d + 2) 47 [.ref 24, .long (zv_53 I10 J10 l5 v10 v9)] I10 J10 D10 0 0 (zNv P fun I11 J11 D11 => zw RO (d + 2) 43 P 37 [(0, .ref 24), (1, .int l1), (2, .int l2), (3, .int l3), (4, .int (l4 + 1)), (5, .int (zv_3 I11 J11 (l4 + 1))), (6, .int (l6 + 1))] [] I11 J11 D11 bc bs))))))))) ∧ (¬ ((zv_45 I J l5) = 0) → (zz RO (d + 2) 48 [.ref 24] I J D 0 0 (zNl P fun v12 I12 J12 D12 => (zz RO (d + 2) 51 [.ref 24, .int l5, .long v12] I12 J12 D12 0 0 (zNl P fun v13 I13 J13 D13 => (zz RO (d + 2) 47 [.ref 24, .long v13] I13 J13 D13 0 0 (zNv P fun I14 J14 D14 => zw RO (d + 2) 43 P 37 [(0, .ref 24), (1, .int l1), (2, .int l2), (3, .int l3), (4, .int (l4 + 1)), (5, .int (zv_3 I14 J14 (l4 + 1))), (6, .int (l6 + 1))] [] I14 J14 D14 bc bs))))))))) ∧ (¬ ((zv_44 I J l5) = 0) → (zz RO (d + 2) 47 [.ref 24, .long (zv_49 I J l5 (zv_4 I J l4))] I J D 0 0 (zNv P fun I15 J15 D15 => zw RO (d + 2) 43 P 37 [(0, .ref 24), (1, .int l1), (2, .int l2), (3, .int l3), (4, .int (l4 + 1)), (5, .int (zv_3 I15 J15 (l4 + 1))), (6, .int (l6 + 1))] [] I15 J15 D15 bc bs))))))))) : zw RO (d + 2) 43 P 37 [(0, .ref 24), (1, .int l1), (2, .int l2), (3, .int l3), (4, .int l4), (5, .int l5), (6, .int l6)] [] I J D bc bs := by
  refine zr_iload zSm 21 rfl rfl ?_
  refine zr_ldc zSm 22 rfl zc_3_50 ?_
  refine zr_ic zSm 23 233 rfl rfl (fun q1 => ?_) (fun q1 => ?_)
  · have h := h.1 q1
    refine zr_aload_n zSm 107 rfl rfl ?_
    refine zr_inv0 108 48 0 [] rfl rfl zk_3_69 zms_48 rfl ⟨_, _, _, _, rfl, rfl⟩ (Nat.le_of_ble_eq_true rfl) ?_
    refine zcl h (fun v1 I1 J1 D1 h => ?_)
    refine zr_lret zSm 109 rfl rfl ?_
    exact h
  · have h := h.2 q1
    refine zr_iload zSm 24 rfl rfl ?_
    refine zr_bipush zSm 25 54 rfl rfl ?_
    refine zr_ic zSm 26 233 rfl rfl (fun q2 => ?_) (fun q2 => ?_)
    · have h := h.1 q2
      refine zr_aload_n zSm 107 rfl rfl ?_
      refine zr_inv0 108 48 0 [] rfl rfl zk_3_69 zms_48 rfl ⟨_, _, _, _, rfl, rfl⟩ (Nat.le_of_ble_eq_true rfl) ?_
      refine zcl h (fun v2 I2 J2 D2 h => ?_)
      refine zr_lret zSm 109 rfl rfl ?_
      exact h
    · have h := h.2 q2
      refine zr_aload_n zSm 27 rfl rfl ?_
      refine zr_getR zSm 28 rfl zf_3_9 rfl rfl (by decide) ?_
      refine zr_iload zSm 29 rfl rfl ?_
      refine zr_inv0 30 4 1 [.int l4] rfl rfl zk_3_51 zms_4 rfl ⟨_, _, _, _, rfl, rfl⟩ (Nat.le_of_ble_eq_true rfl) ?_
      refine ze_4 ?_
      refine zNx_i ?_
      refine zr_istore zSm 31 (ll' := [(7, .int (zv_4 I J l4)), (0, .ref 24), (1, .int l1), (2, .int l2), (3, .int l3), (4, .int l4), (5, .int l5), (6, .int l6)]) rfl (by decide) rfl ?_
      refine zr_iinc zSm 32 (v := l4 + 1) (ll' := [(4, .int (l4 + 1)), (7, .int (zv_4 I J l4)), (0, .ref 24), (1, .int l1), (2, .int l2), (3, .int l3), (5, .int l5), (6, .int l6)]) rfl rfl (by decide) rfl rfl ?_
      refine zr_iload zSm 33 rfl rfl ?_
      refine zr_ins0 34 44 1 [.int l5] rfl rfl zk_3_54 zms_44 rfl (Nat.le_of_ble_eq_true rfl) ?_
      refine ze_44 ?_
      refine zNx_i ?_
      refine zr_if zSm 35 88 rfl rfl (fun q3 => ?_) (fun q3 => ?_)
      · have h := h.1 q3
        refine zr_iload zSm 43 rfl rfl ?_
        refine zr_ins0 44 45 1 [.int l5] rfl rfl zk_3_66 zms_45 rfl (Nat.le_of_ble_eq_true rfl) ?_
        refine ze_45 ?_
        refine zNx_i ?_
        refine zr_if zSm 45 113 rfl rfl (fun q4 => ?_) (fun q4 => ?_)
        · have h := h.1 q4
          refine zr_iload zSm 54 rfl rfl ?_
          refine zr_ins0 55 46 1 [.int l5] rfl rfl zk_3_77 zms_46 rfl (Nat.le_of_ble_eq_true rfl) ?_
          refine ze_46 ?_
          refine zNx_i ?_
          refine zr_if zSm 56 145 rfl rfl (fun q5 => ?_) (fun q5 => ?_)
          · have h := h.1 q5
            refine zr_iload zSm 68 rfl rfl ?_
            refine zr_bipush zSm 69 16 rfl rfl ?_
            refine zr_ic zSm 70 159 rfl rfl (fun q6 => ?_) (fun q6 => ?_)
            · have h := h.1 q6
              refine zr_aload_n zSm 74 rfl rfl ?_
              refine zr_iload zSm 75 rfl rfl ?_
              refine zr_aload_n zSm 76 rfl rfl ?_
              refine zr_iload zSm 77 rfl rfl ?_
              refine zr_inv0 78 50 1 [.int (zv_4 I J l4)] rfl rfl zk_3_84 zms_50 rfl ⟨_, _, _, _, rfl, rfl⟩ (Nat.le_of_ble_eq_true rfl) ?_
              refine ze_50 ?_
              refine zNx_i ?_
              refine zr_aload_n zSm 79 rfl rfl ?_
              refine zr_inv0 80 48 0 [] rfl rfl zk_3_69 zms_48 rfl ⟨_, _, _, _, rfl, rfl⟩ (Nat.le_of_ble_eq_true rfl) ?_
              refine zcl h (fun v3 I3 J3 D3 h => ?_)
              refine zr_inv0 81 56 3 [.int l5, .int (zv_50 I J (zv_4 I J l4)), .long v3] rfl rfl zk_3_87 zms_56 rfl ⟨_, _, _, _, rfl, rfl⟩ (Nat.le_of_ble_eq_true rfl) ?_
              refine zcv h (fun I4 J4 D4 h => ?_)
              refine zr_goto zSm 82 216 rfl rfl ?_
              refine zr_aload_n zSm 100 rfl rfl ?_
              refine zr_getR zSm 101 rfl zf_3_9 rfl rfl (by decide) ?_
              refine zr_iload zSm 102 rfl rfl ?_
              refine zr_inv0 103 3 1 [.int (l4 + 1)] rfl rfl zk_3_44 zms_3 rfl ⟨_, _, _, _, rfl, rfl⟩ (Nat.le_of_ble_eq_true rfl) ?_
              refine ze_3 ?_
              refine zNx_i ?_
              refine zr_istore zSm 104 (ll' := [(5, .int (zv_3 I4 J4 (l4 + 1))), (4, .int (l4 + 1)), (7, .int (zv_4 I J l4)), (0, .ref 24), (1, .int l1), (2, .int l2), (3, .int l3), (6, .int l6)]) rfl (by decide) rfl ?_
              refine zr_iinc zSm 105 (v := l6 + 1) (ll' := [(6, .int (l6 + 1)), (5, .int (zv_3 I4 J4 (l4 + 1))), (4, .int (l4 + 1)), (7, .int (zv_4 I J l4)), (0, .ref 24), (1, .int l1), (2, .int l2), (3, .int l3)]) rfl rfl (by decide) rfl rfl ?_
              refine zr_goto zSm 106 37 rfl rfl ?_
              refine zr_sub [4, 5, 6, 7, 2, 1, 0] rfl ?_
              exact h
            · have h := h.2 q6
              refine zr_iload zSm 71 rfl rfl ?_
              refine zr_bipush zSm 72 17 rfl rfl ?_
              refine zr_ic zSm 73 178 rfl rfl (fun q7 => ?_) (fun q7 => ?_)
              · have h := h.1 q7
                refine zr_iload zSm 83 rfl rfl ?_
                refine zr_bipush zSm 84 53 rfl rfl ?_
                refine zr_ic zSm 85 204 rfl rfl (fun q8 => ?_) (fun q8 => ?_)
                · have h := h.1 q8
                  refine zr_aload_n zSm 94 rfl rfl ?_
                  refine zr_iload zSm 95 rfl rfl ?_
                  refine zr_iload zSm 96 rfl rfl ?_
                  refine zr_iload zSm 97 rfl rfl ?_
                  refine zr_inv0 98 55 3 [.int l5, .int (zv_4 I J l4), .int (l4 + 1)] rfl rfl zk_3_95 zms_55 rfl ⟨_, _, _, _, rfl, rfl⟩ (Nat.le_of_ble_eq_true rfl) ?_
                  refine zci h (fun v5 I5 J5 D5 h => ?_)
                  refine zr_istore zSm 99 (ll' := [(4, .int v5), (7, .int (zv_4 I J l4)), (0, .ref 24), (1, .int l1), (2, .int l2), (3, .int l3), (5, .int l5), (6, .int l6)]) rfl (by decide) rfl ?_
                  refine zr_aload_n zSm 100 rfl rfl ?_
                  refine zr_getR zSm 101 rfl zf_3_9 rfl rfl (by decide) ?_
                  refine zr_iload zSm 102 rfl rfl ?_
                  refine zr_inv0 103 3 1 [.int v5] rfl rfl zk_3_44 zms_3 rfl ⟨_, _, _, _, rfl, rfl⟩ (Nat.le_of_ble_eq_true rfl) ?_
                  refine ze_3 ?_
                  refine zNx_i ?_
                  refine zr_istore zSm 104 (ll' := [(5, .int (zv_3 I5 J5 v5)), (4, .int v5), (7, .int (zv_4 I J l4)), (0, .ref 24), (1, .int l1), (2, .int l2), (3, .int l3), (6, .int l6)]) rfl (by decide) rfl ?_
                  refine zr_iinc zSm 105 (v := l6 + 1) (ll' := [(6, .int (l6 + 1)), (5, .int (zv_3 I5 J5 v5)), (4, .int v5), (7, .int (zv_4 I J l4)), (0, .ref 24), (1, .int l1), (2, .int l2), (3, .int l3)]) rfl rfl (by decide) rfl rfl ?_
                  refine zr_goto zSm 106 37 rfl rfl ?_
                  refine zr_sub [4, 5, 6, 7, 2, 1, 0] rfl ?_
                  exact h
                · have h := h.2 q8
                  refine zr_aload_n zSm 86 rfl rfl ?_
                  refine zr_inv0 87 58 0 [] rfl rfl zk_3_91 zms_58 rfl ⟨_, _, _, _, rfl, rfl⟩ (Nat.le_of_ble_eq_true rfl) ?_
                  refine zci h (fun v6 I6 J6 D6 h => ?_)
                  refine zr_if zSm 88 197 rfl rfl (fun q9 => ?_) (fun q9 => ?_)
                  · have h := h.1 q9
                    refine zr_iload zSm 91 rfl rfl ?_
                    refine zr_istore zSm 92 (ll' := [(4, .int (l4 + 1)), (7, .int (zv_4 I J l4)), (0, .ref 24), (1, .int l1), (2, .int l2), (3, .int l3), (5, .int l5), (6, .int l6)]) rfl (by decide) rfl ?_
                    refine zr_goto zSm 93 216 rfl rfl ?_
                    refine zr_aload_n zSm 100 rfl rfl ?_
                    refine zr_getR zSm 101 rfl zf_3_9 rfl rfl (by decide) ?_
                    refine zr_iload zSm 102 rfl rfl ?_
                    refine zr_inv0 103 3 1 [.int (l4 + 1)] rfl rfl zk_3_44 zms_3 rfl ⟨_, _, _, _, rfl, rfl⟩ (Nat.le_of_ble_eq_true rfl) ?_
                    refine ze_3 ?_
                    refine zNx_i ?_
                    refine zr_istore zSm 104 (ll' := [(5, .int (zv_3 I6 J6 (l4 + 1))), (4, .int (l4 + 1)), (7, .int (zv_4 I J l4)), (0, .ref 24), (1, .int l1), (2, .int l2), (3, .int l3), (6, .int l6)]) rfl (by decide) rfl ?_
                    refine zr_iinc zSm 105 (v := l6 + 1) (ll' := [(6, .int (l6 + 1)), (5, .int (zv_3 I6 J6 (l4 + 1))), (4, .int (l4 + 1)), (7, .int (zv_4 I J l4)), (0, .ref 24), (1, .int l1), (2, .int l2), (3, .int l3)]) rfl rfl (by decide) rfl rfl ?_
                    refine zr_goto zSm 106 37 rfl rfl ?_
                    refine zr_sub [4, 5, 6, 7, 2, 1, 0] rfl ?_
                    exact h
                  · have h := h.2 q9
                    refine zr_iload zSm 89 rfl rfl ?_
                    refine zr_goto zSm 90 199 rfl rfl ?_
                    refine zr_istore zSm 92 (ll' := [(4, .int (zv_4 I J l4)), (7, .int (zv_4 I J l4)), (0, .ref 24), (1, .int l1), (2, .int l2), (3, .int l3), (5, .int l5), (6, .int l6)]) rfl (by decide) rfl ?_
                    refine zr_goto zSm 93 216 rfl rfl ?_
                    refine zr_aload_n zSm 100 rfl rfl ?_
                    refine zr_getR zSm 101 rfl zf_3_9 rfl rfl (by decide) ?_
                    refine zr_iload zSm 102 rfl rfl ?_
                    refine zr_inv0 103 3 1 [.int (zv_4 I J l4)] rfl rfl zk_3_44 zms_3 rfl ⟨_, _, _, _, rfl, rfl⟩ (Nat.le_of_ble_eq_true rfl) ?_
                    refine ze_3 ?_
                    refine zNx_i ?_
                    refine zr_istore zSm 104 (ll' := [(5, .int (zv_3 I6 J6 (zv_4 I J l4))), (4, .int (zv_4 I J l4)), (7, .int (zv_4 I J l4)), (0, .ref 24), (1, .int l1), (2, .int l2), (3, .int l3), (6, .int l6)]) rfl (by decide) rfl ?_
                    refine zr_iinc zSm 105 (v := l6 + 1) (ll' := [(6, .int (l6 + 1)), (5, .int (zv_3 I6 J6 (zv_4 I J l4))), (4, .int (zv_4 I J l4)), (7, .int (zv_4 I J l4)), (0, .ref 24), (1, .int l1), (2, .int l2), (3, .int l3)]) rfl rfl (by decide) rfl rfl ?_
                    refine zr_goto zSm 106 37 rfl rfl ?_
                    refine zr_sub [4, 5, 6, 7, 2, 1, 0] rfl ?_
                    exact h
              · have h := h.2 q7
                refine zr_aload_n zSm 74 rfl rfl ?_
                refine zr_iload zSm 75 rfl rfl ?_
                refine zr_aload_n zSm 76 rfl rfl ?_
                refine zr_iload zSm 77 rfl rfl ?_
                refine zr_inv0 78 50 1 [.int (zv_4 I J l4)] rfl rfl zk_3_84 zms_50 rfl ⟨_, _, _, _, rfl, rfl⟩ (Nat.le_of_ble_eq_true rfl) ?_
                refine ze_50 ?_
                refine zNx_i ?_
                refine zr_aload_n zSm 79 rfl rfl ?_
                refine zr_inv0 80 48 0 [] rfl rfl zk_3_69 zms_48 rfl ⟨_, _, _, _, rfl, rfl⟩ (Nat.le_of_ble_eq_true rfl) ?_
                refine zcl h (fun v7 I7 J7 D7 h => ?_)
                refine zr_inv0 81 56 3 [.int l5, .int (zv_50 I J (zv_4 I J l4)), .long v7] rfl rfl zk_3_87 zms_56 rfl ⟨_, _, _, _, rfl, rfl⟩ (Nat.le_of_ble_eq_true rfl) ?_
                refine zcv h (fun I8 J8 D8 h => ?_)
                refine zr_goto zSm 82 216 rfl rfl ?_
                refine zr_aload_n zSm 100 rfl rfl ?_
                refine zr_getR zSm 101 rfl zf_3_9 rfl rfl (by decide) ?_
                refine zr_iload zSm 102 rfl rfl ?_
                refine zr_inv0 103 3 1 [.int (l4 + 1)] rfl rfl zk_3_44 zms_3 rfl ⟨_, _, _, _, rfl, rfl⟩ (Nat.le_of_ble_eq_true rfl) ?_
                refine ze_3 ?_
                refine zNx_i ?_
                refine zr_istore zSm 104 (ll' := [(5, .int (zv_3 I8 J8 (l4 + 1))), (4, .int (l4 + 1)), (7, .int (zv_4 I J l4)), (0, .ref 24), (1, .int l1), (2, .int l2), (3, .int l3), (6, .int l6)]) rfl (by decide) rfl ?_
                refine zr_iinc zSm 105 (v := l6 + 1) (ll' := [(6, .int (l6 + 1)), (5, .int (zv_3 I8 J8 (l4 + 1))), (4, .int (l4 + 1)), (7, .int (zv_4 I J l4)), (0, .ref 24), (1, .int l1), (2, .int l2), (3, .int l3)]) rfl rfl (by decide) rfl rfl ?_
                refine zr_goto zSm 106 37 rfl rfl ?_
                refine zr_sub [4, 5, 6, 7, 2, 1, 0] rfl ?_
                exact h
          · have h := h.2 q5
            refine zr_aload_n zSm 57 rfl rfl ?_
            refine zr_inv0 58 48 0 [] rfl rfl zk_3_69 zms_48 rfl ⟨_, _, _, _, rfl, rfl⟩ (Nat.le_of_ble_eq_true rfl) ?_
            refine zcl h (fun v9 I9 J9 D9 h => ?_)
            refine zr_lstore zSm 59 (ll' := [(8, .long v9), (4, .int (l4 + 1)), (7, .int (zv_4 I J l4)), (0, .ref 24), (1, .int l1), (2, .int l2), (3, .int l3), (5, .int l5), (6, .int l6)]) rfl (by decide) rfl ?_
            refine zr_aload_n zSm 60 rfl rfl ?_
            refine zr_iload zSm 61 rfl rfl ?_
            refine zr_aload_n zSm 62 rfl rfl ?_
            refine zr_inv0 63 48 0 [] rfl rfl zk_3_69 zms_48 rfl ⟨_, _, _, _, rfl, rfl⟩ (Nat.le_of_ble_eq_true rfl) ?_
            refine zcl h (fun v10 I10 J10 D10 h => ?_)
            refine zr_lload zSm 64 rfl rfl ?_
            refine zr_ins0 65 53 3 [.int l5, .long v10, .long v9] rfl rfl zk_3_80 zms_53 rfl (Nat.le_of_ble_eq_true rfl) ?_
            refine ze_53 ?_
            refine zNx_l ?_
            refine zr_inv0 66 47 1 [.long (zv_53 I10 J10 l5 v10 v9)] rfl rfl zk_3_62 zms_47 rfl ⟨_, _, _, _, rfl, rfl⟩ (Nat.le_of_ble_eq_true rfl) ?_
            refine zcv h (fun I11 J11 D11 h => ?_)
            refine zr_goto zSm 67 216 rfl rfl ?_
            refine zr_aload_n zSm 100 rfl rfl ?_
            refine zr_getR zSm 101 rfl zf_3_9 rfl rfl (by decide) ?_
            refine zr_iload zSm 102 rfl rfl ?_
            refine zr_inv0 103 3 1 [.int (l4 + 1)] rfl rfl zk_3_44 zms_3 rfl ⟨_, _, _, _, rfl, rfl⟩ (Nat.le_of_ble_eq_true rfl) ?_
            refine ze_3 ?_
            refine zNx_i ?_
            refine zr_istore zSm 104 (ll' := [(5, .int (zv_3 I11 J11 (l4 + 1))), (8, .long v9), (4, .int (l4 + 1)), (7, .int (zv_4 I J l4)), (0, .ref 24), (1, .int l1), (2, .int l2), (3, .int l3), (6, .int l6)]) rfl (by decide) rfl ?_
            refine zr_iinc zSm 105 (v := l6 + 1) (ll' := [(6, .int (l6 + 1)), (5, .int (zv_3 I11 J11 (l4 + 1))), (8, .long v9), (4, .int (l4 + 1)), (7, .int (zv_4 I J l4)), (0, .ref 24), (1, .int l1), (2, .int l2), (3, .int l3)]) rfl rfl (by decide) rfl rfl ?_
            refine zr_goto zSm 106 37 rfl rfl ?_
            refine zr_sub [5, 6, 7, 8, 3, 1, 0] rfl ?_
            exact h
        · have h := h.2 q4
          refine zr_aload_n zSm 46 rfl rfl ?_
          refine zr_aload_n zSm 47 rfl rfl ?_
          refine zr_iload zSm 48 rfl rfl ?_
          refine zr_aload_n zSm 49 rfl rfl ?_
          refine zr_inv0 50 48 0 [] rfl rfl zk_3_69 zms_48 rfl ⟨_, _, _, _, rfl, rfl⟩ (Nat.le_of_ble_eq_true rfl) ?_
          refine zcl h (fun v12 I12 J12 D12 h => ?_)
          refine zr_inv0 51 51 2 [.int l5, .long v12] rfl rfl zk_3_73 zms_51 rfl ⟨_, _, _, _, rfl, rfl⟩ (Nat.le_of_ble_eq_true rfl) ?_
          refine zcl h (fun v13 I13 J13 D13 h => ?_)
          refine zr_inv0 52 47 1 [.long v13] rfl rfl zk_3_62 zms_47 rfl ⟨_, _, _, _, rfl, rfl⟩ (Nat.le_of_ble_eq_true rfl) ?_
          refine zcv h (fun I14 J14 D14 h => ?_)
          refine zr_goto zSm 53 216 rfl rfl ?_
          refine zr_aload_n zSm 100 rfl rfl ?_
          refine zr_getR zSm 101 rfl zf_3_9 rfl rfl (by decide) ?_
          refine zr_iload zSm 102 rfl rfl ?_
          refine zr_inv0 103 3 1 [.int (l4 + 1)] rfl rfl zk_3_44 zms_3 rfl ⟨_, _, _, _, rfl, rfl⟩ (Nat.le_of_ble_eq_true rfl) ?_
          refine ze_3 ?_
          refine zNx_i ?_
          refine zr_istore zSm 104 (ll' := [(5, .int (zv_3 I14 J14 (l4 + 1))), (4, .int (l4 + 1)), (7, .int (zv_4 I J l4)), (0, .ref 24), (1, .int l1), (2, .int l2), (3, .int l3), (6, .int l6)]) rfl (by decide) rfl ?_
          refine zr_iinc zSm 105 (v := l6 + 1) (ll' := [(6, .int (l6 + 1)), (5, .int (zv_3 I14 J14 (l4 + 1))), (4, .int (l4 + 1)), (7, .int (zv_4 I J l4)), (0, .ref 24), (1, .int l1), (2, .int l2), (3, .int l3)]) rfl rfl (by decide) rfl rfl ?_
          refine zr_goto zSm 106 37 rfl rfl ?_
          refine zr_sub [4, 5, 6, 7, 2, 1, 0] rfl ?_
          exact h
      · have h := h.2 q3
        refine zr_aload_n zSm 36 rfl rfl ?_
        refine zr_aload_n zSm 37 rfl rfl ?_
        refine zr_iload zSm 38 rfl rfl ?_
        refine zr_iload zSm 39 rfl rfl ?_
        refine zr_inv0 40 49 2 [.int l5, .int (zv_4 I J l4)] rfl rfl zk_3_58 zms_49 rfl ⟨_, _, _, _, rfl, rfl⟩ (Nat.le_of_ble_eq_true rfl) ?_
        refine ze_49 ?_
        refine zNx_l ?_
        refine zr_inv0 41 47 1 [.long (zv_49 I J l5 (zv_4 I J l4))] rfl rfl zk_3_62 zms_47 rfl ⟨_, _, _, _, rfl, rfl⟩ (Nat.le_of_ble_eq_true rfl) ?_
        refine zcv h (fun I15 J15 D15 h => ?_)
        refine zr_goto zSm 42 216 rfl rfl ?_
        refine zr_aload_n zSm 100 rfl rfl ?_
        refine zr_getR zSm 101 rfl zf_3_9 rfl rfl (by decide) ?_
        refine zr_iload zSm 102 rfl rfl ?_
        refine zr_inv0 103 3 1 [.int (l4 + 1)] rfl rfl zk_3_44 zms_3 rfl ⟨_, _, _, _, rfl, rfl⟩ (Nat.le_of_ble_eq_true rfl) ?_
        refine ze_3 ?_
        refine zNx_i ?_
        refine zr_istore zSm 104 (ll' := [(5, .int (zv_3 I15 J15 (l4 + 1))), (4, .int (l4 + 1)), (7, .int (zv_4 I J l4)), (0, .ref 24), (1, .int l1), (2, .int l2), (3, .int l3), (6, .int l6)]) rfl (by decide) rfl ?_
        refine zr_iinc zSm 105 (v := l6 + 1) (ll' := [(6, .int (l6 + 1)), (5, .int (zv_3 I15 J15 (l4 + 1))), (4, .int (l4 + 1)), (7, .int (zv_4 I J l4)), (0, .ref 24), (1, .int l1), (2, .int l2), (3, .int l3)]) rfl rfl (by decide) rfl rfl ?_
        refine zr_goto zSm 106 37 rfl rfl ?_
        refine zr_sub [4, 5, 6, 7, 2, 1, 0] rfl ?_
        exact h
theorem w_47 {RO : zRo} {d : Nat} {P : zP} {I : zI} {J : zJ} {D : zD} {bc bs : Nat} {p0 : Int64} (h : (((I 24 5) < 0 → P (.inl none) I J D) ∧ (¬ ((I 24 5) < 0) → ((64 ≤ (I 24 5) → P (.inl none) I J D) ∧ (¬ (64 ≤ (I 24 5)) → P (.inl none) (zu I 24 5 ((I 24 5) + 1)) (zu J 25 ((I 24 5).toNatClampNeg) p0) D))))) : zz RO (d + 1) 47 [.ref 24, .long p0] I J D bc bs P := by
  refine zT_of (Nat.le_of_ble_eq_true rfl) rfl ?_
  show zw RO d 47 P 0 [(0, .ref 24), (1, .long p0)] [] I J D bc bs
  refine zr_aload_n zSm 0 rfl rfl ?_
  refine zr_getI zSm 1 rfl zf_3_38 rfl rfl (by decide) ?_
  refine zr_if zSm 2 39 rfl rfl (fun q1 => ?_) (fun q1 => ?_)
  · have h := h.1 q1
    refine zr_vret zSm 21 rfl rfl ?_
    exact h
  · have h := h.2 q1
    refine zr_aload_n zSm 3 rfl rfl ?_
    refine zr_getI zSm 4 rfl zf_3_38 rfl rfl (by decide) ?_
    refine zr_aload_n zSm 5 rfl rfl ?_
    refine zr_getR zSm 6 rfl zf_3_23 rfl rfl (by decide) ?_
    refine zr_alen zSm 7 64 rfl rfl rfl ?_
    refine zr_ic zSm 8 39 rfl rfl (fun q2 => ?_) (fun q2 => ?_)
    · have h := h.1 q2
      refine zr_vret zSm 21 rfl rfl ?_
      exact h
    · have h := h.2 q2
      refine zr_aload_n zSm 9 rfl rfl ?_
      refine zr_getR zSm 10 rfl zf_3_23 rfl rfl (by decide) ?_
      refine zr_aload_n zSm 11 rfl rfl ?_
      refine zr_getI zSm 12 rfl zf_3_38 rfl rfl (by decide) ?_
      refine zr_lload_n zSm 13 rfl rfl ?_
      refine zr_last zSm 14 rfl rfl (zin (zlo1 q1) (zhi1 q2) (by decide)) ?_
      refine zr_aload_n zSm 15 rfl rfl ?_
      refine zr_s zSm 16 rfl rfl ?_
      refine zr_getI zSm 17 rfl zf_3_38 rfl rfl (by decide) ?_
      refine zr_s zSm 18 rfl rfl ?_
      refine zr_s zSm 19 rfl rfl ?_
      refine zr_putI zSm 20 rfl zf_3_38 rfl rfl (by decide) zp_3_5 ?_
      refine zr_vret zSm 21 rfl rfl ?_
      exact h
theorem w_48 {RO : zRo} {d : Nat} {P : zP} {I : zI} {J : zJ} {D : zD} {bc bs : Nat}  (h : (((I 24 5) < 1 → P (.inl (some (.long 0))) I J D) ∧ (¬ ((I 24 5) < 1) → (((I 24 5) ≤ 64 → (vp_in ((I 24 5) - 1) 64 ∧ P (.inl (some (.long (J 25 (((I 24 5) - 1).toNatClampNeg))))) (zu I 24 5 ((I 24 5) - 1)) J D)) ∧ (¬ ((I 24 5) ≤ 64) → P (.inl (some (.long 0))) I J D))))) : zz RO (d + 1) 48 [.ref 24] I J D bc bs P := by
  refine zT_of (Nat.le_of_ble_eq_true rfl) rfl ?_
  show zw RO d 48 P 0 [(0, .ref 24)] [] I J D bc bs
  refine zr_aload_n zSm 0 rfl rfl ?_
  refine zr_getI zSm 1 rfl zf_3_38 rfl rfl (by decide) ?_
  refine zr_s zSm 2 rfl rfl ?_
  refine zr_ic zSm 3 20 rfl rfl (fun q1 => ?_) (fun q1 => ?_)
  · have h := h.1 q1
    refine zr_s zSm 10 rfl rfl ?_
    refine zr_lret zSm 11 rfl rfl ?_
    exact h
  · have h := h.2 q1
    refine zr_aload_n zSm 4 rfl rfl ?_
    refine zr_getI zSm 5 rfl zf_3_38 rfl rfl (by decide) ?_
    refine zr_aload_n zSm 6 rfl rfl ?_
    refine zr_getR zSm 7 rfl zf_3_23 rfl rfl (by decide) ?_
    refine zr_alen zSm 8 64 rfl rfl rfl ?_
    refine zr_ic zSm 9 22 rfl rfl (fun q2 => ?_) (fun q2 => ?_)
    · have h := h.1 q2
      refine zr_aload_n zSm 12 rfl rfl ?_
      refine zr_s zSm 13 rfl rfl ?_
      refine zr_getI zSm 14 rfl zf_3_38 rfl rfl (by decide) ?_
      refine zr_s zSm 15 rfl rfl ?_
      refine zr_s zSm 16 rfl rfl ?_
      refine zr_putI zSm 17 rfl zf_3_38 rfl rfl (by decide) zp_3_5 ?_
      refine zr_aload_n zSm 18 rfl rfl ?_
      refine zr_getR zSm 19 rfl zf_3_23 rfl rfl (by decide) ?_
      refine zr_aload_n zSm 20 rfl rfl ?_
      refine zr_getI zSm 21 rfl zf_3_38 rfl rfl (by decide) ?_
      obtain ⟨b22, h⟩ := h
      refine zr_lald zSm 22 rfl rfl b22 ?_
      refine zr_lret zSm 23 rfl rfl ?_
      exact h
    · have h := h.2 q2
      refine zr_s zSm 10 rfl rfl ?_
      refine zr_lret zSm 11 rfl rfl ?_
      exact h
theorem w_51 {RO : zRo} {d : Nat} {P : zP} {I : zI} {J : zJ} {D : zD} {bc bs : Nat} {p0 : Int32} {p1 : Int64} (h : ((p0 = 35 → ((¬ p1 = 0 → P (.inl (some (.long 0))) I J D) ∧ (¬ (¬ p1 = 0) → P (.inl (some (.long 1))) I J D))) ∧ (¬ (p0 = 35) → ((p0 = 52 → P (.inl (some (.long (-p1)))) I J D) ∧ (¬ (p0 = 52) → (zz RO d 52 [.ref 24, .long p1] I J D 0 0 (zNl P fun v1 I1 J1 D1 => P (.inl (some (.long v1))) I1 J1 D1))))))) : zz RO (d + 1) 51 [.ref 24, .int p0, .long p1] I J D bc bs P := by
  refine zT_of (Nat.le_of_ble_eq_true rfl) rfl ?_
  show zw RO d 51 P 0 [(0, .ref 24), (1, .int p0), (2, .long p1)] [] I J D bc bs
  refine zr_iload_n zSm 0 rfl rfl ?_
  by_cases q1 : p0 = 35
  · have h := h.1 q1
    refine zr_lsG 1 31 [35] rfl (by simp only [List.mem_cons, List.not_mem_nil, or_false]; exact q1) (by decide) (by decide) ?_
    refine zr_lload_n zSm 5 rfl rfl ?_
    refine zr_s zSm 6 rfl rfl ?_
    refine zr_s zSm 7 rfl rfl ?_
    refine zr_if zSm 8 41 rfl rfl (fun q2 => ?_) (fun q2 => ?_)
    · have q2 := zq_ne.mp q2
      have h := h.1 q2
      refine zr_s zSm 11 rfl rfl ?_
      refine zr_lret zSm 12 rfl rfl ?_
      exact h
    · have q2 := (fun z => q2 (zq_ne.mpr z))
      have h := h.2 q2
      refine zr_s zSm 9 rfl rfl ?_
      refine zr_goto zSm 10 42 rfl rfl ?_
      refine zr_lret zSm 12 rfl rfl ?_
      exact h
  · have h := h.2 q1
    by_cases q3 : p0 = 52
    · have h := h.1 q3
      refine zr_lsG 1 28 [52] rfl (by simp only [List.mem_cons, List.not_mem_nil, or_false]; exact q3) (by decide) (by decide) ?_
      refine zr_lload_n zSm 2 rfl rfl ?_
      refine zr_s zSm 3 rfl rfl ?_
      refine zr_lret zSm 4 rfl rfl ?_
      exact h
    · have h := h.2 q3
      refine zr_lsD 1 43 [35, 52] rfl ?_ (by decide) (by decide) rfl ?_
      · intro hx
        simp only [List.mem_cons, List.not_mem_nil, or_false] at hx
        rcases hx with e | e
        · exact q1 e
        · exact q3 e
      · refine zr_aload_n zSm 13 rfl rfl ?_
        refine zr_lload_n zSm 14 rfl rfl ?_
        refine zr_inv0 15 52 1 [.long p1] rfl rfl zk_3_113 zms_52 rfl ⟨_, _, _, _, rfl, rfl⟩ (Nat.le_of_ble_eq_true rfl) ?_
        refine zcl h (fun v1 I1 J1 D1 h => ?_)
        refine zr_lret zSm 16 rfl rfl ?_
        exact h
theorem w_52 {RO : zRo} {d : Nat} {P : zP} {I : zI} {J : zJ} {D : zD} {bc bs : Nat} {p0 : Int64} (h : ((1 ≤ p0 → ((p0 ≤ 1000 → (¬ p0 = 0 ∧ P (.inl (some (.long (1 + ((((((J 20 9) * 6364136223846793005) + 1442695040888963407).toUInt64 >>> ((33 : Int32).toInt64.toUInt64 &&& Int64.toUInt64 63)).toInt64) - (((((J 20 9) * 6364136223846793005) + 1442695040888963407).toUInt64 >>> ((33 : Int32).toInt64.toUInt64 &&& Int64.toUInt64 63)).toInt64) / p0 * p0))))) I (zu J 20 9 (((J 20 9) * 6364136223846793005) + 1442695040888963407)) D)) ∧ (¬ (p0 ≤ 1000) → P (.inl (some (.long (1 + ((((((J 20 9) * 6364136223846793005) + 1442695040888963407).toUInt64 >>> ((33 : Int32).toInt64.toUInt64 &&& Int64.toUInt64 63)).toInt64) - (((((J 20 9) * 6364136223846793005) + 1442695040888963407).toUInt64 >>> ((33 : Int32).toInt64.toUInt64 &&& Int64.toUInt64 63)).toInt64) / 1000 * 1000))))) I (zu J 20 9 (((J 20 9) * 6364136223846793005) + 1442695040888963407)) D))) ∧ (¬ (1 ≤ p0) → P (.inl (some (.long (1 + ((((((J 20 9) * 6364136223846793005) + 1442695040888963407).toUInt64 >>> ((33 : Int32).toInt64.toUInt64 &&& Int64.toUInt64 63)).toInt64) - (((((J 20 9) * 6364136223846793005) + 1442695040888963407).toUInt64 >>> ((33 : Int32).toInt64.toUInt64 &&& Int64.toUInt64 63)).toInt64) / 1 * 1))))) I (zu J 20 9 (((J 20 9) * 6364136223846793005) + 1442695040888963407)) D))) : zz RO (d + 1) 52 [.ref 24, .long p0] I J D bc bs P := by
  refine zT_of (Nat.le_of_ble_eq_true rfl) rfl ?_
  show zw RO d 52 P 0 [(0, .ref 24), (1, .long p0)] [] I J D bc bs
  refine zr_lload_n zSm 0 rfl rfl ?_
  refine zr_s zSm 1 rfl rfl ?_
  refine zr_s zSm 2 rfl rfl ?_
  refine zr_if zSm 3 10 rfl rfl (fun q1 => ?_) (fun q1 => ?_)
  · have q1 := zq_ge.mp q1
    have h := h.1 q1
    refine zr_lload_n zSm 6 rfl rfl ?_
    refine zr_ldc2 zSm 7 rfl zc_3_117 ?_
    refine zr_s zSm 8 rfl rfl ?_
    refine zr_if zSm 9 24 rfl rfl (fun q2 => ?_) (fun q2 => ?_)
    · have q2 := zq_le.mp q2
      have h := h.1 q2
      refine zr_lload_n zSm 12 rfl rfl ?_
      refine zr_lstore_n zSm 13 (ll' := [(3, .long p0), (0, .ref 24), (1, .long p0)]) rfl (by decide) rfl ?_
      refine zr_aload_n zSm 14 rfl rfl ?_
      refine zr_getR zSm 15 rfl zf_3_19 rfl rfl (by decide) ?_
      refine zr_aload_n zSm 16 rfl rfl ?_
      refine zr_getR zSm 17 rfl zf_3_19 rfl rfl (by decide) ?_
      refine zr_getJ zSm 18 rfl zf_3_119 rfl rfl (by decide) ?_
      refine zr_ldc2 zSm 19 rfl zc_3_123 ?_
      refine zr_s zSm 20 rfl rfl ?_
      refine zr_ldc2 zSm 21 rfl zc_3_125 ?_
      refine zr_s zSm 22 rfl rfl ?_
      refine zr_putJ zSm 23 rfl zf_3_119 rfl rfl (by decide) zp_6_9 ?_
      refine zr_s zSm 24 rfl rfl ?_
      refine zr_aload_n zSm 25 rfl rfl ?_
      refine zr_getR zSm 26 rfl zf_3_19 rfl rfl (by decide) ?_
      refine zr_getJ zSm 27 rfl zf_3_119 rfl rfl (by decide) ?_
      refine zr_bipush zSm 28 33 rfl rfl ?_
      refine zr_s zSm 29 rfl rfl ?_
      refine zr_lload_n zSm 30 rfl rfl ?_
      obtain ⟨b31, h⟩ := h
      refine zr_lrem zSm 31 rfl b31 ?_
      refine zr_s zSm 32 rfl rfl ?_
      refine zr_lret zSm 33 rfl rfl ?_
      exact h
    · have q2 := (fun z => q2 (zq_le.mpr z))
      have h := h.2 q2
      refine zr_ldc2 zSm 10 rfl zc_3_117 ?_
      refine zr_goto zSm 11 25 rfl rfl ?_
      refine zr_lstore_n zSm 13 (ll' := [(3, .long 1000), (0, .ref 24), (1, .long p0)]) rfl (by decide) rfl ?_
      refine zr_aload_n zSm 14 rfl rfl ?_
      refine zr_getR zSm 15 rfl zf_3_19 rfl rfl (by decide) ?_
      refine zr_aload_n zSm 16 rfl rfl ?_
      refine zr_getR zSm 17 rfl zf_3_19 rfl rfl (by decide) ?_
      refine zr_getJ zSm 18 rfl zf_3_119 rfl rfl (by decide) ?_
      refine zr_ldc2 zSm 19 rfl zc_3_123 ?_
      refine zr_s zSm 20 rfl rfl ?_
      refine zr_ldc2 zSm 21 rfl zc_3_125 ?_
      refine zr_s zSm 22 rfl rfl ?_
      refine zr_putJ zSm 23 rfl zf_3_119 rfl rfl (by decide) zp_6_9 ?_
      refine zr_s zSm 24 rfl rfl ?_
      refine zr_aload_n zSm 25 rfl rfl ?_
      refine zr_getR zSm 26 rfl zf_3_19 rfl rfl (by decide) ?_
      refine zr_getJ zSm 27 rfl zf_3_119 rfl rfl (by decide) ?_
      refine zr_bipush zSm 28 33 rfl rfl ?_
      refine zr_s zSm 29 rfl rfl ?_
      refine zr_lload_n zSm 30 rfl rfl ?_
      refine zr_lrem zSm 31 rfl (by decide) ?_
      refine zr_s zSm 32 rfl rfl ?_
      refine zr_lret zSm 33 rfl rfl ?_
      exact h
  · have q1 := (fun z => q1 (zq_ge.mpr z))
    have h := h.2 q1
    refine zr_s zSm 4 rfl rfl ?_
    refine zr_goto zSm 5 25 rfl rfl ?_
    refine zr_lstore_n zSm 13 (ll' := [(3, .long 1), (0, .ref 24), (1, .long p0)]) rfl (by decide) rfl ?_
    refine zr_aload_n zSm 14 rfl rfl ?_
    refine zr_getR zSm 15 rfl zf_3_19 rfl rfl (by decide) ?_
    refine zr_aload_n zSm 16 rfl rfl ?_
    refine zr_getR zSm 17 rfl zf_3_19 rfl rfl (by decide) ?_
    refine zr_getJ zSm 18 rfl zf_3_119 rfl rfl (by decide) ?_
    refine zr_ldc2 zSm 19 rfl zc_3_123 ?_
    refine zr_s zSm 20 rfl rfl ?_
    refine zr_ldc2 zSm 21 rfl zc_3_125 ?_
    refine zr_s zSm 22 rfl rfl ?_
    refine zr_putJ zSm 23 rfl zf_3_119 rfl rfl (by decide) zp_6_9 ?_
    refine zr_s zSm 24 rfl rfl ?_
    refine zr_aload_n zSm 25 rfl rfl ?_
    refine zr_getR zSm 26 rfl zf_3_19 rfl rfl (by decide) ?_
    refine zr_getJ zSm 27 rfl zf_3_119 rfl rfl (by decide) ?_
    refine zr_bipush zSm 28 33 rfl rfl ?_
    refine zr_s zSm 29 rfl rfl ?_
    refine zr_lload_n zSm 30 rfl rfl ?_
    refine zr_lrem zSm 31 rfl (by decide) ?_
    refine zr_s zSm 32 rfl rfl ?_
    refine zr_lret zSm 33 rfl rfl ?_
    exact h
theorem w_55 {RO : zRo} {d : Nat} {P : zP} {I : zI} {J : zJ} {D : zD} {bc bs : Nat} {p0 p1 p2 : Int32} (h : ((p0 = 18 → (zz RO (d + 1) 48 [.ref 24] I J D 0 0 (zNl P fun v1 I1 J1 D1 => ((v1 = 0 → P (.inl (some (.int p1))) I1 J1 D1) ∧ (¬ (v1 = 0) → P (.inl (some (.int p2))) I1 J1 D1))))) ∧ (¬ (p0 = 18) → ((p0 = 20 → P (.inl (some (.int p1))) I J D) ∧ (¬ (p0 = 20) → ((p0 = 21 → (((I 20 3) ≤ 0 → P (.inl (some (.int p2))) (zu I 20 3 0) J D) ∧ (¬ ((I 20 3) ≤ 0) → P (.inl (some (.int p2))) (zu I 20 3 ((I 20 3) - 1)) J D))) ∧ (¬ (p0 = 21) → ((p0 = 22 → P (.inl (some (.int p2))) (zu I 20 8 1) J D) ∧ (¬ (p0 = 22) → ((p0 = 23 → P (.inl (some (.int p2))) (zu I 20 7 1) J D) ∧ (¬ (p0 = 23) → ((p0 = 24 → (zz RO (d + 1) 57 [.ref 24, .int (zv_83 I J (I 24 7))] I J D 0 0 (zNv P fun I2 J2 D2 => P (.inl (some (.int p2))) I2 J2 D2))) ∧ (¬ (p0 = 24) → P (.inl (some (.int p2))) I J D))))))))))))) : zz RO (d + 2) 55 [.ref 24, .int p0, .int p1, .int p2] I J D bc bs P := by
  refine zT_of (Nat.le_of_ble_eq_true rfl) rfl ?_
  show zw RO (d + 1) 55 P 0 [(0, .ref 24), (1, .int p0), (2, .int p1), (3, .int p2)] [] I J D bc bs
  refine zr_iload_n zSm 0 rfl rfl ?_
  by_cases q1 : p0 = 18
  · have h := h.1 q1
    refine zr_tsG 1 44 [18] rfl (by simp only [List.mem_cons, List.not_mem_nil, or_false]; exact q1) (by decide) ?_
    refine zr_aload_n zSm 2 rfl rfl ?_
    refine zr_inv0 3 48 0 [] rfl rfl zk_3_69 zms_48 rfl ⟨_, _, _, _, rfl, rfl⟩ (Nat.le_of_ble_eq_true rfl) ?_
    refine zcl h (fun v1 I1 J1 D1 h => ?_)
    refine zr_s zSm 4 rfl rfl ?_
    refine zr_s zSm 5 rfl rfl ?_
    refine zr_if zSm 6 57 rfl rfl (fun q2 => ?_) (fun q2 => ?_)
    · have q2 := zq_eq.mp q2
      have h := h.1 q2
      refine zr_iload_n zSm 9 rfl rfl ?_
      refine zr_iret zSm 10 rfl rfl rfl ?_
      exact h
    · have q2 := (fun z => q2 (zq_eq.mpr z))
      have h := h.2 q2
      refine zr_iload_n zSm 7 rfl rfl ?_
      refine zr_goto zSm 8 58 rfl rfl ?_
      refine zr_iret zSm 10 rfl rfl rfl ?_
      exact h
  · have h := h.2 q1
    by_cases q3 : p0 = 20
    · have h := h.1 q3
      refine zr_tsG 1 59 [20] rfl (by simp only [List.mem_cons, List.not_mem_nil, or_false]; exact q3) (by decide) ?_
      refine zr_iload_n zSm 11 rfl rfl ?_
      refine zr_iret zSm 12 rfl rfl rfl ?_
      exact h
    · have h := h.2 q3
      by_cases q4 : p0 = 21
      · have h := h.1 q4
        refine zr_tsG 1 78 [21] rfl (by simp only [List.mem_cons, List.not_mem_nil, or_false]; exact q4) (by decide) ?_
        refine zr_aload_n zSm 22 rfl rfl ?_
        refine zr_getR zSm 23 rfl zf_3_19 rfl rfl (by decide) ?_
        refine zr_aload_n zSm 24 rfl rfl ?_
        refine zr_getR zSm 25 rfl zf_3_19 rfl rfl (by decide) ?_
        refine zr_getI zSm 26 rfl zf_3_107 rfl rfl (by decide) ?_
        refine zr_if zSm 27 104 rfl rfl (fun q5 => ?_) (fun q5 => ?_)
        · have h := h.1 q5
          refine zr_s zSm 34 rfl rfl ?_
          refine zr_putI zSm 35 rfl zf_3_107 rfl rfl (by decide) zp_6_3 ?_
          refine zr_iload_n zSm 36 rfl rfl ?_
          refine zr_iret zSm 37 rfl rfl rfl ?_
          exact h
        · have h := h.2 q5
          refine zr_aload_n zSm 28 rfl rfl ?_
          refine zr_getR zSm 29 rfl zf_3_19 rfl rfl (by decide) ?_
          refine zr_getI zSm 30 rfl zf_3_107 rfl rfl (by decide) ?_
          refine zr_s zSm 31 rfl rfl ?_
          refine zr_s zSm 32 rfl rfl ?_
          refine zr_goto zSm 33 105 rfl rfl ?_
          refine zr_putI zSm 35 rfl zf_3_107 rfl rfl (by decide) zp_6_3 ?_
          refine zr_iload_n zSm 36 rfl rfl ?_
          refine zr_iret zSm 37 rfl rfl rfl ?_
          exact h
      · have h := h.2 q4
        by_cases q6 : p0 = 22
        · have h := h.1 q6
          refine zr_tsG 1 110 [22] rfl (by simp only [List.mem_cons, List.not_mem_nil, or_false]; exact q6) (by decide) ?_
          refine zr_aload_n zSm 38 rfl rfl ?_
          refine zr_getR zSm 39 rfl zf_3_19 rfl rfl (by decide) ?_
          refine zr_s zSm 40 rfl rfl ?_
          refine zr_putZ zSm 41 rfl zf_3_137 rfl rfl (by decide) zp_6_8 (Or.inr rfl) ?_
          refine zr_iload_n zSm 42 rfl rfl ?_
          refine zr_iret zSm 43 rfl rfl rfl ?_
          exact h
        · have h := h.2 q6
          by_cases q7 : p0 = 23
          · have h := h.1 q7
            refine zr_tsG 1 120 [23] rfl (by simp only [List.mem_cons, List.not_mem_nil, or_false]; exact q7) (by decide) ?_
            refine zr_aload_n zSm 44 rfl rfl ?_
            refine zr_getR zSm 45 rfl zf_3_19 rfl rfl (by decide) ?_
            refine zr_s zSm 46 rfl rfl ?_
            refine zr_putZ zSm 47 rfl zf_3_141 rfl rfl (by decide) zp_6_7 (Or.inr rfl) ?_
            refine zr_iload_n zSm 48 rfl rfl ?_
            refine zr_iret zSm 49 rfl rfl rfl ?_
            exact h
          · have h := h.2 q7
            by_cases q8 : p0 = 24
            · have h := h.1 q8
              refine zr_tsG 1 61 [24] rfl (by simp only [List.mem_cons, List.not_mem_nil, or_false]; exact q8) (by decide) ?_
              refine zr_aload_n zSm 13 rfl rfl ?_
              refine zr_aload_n zSm 14 rfl rfl ?_
              refine zr_getR zSm 15 rfl zf_3_19 rfl rfl (by decide) ?_
              refine zr_aload_n zSm 16 rfl rfl ?_
              refine zr_getI zSm 17 rfl zf_3_31 rfl rfl (by decide) ?_
              refine zr_inv0 18 83 1 [.int (I 24 7)] rfl rfl zk_3_131 zms_83 rfl ⟨_, _, _, _, rfl, rfl⟩ (Nat.le_of_ble_eq_true rfl) ?_
              refine ze_83 ?_
              refine zNx_i ?_
              refine zr_inv0 19 57 1 [.int (zv_83 I J (I 24 7))] rfl rfl zk_3_133 zms_57 rfl ⟨_, _, _, _, rfl, rfl⟩ (Nat.le_of_ble_eq_true rfl) ?_
              refine zcv h (fun I2 J2 D2 h => ?_)
              refine zr_iload_n zSm 20 rfl rfl ?_
              refine zr_iret zSm 21 rfl rfl rfl ?_
              exact h
            · have h := h.2 q8
              refine zr_tsD 1 130 [18, 20, 21, 22, 23, 24] rfl ?_ (by decide) rfl ?_
              · intro hx
                simp only [List.mem_cons, List.not_mem_nil, or_false] at hx
                rcases hx with e | e | e | e | e | e
                · exact q1 e
                · exact q3 e
                · exact q4 e
                · exact q6 e
                · exact q7 e
                · exact q8 e
              · refine zr_iload_n zSm 50 rfl rfl ?_
                refine zr_iret zSm 51 rfl rfl rfl ?_
                exact h
theorem w_56 {RO : zRo} {d : Nat} {P : zP} {I : zI} {J : zJ} {D : zD} {bc bs : Nat} {p0 p1 : Int32} {p2 : Int64} (h : ((¬ p0 = 17 → ((24 ≤ p1 → ((((zv_76 I J ((p1 - 24) + 6) 0).toInt64) ≤ p2 → ((p2 ≤ ((zv_76 I J ((p1 - 24) + 6) 1).toInt64) → (zz RO (d + 1) 85 [.ref 20, .int p1, .int p2.toInt32] I J D 0 0 (zNv P fun I1 J1 D1 => P (.inl none) I1 J1 D1))) ∧ (¬ (p2 ≤ ((zv_76 I J ((p1 - 24) + 6) 1).toInt64)) → (zz RO (d + 1) 85 [.ref 20, .int p1, .int (zv_76 I J ((p1 - 24) + 6) 1)] I J D 0 0 (zNv P fun I2 J2 D2 => P (.inl none) I2 J2 D2))))) ∧ (¬ (((zv_76 I J ((p1 - 24) + 6) 0).toInt64) ≤ p2) → (zz RO (d + 1) 85 [.ref 20, .int p1, .int (zv_76 I J ((p1 - 24) + 6) 0)] I J D 0 0 (zNv P fun I3 J3 D3 => P (.inl none) I3 J3 D3))))) ∧ (¬ (24 ≤ p1) → ((((zv_76 I J (p1 - p1 / 6 * 6) 0).toInt64) ≤ p2 → ((p2 ≤ ((zv_76 I J (p1 - p1 / 6 * 6) 1).toInt64) → (zz RO (d + 1) 85 [.ref 20, .int p1, .int p2.toInt32] I J D 0 0 (zNv P fun I4 J4 D4 => P (.inl none) I4 J4 D4))) ∧ (¬ (p2 ≤ ((zv_76 I J (p1 - p1 / 6 * 6) 1).toInt64)) → (zz RO (d + 1) 85 [.ref 20, .int p1, .int (zv_76 I J (p1 - p1 / 6 * 6) 1)] I J D 0 0 (zNv P fun I5 J5 D5 => P (.inl none) I5 J5 D5))))) ∧ (¬ (((zv_76 I J (p1 - p1 / 6 * 6) 0).toInt64) ≤ p2) → (zz RO (d + 1) 85 [.ref 20, .int p1, .int (zv_76 I J (p1 - p1 / 6 * 6) 0)] I J D 0 0 (zNv P fun I6 J6 D6 => P (.inl none) I6 J6 D6))))))) ∧ (¬ (¬ p0 = 17) → ((24 ≤ p1 → ((((zv_76 I J ((p1 - 24) + 6) 0).toInt64) ≤ (((zv_84 I J p1).toInt64) + p2) → (((((zv_84 I J p1).toInt64) + p2) ≤ ((zv_76 I J ((p1 - 24) + 6) 1).toInt64) → (zz RO (d + 1) 85 [.ref 20, .int p1, .int ((((zv_84 I J p1).toInt64) + p2).toInt32)] I J D 0 0 (zNv P fun I7 J7 D7 => P (.inl none) I7 J7 D7))) ∧ (¬ ((((zv_84 I J p1).toInt64) + p2) ≤ ((zv_76 I J ((p1 - 24) + 6) 1).toInt64)) → (zz RO (d + 1) 85 [.ref 20, .int p1, .int (zv_76 I J ((p1 - 24) + 6) 1)] I J D 0 0 (zNv P fun I8 J8 D8 => P (.inl none) I8 J8 D8))))) ∧ (¬ (((zv_76 I J ((p1 - 24) + 6) 0).toInt64) ≤ (((zv_84 I J p1).toInt64) + p2)) → (zz RO (d + 1) 85 [.ref 20, .int p1, .int (zv_76 I J ((p1 - 24) + 6) 0)] I J D 0 0 (zNv P fun I9 J9 D9 => P (.inl none) I9 J9 D9))))) ∧ (¬ (24 ≤ p1) → ((((zv_76 I J (p1 - p1 / 6 * 6) 0).toInt64) ≤ (((zv_84 I J p1).toInt64) + p2) → (((((zv_84 I J p1).toInt64) + p2) ≤ ((zv_76 I J (p1 - p1 / 6 * 6) 1).toInt64) → (zz RO (d + 1) 85 [.ref 20, .int p1, .int ((((zv_84 I J p1).toInt64) + p2).toInt32)] I J D 0 0 (zNv P fun I10 J10 D10 => P (.inl none) I10 J10 D10))) ∧ (¬ ((((zv_84 I J p1).toInt64) + p2) ≤ ((zv_76 I J (p1 - p1 / 6 * 6) 1).toInt64)) → (zz RO (d + 1) 85 [.ref 20, .int p1, .int (zv_76 I J (p1 - p1 / 6 * 6) 1)] I J D 0 0 (zNv P fun I11 J11 D11 => P (.inl none) I11 J11 D11))))) ∧ (¬ (((zv_76 I J (p1 - p1 / 6 * 6) 0).toInt64) ≤ (((zv_84 I J p1).toInt64) + p2)) → (zz RO (d + 1) 85 [.ref 20, .int p1, .int (zv_76 I J (p1 - p1 / 6 * 6) 0)] I J D 0 0 (zNv P fun I12 J12 D12 => P (.inl none) I12 J12 D12))))))))) : zz RO (d + 2) 56 [.ref 24, .int p0, .int p1, .long p2] I J D bc bs P := by
  refine zT_of (Nat.le_of_ble_eq_true rfl) rfl ?_
  show zw RO (d + 1) 56 P 0 [(0, .ref 24), (1, .int p0), (2, .int p1), (3, .long p2)] [] I J D bc bs
  refine zr_iload_n zSm 0 rfl rfl ?_
  refine zr_bipush zSm 1 17 rfl rfl ?_
  refine zr_ic zSm 2 20 rfl rfl (fun q1 => ?_) (fun q1 => ?_)
  · have h := h.1 q1
    refine zr_lload_n zSm 11 rfl rfl ?_
    refine zr_lstore zSm 12 (ll' := [(5, .long p2), (0, .ref 24), (1, .int p0), (2, .int p1), (3, .long p2)]) rfl (by decide) rfl ?_
    refine zr_iload_n zSm 13 rfl rfl ?_
    refine zr_bipush zSm 14 24 rfl rfl ?_
    refine zr_ic zSm 15 36 rfl rfl (fun q2 => ?_) (fun q2 => ?_)
    · have h := h.1 q2
      refine zr_iload_n zSm 20 rfl rfl ?_
      refine zr_bipush zSm 21 24 rfl rfl ?_
      refine zr_s zSm 22 rfl rfl ?_
      refine zr_bipush zSm 23 6 rfl rfl ?_
      refine zr_s zSm 24 rfl rfl ?_
      refine zr_istore zSm 25 (ll' := [(7, .int ((p1 - 24) + 6)), (5, .long p2), (0, .ref 24), (1, .int p0), (2, .int p1), (3, .long p2)]) rfl (by decide) rfl ?_
      refine zr_aload_n zSm 26 rfl rfl ?_
      refine zr_getR zSm 27 rfl zf_3_15 rfl rfl (by decide) ?_
      refine zr_iload zSm 28 rfl rfl ?_
      refine zr_s zSm 29 rfl rfl ?_
      refine zr_inv0 30 76 2 [.int ((p1 - 24) + 6), .int 0] rfl rfl zk_3_144 zms_76 rfl ⟨_, _, _, _, rfl, rfl⟩ (Nat.le_of_ble_eq_true rfl) ?_
      refine ze_76 ?_
      refine zNx_i ?_
      refine zr_istore zSm 31 (ll' := [(8, .int (zv_76 I J ((p1 - 24) + 6) 0)), (7, .int ((p1 - 24) + 6)), (5, .long p2), (0, .ref 24), (1, .int p0), (2, .int p1), (3, .long p2)]) rfl (by decide) rfl ?_
      refine zr_aload_n zSm 32 rfl rfl ?_
      refine zr_getR zSm 33 rfl zf_3_15 rfl rfl (by decide) ?_
      refine zr_iload zSm 34 rfl rfl ?_
      refine zr_s zSm 35 rfl rfl ?_
      refine zr_inv0 36 76 2 [.int ((p1 - 24) + 6), .int 1] rfl rfl zk_3_144 zms_76 rfl ⟨_, _, _, _, rfl, rfl⟩ (Nat.le_of_ble_eq_true rfl) ?_
      refine ze_76 ?_
      refine zNx_i ?_
      refine zr_istore zSm 37 (ll' := [(9, .int (zv_76 I J ((p1 - 24) + 6) 1)), (8, .int (zv_76 I J ((p1 - 24) + 6) 0)), (7, .int ((p1 - 24) + 6)), (5, .long p2), (0, .ref 24), (1, .int p0), (2, .int p1), (3, .long p2)]) rfl (by decide) rfl ?_
      refine zr_aload_n zSm 38 rfl rfl ?_
      refine zr_getR zSm 39 rfl zf_3_19 rfl rfl (by decide) ?_
      refine zr_iload_n zSm 40 rfl rfl ?_
      refine zr_lload zSm 41 rfl rfl ?_
      refine zr_iload zSm 42 rfl rfl ?_
      refine zr_s zSm 43 rfl rfl ?_
      refine zr_s zSm 44 rfl rfl ?_
      refine zr_if zSm 45 88 rfl rfl (fun q3 => ?_) (fun q3 => ?_)
      · have q3 := zq_ge.mp q3
        have h := h.1 q3
        refine zr_lload zSm 48 rfl rfl ?_
        refine zr_iload zSm 49 rfl rfl ?_
        refine zr_s zSm 50 rfl rfl ?_
        refine zr_s zSm 51 rfl rfl ?_
        refine zr_if zSm 52 102 rfl rfl (fun q4 => ?_) (fun q4 => ?_)
        · have q4 := zq_le.mp q4
          have h := h.1 q4
          refine zr_lload zSm 55 rfl rfl ?_
          refine zr_s zSm 56 rfl rfl ?_
          refine zr_inv0 57 85 2 [.int p1, .int p2.toInt32] rfl rfl zk_3_150 zms_85 rfl ⟨_, _, _, _, rfl, rfl⟩ (Nat.le_of_ble_eq_true rfl) ?_
          refine zcv h (fun I1 J1 D1 h => ?_)
          refine zr_vret zSm 58 rfl rfl ?_
          exact h
        · have q4 := (fun z => q4 (zq_le.mpr z))
          have h := h.2 q4
          refine zr_iload zSm 53 rfl rfl ?_
          refine zr_goto zSm 54 105 rfl rfl ?_
          refine zr_inv0 57 85 2 [.int p1, .int (zv_76 I J ((p1 - 24) + 6) 1)] rfl rfl zk_3_150 zms_85 rfl ⟨_, _, _, _, rfl, rfl⟩ (Nat.le_of_ble_eq_true rfl) ?_
          refine zcv h (fun I2 J2 D2 h => ?_)
          refine zr_vret zSm 58 rfl rfl ?_
          exact h
      · have q3 := (fun z => q3 (zq_ge.mpr z))
        have h := h.2 q3
        refine zr_iload zSm 46 rfl rfl ?_
        refine zr_goto zSm 47 105 rfl rfl ?_
        refine zr_inv0 57 85 2 [.int p1, .int (zv_76 I J ((p1 - 24) + 6) 0)] rfl rfl zk_3_150 zms_85 rfl ⟨_, _, _, _, rfl, rfl⟩ (Nat.le_of_ble_eq_true rfl) ?_
        refine zcv h (fun I3 J3 D3 h => ?_)
        refine zr_vret zSm 58 rfl rfl ?_
        exact h
    · have h := h.2 q2
      refine zr_iload_n zSm 16 rfl rfl ?_
      refine zr_bipush zSm 17 6 rfl rfl ?_
      refine zr_irem zSm 18 rfl (by decide) ?_
      refine zr_goto zSm 19 43 rfl rfl ?_
      refine zr_istore zSm 25 (ll' := [(7, .int (p1 - p1 / 6 * 6)), (5, .long p2), (0, .ref 24), (1, .int p0), (2, .int p1), (3, .long p2)]) rfl (by decide) rfl ?_
      refine zr_aload_n zSm 26 rfl rfl ?_
      refine zr_getR zSm 27 rfl zf_3_15 rfl rfl (by decide) ?_
      refine zr_iload zSm 28 rfl rfl ?_
      refine zr_s zSm 29 rfl rfl ?_
      refine zr_inv0 30 76 2 [.int (p1 - p1 / 6 * 6), .int 0] rfl rfl zk_3_144 zms_76 rfl ⟨_, _, _, _, rfl, rfl⟩ (Nat.le_of_ble_eq_true rfl) ?_
      refine ze_76 ?_
      refine zNx_i ?_
      refine zr_istore zSm 31 (ll' := [(8, .int (zv_76 I J (p1 - p1 / 6 * 6) 0)), (7, .int (p1 - p1 / 6 * 6)), (5, .long p2), (0, .ref 24), (1, .int p0), (2, .int p1), (3, .long p2)]) rfl (by decide) rfl ?_
      refine zr_aload_n zSm 32 rfl rfl ?_
      refine zr_getR zSm 33 rfl zf_3_15 rfl rfl (by decide) ?_
      refine zr_iload zSm 34 rfl rfl ?_
      refine zr_s zSm 35 rfl rfl ?_
      refine zr_inv0 36 76 2 [.int (p1 - p1 / 6 * 6), .int 1] rfl rfl zk_3_144 zms_76 rfl ⟨_, _, _, _, rfl, rfl⟩ (Nat.le_of_ble_eq_true rfl) ?_
      refine ze_76 ?_
      refine zNx_i ?_
      refine zr_istore zSm 37 (ll' := [(9, .int (zv_76 I J (p1 - p1 / 6 * 6) 1)), (8, .int (zv_76 I J (p1 - p1 / 6 * 6) 0)), (7, .int (p1 - p1 / 6 * 6)), (5, .long p2), (0, .ref 24), (1, .int p0), (2, .int p1), (3, .long p2)]) rfl (by decide) rfl ?_
      refine zr_aload_n zSm 38 rfl rfl ?_
      refine zr_getR zSm 39 rfl zf_3_19 rfl rfl (by decide) ?_
      refine zr_iload_n zSm 40 rfl rfl ?_
      refine zr_lload zSm 41 rfl rfl ?_
      refine zr_iload zSm 42 rfl rfl ?_
      refine zr_s zSm 43 rfl rfl ?_
      refine zr_s zSm 44 rfl rfl ?_
      refine zr_if zSm 45 88 rfl rfl (fun q5 => ?_) (fun q5 => ?_)
      · have q5 := zq_ge.mp q5
        have h := h.1 q5
        refine zr_lload zSm 48 rfl rfl ?_
        refine zr_iload zSm 49 rfl rfl ?_
        refine zr_s zSm 50 rfl rfl ?_
        refine zr_s zSm 51 rfl rfl ?_
        refine zr_if zSm 52 102 rfl rfl (fun q6 => ?_) (fun q6 => ?_)
        · have q6 := zq_le.mp q6
          have h := h.1 q6
          refine zr_lload zSm 55 rfl rfl ?_
          refine zr_s zSm 56 rfl rfl ?_
          refine zr_inv0 57 85 2 [.int p1, .int p2.toInt32] rfl rfl zk_3_150 zms_85 rfl ⟨_, _, _, _, rfl, rfl⟩ (Nat.le_of_ble_eq_true rfl) ?_
          refine zcv h (fun I4 J4 D4 h => ?_)
          refine zr_vret zSm 58 rfl rfl ?_
          exact h
        · have q6 := (fun z => q6 (zq_le.mpr z))
          have h := h.2 q6
          refine zr_iload zSm 53 rfl rfl ?_
          refine zr_goto zSm 54 105 rfl rfl ?_
          refine zr_inv0 57 85 2 [.int p1, .int (zv_76 I J (p1 - p1 / 6 * 6) 1)] rfl rfl zk_3_150 zms_85 rfl ⟨_, _, _, _, rfl, rfl⟩ (Nat.le_of_ble_eq_true rfl) ?_
          refine zcv h (fun I5 J5 D5 h => ?_)
          refine zr_vret zSm 58 rfl rfl ?_
          exact h
      · have q5 := (fun z => q5 (zq_ge.mpr z))
        have h := h.2 q5
        refine zr_iload zSm 46 rfl rfl ?_
        refine zr_goto zSm 47 105 rfl rfl ?_
        refine zr_inv0 57 85 2 [.int p1, .int (zv_76 I J (p1 - p1 / 6 * 6) 0)] rfl rfl zk_3_150 zms_85 rfl ⟨_, _, _, _, rfl, rfl⟩ (Nat.le_of_ble_eq_true rfl) ?_
        refine zcv h (fun I6 J6 D6 h => ?_)
        refine zr_vret zSm 58 rfl rfl ?_
        exact h
  · have h := h.2 q1
    refine zr_aload_n zSm 3 rfl rfl ?_
    refine zr_getR zSm 4 rfl zf_3_19 rfl rfl (by decide) ?_
    refine zr_iload_n zSm 5 rfl rfl ?_
    refine zr_inv0 6 84 1 [.int p1] rfl rfl zk_3_99 zms_84 rfl ⟨_, _, _, _, rfl, rfl⟩ (Nat.le_of_ble_eq_true rfl) ?_
    refine ze_84 ?_
    refine zNx_i ?_
    refine zr_s zSm 7 rfl rfl ?_
    refine zr_lload_n zSm 8 rfl rfl ?_
    refine zr_s zSm 9 rfl rfl ?_
    refine zr_goto zSm 10 21 rfl rfl ?_
    refine zr_lstore zSm 12 (ll' := [(5, .long (((zv_84 I J p1).toInt64) + p2)), (0, .ref 24), (1, .int p0), (2, .int p1), (3, .long p2)]) rfl (by decide) rfl ?_
    refine zr_iload_n zSm 13 rfl rfl ?_
    refine zr_bipush zSm 14 24 rfl rfl ?_
    refine zr_ic zSm 15 36 rfl rfl (fun q7 => ?_) (fun q7 => ?_)
    · have h := h.1 q7
      refine zr_iload_n zSm 20 rfl rfl ?_
      refine zr_bipush zSm 21 24 rfl rfl ?_
      refine zr_s zSm 22 rfl rfl ?_
      refine zr_bipush zSm 23 6 rfl rfl ?_
      refine zr_s zSm 24 rfl rfl ?_
      refine zr_istore zSm 25 (ll' := [(7, .int ((p1 - 24) + 6)), (5, .long (((zv_84 I J p1).toInt64) + p2)), (0, .ref 24), (1, .int p0), (2, .int p1), (3, .long p2)]) rfl (by decide) rfl ?_
      refine zr_aload_n zSm 26 rfl rfl ?_
      refine zr_getR zSm 27 rfl zf_3_15 rfl rfl (by decide) ?_
      refine zr_iload zSm 28 rfl rfl ?_
      refine zr_s zSm 29 rfl rfl ?_
      refine zr_inv0 30 76 2 [.int ((p1 - 24) + 6), .int 0] rfl rfl zk_3_144 zms_76 rfl ⟨_, _, _, _, rfl, rfl⟩ (Nat.le_of_ble_eq_true rfl) ?_
      refine ze_76 ?_
      refine zNx_i ?_
      refine zr_istore zSm 31 (ll' := [(8, .int (zv_76 I J ((p1 - 24) + 6) 0)), (7, .int ((p1 - 24) + 6)), (5, .long (((zv_84 I J p1).toInt64) + p2)), (0, .ref 24), (1, .int p0), (2, .int p1), (3, .long p2)]) rfl (by decide) rfl ?_
      refine zr_aload_n zSm 32 rfl rfl ?_
      refine zr_getR zSm 33 rfl zf_3_15 rfl rfl (by decide) ?_
      refine zr_iload zSm 34 rfl rfl ?_
      refine zr_s zSm 35 rfl rfl ?_
      refine zr_inv0 36 76 2 [.int ((p1 - 24) + 6), .int 1] rfl rfl zk_3_144 zms_76 rfl ⟨_, _, _, _, rfl, rfl⟩ (Nat.le_of_ble_eq_true rfl) ?_
      refine ze_76 ?_
      refine zNx_i ?_
      refine zr_istore zSm 37 (ll' := [(9, .int (zv_76 I J ((p1 - 24) + 6) 1)), (8, .int (zv_76 I J ((p1 - 24) + 6) 0)), (7, .int ((p1 - 24) + 6)), (5, .long (((zv_84 I J p1).toInt64) + p2)), (0, .ref 24), (1, .int p0), (2, .int p1), (3, .long p2)]) rfl (by decide) rfl ?_
      refine zr_aload_n zSm 38 rfl rfl ?_
      refine zr_getR zSm 39 rfl zf_3_19 rfl rfl (by decide) ?_
      refine zr_iload_n zSm 40 rfl rfl ?_
      refine zr_lload zSm 41 rfl rfl ?_
      refine zr_iload zSm 42 rfl rfl ?_
      refine zr_s zSm 43 rfl rfl ?_
      refine zr_s zSm 44 rfl rfl ?_
      refine zr_if zSm 45 88 rfl rfl (fun q8 => ?_) (fun q8 => ?_)
      · have q8 := zq_ge.mp q8
        have h := h.1 q8
        refine zr_lload zSm 48 rfl rfl ?_
        refine zr_iload zSm 49 rfl rfl ?_
        refine zr_s zSm 50 rfl rfl ?_
        refine zr_s zSm 51 rfl rfl ?_
        refine zr_if zSm 52 102 rfl rfl (fun q9 => ?_) (fun q9 => ?_)
        · have q9 := zq_le.mp q9
          have h := h.1 q9
          refine zr_lload zSm 55 rfl rfl ?_
          refine zr_s zSm 56 rfl rfl ?_
          refine zr_inv0 57 85 2 [.int p1, .int ((((zv_84 I J p1).toInt64) + p2).toInt32)] rfl rfl zk_3_150 zms_85 rfl ⟨_, _, _, _, rfl, rfl⟩ (Nat.le_of_ble_eq_true rfl) ?_
          refine zcv h (fun I7 J7 D7 h => ?_)
          refine zr_vret zSm 58 rfl rfl ?_
          exact h
        · have q9 := (fun z => q9 (zq_le.mpr z))
          have h := h.2 q9
          refine zr_iload zSm 53 rfl rfl ?_
          refine zr_goto zSm 54 105 rfl rfl ?_
          refine zr_inv0 57 85 2 [.int p1, .int (zv_76 I J ((p1 - 24) + 6) 1)] rfl rfl zk_3_150 zms_85 rfl ⟨_, _, _, _, rfl, rfl⟩ (Nat.le_of_ble_eq_true rfl) ?_
          refine zcv h (fun I8 J8 D8 h => ?_)
          refine zr_vret zSm 58 rfl rfl ?_
          exact h
      · have q8 := (fun z => q8 (zq_ge.mpr z))
        have h := h.2 q8
        refine zr_iload zSm 46 rfl rfl ?_
        refine zr_goto zSm 47 105 rfl rfl ?_
        refine zr_inv0 57 85 2 [.int p1, .int (zv_76 I J ((p1 - 24) + 6) 0)] rfl rfl zk_3_150 zms_85 rfl ⟨_, _, _, _, rfl, rfl⟩ (Nat.le_of_ble_eq_true rfl) ?_
        refine zcv h (fun I9 J9 D9 h => ?_)
        refine zr_vret zSm 58 rfl rfl ?_
        exact h
    · have h := h.2 q7
      refine zr_iload_n zSm 16 rfl rfl ?_
      refine zr_bipush zSm 17 6 rfl rfl ?_
      refine zr_irem zSm 18 rfl (by decide) ?_
      refine zr_goto zSm 19 43 rfl rfl ?_
      refine zr_istore zSm 25 (ll' := [(7, .int (p1 - p1 / 6 * 6)), (5, .long (((zv_84 I J p1).toInt64) + p2)), (0, .ref 24), (1, .int p0), (2, .int p1), (3, .long p2)]) rfl (by decide) rfl ?_
      refine zr_aload_n zSm 26 rfl rfl ?_
      refine zr_getR zSm 27 rfl zf_3_15 rfl rfl (by decide) ?_
      refine zr_iload zSm 28 rfl rfl ?_
      refine zr_s zSm 29 rfl rfl ?_
      refine zr_inv0 30 76 2 [.int (p1 - p1 / 6 * 6), .int 0] rfl rfl zk_3_144 zms_76 rfl ⟨_, _, _, _, rfl, rfl⟩ (Nat.le_of_ble_eq_true rfl) ?_
      refine ze_76 ?_
      refine zNx_i ?_
      refine zr_istore zSm 31 (ll' := [(8, .int (zv_76 I J (p1 - p1 / 6 * 6) 0)), (7, .int (p1 - p1 / 6 * 6)), (5, .long (((zv_84 I J p1).toInt64) + p2)), (0, .ref 24), (1, .int p0), (2, .int p1), (3, .long p2)]) rfl (by decide) rfl ?_
      refine zr_aload_n zSm 32 rfl rfl ?_
      refine zr_getR zSm 33 rfl zf_3_15 rfl rfl (by decide) ?_
      refine zr_iload zSm 34 rfl rfl ?_
      refine zr_s zSm 35 rfl rfl ?_
      refine zr_inv0 36 76 2 [.int (p1 - p1 / 6 * 6), .int 1] rfl rfl zk_3_144 zms_76 rfl ⟨_, _, _, _, rfl, rfl⟩ (Nat.le_of_ble_eq_true rfl) ?_
      refine ze_76 ?_
      refine zNx_i ?_
      refine zr_istore zSm 37 (ll' := [(9, .int (zv_76 I J (p1 - p1 / 6 * 6) 1)), (8, .int (zv_76 I J (p1 - p1 / 6 * 6) 0)), (7, .int (p1 - p1 / 6 * 6)), (5, .long (((zv_84 I J p1).toInt64) + p2)), (0, .ref 24), (1, .int p0), (2, .int p1), (3, .long p2)]) rfl (by decide) rfl ?_
      refine zr_aload_n zSm 38 rfl rfl ?_
      refine zr_getR zSm 39 rfl zf_3_19 rfl rfl (by decide) ?_
      refine zr_iload_n zSm 40 rfl rfl ?_
      refine zr_lload zSm 41 rfl rfl ?_
      refine zr_iload zSm 42 rfl rfl ?_
      refine zr_s zSm 43 rfl rfl ?_
      refine zr_s zSm 44 rfl rfl ?_
      refine zr_if zSm 45 88 rfl rfl (fun q10 => ?_) (fun q10 => ?_)
      · have q10 := zq_ge.mp q10
        have h := h.1 q10
        refine zr_lload zSm 48 rfl rfl ?_
        refine zr_iload zSm 49 rfl rfl ?_
        refine zr_s zSm 50 rfl rfl ?_
        refine zr_s zSm 51 rfl rfl ?_
        refine zr_if zSm 52 102 rfl rfl (fun q11 => ?_) (fun q11 => ?_)
        · have q11 := zq_le.mp q11
          have h := h.1 q11
          refine zr_lload zSm 55 rfl rfl ?_
          refine zr_s zSm 56 rfl rfl ?_
          refine zr_inv0 57 85 2 [.int p1, .int ((((zv_84 I J p1).toInt64) + p2).toInt32)] rfl rfl zk_3_150 zms_85 rfl ⟨_, _, _, _, rfl, rfl⟩ (Nat.le_of_ble_eq_true rfl) ?_
          refine zcv h (fun I10 J10 D10 h => ?_)
          refine zr_vret zSm 58 rfl rfl ?_
          exact h
        · have q11 := (fun z => q11 (zq_le.mpr z))
          have h := h.2 q11
          refine zr_iload zSm 53 rfl rfl ?_
          refine zr_goto zSm 54 105 rfl rfl ?_
          refine zr_inv0 57 85 2 [.int p1, .int (zv_76 I J (p1 - p1 / 6 * 6) 1)] rfl rfl zk_3_150 zms_85 rfl ⟨_, _, _, _, rfl, rfl⟩ (Nat.le_of_ble_eq_true rfl) ?_
          refine zcv h (fun I11 J11 D11 h => ?_)
          refine zr_vret zSm 58 rfl rfl ?_
          exact h
      · have q10 := (fun z => q10 (zq_ge.mpr z))
        have h := h.2 q10
        refine zr_iload zSm 46 rfl rfl ?_
        refine zr_goto zSm 47 105 rfl rfl ?_
        refine zr_inv0 57 85 2 [.int p1, .int (zv_76 I J (p1 - p1 / 6 * 6) 0)] rfl rfl zk_3_150 zms_85 rfl ⟨_, _, _, _, rfl, rfl⟩ (Nat.le_of_ble_eq_true rfl) ?_
        refine zcv h (fun I12 J12 D12 h => ?_)
        refine zr_vret zSm 58 rfl rfl ?_
        exact h
theorem w_57 {RO : zRo} {d : Nat} {P : zP} {I : zI} {J : zJ} {D : zD} {bc bs : Nat} {p0 : Int32} (h : (((I 24 6) < 0 → P (.inl none) (zu I 24 8 p0) J D) ∧ (¬ ((I 24 6) < 0) → ((4 ≤ (I 24 6) → P (.inl none) (zu I 24 8 p0) J D) ∧ (¬ (4 ≤ (I 24 6)) → P (.inl none) (zu (zu (zu I 26 ((I 24 6).toNatClampNeg) (I 24 8)) 24 6 ((I 24 6) + 1)) 24 8 p0) J D))))) : zz RO (d + 1) 57 [.ref 24, .int p0] I J D bc bs P := by
  refine zT_of (Nat.le_of_ble_eq_true rfl) rfl ?_
  show zw RO d 57 P 0 [(0, .ref 24), (1, .int p0)] [] I J D bc bs
  refine zr_aload_n zSm 0 rfl rfl ?_
  refine zr_getI zSm 1 rfl zf_3_41 rfl rfl (by decide) ?_
  refine zr_if zSm 2 42 rfl rfl (fun q1 => ?_) (fun q1 => ?_)
  · have h := h.1 q1
    refine zr_aload_n zSm 22 rfl rfl ?_
    refine zr_iload_n zSm 23 rfl rfl ?_
    refine zr_putI zSm 24 rfl zf_3_35 rfl rfl (by decide) zp_3_8 ?_
    refine zr_vret zSm 25 rfl rfl ?_
    exact h
  · have h := h.2 q1
    refine zr_aload_n zSm 3 rfl rfl ?_
    refine zr_getI zSm 4 rfl zf_3_41 rfl rfl (by decide) ?_
    refine zr_aload_n zSm 5 rfl rfl ?_
    refine zr_getR zSm 6 rfl zf_3_27 rfl rfl (by decide) ?_
    refine zr_alen zSm 7 4 rfl rfl rfl ?_
    refine zr_ic zSm 8 42 rfl rfl (fun q2 => ?_) (fun q2 => ?_)
    · have h := h.1 q2
      refine zr_aload_n zSm 22 rfl rfl ?_
      refine zr_iload_n zSm 23 rfl rfl ?_
      refine zr_putI zSm 24 rfl zf_3_35 rfl rfl (by decide) zp_3_8 ?_
      refine zr_vret zSm 25 rfl rfl ?_
      exact h
    · have h := h.2 q2
      refine zr_aload_n zSm 9 rfl rfl ?_
      refine zr_getR zSm 10 rfl zf_3_27 rfl rfl (by decide) ?_
      refine zr_aload_n zSm 11 rfl rfl ?_
      refine zr_getI zSm 12 rfl zf_3_41 rfl rfl (by decide) ?_
      refine zr_aload_n zSm 13 rfl rfl ?_
      refine zr_getI zSm 14 rfl zf_3_35 rfl rfl (by decide) ?_
      refine zr_iast zSm 15 rfl rfl (zin (zlo1 q1) (zhi1 q2) (by decide)) ?_
      refine zr_aload_n zSm 16 rfl rfl ?_
      refine zr_s zSm 17 rfl rfl ?_
      refine zr_getI zSm 18 rfl zf_3_41 rfl rfl (by decide) ?_
      refine zr_s zSm 19 rfl rfl ?_
      refine zr_s zSm 20 rfl rfl ?_
      refine zr_putI zSm 21 rfl zf_3_41 rfl rfl (by decide) zp_3_6 ?_
      refine zr_aload_n zSm 22 rfl rfl ?_
      refine zr_iload_n zSm 23 rfl rfl ?_
      refine zr_putI zSm 24 rfl zf_3_35 rfl rfl (by decide) zp_3_8 ?_
      refine zr_vret zSm 25 rfl rfl ?_
      exact h
theorem w_58 {RO : zRo} {d : Nat} {P : zP} {I : zI} {J : zJ} {D : zD} {bc bs : Nat}  (h : (((I 24 8) = (I 24 7) → (((I 24 6) ≤ 0 → P (.inl (some (.int 0))) I J D) ∧ (¬ ((I 24 6) ≤ 0) → ((4 < (I 24 6) → P (.inl (some (.int 0))) I J D) ∧ (¬ (4 < (I 24 6)) → (vp_in ((I 24 6) - 1) 4 ∧ P (.inl (some (.int 0))) (zu (zu I 24 6 ((I 24 6) - 1)) 24 8 (I 26 (((I 24 6) - 1).toNatClampNeg))) J D)))))) ∧ (¬ ((I 24 8) = (I 24 7)) → P (.inl (some (.int 1))) (zu I 24 8 (zv_83 I J (I 24 8))) J D))) : zz RO (d + 2) 58 [.ref 24] I J D bc bs P := by
  refine zT_of (Nat.le_of_ble_eq_true rfl) rfl ?_
  show zw RO (d + 1) 58 P 0 [(0, .ref 24)] [] I J D bc bs
  refine zr_aload_n zSm 0 rfl rfl ?_
  refine zr_getI zSm 1 rfl zf_3_35 rfl rfl (by decide) ?_
  refine zr_aload_n zSm 2 rfl rfl ?_
  refine zr_getI zSm 3 rfl zf_3_31 rfl rfl (by decide) ?_
  refine zr_ic zSm 4 28 rfl rfl (fun q1 => ?_) (fun q1 => ?_)
  · have h := h.1 q1
    refine zr_aload_n zSm 14 rfl rfl ?_
    refine zr_getI zSm 15 rfl zf_3_41 rfl rfl (by decide) ?_
    refine zr_if zSm 16 70 rfl rfl (fun q2 => ?_) (fun q2 => ?_)
    · have h := h.1 q2
      refine zr_s zSm 36 rfl rfl ?_
      refine zr_iret zSm 37 rfl rfl (zn_b (Or.inl rfl)) ?_
      exact h
    · have h := h.2 q2
      refine zr_aload_n zSm 17 rfl rfl ?_
      refine zr_getI zSm 18 rfl zf_3_41 rfl rfl (by decide) ?_
      refine zr_aload_n zSm 19 rfl rfl ?_
      refine zr_getR zSm 20 rfl zf_3_27 rfl rfl (by decide) ?_
      refine zr_alen zSm 21 4 rfl rfl rfl ?_
      refine zr_ic zSm 22 70 rfl rfl (fun q3 => ?_) (fun q3 => ?_)
      · have h := h.1 q3
        refine zr_s zSm 36 rfl rfl ?_
        refine zr_iret zSm 37 rfl rfl (zn_b (Or.inl rfl)) ?_
        exact h
      · have h := h.2 q3
        refine zr_aload_n zSm 23 rfl rfl ?_
        refine zr_s zSm 24 rfl rfl ?_
        refine zr_getI zSm 25 rfl zf_3_41 rfl rfl (by decide) ?_
        refine zr_s zSm 26 rfl rfl ?_
        refine zr_s zSm 27 rfl rfl ?_
        refine zr_putI zSm 28 rfl zf_3_41 rfl rfl (by decide) zp_3_6 ?_
        refine zr_aload_n zSm 29 rfl rfl ?_
        refine zr_aload_n zSm 30 rfl rfl ?_
        refine zr_getR zSm 31 rfl zf_3_27 rfl rfl (by decide) ?_
        refine zr_aload_n zSm 32 rfl rfl ?_
        refine zr_getI zSm 33 rfl zf_3_41 rfl rfl (by decide) ?_
        obtain ⟨b34, h⟩ := h
        refine zr_iald zSm 34 rfl rfl b34 ?_
        refine zr_putI zSm 35 rfl zf_3_35 rfl rfl (by decide) zp_3_8 ?_
        refine zr_s zSm 36 rfl rfl ?_
        refine zr_iret zSm 37 rfl rfl (zn_b (Or.inl rfl)) ?_
        exact h
  · have h := h.2 q1
    refine zr_aload_n zSm 5 rfl rfl ?_
    refine zr_aload_n zSm 6 rfl rfl ?_
    refine zr_getR zSm 7 rfl zf_3_19 rfl rfl (by decide) ?_
    refine zr_aload_n zSm 8 rfl rfl ?_
    refine zr_getI zSm 9 rfl zf_3_35 rfl rfl (by decide) ?_
    refine zr_inv0 10 83 1 [.int (I 24 8)] rfl rfl zk_3_131 zms_83 rfl ⟨_, _, _, _, rfl, rfl⟩ (Nat.le_of_ble_eq_true rfl) ?_
    refine ze_83 ?_
    refine zNx_i ?_
    refine zr_putI zSm 11 rfl zf_3_35 rfl rfl (by decide) zp_3_8 ?_
    refine zr_s zSm 12 rfl rfl ?_
    refine zr_iret zSm 13 rfl rfl (zn_b (Or.inr rfl)) ?_
    exact h

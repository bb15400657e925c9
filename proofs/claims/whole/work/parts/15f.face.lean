/-! ===== written by wip/whole/lay15.py: walks, a formula each ===== -/
theorem w_107 {RO : zRo} {d : Nat} {P : zP} {I : zI} {J : zJ} {D : zD} {bc bs : Nat} {p0 p1 p2 p3 p4 : Int32} (h : ((((I 1 1) + 20) ≤ 2000 → (zz RO d 89 [.ref 1, .int p0] I J D 0 0 (zNv P fun I1 J1 D1 => (zz RO d 89 [.ref 1, .int p1] I1 J1 D1 0 0 (zNv P fun I2 J2 D2 => (zz RO d 89 [.ref 1, .int p2] I2 J2 D2 0 0 (zNv P fun I3 J3 D3 => (zz RO d 89 [.ref 1, .int p3] I3 J3 D3 0 0 (zNv P fun I4 J4 D4 => (zz RO d 89 [.ref 1, .int p4] I4 J4 D4 0 0 (zNv P fun I5 J5 D5 => P (.inl (some (.int (I5 1 1)))) I5 J5 D5))))))))))) ∧ (¬ (((I 1 1) + 20) ≤ 2000) → ((1 ≤ bc ∧ 6 ≤ bs) ∧ P (.inr (0, 0, 0)) I J D)))) : zz RO (d + 1) 107 [.ref 0, .int p0, .int p1, .int p2, .int p3, .int p4] I J D bc bs P := by
  refine zT_of (Nat.le_of_ble_eq_true rfl) rfl ?_
  show zw RO d 107 P 0 [(0, .ref 0), (1, .int p0), (2, .int p1), (3, .int p2), (4, .int p3), (5, .int p4)] [] I J D bc bs
  refine zr_aload_n zSm 0 rfl rfl ?_
  refine zr_getR zSm 1 rfl zf_9_10 rfl rfl (by decide) ?_
  refine zr_getI zSm 2 rfl zf_9_80 rfl rfl (by decide) ?_
  refine zr_bipush zSm 3 20 rfl rfl ?_
  refine zr_s zSm 4 rfl rfl ?_
  refine zr_sipush zSm 5 2000 rfl rfl ?_
  refine zr_ic zSm 6 26 rfl rfl (fun q1 => ?_) (fun q1 => ?_)
  · have h := h.1 q1
    refine zr_aload_n zSm 12 rfl rfl ?_
    refine zr_getR zSm 13 rfl zf_9_10 rfl rfl (by decide) ?_
    refine zr_iload_n zSm 14 rfl rfl ?_
    refine zr_inv0 15 89 1 [.int p0] rfl rfl zk_9_90 zms_89 rfl ⟨_, _, _, _, rfl, rfl⟩ (Nat.le_of_ble_eq_true rfl) ?_
    refine zcv h (fun I1 J1 D1 h => ?_)
    refine zr_aload_n zSm 16 rfl rfl ?_
    refine zr_getR zSm 17 rfl zf_9_10 rfl rfl (by decide) ?_
    refine zr_iload_n zSm 18 rfl rfl ?_
    refine zr_inv0 19 89 1 [.int p1] rfl rfl zk_9_90 zms_89 rfl ⟨_, _, _, _, rfl, rfl⟩ (Nat.le_of_ble_eq_true rfl) ?_
    refine zcv h (fun I2 J2 D2 h => ?_)
    refine zr_aload_n zSm 20 rfl rfl ?_
    refine zr_getR zSm 21 rfl zf_9_10 rfl rfl (by decide) ?_
    refine zr_iload_n zSm 22 rfl rfl ?_
    refine zr_inv0 23 89 1 [.int p2] rfl rfl zk_9_90 zms_89 rfl ⟨_, _, _, _, rfl, rfl⟩ (Nat.le_of_ble_eq_true rfl) ?_
    refine zcv h (fun I3 J3 D3 h => ?_)
    refine zr_aload_n zSm 24 rfl rfl ?_
    refine zr_getR zSm 25 rfl zf_9_10 rfl rfl (by decide) ?_
    refine zr_iload zSm 26 rfl rfl ?_
    refine zr_inv0 27 89 1 [.int p3] rfl rfl zk_9_90 zms_89 rfl ⟨_, _, _, _, rfl, rfl⟩ (Nat.le_of_ble_eq_true rfl) ?_
    refine zcv h (fun I4 J4 D4 h => ?_)
    refine zr_aload_n zSm 28 rfl rfl ?_
    refine zr_getR zSm 29 rfl zf_9_10 rfl rfl (by decide) ?_
    refine zr_iload zSm 30 rfl rfl ?_
    refine zr_inv0 31 89 1 [.int p4] rfl rfl zk_9_90 zms_89 rfl ⟨_, _, _, _, rfl, rfl⟩ (Nat.le_of_ble_eq_true rfl) ?_
    refine zcv h (fun I5 J5 D5 h => ?_)
    refine zr_aload_n zSm 32 rfl rfl ?_
    refine zr_getR zSm 33 rfl zf_9_10 rfl rfl (by decide) ?_
    refine zr_getI zSm 34 rfl zf_9_80 rfl rfl (by decide) ?_
    refine zr_iret zSm 35 rfl rfl rfl ?_
    exact h
  · have h := h.2 q1
    refine zr_thr 0 zth_107_16 h.1 ?_
    exact h.2
theorem w_108 {RO : zRo} {d : Nat} {P : zP} {I : zI} {J : zJ} {D : zD} {bc bs : Nat} {p0 : Int32} (h : ((p0 < 0 → ((1 ≤ bc ∧ 6 ≤ bs) ∧ P (.inr (1, 0, 0)) I J D)) ∧ (¬ (p0 < 0) → ((p0 ≤ (I 1 1) → P (.inl (some (.int p0))) (zu I 1 1 p0) J D) ∧ (¬ (p0 ≤ (I 1 1)) → ((1 ≤ bc ∧ 6 ≤ bs) ∧ P (.inr (1, 0, 0)) I J D)))))) : zz RO (d + 1) 108 [.ref 0, .int p0] I J D bc bs P := by
  refine zT_of (Nat.le_of_ble_eq_true rfl) rfl ?_
  show zw RO d 108 P 0 [(0, .ref 0), (1, .int p0)] [] I J D bc bs
  refine zr_iload_n zSm 0 rfl rfl ?_
  refine zr_if zSm 1 15 rfl rfl (fun q1 => ?_) (fun q1 => ?_)
  · have h := h.1 q1
    refine zr_thr 1 zth_108_15 h.1 ?_
    exact h.2
  · have h := h.2 q1
    refine zr_iload_n zSm 2 rfl rfl ?_
    refine zr_aload_n zSm 3 rfl rfl ?_
    refine zr_getR zSm 4 rfl zf_9_10 rfl rfl (by decide) ?_
    refine zr_getI zSm 5 rfl zf_9_80 rfl rfl (by decide) ?_
    refine zr_ic zSm 6 25 rfl rfl (fun q2 => ?_) (fun q2 => ?_)
    · have h := h.1 q2
      refine zr_aload_n zSm 12 rfl rfl ?_
      refine zr_getR zSm 13 rfl zf_9_10 rfl rfl (by decide) ?_
      refine zr_iload_n zSm 14 rfl rfl ?_
      refine zr_putI zSm 15 rfl zf_9_80 rfl rfl (by decide) zp_7_1 ?_
      refine zr_iload_n zSm 16 rfl rfl ?_
      refine zr_iret zSm 17 rfl rfl rfl ?_
      exact h
    · have h := h.2 q2
      refine zr_thr 1 zth_108_15 h.1 ?_
      exact h.2
theorem w_109 {RO : zRo} {d : Nat} {P : zP} {I : zI} {J : zJ} {D : zD} {bc bs : Nat}  (h : (zz RO (d + 1) 27 [.ref 23] I J D 0 0 (zNv P fun I1 J1 D1 => (zz RO (d + 1) 74 [.ref 12] I1 J1 D1 0 0 (zNv P fun I2 J2 D2 => (zz RO (d + 1) 92 [.ref 3, .ref 1] I2 J2 D2 0 0 (zNv P fun I3 J3 D3 => (zz RO (d + 1) 7 [.ref 11] (zu I3 1 1 0) J3 D3 0 0 (zNi P fun v4 I4 J4 D4 => ((0 ≤ v4 → (zz RO (d + 1) 74 [.ref 12] I4 J4 D4 0 0 (zNv P fun I5 J5 D5 => P (.inl (some (.int 1))) (zu I5 0 8 (zv_94 I5 J5 v4)) J5 D5))) ∧ (¬ (0 ≤ v4) → (zz RO (d + 1) 60 [.ref 19] I4 J4 D4 0 0 (zNi P fun v6 I6 J6 D6 => ((v6 = 0 → (zz RO (d + 1) 5 [.ref 8, .ref 3] I6 J6 D6 0 0 (zNv P fun I7 J7 D7 => P (.inl (some (.int 0))) (zu (zu I7 12 7 1) 0 8 (-1)) J7 D7))) ∧ (¬ (v6 = 0) → (zz RO (d + 1) 74 [.ref 12] I6 J6 D6 0 0 (zNv P fun I8 J8 D8 => P (.inl (some (.int v6))) (zu I8 0 8 (zv_94 I8 J8 (I6 19 2))) J8 D8))))))))))))))))) : zz RO (d + 2) 109 [.ref 0] I J D bc bs P := by
  refine zT_of (Nat.le_of_ble_eq_true rfl) rfl ?_
  show zw RO (d + 1) 109 P 0 [(0, .ref 0)] [] I J D bc bs
  refine zr_aload_n zSm 0 rfl rfl ?_
  refine zr_getR zSm 1 rfl zf_9_72 rfl rfl (by decide) ?_
  refine zr_inv0 2 27 0 [] rfl rfl zk_9_99 zms_27 rfl ⟨_, _, _, _, rfl, rfl⟩ (Nat.le_of_ble_eq_true rfl) ?_
  refine zcv h (fun I1 J1 D1 h => ?_)
  refine zr_aload_n zSm 3 rfl rfl ?_
  refine zr_getR zSm 4 rfl zf_9_42 rfl rfl (by decide) ?_
  refine zr_inv0 5 74 0 [] rfl rfl zk_9_102 zms_74 rfl ⟨_, _, _, _, rfl, rfl⟩ (Nat.le_of_ble_eq_true rfl) ?_
  refine zcv h (fun I2 J2 D2 h => ?_)
  refine zr_aload_n zSm 6 rfl rfl ?_
  refine zr_getR zSm 7 rfl zf_9_19 rfl rfl (by decide) ?_
  refine zr_aload_n zSm 8 rfl rfl ?_
  refine zr_getR zSm 9 rfl zf_9_10 rfl rfl (by decide) ?_
  refine zr_inv0 10 92 1 [.ref 1] rfl rfl zk_9_103 zms_92 rfl ⟨_, _, _, _, rfl, rfl⟩ (Nat.le_of_ble_eq_true rfl) ?_
  refine zcv h (fun I3 J3 D3 h => ?_)
  refine zr_aload_n zSm 11 rfl rfl ?_
  refine zr_getR zSm 12 rfl zf_9_10 rfl rfl (by decide) ?_
  refine zr_s zSm 13 rfl rfl ?_
  refine zr_putI zSm 14 rfl zf_9_80 rfl rfl (by decide) zp_7_1 ?_
  refine zr_aload_n zSm 15 rfl rfl ?_
  refine zr_getR zSm 16 rfl zf_9_35 rfl rfl (by decide) ?_
  refine zr_inv0 17 7 0 [] rfl rfl zk_9_107 zms_7 rfl ⟨_, _, _, _, rfl, rfl⟩ (Nat.le_of_ble_eq_true rfl) ?_
  refine zci h (fun v4 I4 J4 D4 h => ?_)
  refine zr_istore_n zSm 18 (ll' := [(1, .int v4), (0, .ref 0)]) rfl (by decide) rfl ?_
  refine zr_s zSm 19 rfl rfl ?_
  refine zr_istore_n zSm 20 (ll' := [(2, .int 1), (1, .int v4), (0, .ref 0)]) rfl (by decide) rfl ?_
  refine zr_iload_n zSm 21 rfl rfl ?_
  refine zr_if zSm 22 63 rfl rfl (fun q1 => ?_) (fun q1 => ?_)
  · have h := h.1 q1
    refine zr_iload_n zSm 31 rfl rfl ?_
    refine zr_if zSm 32 88 rfl rfl (fun q2 => ?_) (fun q2 => ?_)
    · exact absurd q2 (by show ¬ ((1 : Int32) = 0); decide)
    · refine zr_aload_n zSm 33 rfl rfl ?_
      refine zr_getR zSm 34 rfl zf_9_42 rfl rfl (by decide) ?_
      refine zr_inv0 35 74 0 [] rfl rfl zk_9_102 zms_74 rfl ⟨_, _, _, _, rfl, rfl⟩ (Nat.le_of_ble_eq_true rfl) ?_
      refine zcv h (fun I5 J5 D5 h => ?_)
      refine zr_aload_n zSm 36 rfl rfl ?_
      refine zr_aload_n zSm 37 rfl rfl ?_
      refine zr_getR zSm 38 rfl zf_9_19 rfl rfl (by decide) ?_
      refine zr_iload_n zSm 39 rfl rfl ?_
      refine zr_inv0 40 94 1 [.int v4] rfl rfl zk_9_117 zms_94 rfl ⟨_, _, _, _, rfl, rfl⟩ (Nat.le_of_ble_eq_true rfl) ?_
      refine ze_94 ?_
      refine zNx_i ?_
      refine zr_putI zSm 41 rfl zf_9_76 rfl rfl (by decide) zp_9_8 ?_
      refine zr_iload_n zSm 42 rfl rfl ?_
      refine zr_iret zSm 43 rfl rfl rfl ?_
      exact h
  · have h := h.2 q1
    refine zr_aload_n zSm 23 rfl rfl ?_
    refine zr_getR zSm 24 rfl zf_9_51 rfl rfl (by decide) ?_
    refine zr_inv0 25 60 0 [] rfl rfl zk_9_111 zms_60 rfl ⟨_, _, _, _, rfl, rfl⟩ (Nat.le_of_ble_eq_true rfl) ?_
    refine zci h (fun v6 I6 J6 D6 h => ?_)
    refine zr_istore_n zSm 26 (ll' := [(2, .int v6), (1, .int v4), (0, .ref 0)]) rfl (by decide) rfl ?_
    refine zr_aload_n zSm 27 rfl rfl ?_
    refine zr_getR zSm 28 rfl zf_9_51 rfl rfl (by decide) ?_
    refine zr_getI zSm 29 rfl zf_9_114 rfl rfl (by decide) ?_
    refine zr_istore_n zSm 30 (ll' := [(1, .int (I6 19 2)), (2, .int v6), (0, .ref 0)]) rfl (by decide) rfl ?_
    refine zr_iload_n zSm 31 rfl rfl ?_
    refine zr_if zSm 32 88 rfl rfl (fun q3 => ?_) (fun q3 => ?_)
    · have h := h.1 q3
      refine zr_aload_n zSm 44 rfl rfl ?_
      refine zr_getR zSm 45 rfl zf_9_26 rfl rfl (by decide) ?_
      refine zr_aload_n zSm 46 rfl rfl ?_
      refine zr_getR zSm 47 rfl zf_9_19 rfl rfl (by decide) ?_
      refine zr_inv0 48 5 1 [.ref 3] rfl rfl zk_9_121 zms_5 rfl ⟨_, _, _, _, rfl, rfl⟩ (Nat.le_of_ble_eq_true rfl) ?_
      refine zcv h (fun I7 J7 D7 h => ?_)
      refine zr_aload_n zSm 49 rfl rfl ?_
      refine zr_getR zSm 50 rfl zf_9_42 rfl rfl (by decide) ?_
      refine zr_s zSm 51 rfl rfl ?_
      refine zr_putZ zSm 52 rfl zf_9_125 rfl rfl (by decide) zp_5_7 (Or.inr rfl) ?_
      refine zr_aload_n zSm 53 rfl rfl ?_
      refine zr_s zSm 54 rfl rfl ?_
      refine zr_putI zSm 55 rfl zf_9_76 rfl rfl (by decide) zp_9_8 ?_
      refine zr_s zSm 56 rfl rfl ?_
      refine zr_iret zSm 57 rfl rfl rfl ?_
      exact h
    · have h := h.2 q3
      refine zr_aload_n zSm 33 rfl rfl ?_
      refine zr_getR zSm 34 rfl zf_9_42 rfl rfl (by decide) ?_
      refine zr_inv0 35 74 0 [] rfl rfl zk_9_102 zms_74 rfl ⟨_, _, _, _, rfl, rfl⟩ (Nat.le_of_ble_eq_true rfl) ?_
      refine zcv h (fun I8 J8 D8 h => ?_)
      refine zr_aload_n zSm 36 rfl rfl ?_
      refine zr_aload_n zSm 37 rfl rfl ?_
      refine zr_getR zSm 38 rfl zf_9_19 rfl rfl (by decide) ?_
      refine zr_iload_n zSm 39 rfl rfl ?_
      refine zr_inv0 40 94 1 [.int (I6 19 2)] rfl rfl zk_9_117 zms_94 rfl ⟨_, _, _, _, rfl, rfl⟩ (Nat.le_of_ble_eq_true rfl) ?_
      refine ze_94 ?_
      refine zNx_i ?_
      refine zr_putI zSm 41 rfl zf_9_76 rfl rfl (by decide) zp_9_8 ?_
      refine zr_iload_n zSm 42 rfl rfl ?_
      refine zr_iret zSm 43 rfl rfl rfl ?_
      exact h
theorem w_111 {RO : zRo} {d : Nat} {P : zP} {I : zI} {J : zJ} {D : zD} {bc bs : Nat} {p0 : Int32} (h : ((p0 < 0 → ((1 ≤ bc ∧ 6 ≤ bs) ∧ P (.inr (2, 0, 0)) I J D)) ∧ (¬ (p0 < 0) → ((p0 ≤ 9 → P (.inl (some (.int (zv_112 I J p0)))) I J D) ∧ (¬ (p0 ≤ 9) → ((1 ≤ bc ∧ 6 ≤ bs) ∧ P (.inr (2, 0, 0)) I J D)))))) : zz RO (d + 3) 111 [.ref 0, .int p0] I J D bc bs P := by
  refine zT_of (Nat.le_of_ble_eq_true rfl) rfl ?_
  show zw RO (d + 2) 111 P 0 [(0, .ref 0), (1, .int p0)] [] I J D bc bs
  refine zr_iload_n zSm 0 rfl rfl ?_
  refine zr_if zSm 1 10 rfl rfl (fun q1 => ?_) (fun q1 => ?_)
  · have h := h.1 q1
    refine zr_thr 2 zth_111_10 h.1 ?_
    exact h.2
  · have h := h.2 q1
    refine zr_iload_n zSm 2 rfl rfl ?_
    refine zr_bipush zSm 3 9 rfl rfl ?_
    refine zr_ic zSm 4 20 rfl rfl (fun q2 => ?_) (fun q2 => ?_)
    · have h := h.1 q2
      refine zr_aload_n zSm 10 rfl rfl ?_
      refine zr_iload_n zSm 11 rfl rfl ?_
      refine zr_inv0 12 112 1 [.int p0] rfl rfl zk_9_134 zms_112 rfl ⟨_, _, _, _, rfl, rfl⟩ (Nat.le_of_ble_eq_true rfl) ?_
      refine ze_112 ?_
      refine zNx_i ?_
      refine zr_iret zSm 13 rfl rfl rfl ?_
      exact h
    · have h := h.2 q2
      refine zr_thr 2 zth_111_10 h.1 ?_
      exact h.2
theorem w_113 {RO : zRo} {d : Nat} {P : zP} {I : zI} {J : zJ} {D : zD} {bc bs : Nat} {p0 : Int32} {p1 : Int64} (h : ((p0 < 2 → ((1 ≤ bc ∧ 6 ≤ bs) ∧ P (.inr (1, 0, 0)) I J D)) ∧ (¬ (p0 < 2) → ((p0 ≤ 4 → ((¬ (I 12 7) = 0 → (zz RO d 28 [.ref 23, .int p0, .long p1] I J D 0 0 (zNv P fun I1 J1 D1 => P (.inl (some (.int (I1 23 5)))) I1 J1 D1))) ∧ (¬ (¬ (I 12 7) = 0) → ((1 ≤ bc ∧ 6 ≤ bs) ∧ P (.inr (0, 0, 0)) I J D)))) ∧ (¬ (p0 ≤ 4) → ((1 ≤ bc ∧ 6 ≤ bs) ∧ P (.inr (1, 0, 0)) I J D)))))) : zz RO (d + 1) 113 [.ref 0, .int p0, .long p1] I J D bc bs P := by
  refine zT_of (Nat.le_of_ble_eq_true rfl) rfl ?_
  show zw RO d 113 P 0 [(0, .ref 0), (1, .int p0), (2, .long p1)] [] I J D bc bs
  refine zr_iload_n zSm 0 rfl rfl ?_
  refine zr_s zSm 1 rfl rfl ?_
  refine zr_ic zSm 2 10 rfl rfl (fun q1 => ?_) (fun q1 => ?_)
  · have h := h.1 q1
    refine zr_thr 1 zth_113_10 h.1 ?_
    exact h.2
  · have h := h.2 q1
    refine zr_iload_n zSm 3 rfl rfl ?_
    refine zr_s zSm 4 rfl rfl ?_
    refine zr_ic zSm 5 20 rfl rfl (fun q2 => ?_) (fun q2 => ?_)
    · have h := h.1 q2
      refine zr_aload_n zSm 11 rfl rfl ?_
      refine zr_getR zSm 12 rfl zf_9_42 rfl rfl (by decide) ?_
      refine zr_getZ zSm 13 rfl zf_9_125 rfl rfl (by decide) ?_
      refine zr_if zSm 14 40 rfl rfl (fun q3 => ?_) (fun q3 => ?_)
      · have h := h.1 q3
        refine zr_aload_n zSm 20 rfl rfl ?_
        refine zr_getR zSm 21 rfl zf_9_72 rfl rfl (by decide) ?_
        refine zr_iload_n zSm 22 rfl rfl ?_
        refine zr_lload_n zSm 23 rfl rfl ?_
        refine zr_inv0 24 28 2 [.int p0, .long p1] rfl rfl zk_9_153 zms_28 rfl ⟨_, _, _, _, rfl, rfl⟩ (Nat.le_of_ble_eq_true rfl) ?_
        refine zcv h (fun I1 J1 D1 h => ?_)
        refine zr_aload_n zSm 25 rfl rfl ?_
        refine zr_getR zSm 26 rfl zf_9_72 rfl rfl (by decide) ?_
        refine zr_getI zSm 27 rfl zf_9_157 rfl rfl (by decide) ?_
        refine zr_iret zSm 28 rfl rfl rfl ?_
        exact h
      · have h := h.2 q3
        refine zr_thr 0 zth_113_30 h.1 ?_
        exact h.2
    · have h := h.2 q2
      refine zr_thr 1 zth_113_10 h.1 ?_
      exact h.2
theorem w_114 {RO : zRo} {d : Nat} {P : zP} {I : zI} {J : zJ} {D : zD} {bc bs : Nat} {p0 p1 : Int32} (h : ((¬ (zv_130 I J 0 p0 p1) = 0 → (zz RO (d + 2) 32 [.ref 23, .int 0, .int p0, .int p1] I J D 0 0 (zNi P fun v1 I1 J1 D1 => ((¬ v1 = 0 → (zz RO (d + 2) 34 [.ref 23, .int 0, .int p0, .int p1] I1 J1 D1 0 0 (zNv P fun I2 J2 D2 => P (.inl (some (.int (I2 20 3)))) I2 J2 D2))) ∧ (¬ (¬ v1 = 0) → ((1 ≤ bc ∧ 6 ≤ bs) ∧ P (.inr (0, 0, 0)) I1 J1 D1)))))) ∧ (¬ (¬ (zv_130 I J 0 p0 p1) = 0) → ((1 ≤ bc ∧ 6 ≤ bs) ∧ P (.inr (2, 0, 0)) I J D)))) : zz RO (d + 3) 114 [.ref 0, .int p0, .int p1] I J D bc bs P := by
  refine zT_of (Nat.le_of_ble_eq_true rfl) rfl ?_
  show zw RO (d + 2) 114 P 0 [(0, .ref 0), (1, .int p0), (2, .int p1)] [] I J D bc bs
  refine zr_aload_n zSm 0 rfl rfl ?_
  refine zr_s zSm 1 rfl rfl ?_
  refine zr_iload_n zSm 2 rfl rfl ?_
  refine zr_iload_n zSm 3 rfl rfl ?_
  refine zr_inv0 4 130 3 [.int 0, .int p0, .int p1] rfl rfl zk_9_160 zms_130 rfl ⟨_, _, _, _, rfl, rfl⟩ (Nat.le_of_ble_eq_true rfl) ?_
  refine ze_130 ?_
  refine zNx_i ?_
  refine zr_if zSm 5 20 rfl rfl (fun q1 => ?_) (fun q1 => ?_)
  · have h := h.1 q1
    refine zr_aload_n zSm 11 rfl rfl ?_
    refine zr_getR zSm 12 rfl zf_9_72 rfl rfl (by decide) ?_
    refine zr_s zSm 13 rfl rfl ?_
    refine zr_iload_n zSm 14 rfl rfl ?_
    refine zr_iload_n zSm 15 rfl rfl ?_
    refine zr_inv0 16 32 3 [.int 0, .int p0, .int p1] rfl rfl zk_9_166 zms_32 rfl ⟨_, _, _, _, rfl, rfl⟩ (Nat.le_of_ble_eq_true rfl) ?_
    refine zci h (fun v1 I1 J1 D1 h => ?_)
    refine zr_if zSm 17 43 rfl rfl (fun q2 => ?_) (fun q2 => ?_)
    · have h := h.1 q2
      refine zr_aload_n zSm 23 rfl rfl ?_
      refine zr_getR zSm 24 rfl zf_9_72 rfl rfl (by decide) ?_
      refine zr_s zSm 25 rfl rfl ?_
      refine zr_iload_n zSm 26 rfl rfl ?_
      refine zr_iload_n zSm 27 rfl rfl ?_
      refine zr_inv0 28 34 3 [.int 0, .int p0, .int p1] rfl rfl zk_9_171 zms_34 rfl ⟨_, _, _, _, rfl, rfl⟩ (Nat.le_of_ble_eq_true rfl) ?_
      refine zcv h (fun I2 J2 D2 h => ?_)
      refine zr_aload_n zSm 29 rfl rfl ?_
      refine zr_getR zSm 30 rfl zf_9_58 rfl rfl (by decide) ?_
      refine zr_getI zSm 31 rfl zf_9_143 rfl rfl (by decide) ?_
      refine zr_iret zSm 32 rfl rfl rfl ?_
      exact h
    · have h := h.2 q2
      refine zr_thr 0 zth_114_33 h.1 ?_
      exact h.2
  · have h := h.2 q1
    refine zr_thr 2 zth_114_10 h.1 ?_
    exact h.2
theorem w_115 {RO : zRo} {d : Nat} {P : zP} {I : zI} {J : zJ} {D : zD} {bc bs : Nat} {p0 p1 : Int32} (h : ((¬ (zv_130 I J 1 p0 p1) = 0 → (zz RO (d + 2) 32 [.ref 23, .int 1, .int p0, .int p1] I J D 0 0 (zNi P fun v1 I1 J1 D1 => ((¬ v1 = 0 → (zz RO (d + 2) 34 [.ref 23, .int 1, .int p0, .int p1] I1 J1 D1 0 0 (zNv P fun I2 J2 D2 => P (.inl (some (.int (I2 20 3)))) I2 J2 D2))) ∧ (¬ (¬ v1 = 0) → ((1 ≤ bc ∧ 6 ≤ bs) ∧ P (.inr (0, 0, 0)) I1 J1 D1)))))) ∧ (¬ (¬ (zv_130 I J 1 p0 p1) = 0) → ((1 ≤ bc ∧ 6 ≤ bs) ∧ P (.inr (2, 0, 0)) I J D)))) : zz RO (d + 3) 115 [.ref 0, .int p0, .int p1] I J D bc bs P := by
  refine zT_of (Nat.le_of_ble_eq_true rfl) rfl ?_
  show zw RO (d + 2) 115 P 0 [(0, .ref 0), (1, .int p0), (2, .int p1)] [] I J D bc bs
  refine zr_aload_n zSm 0 rfl rfl ?_
  refine zr_s zSm 1 rfl rfl ?_
  refine zr_iload_n zSm 2 rfl rfl ?_
  refine zr_iload_n zSm 3 rfl rfl ?_
  refine zr_inv0 4 130 3 [.int 1, .int p0, .int p1] rfl rfl zk_9_160 zms_130 rfl ⟨_, _, _, _, rfl, rfl⟩ (Nat.le_of_ble_eq_true rfl) ?_
  refine ze_130 ?_
  refine zNx_i ?_
  refine zr_if zSm 5 20 rfl rfl (fun q1 => ?_) (fun q1 => ?_)
  · have h := h.1 q1
    refine zr_aload_n zSm 11 rfl rfl ?_
    refine zr_getR zSm 12 rfl zf_9_72 rfl rfl (by decide) ?_
    refine zr_s zSm 13 rfl rfl ?_
    refine zr_iload_n zSm 14 rfl rfl ?_
    refine zr_iload_n zSm 15 rfl rfl ?_
    refine zr_inv0 16 32 3 [.int 1, .int p0, .int p1] rfl rfl zk_9_166 zms_32 rfl ⟨_, _, _, _, rfl, rfl⟩ (Nat.le_of_ble_eq_true rfl) ?_
    refine zci h (fun v1 I1 J1 D1 h => ?_)
    refine zr_if zSm 17 43 rfl rfl (fun q2 => ?_) (fun q2 => ?_)
    · have h := h.1 q2
      refine zr_aload_n zSm 23 rfl rfl ?_
      refine zr_getR zSm 24 rfl zf_9_72 rfl rfl (by decide) ?_
      refine zr_s zSm 25 rfl rfl ?_
      refine zr_iload_n zSm 26 rfl rfl ?_
      refine zr_iload_n zSm 27 rfl rfl ?_
      refine zr_inv0 28 34 3 [.int 1, .int p0, .int p1] rfl rfl zk_9_171 zms_34 rfl ⟨_, _, _, _, rfl, rfl⟩ (Nat.le_of_ble_eq_true rfl) ?_
      refine zcv h (fun I2 J2 D2 h => ?_)
      refine zr_aload_n zSm 29 rfl rfl ?_
      refine zr_getR zSm 30 rfl zf_9_58 rfl rfl (by decide) ?_
      refine zr_getI zSm 31 rfl zf_9_143 rfl rfl (by decide) ?_
      refine zr_iret zSm 32 rfl rfl rfl ?_
      exact h
    · have h := h.2 q2
      refine zr_thr 0 zth_115_33 h.1 ?_
      exact h.2
  · have h := h.2 q1
    refine zr_thr 2 zth_115_10 h.1 ?_
    exact h.2
theorem w_116 {RO : zRo} {d : Nat} {P : zP} {I : zI} {J : zJ} {D : zD} {bc bs : Nat}  (h : (((I 23 5) = 0 → (zz RO d 34 [.ref 23, .int 2, .int (-1), .int (-1)] I J D 0 0 (zNv P fun I1 J1 D1 => P (.inl (some (.int (I1 23 5)))) I1 J1 D1))) ∧ (¬ ((I 23 5) = 0) → ((1 ≤ bc ∧ 6 ≤ bs) ∧ P (.inr (0, 0, 0)) I J D)))) : zz RO (d + 1) 116 [.ref 0] I J D bc bs P := by
  refine zT_of (Nat.le_of_ble_eq_true rfl) rfl ?_
  show zw RO d 116 P 0 [(0, .ref 0)] [] I J D bc bs
  refine zr_aload_n zSm 0 rfl rfl ?_
  refine zr_getR zSm 1 rfl zf_9_72 rfl rfl (by decide) ?_
  refine zr_getI zSm 2 rfl zf_9_157 rfl rfl (by decide) ?_
  refine zr_if zSm 3 20 rfl rfl (fun q1 => ?_) (fun q1 => ?_)
  · have h := h.1 q1
    refine zr_aload_n zSm 9 rfl rfl ?_
    refine zr_getR zSm 10 rfl zf_9_72 rfl rfl (by decide) ?_
    refine zr_s zSm 11 rfl rfl ?_
    refine zr_s zSm 12 rfl rfl ?_
    refine zr_s zSm 13 rfl rfl ?_
    refine zr_inv0 14 34 3 [.int 2, .int (-1), .int (-1)] rfl rfl zk_9_171 zms_34 rfl ⟨_, _, _, _, rfl, rfl⟩ (Nat.le_of_ble_eq_true rfl) ?_
    refine zcv h (fun I1 J1 D1 h => ?_)
    refine zr_aload_n zSm 15 rfl rfl ?_
    refine zr_getR zSm 16 rfl zf_9_72 rfl rfl (by decide) ?_
    refine zr_getI zSm 17 rfl zf_9_157 rfl rfl (by decide) ?_
    refine zr_iret zSm 18 rfl rfl rfl ?_
    exact h
  · have h := h.2 q1
    refine zr_thr 0 zth_116_10 h.1 ?_
    exact h.2
theorem w_117 {RO : zRo} {d : Nat} {P : zP} {I : zI} {J : zJ} {D : zD} {bc bs : Nat} {p0 p1 p2 : Int32} (h : ((p0 = 0 → ((¬ (zv_130 I J 0 p1 p2) = 0 → (zz RO (d + 2) 32 [.ref 23, .int 0, .int p1, .int p2] I J D 0 0 (zNi P fun v1 I1 J1 D1 => ((v1 = 0 ∨ v1 = 1) ∧ P (.inl (some (.int v1))) I1 J1 D1)))) ∧ (¬ (¬ (zv_130 I J 0 p1 p2) = 0) → ((1 ≤ bc ∧ 6 ≤ bs) ∧ P (.inr (2, 0, 0)) I J D)))) ∧ (¬ (p0 = 0) → ((¬ (zv_130 I J 1 p1 p2) = 0 → (zz RO (d + 2) 32 [.ref 23, .int 1, .int p1, .int p2] I J D 0 0 (zNi P fun v2 I2 J2 D2 => ((v2 = 0 ∨ v2 = 1) ∧ P (.inl (some (.int v2))) I2 J2 D2)))) ∧ (¬ (¬ (zv_130 I J 1 p1 p2) = 0) → ((1 ≤ bc ∧ 6 ≤ bs) ∧ P (.inr (2, 0, 0)) I J D)))))) : zz RO (d + 3) 117 [.ref 0, .int p0, .int p1, .int p2] I J D bc bs P := by
  refine zT_of (Nat.le_of_ble_eq_true rfl) rfl ?_
  show zw RO (d + 2) 117 P 0 [(0, .ref 0), (1, .int p0), (2, .int p1), (3, .int p2)] [] I J D bc bs
  refine zr_iload_n zSm 0 rfl rfl ?_
  refine zr_if zSm 1 8 rfl rfl (fun q1 => ?_) (fun q1 => ?_)
  · have h := h.1 q1
    refine zr_s zSm 4 rfl rfl ?_
    refine zr_istore zSm 5 (ll' := [(4, .int 0), (0, .ref 0), (1, .int p0), (2, .int p1), (3, .int p2)]) rfl (by decide) rfl ?_
    refine zr_aload_n zSm 6 rfl rfl ?_
    refine zr_iload zSm 7 rfl rfl ?_
    refine zr_iload_n zSm 8 rfl rfl ?_
    refine zr_iload_n zSm 9 rfl rfl ?_
    refine zr_inv0 10 130 3 [.int 0, .int p1, .int p2] rfl rfl zk_9_160 zms_130 rfl ⟨_, _, _, _, rfl, rfl⟩ (Nat.le_of_ble_eq_true rfl) ?_
    refine ze_130 ?_
    refine zNx_i ?_
    refine zr_if zSm 11 32 rfl rfl (fun q2 => ?_) (fun q2 => ?_)
    · have h := h.1 q2
      refine zr_aload_n zSm 17 rfl rfl ?_
      refine zr_getR zSm 18 rfl zf_9_72 rfl rfl (by decide) ?_
      refine zr_iload zSm 19 rfl rfl ?_
      refine zr_iload_n zSm 20 rfl rfl ?_
      refine zr_iload_n zSm 21 rfl rfl ?_
      refine zr_inv0 22 32 3 [.int 0, .int p1, .int p2] rfl rfl zk_9_166 zms_32 rfl ⟨_, _, _, _, rfl, rfl⟩ (Nat.le_of_ble_eq_true rfl) ?_
      refine zci h (fun v1 I1 J1 D1 h => ?_)
      obtain ⟨b23, h⟩ := h
      refine zr_iret zSm 23 rfl rfl (zn_b b23) ?_
      exact h
    · have h := h.2 q2
      refine zr_thr 2 zth_117_22 h.1 ?_
      exact h.2
  · have h := h.2 q1
    refine zr_s zSm 2 rfl rfl ?_
    refine zr_goto zSm 3 9 rfl rfl ?_
    refine zr_istore zSm 5 (ll' := [(4, .int 1), (0, .ref 0), (1, .int p0), (2, .int p1), (3, .int p2)]) rfl (by decide) rfl ?_
    refine zr_aload_n zSm 6 rfl rfl ?_
    refine zr_iload zSm 7 rfl rfl ?_
    refine zr_iload_n zSm 8 rfl rfl ?_
    refine zr_iload_n zSm 9 rfl rfl ?_
    refine zr_inv0 10 130 3 [.int 1, .int p1, .int p2] rfl rfl zk_9_160 zms_130 rfl ⟨_, _, _, _, rfl, rfl⟩ (Nat.le_of_ble_eq_true rfl) ?_
    refine ze_130 ?_
    refine zNx_i ?_
    refine zr_if zSm 11 32 rfl rfl (fun q3 => ?_) (fun q3 => ?_)
    · have h := h.1 q3
      refine zr_aload_n zSm 17 rfl rfl ?_
      refine zr_getR zSm 18 rfl zf_9_72 rfl rfl (by decide) ?_
      refine zr_iload zSm 19 rfl rfl ?_
      refine zr_iload_n zSm 20 rfl rfl ?_
      refine zr_iload_n zSm 21 rfl rfl ?_
      refine zr_inv0 22 32 3 [.int 1, .int p1, .int p2] rfl rfl zk_9_166 zms_32 rfl ⟨_, _, _, _, rfl, rfl⟩ (Nat.le_of_ble_eq_true rfl) ?_
      refine zci h (fun v2 I2 J2 D2 h => ?_)
      obtain ⟨b23, h⟩ := h
      refine zr_iret zSm 23 rfl rfl (zn_b b23) ?_
      exact h
    · have h := h.2 q3
      refine zr_thr 2 zth_117_22 h.1 ?_
      exact h.2
theorem w_118 {RO : zRo} {d : Nat} {P : zP} {I : zI} {J : zJ} {D : zD} {bc bs : Nat}  (h : (((I 23 5) = 0 → ((¬ (I 20 3) = 0 → zw RO (d + 1) 118 P 62 [(0, .ref 0), (1, .int 1), (2, .int (if 12 < (zv_75 I J 4) then 12 else (zv_75 I J 4))), (3, .int (if 4 < (I 20 2) then 4 else (I 20 2))), (4, .int 1), (5, .int 0)] [] I J D bc bs) ∧ (¬ (¬ (I 20 3) = 0) → zw RO (d + 1) 118 P 62 [(0, .ref 0), (1, .int 0), (2, .int (if 12 < (zv_75 I J 3) then 12 else (zv_75 I J 3))), (3, .int (if 4 < (I 20 2) then 4 else (I 20 2))), (4, .int 1), (5, .int 0)] [] I J D bc bs))) ∧ (¬ ((I 23 5) = 0) → P (.inl (some (.int 0))) I J D))) : zz RO (d + 2) 118 [.ref 0] I J D bc bs P := by
  refine zT_of (Nat.le_of_ble_eq_true rfl) rfl ?_
  show zw RO (d + 1) 118 P 0 [(0, .ref 0)] [] I J D bc bs
  refine zr_aload_n zSm 0 rfl rfl ?_
  refine zr_getR zSm 1 rfl zf_9_72 rfl rfl (by decide) ?_
  refine zr_getI zSm 2 rfl zf_9_157 rfl rfl (by decide) ?_
  refine zr_if zSm 3 12 rfl rfl (fun q1 => ?_) (fun q1 => ?_)
  · have h := h.1 q1
    refine zr_aload_n zSm 6 rfl rfl ?_
    refine zr_getR zSm 7 rfl zf_9_58 rfl rfl (by decide) ?_
    refine zr_getI zSm 8 rfl zf_9_143 rfl rfl (by decide) ?_
    refine zr_if zSm 9 26 rfl rfl (fun q2 => ?_) (fun q2 => ?_)
    · have h := h.1 q2
      refine zr_s zSm 12 rfl rfl ?_
      refine zr_istore_n zSm 13 (ll' := [(1, .int 1), (0, .ref 0)]) rfl (by decide) rfl ?_
      refine zr_aload_n zSm 14 rfl rfl ?_
      refine zr_getR zSm 15 rfl zf_9_42 rfl rfl (by decide) ?_
      refine zr_s zSm 16 rfl rfl ?_
      refine zr_iload_n zSm 17 rfl rfl ?_
      refine zr_iaddf 18 (v := 4) rfl (by decide) ?_
      refine zr_inv0 19 75 1 [.int 4] rfl rfl zk_9_146 zms_75 rfl ⟨_, _, _, _, rfl, rfl⟩ (Nat.le_of_ble_eq_true rfl) ?_
      refine ze_75 ?_
      refine zNx_i ?_
      refine zr_bipush zSm 20 12 rfl rfl ?_
      refine zr_min 21 rfl zmt_9_183 (Nat.le_of_ble_eq_true rfl) ?_
      refine zr_istore_n zSm 22 (ll' := [(2, .int (if 12 < (zv_75 I J 4) then 12 else (zv_75 I J 4))), (1, .int 1), (0, .ref 0)]) rfl (by decide) rfl ?_
      refine zr_aload_n zSm 23 rfl rfl ?_
      refine zr_getR zSm 24 rfl zf_9_58 rfl rfl (by decide) ?_
      refine zr_getI zSm 25 rfl zf_9_137 rfl rfl (by decide) ?_
      refine zr_s zSm 26 rfl rfl ?_
      refine zr_min 27 rfl zmt_9_183 (Nat.le_of_ble_eq_true rfl) ?_
      refine zr_istore_n zSm 28 (ll' := [(3, .int (if 4 < (I 20 2) then 4 else (I 20 2))), (2, .int (if 12 < (zv_75 I J 4) then 12 else (zv_75 I J 4))), (1, .int 1), (0, .ref 0)]) rfl (by decide) rfl ?_
      refine zr_s zSm 29 rfl rfl ?_
      refine zr_istore zSm 30 (ll' := [(4, .int 1), (3, .int (if 4 < (I 20 2) then 4 else (I 20 2))), (2, .int (if 12 < (zv_75 I J 4) then 12 else (zv_75 I J 4))), (1, .int 1), (0, .ref 0)]) rfl (by decide) rfl ?_
      refine zr_s zSm 31 rfl rfl ?_
      refine zr_istore zSm 32 (ll' := [(5, .int 0), (4, .int 1), (3, .int (if 4 < (I 20 2) then 4 else (I 20 2))), (2, .int (if 12 < (zv_75 I J 4) then 12 else (zv_75 I J 4))), (1, .int 1), (0, .ref 0)]) rfl (by decide) rfl ?_
      refine zr_sub [5, 4, 3, 2, 1, 0] rfl ?_
      exact h
    · have h := h.2 q2
      refine zr_s zSm 10 rfl rfl ?_
      refine zr_goto zSm 11 27 rfl rfl ?_
      refine zr_istore_n zSm 13 (ll' := [(1, .int 0), (0, .ref 0)]) rfl (by decide) rfl ?_
      refine zr_aload_n zSm 14 rfl rfl ?_
      refine zr_getR zSm 15 rfl zf_9_42 rfl rfl (by decide) ?_
      refine zr_s zSm 16 rfl rfl ?_
      refine zr_iload_n zSm 17 rfl rfl ?_
      refine zr_iaddf 18 (v := 3) rfl (by decide) ?_
      refine zr_inv0 19 75 1 [.int 3] rfl rfl zk_9_146 zms_75 rfl ⟨_, _, _, _, rfl, rfl⟩ (Nat.le_of_ble_eq_true rfl) ?_
      refine ze_75 ?_
      refine zNx_i ?_
      refine zr_bipush zSm 20 12 rfl rfl ?_
      refine zr_min 21 rfl zmt_9_183 (Nat.le_of_ble_eq_true rfl) ?_
      refine zr_istore_n zSm 22 (ll' := [(2, .int (if 12 < (zv_75 I J 3) then 12 else (zv_75 I J 3))), (1, .int 0), (0, .ref 0)]) rfl (by decide) rfl ?_
      refine zr_aload_n zSm 23 rfl rfl ?_
      refine zr_getR zSm 24 rfl zf_9_58 rfl rfl (by decide) ?_
      refine zr_getI zSm 25 rfl zf_9_137 rfl rfl (by decide) ?_
      refine zr_s zSm 26 rfl rfl ?_
      refine zr_min 27 rfl zmt_9_183 (Nat.le_of_ble_eq_true rfl) ?_
      refine zr_istore_n zSm 28 (ll' := [(3, .int (if 4 < (I 20 2) then 4 else (I 20 2))), (2, .int (if 12 < (zv_75 I J 3) then 12 else (zv_75 I J 3))), (1, .int 0), (0, .ref 0)]) rfl (by decide) rfl ?_
      refine zr_s zSm 29 rfl rfl ?_
      refine zr_istore zSm 30 (ll' := [(4, .int 1), (3, .int (if 4 < (I 20 2) then 4 else (I 20 2))), (2, .int (if 12 < (zv_75 I J 3) then 12 else (zv_75 I J 3))), (1, .int 0), (0, .ref 0)]) rfl (by decide) rfl ?_
      refine zr_s zSm 31 rfl rfl ?_
      refine zr_istore zSm 32 (ll' := [(5, .int 0), (4, .int 1), (3, .int (if 4 < (I 20 2) then 4 else (I 20 2))), (2, .int (if 12 < (zv_75 I J 3) then 12 else (zv_75 I J 3))), (1, .int 0), (0, .ref 0)]) rfl (by decide) rfl ?_
      refine zr_sub [5, 4, 3, 2, 1, 0] rfl ?_
      exact h
  · have h := h.2 q1
    refine zr_s zSm 4 rfl rfl ?_
    refine zr_iret zSm 5 rfl rfl rfl ?_
    exact h
theorem wl_118_62 {RO : zRo} {d : Nat} {P : zP} {I : zI} {J : zJ} {D : zD} {bc bs : Nat} {l1 l2 l3 l4 l5 : Int32} (h : ((l2 ≤ l5 → P (.inl (some (.int l4))) I J D) ∧ (¬ (l2 ≤ l5) → zw RO (d + 1) 118 P 71 [(0, .ref 0), (1, .int l1), (2, .int l2), (3, .int l3), (4, .int l4), (5, .int l5), (6, .int 0)] [] I J D bc bs))) : zw RO (d + 1) 118 P 62 [(0, .ref 0), (1, .int l1), (2, .int l2), (3, .int l3), (4, .int l4), (5, .int l5)] [] I J D bc bs := by
  refine zr_iload zSm 33 rfl rfl ?_
  refine zr_iload_n zSm 34 rfl rfl ?_
  refine zr_ic zSm 35 107 rfl rfl (fun q1 => ?_) (fun q1 => ?_)
  · have h := h.1 q1
    refine zr_iload zSm 53 rfl rfl ?_
    refine zr_iret zSm 54 rfl rfl rfl ?_
    exact h
  · have h := h.2 q1
    refine zr_s zSm 36 rfl rfl ?_
    refine zr_istore zSm 37 (ll' := [(6, .int 0), (0, .ref 0), (1, .int l1), (2, .int l2), (3, .int l3), (4, .int l4), (5, .int l5)]) rfl (by decide) rfl ?_
    refine zr_sub [1, 2, 3, 4, 5, 6, 0] rfl ?_
    exact h
theorem wl_118_71 {RO : zRo} {d : Nat} {P : zP} {I : zI} {J : zJ} {D : zD} {bc bs : Nat} {l1 l2 l3 l4 l5 l6 : Int32} (h : ((l3 ≤ l6 → zw RO (d + 1) 118 P 62 [(0, .ref 0), (1, .int l1), (2, .int l2), (3, .int l3), (4, .int l4), (5, .int (l5 + 1))] [] I J D bc bs) ∧ (¬ (l3 ≤ l6) → (zz RO (d + 1) 32 [.ref 23, .int l1, .int l5, .int l6] I J D 0 0 (zNi P fun v1 I1 J1 D1 => ((v1 = 0 → zw RO (d + 1) 118 P 71 [(0, .ref 0), (1, .int l1), (2, .int l2), (3, .int l3), (4, .int l4), (5, .int l5), (6, .int (l6 + 1))] [] I1 J1 D1 bc bs) ∧ (¬ (v1 = 0) → zw RO (d + 1) 118 P 71 [(0, .ref 0), (1, .int l1), (2, .int l2), (3, .int l3), (4, .int (l4 + 1)), (5, .int l5), (6, .int (l6 + 1))] [] I1 J1 D1 bc bs))))))) : zw RO (d + 1) 118 P 71 [(0, .ref 0), (1, .int l1), (2, .int l2), (3, .int l3), (4, .int l4), (5, .int l5), (6, .int l6)] [] I J D bc bs := by
  refine zr_iload zSm 38 rfl rfl ?_
  refine zr_iload_n zSm 39 rfl rfl ?_
  refine zr_ic zSm 40 101 rfl rfl (fun q1 => ?_) (fun q1 => ?_)
  · have h := h.1 q1
    refine zr_iinc zSm 51 (v := l5 + 1) (ll' := [(5, .int (l5 + 1)), (0, .ref 0), (1, .int l1), (2, .int l2), (3, .int l3), (4, .int l4), (6, .int l6)]) rfl rfl (by decide) rfl rfl ?_
    refine zr_goto zSm 52 62 rfl rfl ?_
    refine zr_sub [1, 2, 3, 4, 5, 0] rfl ?_
    exact h
  · have h := h.2 q1
    refine zr_aload_n zSm 41 rfl rfl ?_
    refine zr_getR zSm 42 rfl zf_9_72 rfl rfl (by decide) ?_
    refine zr_iload_n zSm 43 rfl rfl ?_
    refine zr_iload zSm 44 rfl rfl ?_
    refine zr_iload zSm 45 rfl rfl ?_
    refine zr_inv0 46 32 3 [.int l1, .int l5, .int l6] rfl rfl zk_9_166 zms_32 rfl ⟨_, _, _, _, rfl, rfl⟩ (Nat.le_of_ble_eq_true rfl) ?_
    refine zci h (fun v1 I1 J1 D1 h => ?_)
    refine zr_if zSm 47 95 rfl rfl (fun q2 => ?_) (fun q2 => ?_)
    · have h := h.1 q2
      refine zr_iinc zSm 49 (v := l6 + 1) (ll' := [(6, .int (l6 + 1)), (0, .ref 0), (1, .int l1), (2, .int l2), (3, .int l3), (4, .int l4), (5, .int l5)]) rfl rfl (by decide) rfl rfl ?_
      refine zr_goto zSm 50 71 rfl rfl ?_
      refine zr_sub [1, 2, 3, 4, 5, 6, 0] rfl ?_
      exact h
    · have h := h.2 q2
      refine zr_iinc zSm 48 (v := l4 + 1) (ll' := [(4, .int (l4 + 1)), (0, .ref 0), (1, .int l1), (2, .int l2), (3, .int l3), (5, .int l5), (6, .int l6)]) rfl rfl (by decide) rfl rfl ?_
      refine zr_iinc zSm 49 (v := l6 + 1) (ll' := [(6, .int (l6 + 1)), (4, .int (l4 + 1)), (0, .ref 0), (1, .int l1), (2, .int l2), (3, .int l3), (5, .int l5)]) rfl rfl (by decide) rfl rfl ?_
      refine zr_goto zSm 50 71 rfl rfl ?_
      refine zr_sub [2, 3, 4, 5, 1, 6, 0] rfl ?_
      exact h
theorem w_120 {RO : zRo} {d : Nat} {P : zP} {I : zI} {J : zJ} {D : zD} {bc bs : Nat} {p0 : Int32} (h : ((p0 < 0 → ((1 ≤ bc ∧ 6 ≤ bs) ∧ P (.inr (2, 0, 0)) I J D)) ∧ (¬ (p0 < 0) → ((p0 ≤ 7 → P (.inl (some (.int (zv_131 I J p0)))) I J D) ∧ (¬ (p0 ≤ 7) → ((1 ≤ bc ∧ 6 ≤ bs) ∧ P (.inr (2, 0, 0)) I J D)))))) : zz RO (d + 2) 120 [.ref 0, .int p0] I J D bc bs P := by
  refine zT_of (Nat.le_of_ble_eq_true rfl) rfl ?_
  show zw RO (d + 1) 120 P 0 [(0, .ref 0), (1, .int p0)] [] I J D bc bs
  refine zr_iload_n zSm 0 rfl rfl ?_
  refine zr_if zSm 1 10 rfl rfl (fun q1 => ?_) (fun q1 => ?_)
  · have h := h.1 q1
    refine zr_thr 2 zth_120_10 h.1 ?_
    exact h.2
  · have h := h.2 q1
    refine zr_iload_n zSm 2 rfl rfl ?_
    refine zr_bipush zSm 3 7 rfl rfl ?_
    refine zr_ic zSm 4 20 rfl rfl (fun q2 => ?_) (fun q2 => ?_)
    · have h := h.1 q2
      refine zr_aload_n zSm 10 rfl rfl ?_
      refine zr_iload_n zSm 11 rfl rfl ?_
      refine zr_inv0 12 131 1 [.int p0] rfl rfl zk_9_191 zms_131 rfl ⟨_, _, _, _, rfl, rfl⟩ (Nat.le_of_ble_eq_true rfl) ?_
      refine ze_131 ?_
      refine zNx_i ?_
      refine zr_iret zSm 13 rfl rfl rfl ?_
      exact h
    · have h := h.2 q2
      refine zr_thr 2 zth_120_10 h.1 ?_
      exact h.2
theorem w_121 {RO : zRo} {d : Nat} {P : zP} {I : zI} {J : zJ} {D : zD} {bc bs : Nat} {p0 p1 : Int32} (h : ((p0 < 0 → ((1 ≤ bc ∧ 6 ≤ bs) ∧ P (.inr (2, 0, 0)) I J D)) ∧ (¬ (p0 < 0) → (((I 20 2) ≤ p0 → ((1 ≤ bc ∧ 6 ≤ bs) ∧ P (.inr (2, 0, 0)) I J D)) ∧ (¬ ((I 20 2) ≤ p0) → ((p1 < 0 → ((1 ≤ bc ∧ 6 ≤ bs) ∧ P (.inr (2, 0, 0)) I J D)) ∧ (¬ (p1 < 0) → ((p1 < (zv_75 I J 0) → P (.inl (some (.int (zv_84 I J ((p0 * 6) + p1))))) I J D) ∧ (¬ (p1 < (zv_75 I J 0)) → ((1 ≤ bc ∧ 6 ≤ bs) ∧ P (.inr (2, 0, 0)) I J D)))))))))) : zz RO (d + 2) 121 [.ref 0, .int p0, .int p1] I J D bc bs P := by
  refine zT_of (Nat.le_of_ble_eq_true rfl) rfl ?_
  show zw RO (d + 1) 121 P 0 [(0, .ref 0), (1, .int p0), (2, .int p1)] [] I J D bc bs
  refine zr_iload_n zSm 0 rfl rfl ?_
  refine zr_if zSm 1 31 rfl rfl (fun q1 => ?_) (fun q1 => ?_)
  · have h := h.1 q1
    refine zr_thr 2 zth_121_31 h.1 ?_
    exact h.2
  · have h := h.2 q1
    refine zr_iload_n zSm 2 rfl rfl ?_
    refine zr_aload_n zSm 3 rfl rfl ?_
    refine zr_getR zSm 4 rfl zf_9_58 rfl rfl (by decide) ?_
    refine zr_getI zSm 5 rfl zf_9_137 rfl rfl (by decide) ?_
    refine zr_ic zSm 6 31 rfl rfl (fun q2 => ?_) (fun q2 => ?_)
    · have h := h.1 q2
      refine zr_thr 2 zth_121_31 h.1 ?_
      exact h.2
    · have h := h.2 q2
      refine zr_iload_n zSm 7 rfl rfl ?_
      refine zr_if zSm 8 31 rfl rfl (fun q3 => ?_) (fun q3 => ?_)
      · have h := h.1 q3
        refine zr_thr 2 zth_121_31 h.1 ?_
        exact h.2
      · have h := h.2 q3
        refine zr_iload_n zSm 9 rfl rfl ?_
        refine zr_aload_n zSm 10 rfl rfl ?_
        refine zr_getR zSm 11 rfl zf_9_42 rfl rfl (by decide) ?_
        refine zr_s zSm 12 rfl rfl ?_
        refine zr_inv0 13 75 1 [.int 0] rfl rfl zk_9_146 zms_75 rfl ⟨_, _, _, _, rfl, rfl⟩ (Nat.le_of_ble_eq_true rfl) ?_
        refine ze_75 ?_
        refine zNx_i ?_
        refine zr_ic zSm 14 41 rfl rfl (fun q4 => ?_) (fun q4 => ?_)
        · have h := h.1 q4
          refine zr_aload_n zSm 20 rfl rfl ?_
          refine zr_getR zSm 21 rfl zf_9_58 rfl rfl (by decide) ?_
          refine zr_iload_n zSm 22 rfl rfl ?_
          refine zr_bipush zSm 23 6 rfl rfl ?_
          refine zr_s zSm 24 rfl rfl ?_
          refine zr_iload_n zSm 25 rfl rfl ?_
          refine zr_s zSm 26 rfl rfl ?_
          refine zr_inv0 27 84 1 [.int ((p0 * 6) + p1)] rfl rfl zk_9_196 zms_84 rfl ⟨_, _, _, _, rfl, rfl⟩ (Nat.le_of_ble_eq_true rfl) ?_
          refine ze_84 ?_
          refine zNx_i ?_
          refine zr_iret zSm 28 rfl rfl rfl ?_
          exact h
        · have h := h.2 q4
          refine zr_thr 2 zth_121_31 h.1 ?_
          exact h.2
theorem w_122 {RO : zRo} {d : Nat} {P : zP} {I : zI} {J : zJ} {D : zD} {bc bs : Nat} {p0 : Int32} (h : ((p0 < 0 → ((1 ≤ bc ∧ 6 ≤ bs) ∧ P (.inr (2, 0, 0)) I J D)) ∧ (¬ (p0 < 0) → ((p0 < (zv_75 I J 1) → ((¬ (I 23 5) = (-1) → P (.inl (some (.int (zv_84 I J (24 + p0))))) I J D) ∧ (¬ (¬ (I 23 5) = (-1)) → P (.inl (some (.int (zv_76 I J (6 + p0) 2)))) I J D))) ∧ (¬ (p0 < (zv_75 I J 1)) → ((1 ≤ bc ∧ 6 ≤ bs) ∧ P (.inr (2, 0, 0)) I J D)))))) : zz RO (d + 2) 122 [.ref 0, .int p0] I J D bc bs P := by
  refine zT_of (Nat.le_of_ble_eq_true rfl) rfl ?_
  show zw RO (d + 1) 122 P 0 [(0, .ref 0), (1, .int p0)] [] I J D bc bs
  refine zr_iload_n zSm 0 rfl rfl ?_
  refine zr_if zSm 1 16 rfl rfl (fun q1 => ?_) (fun q1 => ?_)
  · have h := h.1 q1
    refine zr_thr 2 zth_122_16 h.1 ?_
    exact h.2
  · have h := h.2 q1
    refine zr_iload_n zSm 2 rfl rfl ?_
    refine zr_aload_n zSm 3 rfl rfl ?_
    refine zr_getR zSm 4 rfl zf_9_42 rfl rfl (by decide) ?_
    refine zr_s zSm 5 rfl rfl ?_
    refine zr_inv0 6 75 1 [.int 1] rfl rfl zk_9_146 zms_75 rfl ⟨_, _, _, _, rfl, rfl⟩ (Nat.le_of_ble_eq_true rfl) ?_
    refine ze_75 ?_
    refine zNx_i ?_
    refine zr_ic zSm 7 26 rfl rfl (fun q2 => ?_) (fun q2 => ?_)
    · have h := h.1 q2
      refine zr_aload_n zSm 13 rfl rfl ?_
      refine zr_getR zSm 14 rfl zf_9_72 rfl rfl (by decide) ?_
      refine zr_getI zSm 15 rfl zf_9_157 rfl rfl (by decide) ?_
      refine zr_s zSm 16 rfl rfl ?_
      refine zr_ic zSm 17 52 rfl rfl (fun q3 => ?_) (fun q3 => ?_)
      · have h := h.1 q3
        refine zr_aload_n zSm 26 rfl rfl ?_
        refine zr_getR zSm 27 rfl zf_9_58 rfl rfl (by decide) ?_
        refine zr_bipush zSm 28 24 rfl rfl ?_
        refine zr_iload_n zSm 29 rfl rfl ?_
        refine zr_s zSm 30 rfl rfl ?_
        refine zr_inv0 31 84 1 [.int (24 + p0)] rfl rfl zk_9_196 zms_84 rfl ⟨_, _, _, _, rfl, rfl⟩ (Nat.le_of_ble_eq_true rfl) ?_
        refine ze_84 ?_
        refine zNx_i ?_
        refine zr_iret zSm 32 rfl rfl rfl ?_
        exact h
      · have h := h.2 q3
        refine zr_aload_n zSm 18 rfl rfl ?_
        refine zr_getR zSm 19 rfl zf_9_42 rfl rfl (by decide) ?_
        refine zr_bipush zSm 20 6 rfl rfl ?_
        refine zr_iload_n zSm 21 rfl rfl ?_
        refine zr_s zSm 22 rfl rfl ?_
        refine zr_s zSm 23 rfl rfl ?_
        refine zr_inv0 24 76 2 [.int (6 + p0), .int 2] rfl rfl zk_9_201 zms_76 rfl ⟨_, _, _, _, rfl, rfl⟩ (Nat.le_of_ble_eq_true rfl) ?_
        refine ze_76 ?_
        refine zNx_i ?_
        refine zr_goto zSm 25 63 rfl rfl ?_
        refine zr_iret zSm 32 rfl rfl rfl ?_
        exact h
    · have h := h.2 q2
      refine zr_thr 2 zth_122_16 h.1 ?_
      exact h.2
theorem w_123 {RO : zRo} {d : Nat} {P : zP} {I : zI} {J : zJ} {D : zD} {bc bs : Nat} {p0 p1 : Int32} (h : ((p0 < 0 → ((1 ≤ bc ∧ 6 ≤ bs) ∧ P (.inr (2, 0, 0)) I J D)) ∧ (¬ (p0 < 0) → (((I 20 3) ≤ p0 → ((1 ≤ bc ∧ 6 ≤ bs) ∧ P (.inr (2, 0, 0)) I J D)) ∧ (¬ ((I 20 3) ≤ p0) → ((p1 < 0 → ((1 ≤ bc ∧ 6 ≤ bs) ∧ P (.inr (2, 0, 0)) I J D)) ∧ (¬ (p1 < 0) → ((p1 < 4 → P (.inl (some (.int (zv_86 I J p0 p1)))) I J D) ∧ (¬ (p1 < 4) → ((1 ≤ bc ∧ 6 ≤ bs) ∧ P (.inr (2, 0, 0)) I J D)))))))))) : zz RO (d + 2) 123 [.ref 0, .int p0, .int p1] I J D bc bs P := by
  refine zT_of (Nat.le_of_ble_eq_true rfl) rfl ?_
  show zw RO (d + 1) 123 P 0 [(0, .ref 0), (1, .int p0), (2, .int p1)] [] I J D bc bs
  refine zr_iload_n zSm 0 rfl rfl ?_
  refine zr_if zSm 1 24 rfl rfl (fun q1 => ?_) (fun q1 => ?_)
  · have h := h.1 q1
    refine zr_thr 2 zth_123_24 h.1 ?_
    exact h.2
  · have h := h.2 q1
    refine zr_iload_n zSm 2 rfl rfl ?_
    refine zr_aload_n zSm 3 rfl rfl ?_
    refine zr_getR zSm 4 rfl zf_9_58 rfl rfl (by decide) ?_
    refine zr_getI zSm 5 rfl zf_9_143 rfl rfl (by decide) ?_
    refine zr_ic zSm 6 24 rfl rfl (fun q2 => ?_) (fun q2 => ?_)
    · have h := h.1 q2
      refine zr_thr 2 zth_123_24 h.1 ?_
      exact h.2
    · have h := h.2 q2
      refine zr_iload_n zSm 7 rfl rfl ?_
      refine zr_if zSm 8 24 rfl rfl (fun q3 => ?_) (fun q3 => ?_)
      · have h := h.1 q3
        refine zr_thr 2 zth_123_24 h.1 ?_
        exact h.2
      · have h := h.2 q3
        refine zr_iload_n zSm 9 rfl rfl ?_
        refine zr_s zSm 10 rfl rfl ?_
        refine zr_ic zSm 11 34 rfl rfl (fun q4 => ?_) (fun q4 => ?_)
        · have h := h.1 q4
          refine zr_aload_n zSm 17 rfl rfl ?_
          refine zr_getR zSm 18 rfl zf_9_58 rfl rfl (by decide) ?_
          refine zr_iload_n zSm 19 rfl rfl ?_
          refine zr_iload_n zSm 20 rfl rfl ?_
          refine zr_inv0 21 86 2 [.int p0, .int p1] rfl rfl zk_9_206 zms_86 rfl ⟨_, _, _, _, rfl, rfl⟩ (Nat.le_of_ble_eq_true rfl) ?_
          refine ze_86 ?_
          refine zNx_i ?_
          refine zr_iret zSm 22 rfl rfl rfl ?_
          exact h
        · have h := h.2 q4
          refine zr_thr 2 zth_123_24 h.1 ?_
          exact h.2
theorem w_124 {RO : zRo} {d : Nat} {P : zP} {I : zI} {J : zJ} {D : zD} {bc bs : Nat} {p0 p1 : Int32} (h : ((p0 < 0 → ((1 ≤ bc ∧ 6 ≤ bs) ∧ P (.inr (2, 0, 0)) I J D)) ∧ (¬ (p0 < 0) → (((I 23 4) ≤ p0 → ((1 ≤ bc ∧ 6 ≤ bs) ∧ P (.inr (2, 0, 0)) I J D)) ∧ (¬ ((I 23 4) ≤ p0) → ((p1 < 0 → ((1 ≤ bc ∧ 6 ≤ bs) ∧ P (.inr (2, 0, 0)) I J D)) ∧ (¬ (p1 < 0) → ((p1 < 4 → P (.inl (some (.int (zv_31 I J p0 p1)))) I J D) ∧ (¬ (p1 < 4) → ((1 ≤ bc ∧ 6 ≤ bs) ∧ P (.inr (2, 0, 0)) I J D)))))))))) : zz RO (d + 2) 124 [.ref 0, .int p0, .int p1] I J D bc bs P := by
  refine zT_of (Nat.le_of_ble_eq_true rfl) rfl ?_
  show zw RO (d + 1) 124 P 0 [(0, .ref 0), (1, .int p0), (2, .int p1)] [] I J D bc bs
  refine zr_iload_n zSm 0 rfl rfl ?_
  refine zr_if zSm 1 24 rfl rfl (fun q1 => ?_) (fun q1 => ?_)
  · have h := h.1 q1
    refine zr_thr 2 zth_124_24 h.1 ?_
    exact h.2
  · have h := h.2 q1
    refine zr_iload_n zSm 2 rfl rfl ?_
    refine zr_aload_n zSm 3 rfl rfl ?_
    refine zr_getR zSm 4 rfl zf_9_72 rfl rfl (by decide) ?_
    refine zr_getI zSm 5 rfl zf_9_140 rfl rfl (by decide) ?_
    refine zr_ic zSm 6 24 rfl rfl (fun q2 => ?_) (fun q2 => ?_)
    · have h := h.1 q2
      refine zr_thr 2 zth_124_24 h.1 ?_
      exact h.2
    · have h := h.2 q2
      refine zr_iload_n zSm 7 rfl rfl ?_
      refine zr_if zSm 8 24 rfl rfl (fun q3 => ?_) (fun q3 => ?_)
      · have h := h.1 q3
        refine zr_thr 2 zth_124_24 h.1 ?_
        exact h.2
      · have h := h.2 q3
        refine zr_iload_n zSm 9 rfl rfl ?_
        refine zr_s zSm 10 rfl rfl ?_
        refine zr_ic zSm 11 34 rfl rfl (fun q4 => ?_) (fun q4 => ?_)
        · have h := h.1 q4
          refine zr_aload_n zSm 17 rfl rfl ?_
          refine zr_getR zSm 18 rfl zf_9_72 rfl rfl (by decide) ?_
          refine zr_iload_n zSm 19 rfl rfl ?_
          refine zr_iload_n zSm 20 rfl rfl ?_
          refine zr_inv0 21 31 2 [.int p0, .int p1] rfl rfl zk_9_211 zms_31 rfl ⟨_, _, _, _, rfl, rfl⟩ (Nat.le_of_ble_eq_true rfl) ?_
          refine ze_31 ?_
          refine zNx_i ?_
          refine zr_iret zSm 22 rfl rfl rfl ?_
          exact h
        · have h := h.2 q4
          refine zr_thr 2 zth_124_24 h.1 ?_
          exact h.2
theorem w_125 {RO : zRo} {d : Nat} {P : zP} {I : zI} {J : zJ} {D : zD} {bc bs : Nat} {p0 : Int32} (h : ((p0 < 0 → ((1 ≤ bc ∧ 6 ≤ bs) ∧ P (.inr (1, 0, 0)) I J D)) ∧ (¬ (p0 < 0) → ((p0 ≤ (I 23 4) → ((¬ (I 23 5) = (-1) → (zz RO (d + 1) 28 [.ref 23, .int (I 20 2), .long (J 23 9)] I J D 0 0 (zNv P fun I1 J1 D1 => zw RO (d + 1) 125 P 69 [(0, .ref 0), (1, .int p0), (2, .int 0)] [] I1 J1 D1 bc bs))) ∧ (¬ (¬ (I 23 5) = (-1)) → ((1 ≤ bc ∧ 6 ≤ bs) ∧ P (.inr (0, 0, 0)) I J D)))) ∧ (¬ (p0 ≤ (I 23 4)) → ((1 ≤ bc ∧ 6 ≤ bs) ∧ P (.inr (1, 0, 0)) I J D)))))) : zz RO (d + 2) 125 [.ref 0, .int p0] I J D bc bs P := by
  refine zT_of (Nat.le_of_ble_eq_true rfl) rfl ?_
  show zw RO (d + 1) 125 P 0 [(0, .ref 0), (1, .int p0)] [] I J D bc bs
  refine zr_iload_n zSm 0 rfl rfl ?_
  refine zr_if zSm 1 15 rfl rfl (fun q1 => ?_) (fun q1 => ?_)
  · have h := h.1 q1
    refine zr_thr 1 zth_125_15 h.1 ?_
    exact h.2
  · have h := h.2 q1
    refine zr_iload_n zSm 2 rfl rfl ?_
    refine zr_aload_n zSm 3 rfl rfl ?_
    refine zr_getR zSm 4 rfl zf_9_72 rfl rfl (by decide) ?_
    refine zr_getI zSm 5 rfl zf_9_140 rfl rfl (by decide) ?_
    refine zr_ic zSm 6 25 rfl rfl (fun q2 => ?_) (fun q2 => ?_)
    · have h := h.1 q2
      refine zr_aload_n zSm 12 rfl rfl ?_
      refine zr_getR zSm 13 rfl zf_9_72 rfl rfl (by decide) ?_
      refine zr_getI zSm 14 rfl zf_9_157 rfl rfl (by decide) ?_
      refine zr_s zSm 15 rfl rfl ?_
      refine zr_ic zSm 16 46 rfl rfl (fun q3 => ?_) (fun q3 => ?_)
      · have h := h.1 q3
        refine zr_aload_n zSm 22 rfl rfl ?_
        refine zr_getR zSm 23 rfl zf_9_72 rfl rfl (by decide) ?_
        refine zr_aload_n zSm 24 rfl rfl ?_
        refine zr_getR zSm 25 rfl zf_9_58 rfl rfl (by decide) ?_
        refine zr_getI zSm 26 rfl zf_9_137 rfl rfl (by decide) ?_
        refine zr_aload_n zSm 27 rfl rfl ?_
        refine zr_getR zSm 28 rfl zf_9_72 rfl rfl (by decide) ?_
        refine zr_getJ zSm 29 rfl zf_9_218 rfl rfl (by decide) ?_
        refine zr_inv0 30 28 2 [.int (I 20 2), .long (J 23 9)] rfl rfl zk_9_153 zms_28 rfl ⟨_, _, _, _, rfl, rfl⟩ (Nat.le_of_ble_eq_true rfl) ?_
        refine zcv h (fun I1 J1 D1 h => ?_)
        refine zr_s zSm 31 rfl rfl ?_
        refine zr_istore_n zSm 32 (ll' := [(2, .int 0), (0, .ref 0), (1, .int p0)]) rfl (by decide) rfl ?_
        refine zr_sub [1, 2, 0] rfl ?_
        exact h
      · have h := h.2 q3
        refine zr_thr 0 zth_125_36 h.1 ?_
        exact h.2
    · have h := h.2 q2
      refine zr_thr 1 zth_125_15 h.1 ?_
      exact h.2
theorem wl_125_69 {RO : zRo} {d : Nat} {P : zP} {I : zI} {J : zJ} {D : zD} {bc bs : Nat} {l1 l2 : Int32} (h : ((l1 ≤ l2 → P (.inl (some (.int (I 23 5)))) I J D) ∧ (¬ (l1 ≤ l2) → (zz RO (d + 1) 34 [.ref 23, .int (zv_31 I J l2 0), .int (zv_31 I J l2 1), .int (zv_31 I J l2 2)] I J D 0 0 (zNv P fun I1 J1 D1 => zw RO (d + 1) 125 P 69 [(0, .ref 0), (1, .int l1), (2, .int (l2 + 1))] [] I1 J1 D1 bc bs))))) : zw RO (d + 1) 125 P 69 [(0, .ref 0), (1, .int l1), (2, .int l2)] [] I J D bc bs := by
  refine zr_iload_n zSm 33 rfl rfl ?_
  refine zr_iload_n zSm 34 rfl rfl ?_
  refine zr_ic zSm 35 114 rfl rfl (fun q1 => ?_) (fun q1 => ?_)
  · have h := h.1 q1
    refine zr_aload_n zSm 56 rfl rfl ?_
    refine zr_getR zSm 57 rfl zf_9_72 rfl rfl (by decide) ?_
    refine zr_getI zSm 58 rfl zf_9_157 rfl rfl (by decide) ?_
    refine zr_iret zSm 59 rfl rfl rfl ?_
    exact h
  · have h := h.2 q1
    refine zr_aload_n zSm 36 rfl rfl ?_
    refine zr_getR zSm 37 rfl zf_9_72 rfl rfl (by decide) ?_
    refine zr_aload_n zSm 38 rfl rfl ?_
    refine zr_getR zSm 39 rfl zf_9_72 rfl rfl (by decide) ?_
    refine zr_iload_n zSm 40 rfl rfl ?_
    refine zr_s zSm 41 rfl rfl ?_
    refine zr_inv0 42 31 2 [.int l2, .int 0] rfl rfl zk_9_211 zms_31 rfl ⟨_, _, _, _, rfl, rfl⟩ (Nat.le_of_ble_eq_true rfl) ?_
    refine ze_31 ?_
    refine zNx_i ?_
    refine zr_aload_n zSm 43 rfl rfl ?_
    refine zr_getR zSm 44 rfl zf_9_72 rfl rfl (by decide) ?_
    refine zr_iload_n zSm 45 rfl rfl ?_
    refine zr_s zSm 46 rfl rfl ?_
    refine zr_inv0 47 31 2 [.int l2, .int 1] rfl rfl zk_9_211 zms_31 rfl ⟨_, _, _, _, rfl, rfl⟩ (Nat.le_of_ble_eq_true rfl) ?_
    refine ze_31 ?_
    refine zNx_i ?_
    refine zr_aload_n zSm 48 rfl rfl ?_
    refine zr_getR zSm 49 rfl zf_9_72 rfl rfl (by decide) ?_
    refine zr_iload_n zSm 50 rfl rfl ?_
    refine zr_s zSm 51 rfl rfl ?_
    refine zr_inv0 52 31 2 [.int l2, .int 2] rfl rfl zk_9_211 zms_31 rfl ⟨_, _, _, _, rfl, rfl⟩ (Nat.le_of_ble_eq_true rfl) ?_
    refine ze_31 ?_
    refine zNx_i ?_
    refine zr_inv0 53 34 3 [.int (zv_31 I J l2 0), .int (zv_31 I J l2 1), .int (zv_31 I J l2 2)] rfl rfl zk_9_171 zms_34 rfl ⟨_, _, _, _, rfl, rfl⟩ (Nat.le_of_ble_eq_true rfl) ?_
    refine zcv h (fun I1 J1 D1 h => ?_)
    refine zr_iinc zSm 54 (v := l2 + 1) (ll' := [(2, .int (l2 + 1)), (0, .ref 0), (1, .int l1)]) rfl rfl (by decide) rfl rfl ?_
    refine zr_goto zSm 55 69 rfl rfl ?_
    refine zr_sub [1, 2, 0] rfl ?_
    exact h
theorem w_127 {RO : zRo} {d : Nat} {P : zP} {I : zI} {J : zJ} {D : zD} {bc bs : Nat} {p0 : Int32} (h : ((p0 < 0 → ((1 ≤ bc ∧ 6 ≤ bs) ∧ P (.inr (2, 0, 0)) I J D)) ∧ (¬ (p0 < 0) → ((p0 < (zv_75 I J 0) → ((1 ≤ (I 20 2) → zw RO (d + 1) 127 P 46 [(0, .ref 0), (1, .int p0), (2, .int (I 20 2)), (3, .int 0), (4, .int 0)] [] I J D bc bs) ∧ (¬ (1 ≤ (I 20 2)) → P (.inl (some (.double FP.dconst0))) I J D))) ∧ (¬ (p0 < (zv_75 I J 0)) → ((1 ≤ bc ∧ 6 ≤ bs) ∧ P (.inr (2, 0, 0)) I J D)))))) : zz RO (d + 2) 127 [.ref 0, .int p0] I J D bc bs P := by
  refine zT_of (Nat.le_of_ble_eq_true rfl) rfl ?_
  show zw RO (d + 1) 127 P 0 [(0, .ref 0), (1, .int p0)] [] I J D bc bs
  refine zr_iload_n zSm 0 rfl rfl ?_
  refine zr_if zSm 1 16 rfl rfl (fun q1 => ?_) (fun q1 => ?_)
  · have h := h.1 q1
    refine zr_thr 2 zth_127_16 h.1 ?_
    exact h.2
  · have h := h.2 q1
    refine zr_iload_n zSm 2 rfl rfl ?_
    refine zr_aload_n zSm 3 rfl rfl ?_
    refine zr_getR zSm 4 rfl zf_9_42 rfl rfl (by decide) ?_
    refine zr_s zSm 5 rfl rfl ?_
    refine zr_inv0 6 75 1 [.int 0] rfl rfl zk_9_146 zms_75 rfl ⟨_, _, _, _, rfl, rfl⟩ (Nat.le_of_ble_eq_true rfl) ?_
    refine ze_75 ?_
    refine zNx_i ?_
    refine zr_ic zSm 7 26 rfl rfl (fun q2 => ?_) (fun q2 => ?_)
    · have h := h.1 q2
      refine zr_aload_n zSm 13 rfl rfl ?_
      refine zr_getR zSm 14 rfl zf_9_58 rfl rfl (by decide) ?_
      refine zr_getI zSm 15 rfl zf_9_137 rfl rfl (by decide) ?_
      refine zr_istore_n zSm 16 (ll' := [(2, .int (I 20 2)), (0, .ref 0), (1, .int p0)]) rfl (by decide) rfl ?_
      refine zr_iload_n zSm 17 rfl rfl ?_
      refine zr_s zSm 18 rfl rfl ?_
      refine zr_ic zSm 19 41 rfl rfl (fun q3 => ?_) (fun q3 => ?_)
      · have h := h.1 q3
        refine zr_s zSm 22 rfl rfl ?_
        refine zr_istore_n zSm 23 (ll' := [(3, .int 0), (2, .int (I 20 2)), (0, .ref 0), (1, .int p0)]) rfl (by decide) rfl ?_
        refine zr_s zSm 24 rfl rfl ?_
        refine zr_istore zSm 25 (ll' := [(4, .int 0), (3, .int 0), (2, .int (I 20 2)), (0, .ref 0), (1, .int p0)]) rfl (by decide) rfl ?_
        refine zr_sub [3, 4, 2, 1, 0] rfl ?_
        exact h
      · have h := h.2 q3
        refine zr_s zSm 20 rfl rfl ?_
        refine zr_dret zSm 21 rfl rfl ?_
        exact h
    · have h := h.2 q2
      refine zr_thr 2 zth_127_16 h.1 ?_
      exact h.2
theorem wl_127_46 {RO : zRo} {d : Nat} {P : zP} {I : zI} {J : zJ} {D : zD} {bc bs : Nat} {l1 l2 l3 l4 : Int32} (h : ((l2 ≤ l4 → (vf_n64 (FP.ddiv (FP.i2d l3) (FP.i2d l2)) ∧ P (.inl (some (.double (FP.ddiv (FP.i2d l3) (FP.i2d l2))))) I J D)) ∧ (¬ (l2 ≤ l4) → zw RO (d + 1) 127 P 46 [(0, .ref 0), (1, .int l1), (2, .int l2), (3, .int (l3 + (zv_84 I J ((l4 * 6) + l1)))), (4, .int (l4 + 1))] [] I J D bc bs))) : zw RO (d + 1) 127 P 46 [(0, .ref 0), (1, .int l1), (2, .int l2), (3, .int l3), (4, .int l4)] [] I J D bc bs := by
  refine zr_iload zSm 26 rfl rfl ?_
  refine zr_iload_n zSm 27 rfl rfl ?_
  refine zr_ic zSm 28 75 rfl rfl (fun q1 => ?_) (fun q1 => ?_)
  · have h := h.1 q1
    refine zr_iload_n zSm 42 rfl rfl ?_
    refine zr_s zSm 43 rfl rfl ?_
    refine zr_iload_n zSm 44 rfl rfl ?_
    refine zr_s zSm 45 rfl rfl ?_
    obtain ⟨b46, h⟩ := h
    refine zr_ddiv zSm 46 rfl b46 ?_
    refine zr_dret zSm 47 rfl rfl ?_
    exact h
  · have h := h.2 q1
    refine zr_iload_n zSm 29 rfl rfl ?_
    refine zr_aload_n zSm 30 rfl rfl ?_
    refine zr_getR zSm 31 rfl zf_9_58 rfl rfl (by decide) ?_
    refine zr_iload zSm 32 rfl rfl ?_
    refine zr_bipush zSm 33 6 rfl rfl ?_
    refine zr_s zSm 34 rfl rfl ?_
    refine zr_iload_n zSm 35 rfl rfl ?_
    refine zr_s zSm 36 rfl rfl ?_
    refine zr_inv0 37 84 1 [.int ((l4 * 6) + l1)] rfl rfl zk_9_196 zms_84 rfl ⟨_, _, _, _, rfl, rfl⟩ (Nat.le_of_ble_eq_true rfl) ?_
    refine ze_84 ?_
    refine zNx_i ?_
    refine zr_s zSm 38 rfl rfl ?_
    refine zr_istore_n zSm 39 (ll' := [(3, .int (l3 + (zv_84 I J ((l4 * 6) + l1)))), (0, .ref 0), (1, .int l1), (2, .int l2), (4, .int l4)]) rfl (by decide) rfl ?_
    refine zr_iinc zSm 40 (v := l4 + 1) (ll' := [(4, .int (l4 + 1)), (3, .int (l3 + (zv_84 I J ((l4 * 6) + l1)))), (0, .ref 0), (1, .int l1), (2, .int l2)]) rfl rfl (by decide) rfl rfl ?_
    refine zr_goto zSm 41 46 rfl rfl ?_
    refine zr_sub [2, 3, 4, 1, 0] rfl ?_
    exact h
theorem w_128 {RO : zRo} {d : Nat} {P : zP} {I : zI} {J : zJ} {D : zD} {bc bs : Nat}  (h : zw RO (d + 2) 128 P 6 [(0, .ref 0), (1, .long 419), (3, .int 0)] [] I J D bc bs) : zz RO (d + 3) 128 [.ref 0] I J D bc bs P := by
  refine zT_of (Nat.le_of_ble_eq_true rfl) rfl ?_
  show zw RO (d + 2) 128 P 0 [(0, .ref 0)] [] I J D bc bs
  refine zr_ldc2 zSm 0 rfl zc_9_227 ?_
  refine zr_lstore_n zSm 1 (ll' := [(1, .long 419), (0, .ref 0)]) rfl (by decide) rfl ?_
  refine zr_s zSm 2 rfl rfl ?_
  refine zr_istore_n zSm 3 (ll' := [(3, .int 0), (1, .long 419), (0, .ref 0)]) rfl (by decide) rfl ?_
  refine zr_sub [2, 1, 0] rfl ?_
  exact h
theorem wl_128_6 {RO : zRo} {d : Nat} {P : zP} {I : zI} {J : zJ} {D : zD} {bc bs : Nat} {l1 : Int64} {l3 : Int32} (h : ((9 < l3 → zw RO (d + 2) 128 P 48 [(0, .ref 0), (1, .long ((l1 * 31) + ((I 23 5).toInt64))), (3, .int 0)] [] I J D bc bs) ∧ (¬ (9 < l3) → zw RO (d + 2) 128 P 6 [(0, .ref 0), (1, .long ((l1 * 31) + ((zv_112 I J l3).toInt64))), (3, .int (l3 + 1))] [] I J D bc bs))) : zw RO (d + 2) 128 P 6 [(0, .ref 0), (1, .long l1), (3, .int l3)] [] I J D bc bs := by
  refine zr_iload_n zSm 4 rfl rfl ?_
  refine zr_bipush zSm 5 9 rfl rfl ?_
  refine zr_ic zSm 6 31 rfl rfl (fun q1 => ?_) (fun q1 => ?_)
  · have h := h.1 q1
    refine zr_lload_n zSm 18 rfl rfl ?_
    refine zr_ldc2 zSm 19 rfl zc_9_229 ?_
    refine zr_s zSm 20 rfl rfl ?_
    refine zr_aload_n zSm 21 rfl rfl ?_
    refine zr_getR zSm 22 rfl zf_9_72 rfl rfl (by decide) ?_
    refine zr_getI zSm 23 rfl zf_9_157 rfl rfl (by decide) ?_
    refine zr_s zSm 24 rfl rfl ?_
    refine zr_s zSm 25 rfl rfl ?_
    refine zr_lstore_n zSm 26 (ll' := [(1, .long ((l1 * 31) + ((I 23 5).toInt64))), (0, .ref 0), (3, .int l3)]) rfl (by decide) rfl ?_
    refine zr_s zSm 27 rfl rfl ?_
    refine zr_istore_n zSm 28 (ll' := [(3, .int 0), (1, .long ((l1 * 31) + ((I 23 5).toInt64))), (0, .ref 0)]) rfl (by decide) rfl ?_
    refine zr_sub [2, 1, 0] rfl ?_
    exact h
  · have h := h.2 q1
    refine zr_lload_n zSm 7 rfl rfl ?_
    refine zr_ldc2 zSm 8 rfl zc_9_229 ?_
    refine zr_s zSm 9 rfl rfl ?_
    refine zr_aload_n zSm 10 rfl rfl ?_
    refine zr_iload_n zSm 11 rfl rfl ?_
    refine zr_inv0 12 112 1 [.int l3] rfl rfl zk_9_134 zms_112 rfl ⟨_, _, _, _, rfl, rfl⟩ (Nat.le_of_ble_eq_true rfl) ?_
    refine ze_112 ?_
    refine zNx_i ?_
    refine zr_s zSm 13 rfl rfl ?_
    refine zr_s zSm 14 rfl rfl ?_
    refine zr_lstore_n zSm 15 (ll' := [(1, .long ((l1 * 31) + ((zv_112 I J l3).toInt64))), (0, .ref 0), (3, .int l3)]) rfl (by decide) rfl ?_
    refine zr_iinc zSm 16 (v := l3 + 1) (ll' := [(3, .int (l3 + 1)), (1, .long ((l1 * 31) + ((zv_112 I J l3).toInt64))), (0, .ref 0)]) rfl rfl (by decide) rfl rfl ?_
    refine zr_goto zSm 17 6 rfl rfl ?_
    refine zr_sub [2, 1, 0] rfl ?_
    exact h
theorem wl_128_48 {RO : zRo} {d : Nat} {P : zP} {I : zI} {J : zJ} {D : zD} {bc bs : Nat} {l1 : Int64} {l3 : Int32} (h : ((7 < l3 → (zz RO (d + 2) 129 [.ref 0, .long ((l1 * 31) + (J 20 9))] I J D 0 0 (zNl P fun v1 I1 J1 D1 => zw RO (d + 2) 128 P 95 [(0, .ref 0), (1, .long v1), (3, .int 0)] [] I1 J1 D1 bc bs))) ∧ (¬ (7 < l3) → zw RO (d + 2) 128 P 48 [(0, .ref 0), (1, .long ((l1 * 31) + ((zv_131 I J l3).toInt64))), (3, .int (l3 + 1))] [] I J D bc bs))) : zw RO (d + 2) 128 P 48 [(0, .ref 0), (1, .long l1), (3, .int l3)] [] I J D bc bs := by
  refine zr_iload_n zSm 29 rfl rfl ?_
  refine zr_bipush zSm 30 7 rfl rfl ?_
  refine zr_ic zSm 31 73 rfl rfl (fun q1 => ?_) (fun q1 => ?_)
  · have h := h.1 q1
    refine zr_lload_n zSm 43 rfl rfl ?_
    refine zr_ldc2 zSm 44 rfl zc_9_229 ?_
    refine zr_s zSm 45 rfl rfl ?_
    refine zr_aload_n zSm 46 rfl rfl ?_
    refine zr_getR zSm 47 rfl zf_9_58 rfl rfl (by decide) ?_
    refine zr_getJ zSm 48 rfl zf_9_222 rfl rfl (by decide) ?_
    refine zr_s zSm 49 rfl rfl ?_
    refine zr_lstore_n zSm 50 (ll' := [(1, .long ((l1 * 31) + (J 20 9))), (0, .ref 0), (3, .int l3)]) rfl (by decide) rfl ?_
    refine zr_aload_n zSm 51 rfl rfl ?_
    refine zr_lload_n zSm 52 rfl rfl ?_
    refine zr_inv0 53 129 1 [.long ((l1 * 31) + (J 20 9))] rfl rfl zk_9_231 zms_129 rfl ⟨_, _, _, _, rfl, rfl⟩ (Nat.le_of_ble_eq_true rfl) ?_
    refine zcl h (fun v1 I1 J1 D1 h => ?_)
    refine zr_lstore_n zSm 54 (ll' := [(1, .long v1), (0, .ref 0), (3, .int l3)]) rfl (by decide) rfl ?_
    refine zr_s zSm 55 rfl rfl ?_
    refine zr_istore_n zSm 56 (ll' := [(3, .int 0), (1, .long v1), (0, .ref 0)]) rfl (by decide) rfl ?_
    refine zr_sub [2, 1, 0] rfl ?_
    exact h
  · have h := h.2 q1
    refine zr_lload_n zSm 32 rfl rfl ?_
    refine zr_ldc2 zSm 33 rfl zc_9_229 ?_
    refine zr_s zSm 34 rfl rfl ?_
    refine zr_aload_n zSm 35 rfl rfl ?_
    refine zr_iload_n zSm 36 rfl rfl ?_
    refine zr_inv0 37 131 1 [.int l3] rfl rfl zk_9_191 zms_131 rfl ⟨_, _, _, _, rfl, rfl⟩ (Nat.le_of_ble_eq_true rfl) ?_
    refine ze_131 ?_
    refine zNx_i ?_
    refine zr_s zSm 38 rfl rfl ?_
    refine zr_s zSm 39 rfl rfl ?_
    refine zr_lstore_n zSm 40 (ll' := [(1, .long ((l1 * 31) + ((zv_131 I J l3).toInt64))), (0, .ref 0), (3, .int l3)]) rfl (by decide) rfl ?_
    refine zr_iinc zSm 41 (v := l3 + 1) (ll' := [(3, .int (l3 + 1)), (1, .long ((l1 * 31) + ((zv_131 I J l3).toInt64))), (0, .ref 0)]) rfl rfl (by decide) rfl rfl ?_
    refine zr_goto zSm 42 48 rfl rfl ?_
    refine zr_sub [2, 1, 0] rfl ?_
    exact h
theorem wl_128_95 {RO : zRo} {d : Nat} {P : zP} {I : zI} {J : zJ} {D : zD} {bc bs : Nat} {l1 : Int64} {l3 : Int32} (h : (((I 20 3) ≤ l3 → zw RO (d + 2) 128 P 147 [(0, .ref 0), (1, .long l1), (3, .int 0)] [] I J D bc bs) ∧ (¬ ((I 20 3) ≤ l3) → zw RO (d + 2) 128 P 109 [(0, .ref 0), (1, .long l1), (3, .int l3), (4, .int 0)] [] I J D bc bs))) : zw RO (d + 2) 128 P 95 [(0, .ref 0), (1, .long l1), (3, .int l3)] [] I J D bc bs := by
  refine zr_iload_n zSm 57 rfl rfl ?_
  refine zr_aload_n zSm 58 rfl rfl ?_
  refine zr_getR zSm 59 rfl zf_9_58 rfl rfl (by decide) ?_
  refine zr_getI zSm 60 rfl zf_9_143 rfl rfl (by decide) ?_
  refine zr_ic zSm 61 145 rfl rfl (fun q1 => ?_) (fun q1 => ?_)
  · have h := h.1 q1
    refine zr_s zSm 82 rfl rfl ?_
    refine zr_istore_n zSm 83 (ll' := [(3, .int 0), (0, .ref 0), (1, .long l1)]) rfl (by decide) rfl ?_
    refine zr_sub [1, 2, 0] rfl ?_
    exact h
  · have h := h.2 q1
    refine zr_s zSm 62 rfl rfl ?_
    refine zr_istore zSm 63 (ll' := [(4, .int 0), (0, .ref 0), (1, .long l1), (3, .int l3)]) rfl (by decide) rfl ?_
    refine zr_sub [1, 2, 3, 0] rfl ?_
    exact h
theorem wl_128_109 {RO : zRo} {d : Nat} {P : zP} {I : zI} {J : zJ} {D : zD} {bc bs : Nat} {l1 : Int64} {l3 l4 : Int32} (h : ((4 ≤ l4 → zw RO (d + 2) 128 P 95 [(0, .ref 0), (1, .long l1), (3, .int (l3 + 1))] [] I J D bc bs) ∧ (¬ (4 ≤ l4) → zw RO (d + 2) 128 P 109 [(0, .ref 0), (1, .long ((l1 * 31) + ((zv_86 I J l3 l4).toInt64))), (3, .int l3), (4, .int (l4 + 1))] [] I J D bc bs))) : zw RO (d + 2) 128 P 109 [(0, .ref 0), (1, .long l1), (3, .int l3), (4, .int l4)] [] I J D bc bs := by
  refine zr_iload zSm 64 rfl rfl ?_
  refine zr_s zSm 65 rfl rfl ?_
  refine zr_ic zSm 66 139 rfl rfl (fun q1 => ?_) (fun q1 => ?_)
  · have h := h.1 q1
    refine zr_iinc zSm 80 (v := l3 + 1) (ll' := [(3, .int (l3 + 1)), (0, .ref 0), (1, .long l1), (4, .int l4)]) rfl rfl (by decide) rfl rfl ?_
    refine zr_goto zSm 81 95 rfl rfl ?_
    refine zr_sub [1, 2, 0] rfl ?_
    exact h
  · have h := h.2 q1
    refine zr_lload_n zSm 67 rfl rfl ?_
    refine zr_ldc2 zSm 68 rfl zc_9_229 ?_
    refine zr_s zSm 69 rfl rfl ?_
    refine zr_aload_n zSm 70 rfl rfl ?_
    refine zr_getR zSm 71 rfl zf_9_58 rfl rfl (by decide) ?_
    refine zr_iload_n zSm 72 rfl rfl ?_
    refine zr_iload zSm 73 rfl rfl ?_
    refine zr_inv0 74 86 2 [.int l3, .int l4] rfl rfl zk_9_206 zms_86 rfl ⟨_, _, _, _, rfl, rfl⟩ (Nat.le_of_ble_eq_true rfl) ?_
    refine ze_86 ?_
    refine zNx_i ?_
    refine zr_s zSm 75 rfl rfl ?_
    refine zr_s zSm 76 rfl rfl ?_
    refine zr_lstore_n zSm 77 (ll' := [(1, .long ((l1 * 31) + ((zv_86 I J l3 l4).toInt64))), (0, .ref 0), (3, .int l3), (4, .int l4)]) rfl (by decide) rfl ?_
    refine zr_iinc zSm 78 (v := l4 + 1) (ll' := [(4, .int (l4 + 1)), (1, .long ((l1 * 31) + ((zv_86 I J l3 l4).toInt64))), (0, .ref 0), (3, .int l3)]) rfl rfl (by decide) rfl rfl ?_
    refine zr_goto zSm 79 109 rfl rfl ?_
    refine zr_sub [2, 1, 3, 0] rfl ?_
    exact h
theorem wl_128_147 {RO : zRo} {d : Nat} {P : zP} {I : zI} {J : zJ} {D : zD} {bc bs : Nat} {l1 : Int64} {l3 : Int32} (h : (((I 23 4) ≤ l3 → P (.inl (some (.long l1))) I J D) ∧ (¬ ((I 23 4) ≤ l3) → zw RO (d + 2) 128 P 161 [(0, .ref 0), (1, .long l1), (3, .int l3), (4, .int 0)] [] I J D bc bs))) : zw RO (d + 2) 128 P 147 [(0, .ref 0), (1, .long l1), (3, .int l3)] [] I J D bc bs := by
  refine zr_iload_n zSm 84 rfl rfl ?_
  refine zr_aload_n zSm 85 rfl rfl ?_
  refine zr_getR zSm 86 rfl zf_9_72 rfl rfl (by decide) ?_
  refine zr_getI zSm 87 rfl zf_9_140 rfl rfl (by decide) ?_
  refine zr_ic zSm 88 197 rfl rfl (fun q1 => ?_) (fun q1 => ?_)
  · have h := h.1 q1
    refine zr_lload_n zSm 109 rfl rfl ?_
    refine zr_lret zSm 110 rfl rfl ?_
    exact h
  · have h := h.2 q1
    refine zr_s zSm 89 rfl rfl ?_
    refine zr_istore zSm 90 (ll' := [(4, .int 0), (0, .ref 0), (1, .long l1), (3, .int l3)]) rfl (by decide) rfl ?_
    refine zr_sub [1, 2, 3, 0] rfl ?_
    exact h
theorem wl_128_161 {RO : zRo} {d : Nat} {P : zP} {I : zI} {J : zJ} {D : zD} {bc bs : Nat} {l1 : Int64} {l3 l4 : Int32} (h : ((4 ≤ l4 → zw RO (d + 2) 128 P 147 [(0, .ref 0), (1, .long l1), (3, .int (l3 + 1))] [] I J D bc bs) ∧ (¬ (4 ≤ l4) → zw RO (d + 2) 128 P 161 [(0, .ref 0), (1, .long ((l1 * 31) + ((zv_31 I J l3 l4).toInt64))), (3, .int l3), (4, .int (l4 + 1))] [] I J D bc bs))) : zw RO (d + 2) 128 P 161 [(0, .ref 0), (1, .long l1), (3, .int l3), (4, .int l4)] [] I J D bc bs := by
  refine zr_iload zSm 91 rfl rfl ?_
  refine zr_s zSm 92 rfl rfl ?_
  refine zr_ic zSm 93 191 rfl rfl (fun q1 => ?_) (fun q1 => ?_)
  · have h := h.1 q1
    refine zr_iinc zSm 107 (v := l3 + 1) (ll' := [(3, .int (l3 + 1)), (0, .ref 0), (1, .long l1), (4, .int l4)]) rfl rfl (by decide) rfl rfl ?_
    refine zr_goto zSm 108 147 rfl rfl ?_
    refine zr_sub [1, 2, 0] rfl ?_
    exact h
  · have h := h.2 q1
    refine zr_lload_n zSm 94 rfl rfl ?_
    refine zr_ldc2 zSm 95 rfl zc_9_229 ?_
    refine zr_s zSm 96 rfl rfl ?_
    refine zr_aload_n zSm 97 rfl rfl ?_
    refine zr_getR zSm 98 rfl zf_9_72 rfl rfl (by decide) ?_
    refine zr_iload_n zSm 99 rfl rfl ?_
    refine zr_iload zSm 100 rfl rfl ?_
    refine zr_inv0 101 31 2 [.int l3, .int l4] rfl rfl zk_9_211 zms_31 rfl ⟨_, _, _, _, rfl, rfl⟩ (Nat.le_of_ble_eq_true rfl) ?_
    refine ze_31 ?_
    refine zNx_i ?_
    refine zr_s zSm 102 rfl rfl ?_
    refine zr_s zSm 103 rfl rfl ?_
    refine zr_lstore_n zSm 104 (ll' := [(1, .long ((l1 * 31) + ((zv_31 I J l3 l4).toInt64))), (0, .ref 0), (3, .int l3), (4, .int l4)]) rfl (by decide) rfl ?_
    refine zr_iinc zSm 105 (v := l4 + 1) (ll' := [(4, .int (l4 + 1)), (1, .long ((l1 * 31) + ((zv_31 I J l3 l4).toInt64))), (0, .ref 0), (3, .int l3)]) rfl rfl (by decide) rfl rfl ?_
    refine zr_goto zSm 106 161 rfl rfl ?_
    refine zr_sub [2, 1, 3, 0] rfl ?_
    exact h
theorem w_129 {RO : zRo} {d : Nat} {P : zP} {I : zI} {J : zJ} {D : zD} {bc bs : Nat} {p0 : Int64} (h : zw RO (d + 1) 129 P 5 [(0, .ref 0), (1, .long p0), (3, .long p0), (5, .int 0)] [] I J D bc bs) : zz RO (d + 2) 129 [.ref 0, .long p0] I J D bc bs P := by
  refine zT_of (Nat.le_of_ble_eq_true rfl) rfl ?_
  show zw RO (d + 1) 129 P 0 [(0, .ref 0), (1, .long p0)] [] I J D bc bs
  refine zr_lload_n zSm 0 rfl rfl ?_
  refine zr_lstore_n zSm 1 (ll' := [(3, .long p0), (0, .ref 0), (1, .long p0)]) rfl (by decide) rfl ?_
  refine zr_s zSm 2 rfl rfl ?_
  refine zr_istore zSm 3 (ll' := [(5, .int 0), (3, .long p0), (0, .ref 0), (1, .long p0)]) rfl (by decide) rfl ?_
  refine zr_sub [2, 3, 1, 0] rfl ?_
  exact h
theorem wl_129_5 {RO : zRo} {d : Nat} {P : zP} {I : zI} {J : zJ} {D : zD} {bc bs : Nat} {l1 l3 : Int64} {l5 : Int32} (h : (((I 20 2) ≤ l5 → (((I 23 5) = (-1) → P (.inl (some (.long l3))) I J D) ∧ (¬ ((I 23 5) = (-1)) → zw RO (d + 1) 129 P 82 [(0, .ref 0), (1, .long l1), (3, .long l3), (5, .int 0)] [] I J D bc bs))) ∧ (¬ ((I 20 2) ≤ l5) → zw RO (d + 1) 129 P 20 [(0, .ref 0), (1, .long l1), (3, .long l3), (5, .int l5), (6, .int 0)] [] I J D bc bs))) : zw RO (d + 1) 129 P 5 [(0, .ref 0), (1, .long l1), (3, .long l3), (5, .int l5)] [] I J D bc bs := by
  refine zr_iload zSm 4 rfl rfl ?_
  refine zr_aload_n zSm 5 rfl rfl ?_
  refine zr_getR zSm 6 rfl zf_9_58 rfl rfl (by decide) ?_
  refine zr_getI zSm 7 rfl zf_9_137 rfl rfl (by decide) ?_
  refine zr_ic zSm 8 68 rfl rfl (fun q1 => ?_) (fun q1 => ?_)
  · have h := h.1 q1
    refine zr_aload_n zSm 35 rfl rfl ?_
    refine zr_getR zSm 36 rfl zf_9_72 rfl rfl (by decide) ?_
    refine zr_getI zSm 37 rfl zf_9_157 rfl rfl (by decide) ?_
    refine zr_s zSm 38 rfl rfl ?_
    refine zr_ic zSm 39 121 rfl rfl (fun q2 => ?_) (fun q2 => ?_)
    · have h := h.1 q2
      refine zr_lload_n zSm 62 rfl rfl ?_
      refine zr_lret zSm 63 rfl rfl ?_
      exact h
    · have h := h.2 q2
      refine zr_s zSm 40 rfl rfl ?_
      refine zr_istore zSm 41 (ll' := [(5, .int 0), (0, .ref 0), (1, .long l1), (3, .long l3)]) rfl (by decide) rfl ?_
      refine zr_sub [1, 2, 3, 0] rfl ?_
      exact h
  · have h := h.2 q1
    refine zr_s zSm 9 rfl rfl ?_
    refine zr_istore zSm 10 (ll' := [(6, .int 0), (0, .ref 0), (1, .long l1), (3, .long l3), (5, .int l5)]) rfl (by decide) rfl ?_
    refine zr_sub [1, 2, 3, 4, 0] rfl ?_
    exact h
theorem wl_129_20 {RO : zRo} {d : Nat} {P : zP} {I : zI} {J : zJ} {D : zD} {bc bs : Nat} {l1 l3 : Int64} {l5 l6 : Int32} (h : (((zv_75 I J 0) ≤ l6 → zw RO (d + 1) 129 P 5 [(0, .ref 0), (1, .long l1), (3, .long l3), (5, .int (l5 + 1))] [] I J D bc bs) ∧ (¬ ((zv_75 I J 0) ≤ l6) → zw RO (d + 1) 129 P 20 [(0, .ref 0), (1, .long l1), (3, .long ((l3 * 31) + ((zv_84 I J ((l5 * 6) + l6)).toInt64))), (5, .int l5), (6, .int (l6 + 1))] [] I J D bc bs))) : zw RO (d + 1) 129 P 20 [(0, .ref 0), (1, .long l1), (3, .long l3), (5, .int l5), (6, .int l6)] [] I J D bc bs := by
  refine zr_iload zSm 11 rfl rfl ?_
  refine zr_aload_n zSm 12 rfl rfl ?_
  refine zr_getR zSm 13 rfl zf_9_42 rfl rfl (by decide) ?_
  refine zr_s zSm 14 rfl rfl ?_
  refine zr_inv0 15 75 1 [.int 0] rfl rfl zk_9_146 zms_75 rfl ⟨_, _, _, _, rfl, rfl⟩ (Nat.le_of_ble_eq_true rfl) ?_
  refine ze_75 ?_
  refine zNx_i ?_
  refine zr_ic zSm 16 62 rfl rfl (fun q1 => ?_) (fun q1 => ?_)
  · have h := h.1 q1
    refine zr_iinc zSm 33 (v := l5 + 1) (ll' := [(5, .int (l5 + 1)), (0, .ref 0), (1, .long l1), (3, .long l3), (6, .int l6)]) rfl rfl (by decide) rfl rfl ?_
    refine zr_goto zSm 34 5 rfl rfl ?_
    refine zr_sub [1, 2, 3, 0] rfl ?_
    exact h
  · have h := h.2 q1
    refine zr_lload_n zSm 17 rfl rfl ?_
    refine zr_ldc2 zSm 18 rfl zc_9_229 ?_
    refine zr_s zSm 19 rfl rfl ?_
    refine zr_aload_n zSm 20 rfl rfl ?_
    refine zr_getR zSm 21 rfl zf_9_58 rfl rfl (by decide) ?_
    refine zr_iload zSm 22 rfl rfl ?_
    refine zr_bipush zSm 23 6 rfl rfl ?_
    refine zr_s zSm 24 rfl rfl ?_
    refine zr_iload zSm 25 rfl rfl ?_
    refine zr_s zSm 26 rfl rfl ?_
    refine zr_inv0 27 84 1 [.int ((l5 * 6) + l6)] rfl rfl zk_9_196 zms_84 rfl ⟨_, _, _, _, rfl, rfl⟩ (Nat.le_of_ble_eq_true rfl) ?_
    refine ze_84 ?_
    refine zNx_i ?_
    refine zr_s zSm 28 rfl rfl ?_
    refine zr_s zSm 29 rfl rfl ?_
    refine zr_lstore_n zSm 30 (ll' := [(3, .long ((l3 * 31) + ((zv_84 I J ((l5 * 6) + l6)).toInt64))), (0, .ref 0), (1, .long l1), (5, .int l5), (6, .int l6)]) rfl (by decide) rfl ?_
    refine zr_iinc zSm 31 (v := l6 + 1) (ll' := [(6, .int (l6 + 1)), (3, .long ((l3 * 31) + ((zv_84 I J ((l5 * 6) + l6)).toInt64))), (0, .ref 0), (1, .long l1), (5, .int l5)]) rfl rfl (by decide) rfl rfl ?_
    refine zr_goto zSm 32 20 rfl rfl ?_
    refine zr_sub [2, 3, 1, 4, 0] rfl ?_
    exact h
theorem wl_129_82 {RO : zRo} {d : Nat} {P : zP} {I : zI} {J : zJ} {D : zD} {bc bs : Nat} {l1 l3 : Int64} {l5 : Int32} (h : (((zv_75 I J 1) ≤ l5 → P (.inl (some (.long l3))) I J D) ∧ (¬ ((zv_75 I J 1) ≤ l5) → zw RO (d + 1) 129 P 82 [(0, .ref 0), (1, .long l1), (3, .long ((l3 * 31) + ((zv_84 I J (24 + l5)).toInt64))), (5, .int (l5 + 1))] [] I J D bc bs))) : zw RO (d + 1) 129 P 82 [(0, .ref 0), (1, .long l1), (3, .long l3), (5, .int l5)] [] I J D bc bs := by
  refine zr_iload zSm 42 rfl rfl ?_
  refine zr_aload_n zSm 43 rfl rfl ?_
  refine zr_getR zSm 44 rfl zf_9_42 rfl rfl (by decide) ?_
  refine zr_s zSm 45 rfl rfl ?_
  refine zr_inv0 46 75 1 [.int 1] rfl rfl zk_9_146 zms_75 rfl ⟨_, _, _, _, rfl, rfl⟩ (Nat.le_of_ble_eq_true rfl) ?_
  refine ze_75 ?_
  refine zNx_i ?_
  refine zr_ic zSm 47 121 rfl rfl (fun q1 => ?_) (fun q1 => ?_)
  · have h := h.1 q1
    refine zr_lload_n zSm 62 rfl rfl ?_
    refine zr_lret zSm 63 rfl rfl ?_
    exact h
  · have h := h.2 q1
    refine zr_lload_n zSm 48 rfl rfl ?_
    refine zr_ldc2 zSm 49 rfl zc_9_229 ?_
    refine zr_s zSm 50 rfl rfl ?_
    refine zr_aload_n zSm 51 rfl rfl ?_
    refine zr_getR zSm 52 rfl zf_9_58 rfl rfl (by decide) ?_
    refine zr_bipush zSm 53 24 rfl rfl ?_
    refine zr_iload zSm 54 rfl rfl ?_
    refine zr_s zSm 55 rfl rfl ?_
    refine zr_inv0 56 84 1 [.int (24 + l5)] rfl rfl zk_9_196 zms_84 rfl ⟨_, _, _, _, rfl, rfl⟩ (Nat.le_of_ble_eq_true rfl) ?_
    refine ze_84 ?_
    refine zNx_i ?_
    refine zr_s zSm 57 rfl rfl ?_
    refine zr_s zSm 58 rfl rfl ?_
    refine zr_lstore_n zSm 59 (ll' := [(3, .long ((l3 * 31) + ((zv_84 I J (24 + l5)).toInt64))), (0, .ref 0), (1, .long l1), (5, .int l5)]) rfl (by decide) rfl ?_
    refine zr_iinc zSm 60 (v := l5 + 1) (ll' := [(5, .int (l5 + 1)), (3, .long ((l3 * 31) + ((zv_84 I J (24 + l5)).toInt64))), (0, .ref 0), (1, .long l1)]) rfl rfl (by decide) rfl rfl ?_
    refine zr_goto zSm 61 82 rfl rfl ?_
    refine zr_sub [2, 3, 1, 0] rfl ?_
    exact h

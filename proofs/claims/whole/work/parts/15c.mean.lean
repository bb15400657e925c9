/-! ===== written by wip/whole/lay15.py: walks, a formula each ===== -/
theorem w_60 {RO : zRo} {d : Nat} {P : zP} {I : zI} {J : zJ} {D : zD} {bc bs : Nat}  (h : zw RO (d + 1) 60 P 17 [(0, .ref 19), (1, .int ((I 3 4) - 1)), (2, .int 0)] [] (zu I 19 3 0) J D bc bs) : zz RO (d + 2) 60 [.ref 19] I J D bc bs P := by
  refine zT_of (Nat.le_of_ble_eq_true rfl) rfl ?_
  show zw RO (d + 1) 60 P 0 [(0, .ref 19)] [] I J D bc bs
  refine zr_aload_n zSm 0 rfl rfl ?_
  refine zr_s zSm 1 rfl rfl ?_
  refine zr_putI zSm 2 rfl zf_4_19 rfl rfl (by decide) zp_4_3 ?_
  refine zr_aload_n zSm 3 rfl rfl ?_
  refine zr_getR zSm 4 rfl zf_4_9 rfl rfl (by decide) ?_
  refine zr_getI zSm 5 rfl zf_4_23 rfl rfl (by decide) ?_
  refine zr_s zSm 6 rfl rfl ?_
  refine zr_s zSm 7 rfl rfl ?_
  refine zr_istore_n zSm 8 (ll' := [(1, .int ((I 3 4) - 1)), (0, .ref 19)]) rfl (by decide) rfl ?_
  refine zr_s zSm 9 rfl rfl ?_
  refine zr_istore_n zSm 10 (ll' := [(2, .int 0), (1, .int ((I 3 4) - 1)), (0, .ref 19)]) rfl (by decide) rfl ?_
  refine zr_sub [2, 1, 0] rfl ?_
  exact h
theorem wl_60_17 {RO : zRo} {d : Nat} {P : zP} {I : zI} {J : zJ} {D : zD} {bc bs : Nat} {l1 l2 : Int32} (h : ((l1 ≤ l2 → ((¬ (I 19 3) = 0 → P (.inl (some (.int (I 19 3)))) I J D) ∧ (¬ (¬ (I 19 3) = 0) → (((zv_75 I J 2) = 0 → (zz RO (d + 1) 61 [.ref 19, .int 7, .int l1] I J D 0 0 (zNv P fun I1 J1 D1 => P (.inl (some (.int (I1 19 3)))) I1 J1 D1))) ∧ (¬ ((zv_75 I J 2) = 0) → ((¬ (zv_75 I J 6) = 0 → P (.inl (some (.int (I 19 3)))) I J D) ∧ (¬ (¬ (zv_75 I J 6) = 0) → (zz RO (d + 1) 61 [.ref 19, .int 7, .int l1] I J D 0 0 (zNv P fun I2 J2 D2 => P (.inl (some (.int (I2 19 3)))) I2 J2 D2))))))))) ∧ (¬ (l1 ≤ l2) → ((¬ (I 19 3) = 0 → P (.inl (some (.int (I 19 3)))) I J D) ∧ (¬ (¬ (I 19 3) = 0) → (zz RO (d + 1) 62 [.ref 19, .int l2, .int (zv_93 I J l2)] I J D 0 0 (zNv P fun I3 J3 D3 => zw RO (d + 1) 60 P 17 [(0, .ref 19), (1, .int l1), (2, .int (l2 + 1))] [] I3 J3 D3 bc bs))))))) : zw RO (d + 1) 60 P 17 [(0, .ref 19), (1, .int l1), (2, .int l2)] [] I J D bc bs := by
  refine zr_iload_n zSm 11 rfl rfl ?_
  refine zr_iload_n zSm 12 rfl rfl ?_
  refine zr_ic zSm 13 48 rfl rfl (fun q1 => ?_) (fun q1 => ?_)
  · have h := h.1 q1
    refine zr_aload_n zSm 26 rfl rfl ?_
    refine zr_getI zSm 27 rfl zf_4_19 rfl rfl (by decide) ?_
    refine zr_if zSm 28 85 rfl rfl (fun q2 => ?_) (fun q2 => ?_)
    · have h := h.1 q2
      refine zr_aload_n zSm 43 rfl rfl ?_
      refine zr_getI zSm 44 rfl zf_4_19 rfl rfl (by decide) ?_
      refine zr_iret zSm 45 rfl rfl rfl ?_
      exact h
    · have h := h.2 q2
      refine zr_aload_n zSm 29 rfl rfl ?_
      refine zr_getR zSm 30 rfl zf_4_15 rfl rfl (by decide) ?_
      refine zr_s zSm 31 rfl rfl ?_
      refine zr_inv0 32 75 1 [.int 2] rfl rfl zk_4_36 zms_75 rfl ⟨_, _, _, _, rfl, rfl⟩ (Nat.le_of_ble_eq_true rfl) ?_
      refine ze_75 ?_
      refine zNx_i ?_
      refine zr_if zSm 33 78 rfl rfl (fun q3 => ?_) (fun q3 => ?_)
      · have h := h.1 q3
        refine zr_aload_n zSm 39 rfl rfl ?_
        refine zr_bipush zSm 40 7 rfl rfl ?_
        refine zr_iload_n zSm 41 rfl rfl ?_
        refine zr_inv0 42 61 2 [.int 7, .int l1] rfl rfl zk_4_41 zms_61 rfl ⟨_, _, _, _, rfl, rfl⟩ (Nat.le_of_ble_eq_true rfl) ?_
        refine zcv h (fun I1 J1 D1 h => ?_)
        refine zr_aload_n zSm 43 rfl rfl ?_
        refine zr_getI zSm 44 rfl zf_4_19 rfl rfl (by decide) ?_
        refine zr_iret zSm 45 rfl rfl rfl ?_
        exact h
      · have h := h.2 q3
        refine zr_aload_n zSm 34 rfl rfl ?_
        refine zr_getR zSm 35 rfl zf_4_15 rfl rfl (by decide) ?_
        refine zr_bipush zSm 36 6 rfl rfl ?_
        refine zr_inv0 37 75 1 [.int 6] rfl rfl zk_4_36 zms_75 rfl ⟨_, _, _, _, rfl, rfl⟩ (Nat.le_of_ble_eq_true rfl) ?_
        refine ze_75 ?_
        refine zNx_i ?_
        refine zr_if zSm 38 85 rfl rfl (fun q4 => ?_) (fun q4 => ?_)
        · have h := h.1 q4
          refine zr_aload_n zSm 43 rfl rfl ?_
          refine zr_getI zSm 44 rfl zf_4_19 rfl rfl (by decide) ?_
          refine zr_iret zSm 45 rfl rfl rfl ?_
          exact h
        · have h := h.2 q4
          refine zr_aload_n zSm 39 rfl rfl ?_
          refine zr_bipush zSm 40 7 rfl rfl ?_
          refine zr_iload_n zSm 41 rfl rfl ?_
          refine zr_inv0 42 61 2 [.int 7, .int l1] rfl rfl zk_4_41 zms_61 rfl ⟨_, _, _, _, rfl, rfl⟩ (Nat.le_of_ble_eq_true rfl) ?_
          refine zcv h (fun I2 J2 D2 h => ?_)
          refine zr_aload_n zSm 43 rfl rfl ?_
          refine zr_getI zSm 44 rfl zf_4_19 rfl rfl (by decide) ?_
          refine zr_iret zSm 45 rfl rfl rfl ?_
          exact h
  · have h := h.2 q1
    refine zr_aload_n zSm 14 rfl rfl ?_
    refine zr_getI zSm 15 rfl zf_4_19 rfl rfl (by decide) ?_
    refine zr_if zSm 16 48 rfl rfl (fun q5 => ?_) (fun q5 => ?_)
    · have h := h.1 q5
      refine zr_aload_n zSm 26 rfl rfl ?_
      refine zr_getI zSm 27 rfl zf_4_19 rfl rfl (by decide) ?_
      refine zr_if zSm 28 85 rfl rfl (fun q6 => ?_) (fun q6 => ?_)
      · refine zr_aload_n zSm 43 rfl rfl ?_
        refine zr_getI zSm 44 rfl zf_4_19 rfl rfl (by decide) ?_
        refine zr_iret zSm 45 rfl rfl rfl ?_
        exact h
      · exact absurd q5 q6
    · have h := h.2 q5
      refine zr_aload_n zSm 17 rfl rfl ?_
      refine zr_iload_n zSm 18 rfl rfl ?_
      refine zr_aload_n zSm 19 rfl rfl ?_
      refine zr_getR zSm 20 rfl zf_4_9 rfl rfl (by decide) ?_
      refine zr_iload_n zSm 21 rfl rfl ?_
      refine zr_inv0 22 93 1 [.int l2] rfl rfl zk_4_28 zms_93 rfl ⟨_, _, _, _, rfl, rfl⟩ (Nat.le_of_ble_eq_true rfl) ?_
      refine ze_93 ?_
      refine zNx_i ?_
      refine zr_inv0 23 62 2 [.int l2, .int (zv_93 I J l2)] rfl rfl zk_4_32 zms_62 rfl ⟨_, _, _, _, rfl, rfl⟩ (Nat.le_of_ble_eq_true rfl) ?_
      refine zcv h (fun I3 J3 D3 h => ?_)
      refine zr_iinc zSm 24 (v := l2 + 1) (ll' := [(2, .int (l2 + 1)), (0, .ref 19), (1, .int l1)]) rfl rfl (by decide) rfl rfl ?_
      refine zr_goto zSm 25 17 rfl rfl ?_
      refine zr_sub [1, 2, 0] rfl ?_
      exact h
theorem w_61 {RO : zRo} {d : Nat} {P : zP} {I : zI} {J : zJ} {D : zD} {bc bs : Nat} {p0 p1 : Int32} (h : P (.inl none) (zu (zu I 19 3 p0) 19 2 p1) J D) : zz RO (d + 1) 61 [.ref 19, .int p0, .int p1] I J D bc bs P := by
  refine zT_of (Nat.le_of_ble_eq_true rfl) rfl ?_
  show zw RO d 61 P 0 [(0, .ref 19), (1, .int p0), (2, .int p1)] [] I J D bc bs
  refine zr_aload_n zSm 0 rfl rfl ?_
  refine zr_iload_n zSm 1 rfl rfl ?_
  refine zr_putI zSm 2 rfl zf_4_19 rfl rfl (by decide) zp_4_3 ?_
  refine zr_aload_n zSm 3 rfl rfl ?_
  refine zr_iload_n zSm 4 rfl rfl ?_
  refine zr_putI zSm 5 rfl zf_4_44 rfl rfl (by decide) zp_4_2 ?_
  refine zr_vret zSm 6 rfl rfl ?_
  exact h
theorem w_62 {RO : zRo} {d : Nat} {P : zP} {I : zI} {J : zJ} {D : zD} {bc bs : Nat} {p0 p1 : Int32} (h : ((p1 = 2 → (zz RO (d + 1) 66 [.ref 19, .int p0, .int (zv_93 I J (p0 - 1))] I J D 0 0 (zNv P fun I1 J1 D1 => P (.inl none) I1 J1 D1))) ∧ (¬ (p1 = 2) → ((p1 = 3 → (((I 19 4) = 4 → (zz RO (d + 1) 72 [.ref 19, .int p0] I J D 0 0 (zNv P fun I2 J2 D2 => P (.inl none) I2 J2 D2))) ∧ (¬ ((I 19 4) = 4) → ((¬ (I 19 4) = 5 → P (.inl none) I J D) ∧ (¬ (¬ (I 19 4) = 5) → (zz RO (d + 1) 72 [.ref 19, .int p0] I J D 0 0 (zNv P fun I3 J3 D3 => P (.inl none) I3 J3 D3))))))) ∧ (¬ (p1 = 3) → (((p1 = 4 ∨ p1 = 5 ∨ p1 = 6 ∨ p1 = 7 ∨ p1 = 8 ∨ p1 = 9 ∨ p1 = 10) → (zz RO (d + 1) 63 [.ref 19, .int p0, .int p1] I J D 0 0 (zNv P fun I4 J4 D4 => P (.inl none) I4 J4 D4))) ∧ (¬ ((p1 = 4 ∨ p1 = 5 ∨ p1 = 6 ∨ p1 = 7 ∨ p1 = 8 ∨ p1 = 9 ∨ p1 = 10)) → ((p1 = 13 → (zz RO (d + 1) 65 [.ref 19, .ref 17, .int p0] (zu I 19 7 1) J D 0 0 (zNv P fun I5 J5 D5 => P (.inl none) I5 J5 D5))) ∧ (¬ (p1 = 13) → ((p1 = 14 → (zz RO (d + 1) 65 [.ref 19, .ref 18, .int p0] (zu I 19 7 0) J D 0 0 (zNv P fun I6 J6 D6 => P (.inl none) I6 J6 D6))) ∧ (¬ (p1 = 14) → ((p1 = 27 → (((I 19 7) = 0 → P (.inl none) I J D) ∧ (¬ ((I 19 7) = 0) → (zz RO (d + 1) 61 [.ref 19, .int 6, .int p0] I J D 0 0 (zNv P fun I7 J7 D7 => P (.inl none) I7 J7 D7))))) ∧ (¬ (p1 = 27) → P (.inl none) I J D))))))))))))) : zz RO (d + 2) 62 [.ref 19, .int p0, .int p1] I J D bc bs P := by
  refine zT_of (Nat.le_of_ble_eq_true rfl) rfl ?_
  show zw RO (d + 1) 62 P 0 [(0, .ref 19), (1, .int p0), (2, .int p1)] [] I J D bc bs
  refine zr_iload_n zSm 0 rfl rfl ?_
  by_cases q1 : p1 = 2
  · have h := h.1 q1
    refine zr_tsG 1 129 [2] rfl (by simp only [List.mem_cons, List.not_mem_nil, or_false]; exact q1) (by decide) ?_
    refine zr_aload_n zSm 7 rfl rfl ?_
    refine zr_iload_n zSm 8 rfl rfl ?_
    refine zr_aload_n zSm 9 rfl rfl ?_
    refine zr_getR zSm 10 rfl zf_4_9 rfl rfl (by decide) ?_
    refine zr_iload_n zSm 11 rfl rfl ?_
    refine zr_s zSm 12 rfl rfl ?_
    refine zr_s zSm 13 rfl rfl ?_
    refine zr_inv0 14 93 1 [.int (p0 - 1)] rfl rfl zk_4_28 zms_93 rfl ⟨_, _, _, _, rfl, rfl⟩ (Nat.le_of_ble_eq_true rfl) ?_
    refine ze_93 ?_
    refine zNx_i ?_
    refine zr_inv0 15 66 2 [.int p0, .int (zv_93 I J (p0 - 1))] rfl rfl zk_4_50 zms_66 rfl ⟨_, _, _, _, rfl, rfl⟩ (Nat.le_of_ble_eq_true rfl) ?_
    refine zcv h (fun I1 J1 D1 h => ?_)
    refine zr_goto zSm 16 228 rfl rfl ?_
    refine zr_vret zSm 57 rfl rfl ?_
    exact h
  · have h := h.2 q1
    by_cases q2 : p1 = 3
    · have h := h.1 q2
      refine zr_tsG 1 147 [3] rfl (by simp only [List.mem_cons, List.not_mem_nil, or_false]; exact q2) (by decide) ?_
      refine zr_aload_n zSm 17 rfl rfl ?_
      refine zr_getI zSm 18 rfl zf_4_53 rfl rfl (by decide) ?_
      refine zr_s zSm 19 rfl rfl ?_
      refine zr_ic zSm 20 163 rfl rfl (fun q3 => ?_) (fun q3 => ?_)
      · have h := h.1 q3
        refine zr_aload_n zSm 25 rfl rfl ?_
        refine zr_iload_n zSm 26 rfl rfl ?_
        refine zr_inv0 27 72 1 [.int p0] rfl rfl zk_4_56 zms_72 rfl ⟨_, _, _, _, rfl, rfl⟩ (Nat.le_of_ble_eq_true rfl) ?_
        refine zcv h (fun I2 J2 D2 h => ?_)
        refine zr_goto zSm 28 228 rfl rfl ?_
        refine zr_vret zSm 57 rfl rfl ?_
        exact h
      · have h := h.2 q3
        refine zr_aload_n zSm 21 rfl rfl ?_
        refine zr_getI zSm 22 rfl zf_4_53 rfl rfl (by decide) ?_
        refine zr_s zSm 23 rfl rfl ?_
        refine zr_ic zSm 24 228 rfl rfl (fun q4 => ?_) (fun q4 => ?_)
        · have h := h.1 q4
          refine zr_vret zSm 57 rfl rfl ?_
          exact h
        · have h := h.2 q4
          refine zr_aload_n zSm 25 rfl rfl ?_
          refine zr_iload_n zSm 26 rfl rfl ?_
          refine zr_inv0 27 72 1 [.int p0] rfl rfl zk_4_56 zms_72 rfl ⟨_, _, _, _, rfl, rfl⟩ (Nat.le_of_ble_eq_true rfl) ?_
          refine zcv h (fun I3 J3 D3 h => ?_)
          refine zr_goto zSm 28 228 rfl rfl ?_
          refine zr_vret zSm 57 rfl rfl ?_
          exact h
    · have h := h.2 q2
      by_cases q5 : (p1 = 4 ∨ p1 = 5 ∨ p1 = 6 ∨ p1 = 7 ∨ p1 = 8 ∨ p1 = 9 ∨ p1 = 10)
      · have h := h.1 q5
        refine zr_tsG 1 120 [4, 5, 6, 7, 8, 9, 10] rfl (by simp only [List.mem_cons, List.not_mem_nil, or_false]; exact q5) (by decide) ?_
        refine zr_aload_n zSm 2 rfl rfl ?_
        refine zr_iload_n zSm 3 rfl rfl ?_
        refine zr_iload_n zSm 4 rfl rfl ?_
        refine zr_inv0 5 63 2 [.int p0, .int p1] rfl rfl zk_4_47 zms_63 rfl ⟨_, _, _, _, rfl, rfl⟩ (Nat.le_of_ble_eq_true rfl) ?_
        refine zcv h (fun I4 J4 D4 h => ?_)
        refine zr_goto zSm 6 228 rfl rfl ?_
        refine zr_vret zSm 57 rfl rfl ?_
        exact h
      · have h := h.2 q5
        by_cases q6 : p1 = 13
        · have h := h.1 q6
          refine zr_tsG 1 171 [13] rfl (by simp only [List.mem_cons, List.not_mem_nil, or_false]; exact q6) (by decide) ?_
          refine zr_aload_n zSm 29 rfl rfl ?_
          refine zr_s zSm 30 rfl rfl ?_
          refine zr_putZ zSm 31 rfl zf_4_60 rfl rfl (by decide) zp_4_7 (Or.inr rfl) ?_
          refine zr_aload_n zSm 32 rfl rfl ?_
          refine zr_aload_n zSm 33 rfl rfl ?_
          refine zr_getR zSm 34 rfl zf_4_15 rfl rfl (by decide) ?_
          refine zr_getR zSm 35 rfl zf_4_64 rfl rfl (by decide) ?_
          refine zr_iload_n zSm 36 rfl rfl ?_
          refine zr_inv0 37 65 2 [.ref 17, .int p0] rfl rfl zk_4_68 zms_65 rfl ⟨_, _, _, _, rfl, rfl⟩ (Nat.le_of_ble_eq_true rfl) ?_
          refine zcv h (fun I5 J5 D5 h => ?_)
          refine zr_goto zSm 38 228 rfl rfl ?_
          refine zr_vret zSm 57 rfl rfl ?_
          exact h
        · have h := h.2 q6
          by_cases q7 : p1 = 14
          · have h := h.1 q7
            refine zr_tsG 1 191 [14] rfl (by simp only [List.mem_cons, List.not_mem_nil, or_false]; exact q7) (by decide) ?_
            refine zr_aload_n zSm 39 rfl rfl ?_
            refine zr_s zSm 40 rfl rfl ?_
            refine zr_putZ zSm 41 rfl zf_4_60 rfl rfl (by decide) zp_4_7 (Or.inl rfl) ?_
            refine zr_aload_n zSm 42 rfl rfl ?_
            refine zr_aload_n zSm 43 rfl rfl ?_
            refine zr_getR zSm 44 rfl zf_4_15 rfl rfl (by decide) ?_
            refine zr_getR zSm 45 rfl zf_4_72 rfl rfl (by decide) ?_
            refine zr_iload_n zSm 46 rfl rfl ?_
            refine zr_inv0 47 65 2 [.ref 18, .int p0] rfl rfl zk_4_68 zms_65 rfl ⟨_, _, _, _, rfl, rfl⟩ (Nat.le_of_ble_eq_true rfl) ?_
            refine zcv h (fun I6 J6 D6 h => ?_)
            refine zr_goto zSm 48 228 rfl rfl ?_
            refine zr_vret zSm 57 rfl rfl ?_
            exact h
          · have h := h.2 q7
            by_cases q8 : p1 = 27
            · have h := h.1 q8
              refine zr_tsG 1 211 [27] rfl (by simp only [List.mem_cons, List.not_mem_nil, or_false]; exact q8) (by decide) ?_
              refine zr_aload_n zSm 49 rfl rfl ?_
              refine zr_getZ zSm 50 rfl zf_4_60 rfl rfl (by decide) ?_
              refine zr_if zSm 51 228 rfl rfl (fun q9 => ?_) (fun q9 => ?_)
              · have h := h.1 q9
                refine zr_vret zSm 57 rfl rfl ?_
                exact h
              · have h := h.2 q9
                refine zr_aload_n zSm 52 rfl rfl ?_
                refine zr_bipush zSm 53 6 rfl rfl ?_
                refine zr_iload_n zSm 54 rfl rfl ?_
                refine zr_inv0 55 61 2 [.int 6, .int p0] rfl rfl zk_4_41 zms_61 rfl ⟨_, _, _, _, rfl, rfl⟩ (Nat.le_of_ble_eq_true rfl) ?_
                refine zcv h (fun I7 J7 D7 h => ?_)
                refine zr_goto zSm 56 228 rfl rfl ?_
                refine zr_vret zSm 57 rfl rfl ?_
                exact h
            · have h := h.2 q8
              refine zr_tsD 1 228 [2, 3, 4, 5, 6, 7, 8, 9, 10, 13, 14, 27] rfl ?_ (by decide) rfl ?_
              · intro hx
                simp only [List.mem_cons, List.not_mem_nil, or_false] at hx
                rcases hx with e | e | e | e | e | e | e | e | e | e | e | e
                · exact q1 e
                · exact q2 e
                · exact q5 (Or.inl e)
                · exact q5 (Or.inr (Or.inl e))
                · exact q5 (Or.inr (Or.inr (Or.inl e)))
                · exact q5 (Or.inr (Or.inr (Or.inr (Or.inl e))))
                · exact q5 (Or.inr (Or.inr (Or.inr (Or.inr (Or.inl e)))))
                · exact q5 (Or.inr (Or.inr (Or.inr (Or.inr (Or.inr (Or.inl e))))))
                · exact q5 (Or.inr (Or.inr (Or.inr (Or.inr (Or.inr (Or.inr (e)))))))
                · exact q6 e
                · exact q7 e
                · exact q8 e
              · refine zr_vret zSm 57 rfl rfl ?_
                exact h
theorem w_63 {RO : zRo} {d : Nat} {P : zP} {I : zI} {J : zJ} {D : zD} {bc bs : Nat} {p0 p1 : Int32} (hRO : zROk RO) (h : (((p1 - 4) < 0 → P (.inl none) I J D) ∧ (¬ ((p1 - 4) < 0) → ((7 ≤ (p1 - 4) → P (.inl none) I J D) ∧ (¬ (7 ≤ (p1 - 4)) → (((I 13 ((p1 - 4).toNatClampNeg)) < (zM0 ((p1 - 4).toNatClampNeg)) → ((¬ p1 = 10 → ((¬ p1 = 6 → (((zv_64 (zu (zu (zu (zu (zu I 19 4 p1) 19 5 (I 13 ((p1 - 4).toNatClampNeg))) 13 ((p1 - 4).toNatClampNeg) ((I 13 ((p1 - 4).toNatClampNeg)) + 1)) 19 6 0) 19 7 0) J) < 0 → P (.inl none) (zu (zu (zu (zu (zu I 19 4 p1) 19 5 (I 13 ((p1 - 4).toNatClampNeg))) 13 ((p1 - 4).toNatClampNeg) ((I 13 ((p1 - 4).toNatClampNeg)) + 1)) 19 6 0) 19 7 0) J D) ∧ (¬ ((zv_64 (zu (zu (zu (zu (zu I 19 4 p1) 19 5 (I 13 ((p1 - 4).toNatClampNeg))) 13 ((p1 - 4).toNatClampNeg) ((I 13 ((p1 - 4).toNatClampNeg)) + 1)) 19 6 0) 19 7 0) J) < 0) → ((28 ≤ (zv_64 (zu (zu (zu (zu (zu I 19 4 p1) 19 5 (I 13 ((p1 - 4).toNatClampNeg))) 13 ((p1 - 4).toNatClampNeg) ((I 13 ((p1 - 4).toNatClampNeg)) + 1)) 19 6 0) 19 7 0) J) → P (.inl none) (zu (zu (zu (zu (zu I 19 4 p1) 19 5 (I 13 ((p1 - 4).toNatClampNeg))) 13 ((p1 - 4).toNatClampNeg) ((I 13 ((p1 - 4).toNatClampNeg)) + 1)) 19 6 0) 19 7 0) J D) ∧ (¬ (28 ≤ (zv_64 (zu (zu (zu (zu (zu I 19 4 p1) 19 5 (I 13 ((p1 - 4).toNatClampNeg))) 13 ((p1 - 4).toNatClampNeg) ((I 13 ((p1 - 4).toNatClampNeg)) + 1)) 19 6 0) 19 7 0) J)) → P (.inl none) (zu (zu (zu (zu (zu (zu I 19 4 p1) 19 5 (I 13 ((p1 - 4).toNatClampNeg))) 13 ((p1 - 4).toNatClampNeg) ((I 13 ((p1 - 4).toNatClampNeg)) + 1)) 19 6 0) 19 7 0) 17 ((zv_64 (zu (zu (zu (zu (zu I 19 4 p1) 19 5 (I 13 ((p1 - 4).toNatClampNeg))) 13 ((p1 - 4).toNatClampNeg) ((I 13 ((p1 - 4).toNatClampNeg)) + 1)) 19 6 0) 19 7 0) J).toNatClampNeg) (-1)) J D))))) ∧ (¬ (¬ p1 = 6) → ((6 ≤ (I 13 ((p1 - 4).toNatClampNeg)) → (((zv_64 (zu (zu (zu (zu (zu I 19 4 p1) 19 5 (I 13 ((p1 - 4).toNatClampNeg))) 13 ((p1 - 4).toNatClampNeg) ((I 13 ((p1 - 4).toNatClampNeg)) + 1)) 19 6 0) 19 7 0) J) < 0 → P (.inl none) (zu (zu (zu (zu (zu I 19 4 p1) 19 5 (I 13 ((p1 - 4).toNatClampNeg))) 13 ((p1 - 4).toNatClampNeg) ((I 13 ((p1 - 4).toNatClampNeg)) + 1)) 19 6 0) 19 7 0) J D) ∧ (¬ ((zv_64 (zu (zu (zu (zu (zu I 19 4 p1) 19 5 (I 13 ((p1 - 4).toNatClampNeg))) 13 ((p1 - 4).toNatClampNeg) ((I 13 ((p1 - 4).toNatClampNeg)) + 1)) 19 6 0) 19 7 0) J) < 0) → ((28 ≤ (zv_64 (zu (zu (zu (zu (zu I 19 4 p1) 19 5 (I 13 ((p1 - 4).toNatClampNeg))) 13 ((p1 - 4).toNatClampNeg) ((I 13 ((p1 - 4).toNatClampNeg)) + 1)) 19 6 0) 19 7 0) J) → P (.inl none) (zu (zu (zu (zu (zu I 19 4 p1) 19 5 (I 13 ((p1 - 4).toNatClampNeg))) 13 ((p1 - 4).toNatClampNeg) ((I 13 ((p1 - 4).toNatClampNeg)) + 1)) 19 6 0) 19 7 0) J D) ∧ (¬ (28 ≤ (zv_64 (zu (zu (zu (zu (zu I 19 4 p1) 19 5 (I 13 ((p1 - 4).toNatClampNeg))) 13 ((p1 - 4).toNatClampNeg) ((I 13 ((p1 - 4).toNatClampNeg)) + 1)) 19 6 0) 19 7 0) J)) → P (.inl none) (zu (zu (zu (zu (zu (zu I 19 4 p1) 19 5 (I 13 ((p1 - 4).toNatClampNeg))) 13 ((p1 - 4).toNatClampNeg) ((I 13 ((p1 - 4).toNatClampNeg)) + 1)) 19 6 0) 19 7 0) 17 ((zv_64 (zu (zu (zu (zu (zu I 19 4 p1) 19 5 (I 13 ((p1 - 4).toNatClampNeg))) 13 ((p1 - 4).toNatClampNeg) ((I 13 ((p1 - 4).toNatClampNeg)) + 1)) 19 6 0) 19 7 0) J).toNatClampNeg) (-1)) J D))))) ∧ (¬ (6 ≤ (I 13 ((p1 - 4).toNatClampNeg))) → (vp_in (I 13 ((p1 - 4).toNatClampNeg)) 6 ∧ P (.inl none) (zu (zu (zu (zu (zu (zu I 19 4 p1) 19 5 (I 13 ((p1 - 4).toNatClampNeg))) 13 ((p1 - 4).toNatClampNeg) ((I 13 ((p1 - 4).toNatClampNeg)) + 1)) 19 6 0) 19 7 0) 15 ((I 13 ((p1 - 4).toNatClampNeg)).toNatClampNeg) 0) J D)))))) ∧ (¬ (¬ p1 = 10) → P (.inl none) (zu (zu (zu (zu (zu (zu I 19 4 p1) 19 5 (I 13 ((p1 - 4).toNatClampNeg))) 13 ((p1 - 4).toNatClampNeg) ((I 13 ((p1 - 4).toNatClampNeg)) + 1)) 19 6 0) 19 7 1) 12 6 ((zv_95 (zu (zu (zu (zu (zu I 19 4 p1) 19 5 (I 13 ((p1 - 4).toNatClampNeg))) 13 ((p1 - 4).toNatClampNeg) ((I 13 ((p1 - 4).toNatClampNeg)) + 1)) 19 6 0) 19 7 1) J p0).toInt32)) J D))) ∧ (¬ ((I 13 ((p1 - 4).toNatClampNeg)) < (zM0 ((p1 - 4).toNatClampNeg))) → (zz RO (d + 1) 61 [.ref 19, .int 4, .int p0] (zu (zu I 19 4 p1) 19 5 (I 13 ((p1 - 4).toNatClampNeg))) J D 0 0 (zNv P fun I1 J1 D1 => P (.inl none) I1 J1 D1))))))))) : zz RO (d + 2) 63 [.ref 19, .int p0, .int p1] I J D bc bs P := by
  refine zT_of (Nat.le_of_ble_eq_true rfl) rfl ?_
  show zw RO (d + 1) 63 P 0 [(0, .ref 19), (1, .int p0), (2, .int p1)] [] I J D bc bs
  refine zr_iload_n zSm 0 rfl rfl ?_
  refine zr_s zSm 1 rfl rfl ?_
  refine zr_s zSm 2 rfl rfl ?_
  refine zr_istore_n zSm 3 (ll' := [(3, .int (p1 - 4)), (0, .ref 19), (1, .int p0), (2, .int p1)]) rfl (by decide) rfl ?_
  refine zr_iload_n zSm 4 rfl rfl ?_
  refine zr_if zSm 5 28 rfl rfl (fun q1 => ?_) (fun q1 => ?_)
  · have h := h.1 q1
    refine zr_vret zSm 16 rfl rfl ?_
    exact h
  · have h := h.2 q1
    refine zr_iload_n zSm 6 rfl rfl ?_
    refine zr_gsn (i := 7) rfl ?_
    refine zr_salen zSm 8 7 rfl hRO.1 rfl ?_
    refine zr_ic zSm 9 28 rfl rfl (fun q2 => ?_) (fun q2 => ?_)
    · have h := h.1 q2
      refine zr_vret zSm 16 rfl rfl ?_
      exact h
    · have h := h.2 q2
      refine zr_iload_n zSm 10 rfl rfl ?_
      refine zr_aload_n zSm 11 rfl rfl ?_
      refine zr_getR zSm 12 rfl zf_4_15 rfl rfl (by decide) ?_
      refine zr_getR zSm 13 rfl zf_4_78 rfl rfl (by decide) ?_
      refine zr_alen zSm 14 7 rfl rfl rfl ?_
      refine zr_ic zSm 15 29 rfl rfl (fun q3 => ?_) (fun q3 => ?_)
      · refine zr_aload_n zSm 17 rfl rfl ?_
        refine zr_iload_n zSm 18 rfl rfl ?_
        refine zr_putI zSm 19 rfl zf_4_53 rfl rfl (by decide) zp_4_4 ?_
        refine zr_aload_n zSm 20 rfl rfl ?_
        refine zr_aload_n zSm 21 rfl rfl ?_
        refine zr_getR zSm 22 rfl zf_4_15 rfl rfl (by decide) ?_
        refine zr_getR zSm 23 rfl zf_4_78 rfl rfl (by decide) ?_
        refine zr_iload_n zSm 24 rfl rfl ?_
        refine zr_iald zSm 25 rfl rfl (zin (zlo1 q1) (zhi2 q3) (by decide)) ?_
        refine zr_putI zSm 26 rfl zf_4_81 rfl rfl (by decide) zp_4_5 ?_
        refine zr_aload_n zSm 27 rfl rfl ?_
        refine zr_getI zSm 28 rfl zf_4_81 rfl rfl (by decide) ?_
        refine zr_gsn (i := 29) rfl ?_
        refine zr_iload_n zSm 30 rfl rfl ?_
        refine zr_sald zSm 31 rfl hRO.1 (zin (zlo1 q1) (zhi2 q3) (by decide)) ?_
        refine zr_ic zSm 32 66 rfl rfl (fun q4 => ?_) (fun q4 => ?_)
        · have h := h.1 q4
          refine zr_aload_n zSm 38 rfl rfl ?_
          refine zr_getR zSm 39 rfl zf_4_15 rfl rfl (by decide) ?_
          refine zr_getR zSm 40 rfl zf_4_78 rfl rfl (by decide) ?_
          refine zr_iload_n zSm 41 rfl rfl ?_
          refine zr_aload_n zSm 42 rfl rfl ?_
          refine zr_getI zSm 43 rfl zf_4_81 rfl rfl (by decide) ?_
          refine zr_s zSm 44 rfl rfl ?_
          refine zr_s zSm 45 rfl rfl ?_
          refine zr_iast zSm 46 rfl rfl (zin (zlo1 q1) (zhi2 q3) (by decide)) ?_
          refine zr_aload_n zSm 47 rfl rfl ?_
          refine zr_s zSm 48 rfl rfl ?_
          refine zr_putI zSm 49 rfl zf_4_84 rfl rfl (by decide) zp_4_6 ?_
          refine zr_aload_n zSm 50 rfl rfl ?_
          refine zr_iload_n zSm 51 rfl rfl ?_
          refine zr_bipush zSm 52 10 rfl rfl ?_
          refine zr_ic zSm 53 97 rfl rfl (fun q5 => ?_) (fun q5 => ?_)
          · have h := h.1 q5
            refine zr_s zSm 56 rfl rfl ?_
            refine zr_putZ zSm 57 rfl zf_4_60 rfl rfl (by decide) zp_4_7 (Or.inl rfl) ?_
            refine zr_iload_n zSm 58 rfl rfl ?_
            refine zr_bipush zSm 59 10 rfl rfl ?_
            refine zr_ic zSm 60 126 rfl rfl (fun q6 => ?_) (fun q6 => ?_)
            · refine zr_iload_n zSm 70 rfl rfl ?_
              refine zr_bipush zSm 71 6 rfl rfl ?_
              refine zr_ic zSm 72 163 rfl rfl (fun q7 => ?_) (fun q7 => ?_)
              · have h := h.1 q7
                refine zr_aload_n zSm 88 rfl rfl ?_
                refine zr_inv0 89 64 0 [] rfl rfl zk_4_97 zms_64 rfl ⟨_, _, _, _, rfl, rfl⟩ (Nat.le_of_ble_eq_true rfl) ?_
                refine ze_64 ?_
                refine zNx_i ?_
                refine zr_if zSm 90 198 rfl rfl (fun q8 => ?_) (fun q8 => ?_)
                · have h := h.1 q8
                  refine zr_vret zSm 105 rfl rfl ?_
                  exact h
                · have h := h.2 q8
                  refine zr_aload_n zSm 91 rfl rfl ?_
                  refine zr_inv0 92 64 0 [] rfl rfl zk_4_97 zms_64 rfl ⟨_, _, _, _, rfl, rfl⟩ (Nat.le_of_ble_eq_true rfl) ?_
                  refine ze_64 ?_
                  refine zNx_i ?_
                  refine zr_aload_n zSm 93 rfl rfl ?_
                  refine zr_getR zSm 94 rfl zf_4_15 rfl rfl (by decide) ?_
                  refine zr_getR zSm 95 rfl zf_4_64 rfl rfl (by decide) ?_
                  refine zr_alen zSm 96 28 rfl rfl rfl ?_
                  refine zr_ic zSm 97 198 rfl rfl (fun q9 => ?_) (fun q9 => ?_)
                  · have h := h.1 q9
                    refine zr_vret zSm 105 rfl rfl ?_
                    exact h
                  · have h := h.2 q9
                    refine zr_aload_n zSm 98 rfl rfl ?_
                    refine zr_getR zSm 99 rfl zf_4_15 rfl rfl (by decide) ?_
                    refine zr_getR zSm 100 rfl zf_4_64 rfl rfl (by decide) ?_
                    refine zr_aload_n zSm 101 rfl rfl ?_
                    refine zr_inv0 102 64 0 [] rfl rfl zk_4_97 zms_64 rfl ⟨_, _, _, _, rfl, rfl⟩ (Nat.le_of_ble_eq_true rfl) ?_
                    refine ze_64 ?_
                    refine zNx_i ?_
                    refine zr_s zSm 103 rfl rfl ?_
                    refine zr_iast zSm 104 rfl rfl (zin (zlo1 q8) (zhi1 q9) (by decide)) ?_
                    refine zr_vret zSm 105 rfl rfl ?_
                    exact h
              · have h := h.2 q7
                refine zr_aload_n zSm 73 rfl rfl ?_
                refine zr_getI zSm 74 rfl zf_4_81 rfl rfl (by decide) ?_
                refine zr_aload_n zSm 75 rfl rfl ?_
                refine zr_getR zSm 76 rfl zf_4_15 rfl rfl (by decide) ?_
                refine zr_getR zSm 77 rfl zf_4_94 rfl rfl (by decide) ?_
                refine zr_alen zSm 78 6 rfl rfl rfl ?_
                refine zr_ic zSm 79 163 rfl rfl (fun q10 => ?_) (fun q10 => ?_)
                · have h := h.1 q10
                  refine zr_aload_n zSm 88 rfl rfl ?_
                  refine zr_inv0 89 64 0 [] rfl rfl zk_4_97 zms_64 rfl ⟨_, _, _, _, rfl, rfl⟩ (Nat.le_of_ble_eq_true rfl) ?_
                  refine ze_64 ?_
                  refine zNx_i ?_
                  refine zr_if zSm 90 198 rfl rfl (fun q11 => ?_) (fun q11 => ?_)
                  · have h := h.1 q11
                    refine zr_vret zSm 105 rfl rfl ?_
                    exact h
                  · have h := h.2 q11
                    refine zr_aload_n zSm 91 rfl rfl ?_
                    refine zr_inv0 92 64 0 [] rfl rfl zk_4_97 zms_64 rfl ⟨_, _, _, _, rfl, rfl⟩ (Nat.le_of_ble_eq_true rfl) ?_
                    refine ze_64 ?_
                    refine zNx_i ?_
                    refine zr_aload_n zSm 93 rfl rfl ?_
                    refine zr_getR zSm 94 rfl zf_4_15 rfl rfl (by decide) ?_
                    refine zr_getR zSm 95 rfl zf_4_64 rfl rfl (by decide) ?_
                    refine zr_alen zSm 96 28 rfl rfl rfl ?_
                    refine zr_ic zSm 97 198 rfl rfl (fun q12 => ?_) (fun q12 => ?_)
                    · have h := h.1 q12
                      refine zr_vret zSm 105 rfl rfl ?_
                      exact h
                    · have h := h.2 q12
                      refine zr_aload_n zSm 98 rfl rfl ?_
                      refine zr_getR zSm 99 rfl zf_4_15 rfl rfl (by decide) ?_
                      refine zr_getR zSm 100 rfl zf_4_64 rfl rfl (by decide) ?_
                      refine zr_aload_n zSm 101 rfl rfl ?_
                      refine zr_inv0 102 64 0 [] rfl rfl zk_4_97 zms_64 rfl ⟨_, _, _, _, rfl, rfl⟩ (Nat.le_of_ble_eq_true rfl) ?_
                      refine ze_64 ?_
                      refine zNx_i ?_
                      refine zr_s zSm 103 rfl rfl ?_
                      refine zr_iast zSm 104 rfl rfl (zin (zlo1 q11) (zhi1 q12) (by decide)) ?_
                      refine zr_vret zSm 105 rfl rfl ?_
                      exact h
                · have h := h.2 q10
                  refine zr_aload_n zSm 80 rfl rfl ?_
                  refine zr_getR zSm 81 rfl zf_4_15 rfl rfl (by decide) ?_
                  refine zr_getR zSm 82 rfl zf_4_94 rfl rfl (by decide) ?_
                  refine zr_aload_n zSm 83 rfl rfl ?_
                  refine zr_getI zSm 84 rfl zf_4_81 rfl rfl (by decide) ?_
                  refine zr_s zSm 85 rfl rfl ?_
                  obtain ⟨b86, h⟩ := h
                  refine zr_iast zSm 86 rfl rfl b86 ?_
                  refine zr_goto zSm 87 198 rfl rfl ?_
                  refine zr_vret zSm 105 rfl rfl ?_
                  exact h
            · exact absurd q5 q6
          · have h := h.2 q5
            refine zr_s zSm 54 rfl rfl ?_
            refine zr_goto zSm 55 98 rfl rfl ?_
            refine zr_putZ zSm 57 rfl zf_4_60 rfl rfl (by decide) zp_4_7 (Or.inr rfl) ?_
            refine zr_iload_n zSm 58 rfl rfl ?_
            refine zr_bipush zSm 59 10 rfl rfl ?_
            refine zr_ic zSm 60 126 rfl rfl (fun q13 => ?_) (fun q13 => ?_)
            · exact absurd q13 q5
            · refine zr_aload_n zSm 61 rfl rfl ?_
              refine zr_getR zSm 62 rfl zf_4_15 rfl rfl (by decide) ?_
              refine zr_aload_n zSm 63 rfl rfl ?_
              refine zr_getR zSm 64 rfl zf_4_9 rfl rfl (by decide) ?_
              refine zr_iload_n zSm 65 rfl rfl ?_
              refine zr_inv0 66 95 1 [.int p0] rfl rfl zk_4_87 zms_95 rfl ⟨_, _, _, _, rfl, rfl⟩ (Nat.le_of_ble_eq_true rfl) ?_
              refine ze_95 ?_
              refine zNx_l ?_
              refine zr_s zSm 67 rfl rfl ?_
              refine zr_putI zSm 68 rfl zf_4_91 rfl rfl (by decide) zp_5_6 ?_
              refine zr_goto zSm 69 198 rfl rfl ?_
              refine zr_vret zSm 105 rfl rfl ?_
              exact h
        · have h := h.2 q4
          refine zr_aload_n zSm 33 rfl rfl ?_
          refine zr_s zSm 34 rfl rfl ?_
          refine zr_iload_n zSm 35 rfl rfl ?_
          refine zr_inv0 36 61 2 [.int 4, .int p0] rfl rfl zk_4_41 zms_61 rfl ⟨_, _, _, _, rfl, rfl⟩ (Nat.le_of_ble_eq_true rfl) ?_
          refine zcv h (fun I1 J1 D1 h => ?_)
          refine zr_vret zSm 37 rfl rfl ?_
          exact h
      · first | exact absurd q3 q2 | exact absurd q2 q3 | exact absurd (Int32.not_lt.mp q3) q2 | exact absurd (Int32.not_lt.mp q2) q3 | exact absurd (Int32.not_le.mp q3) q2 | exact absurd (Int32.not_le.mp q2) q3 | exact absurd q3 (Int32.not_lt.mpr q2) | exact absurd q2 (Int32.not_lt.mpr q3) | exact absurd q3 (Int32.not_le.mpr q2) | exact absurd q2 (Int32.not_le.mpr q3)
theorem w_65a {RO : zRo} {d : Nat} {P : zP} {I : zI} {J : zJ} {D : zD} {bc bs : Nat} {p0 : Int32} (h : (((zv_64 I J) < 0 → P (.inl none) I J D) ∧ (¬ ((zv_64 I J) < 0) → ((28 ≤ (zv_64 I J) → P (.inl none) I J D) ∧ (¬ (28 ≤ (zv_64 I J)) → P (.inl none) (zu I 17 ((zv_64 I J).toNatClampNeg) ((zv_95 I J p0).toInt32)) J D))))) : zz RO (d + 2) 65 [.ref 19, .ref 17, .int p0] I J D bc bs P := by
  refine zT_of (Nat.le_of_ble_eq_true rfl) rfl ?_
  show zw RO (d + 1) 65 P 0 [(0, .ref 19), (1, .ref 17), (2, .int p0)] [] I J D bc bs
  refine zr_aload_n zSm 0 rfl rfl ?_
  refine zr_inv0 1 64 0 [] rfl rfl zk_4_97 zms_64 rfl ⟨_, _, _, _, rfl, rfl⟩ (Nat.le_of_ble_eq_true rfl) ?_
  refine ze_64 ?_
  refine zNx_i ?_
  refine zr_istore_n zSm 2 (ll' := [(3, .int (zv_64 I J)), (0, .ref 19), (1, .ref 17), (2, .int p0)]) rfl (by decide) rfl ?_
  refine zr_iload_n zSm 3 rfl rfl ?_
  refine zr_if zSm 4 27 rfl rfl (fun q1 => ?_) (fun q1 => ?_)
  · have h := h.1 q1
    refine zr_vret zSm 17 rfl rfl ?_
    exact h
  · have h := h.2 q1
    refine zr_iload_n zSm 5 rfl rfl ?_
    refine zr_aload_n zSm 6 rfl rfl ?_
    refine zr_alen zSm 7 28 rfl rfl rfl ?_
    refine zr_ic zSm 8 27 rfl rfl (fun q2 => ?_) (fun q2 => ?_)
    · have h := h.1 q2
      refine zr_vret zSm 17 rfl rfl ?_
      exact h
    · have h := h.2 q2
      refine zr_aload_n zSm 9 rfl rfl ?_
      refine zr_iload_n zSm 10 rfl rfl ?_
      refine zr_aload_n zSm 11 rfl rfl ?_
      refine zr_getR zSm 12 rfl zf_4_9 rfl rfl (by decide) ?_
      refine zr_iload_n zSm 13 rfl rfl ?_
      refine zr_inv0 14 95 1 [.int p0] rfl rfl zk_4_87 zms_95 rfl ⟨_, _, _, _, rfl, rfl⟩ (Nat.le_of_ble_eq_true rfl) ?_
      refine ze_95 ?_
      refine zNx_l ?_
      refine zr_s zSm 15 rfl rfl ?_
      refine zr_iast zSm 16 rfl rfl (zin (zlo1 q1) (zhi1 q2) (by decide)) ?_
      refine zr_vret zSm 17 rfl rfl ?_
      exact h
theorem w_65b {RO : zRo} {d : Nat} {P : zP} {I : zI} {J : zJ} {D : zD} {bc bs : Nat} {p0 : Int32} (h : (((zv_64 I J) < 0 → P (.inl none) I J D) ∧ (¬ ((zv_64 I J) < 0) → ((28 ≤ (zv_64 I J) → P (.inl none) I J D) ∧ (¬ (28 ≤ (zv_64 I J)) → P (.inl none) (zu I 18 ((zv_64 I J).toNatClampNeg) ((zv_95 I J p0).toInt32)) J D))))) : zz RO (d + 2) 65 [.ref 19, .ref 18, .int p0] I J D bc bs P := by
  refine zT_of (Nat.le_of_ble_eq_true rfl) rfl ?_
  show zw RO (d + 1) 65 P 0 [(0, .ref 19), (1, .ref 18), (2, .int p0)] [] I J D bc bs
  refine zr_aload_n zSm 0 rfl rfl ?_
  refine zr_inv0 1 64 0 [] rfl rfl zk_4_97 zms_64 rfl ⟨_, _, _, _, rfl, rfl⟩ (Nat.le_of_ble_eq_true rfl) ?_
  refine ze_64 ?_
  refine zNx_i ?_
  refine zr_istore_n zSm 2 (ll' := [(3, .int (zv_64 I J)), (0, .ref 19), (1, .ref 18), (2, .int p0)]) rfl (by decide) rfl ?_
  refine zr_iload_n zSm 3 rfl rfl ?_
  refine zr_if zSm 4 27 rfl rfl (fun q1 => ?_) (fun q1 => ?_)
  · have h := h.1 q1
    refine zr_vret zSm 17 rfl rfl ?_
    exact h
  · have h := h.2 q1
    refine zr_iload_n zSm 5 rfl rfl ?_
    refine zr_aload_n zSm 6 rfl rfl ?_
    refine zr_alen zSm 7 28 rfl rfl rfl ?_
    refine zr_ic zSm 8 27 rfl rfl (fun q2 => ?_) (fun q2 => ?_)
    · have h := h.1 q2
      refine zr_vret zSm 17 rfl rfl ?_
      exact h
    · have h := h.2 q2
      refine zr_aload_n zSm 9 rfl rfl ?_
      refine zr_iload_n zSm 10 rfl rfl ?_
      refine zr_aload_n zSm 11 rfl rfl ?_
      refine zr_getR zSm 12 rfl zf_4_9 rfl rfl (by decide) ?_
      refine zr_iload_n zSm 13 rfl rfl ?_
      refine zr_inv0 14 95 1 [.int p0] rfl rfl zk_4_87 zms_95 rfl ⟨_, _, _, _, rfl, rfl⟩ (Nat.le_of_ble_eq_true rfl) ?_
      refine ze_95 ?_
      refine zNx_l ?_
      refine zr_s zSm 15 rfl rfl ?_
      refine zr_iast zSm 16 rfl rfl (zin (zlo1 q1) (zhi1 q2) (by decide)) ?_
      refine zr_vret zSm 17 rfl rfl ?_
      exact h
theorem w_66 {RO : zRo} {d : Nat} {P : zP} {I : zI} {J : zJ} {D : zD} {bc bs : Nat} {p0 p1 : Int32} (h : ((p1 < 4 → ((p1 = 40 → (zz RO d 68 [.ref 19, .int p0] I J D 0 0 (zNv P fun I1 J1 D1 => P (.inl none) I1 J1 D1))) ∧ (¬ (p1 = 40) → ((¬ p1 = 38 → ((¬ p1 = 12 → ((¬ p1 = 25 → ((¬ p1 = 26 → (zz RO d 70 [.ref 19, .int p0, .int 5, .int 12] I J D 0 0 (zNv P fun I2 J2 D2 => P (.inl none) I2 J2 D2))) ∧ (¬ (¬ p1 = 26) → (zz RO d 70 [.ref 19, .int p0, .int 4, .int 6] I J D 0 0 (zNv P fun I3 J3 D3 => P (.inl none) I3 J3 D3))))) ∧ (¬ (¬ p1 = 25) → (zz RO d 70 [.ref 19, .int p0, .int 4, .int 0] I J D 0 0 (zNv P fun I4 J4 D4 => P (.inl none) I4 J4 D4))))) ∧ (¬ (¬ p1 = 12) → (zz RO d 69 [.ref 19, .int p0] I J D 0 0 (zNv P fun I5 J5 D5 => P (.inl none) I5 J5 D5))))) ∧ (¬ (¬ p1 = 38) → (zz RO d 68 [.ref 19, .int p0] I J D 0 0 (zNv P fun I6 J6 D6 => P (.inl none) I6 J6 D6))))))) ∧ (¬ (p1 < 4) → ((9 < p1 → ((p1 = 40 → (zz RO d 68 [.ref 19, .int p0] I J D 0 0 (zNv P fun I7 J7 D7 => P (.inl none) I7 J7 D7))) ∧ (¬ (p1 = 40) → ((¬ p1 = 38 → ((¬ p1 = 12 → ((¬ p1 = 25 → ((¬ p1 = 26 → (zz RO d 70 [.ref 19, .int p0, .int 5, .int 12] I J D 0 0 (zNv P fun I8 J8 D8 => P (.inl none) I8 J8 D8))) ∧ (¬ (¬ p1 = 26) → (zz RO d 70 [.ref 19, .int p0, .int 4, .int 6] I J D 0 0 (zNv P fun I9 J9 D9 => P (.inl none) I9 J9 D9))))) ∧ (¬ (¬ p1 = 25) → (zz RO d 70 [.ref 19, .int p0, .int 4, .int 0] I J D 0 0 (zNv P fun I10 J10 D10 => P (.inl none) I10 J10 D10))))) ∧ (¬ (¬ p1 = 12) → (zz RO d 69 [.ref 19, .int p0] I J D 0 0 (zNv P fun I11 J11 D11 => P (.inl none) I11 J11 D11))))) ∧ (¬ (¬ p1 = 38) → (zz RO d 68 [.ref 19, .int p0] I J D 0 0 (zNv P fun I12 J12 D12 => P (.inl none) I12 J12 D12))))))) ∧ (¬ (9 < p1) → (zz RO d 67 [.ref 19, .int p0] I J D 0 0 (zNi P fun v13 I13 J13 D13 => ((v13 = 0 → P (.inl none) I13 J13 D13) ∧ (¬ (v13 = 0) → (zz RO d 61 [.ref 19, .int 3, .int p0] I13 J13 D13 0 0 (zNv P fun I14 J14 D14 => P (.inl none) I14 J14 D14))))))))))) : zz RO (d + 1) 66 [.ref 19, .int p0, .int p1] I J D bc bs P := by
  refine zT_of (Nat.le_of_ble_eq_true rfl) rfl ?_
  show zw RO d 66 P 0 [(0, .ref 19), (1, .int p0), (2, .int p1)] [] I J D bc bs
  refine zr_iload_n zSm 0 rfl rfl ?_
  refine zr_s zSm 1 rfl rfl ?_
  refine zr_ic zSm 2 28 rfl rfl (fun q1 => ?_) (fun q1 => ?_)
  · have h := h.1 q1
    refine zr_iload_n zSm 15 rfl rfl ?_
    refine zr_bipush zSm 16 40 rfl rfl ?_
    refine zr_ic zSm 17 40 rfl rfl (fun q2 => ?_) (fun q2 => ?_)
    · have h := h.1 q2
      refine zr_aload_n zSm 21 rfl rfl ?_
      refine zr_iload_n zSm 22 rfl rfl ?_
      refine zr_inv0 23 68 1 [.int p0] rfl rfl zk_4_105 zms_68 rfl ⟨_, _, _, _, rfl, rfl⟩ (Nat.le_of_ble_eq_true rfl) ?_
      refine zcv h (fun I1 J1 D1 h => ?_)
      refine zr_goto zSm 24 103 rfl rfl ?_
      refine zr_vret zSm 55 rfl rfl ?_
      exact h
    · have h := h.2 q2
      refine zr_iload_n zSm 18 rfl rfl ?_
      refine zr_bipush zSm 19 38 rfl rfl ?_
      refine zr_ic zSm 20 48 rfl rfl (fun q3 => ?_) (fun q3 => ?_)
      · have h := h.1 q3
        refine zr_iload_n zSm 25 rfl rfl ?_
        refine zr_bipush zSm 26 12 rfl rfl ?_
        refine zr_ic zSm 27 62 rfl rfl (fun q4 => ?_) (fun q4 => ?_)
        · have h := h.1 q4
          refine zr_iload_n zSm 32 rfl rfl ?_
          refine zr_bipush zSm 33 25 rfl rfl ?_
          refine zr_ic zSm 34 78 rfl rfl (fun q5 => ?_) (fun q5 => ?_)
          · have h := h.1 q5
            refine zr_iload_n zSm 41 rfl rfl ?_
            refine zr_bipush zSm 42 26 rfl rfl ?_
            refine zr_ic zSm 43 95 rfl rfl (fun q6 => ?_) (fun q6 => ?_)
            · have h := h.1 q6
              refine zr_aload_n zSm 50 rfl rfl ?_
              refine zr_iload_n zSm 51 rfl rfl ?_
              refine zr_s zSm 52 rfl rfl ?_
              refine zr_bipush zSm 53 12 rfl rfl ?_
              refine zr_inv0 54 70 3 [.int p0, .int 5, .int 12] rfl rfl zk_4_111 zms_70 rfl ⟨_, _, _, _, rfl, rfl⟩ (Nat.le_of_ble_eq_true rfl) ?_
              refine zcv h (fun I2 J2 D2 h => ?_)
              refine zr_vret zSm 55 rfl rfl ?_
              exact h
            · have h := h.2 q6
              refine zr_aload_n zSm 44 rfl rfl ?_
              refine zr_iload_n zSm 45 rfl rfl ?_
              refine zr_s zSm 46 rfl rfl ?_
              refine zr_bipush zSm 47 6 rfl rfl ?_
              refine zr_inv0 48 70 3 [.int p0, .int 4, .int 6] rfl rfl zk_4_111 zms_70 rfl ⟨_, _, _, _, rfl, rfl⟩ (Nat.le_of_ble_eq_true rfl) ?_
              refine zcv h (fun I3 J3 D3 h => ?_)
              refine zr_goto zSm 49 103 rfl rfl ?_
              refine zr_vret zSm 55 rfl rfl ?_
              exact h
          · have h := h.2 q5
            refine zr_aload_n zSm 35 rfl rfl ?_
            refine zr_iload_n zSm 36 rfl rfl ?_
            refine zr_s zSm 37 rfl rfl ?_
            refine zr_s zSm 38 rfl rfl ?_
            refine zr_inv0 39 70 3 [.int p0, .int 4, .int 0] rfl rfl zk_4_111 zms_70 rfl ⟨_, _, _, _, rfl, rfl⟩ (Nat.le_of_ble_eq_true rfl) ?_
            refine zcv h (fun I4 J4 D4 h => ?_)
            refine zr_goto zSm 40 103 rfl rfl ?_
            refine zr_vret zSm 55 rfl rfl ?_
            exact h
        · have h := h.2 q4
          refine zr_aload_n zSm 28 rfl rfl ?_
          refine zr_iload_n zSm 29 rfl rfl ?_
          refine zr_inv0 30 69 1 [.int p0] rfl rfl zk_4_108 zms_69 rfl ⟨_, _, _, _, rfl, rfl⟩ (Nat.le_of_ble_eq_true rfl) ?_
          refine zcv h (fun I5 J5 D5 h => ?_)
          refine zr_goto zSm 31 103 rfl rfl ?_
          refine zr_vret zSm 55 rfl rfl ?_
          exact h
      · have h := h.2 q3
        refine zr_aload_n zSm 21 rfl rfl ?_
        refine zr_iload_n zSm 22 rfl rfl ?_
        refine zr_inv0 23 68 1 [.int p0] rfl rfl zk_4_105 zms_68 rfl ⟨_, _, _, _, rfl, rfl⟩ (Nat.le_of_ble_eq_true rfl) ?_
        refine zcv h (fun I6 J6 D6 h => ?_)
        refine zr_goto zSm 24 103 rfl rfl ?_
        refine zr_vret zSm 55 rfl rfl ?_
        exact h
  · have h := h.2 q1
    refine zr_iload_n zSm 3 rfl rfl ?_
    refine zr_bipush zSm 4 9 rfl rfl ?_
    refine zr_ic zSm 5 28 rfl rfl (fun q7 => ?_) (fun q7 => ?_)
    · have h := h.1 q7
      refine zr_iload_n zSm 15 rfl rfl ?_
      refine zr_bipush zSm 16 40 rfl rfl ?_
      refine zr_ic zSm 17 40 rfl rfl (fun q8 => ?_) (fun q8 => ?_)
      · have h := h.1 q8
        refine zr_aload_n zSm 21 rfl rfl ?_
        refine zr_iload_n zSm 22 rfl rfl ?_
        refine zr_inv0 23 68 1 [.int p0] rfl rfl zk_4_105 zms_68 rfl ⟨_, _, _, _, rfl, rfl⟩ (Nat.le_of_ble_eq_true rfl) ?_
        refine zcv h (fun I7 J7 D7 h => ?_)
        refine zr_goto zSm 24 103 rfl rfl ?_
        refine zr_vret zSm 55 rfl rfl ?_
        exact h
      · have h := h.2 q8
        refine zr_iload_n zSm 18 rfl rfl ?_
        refine zr_bipush zSm 19 38 rfl rfl ?_
        refine zr_ic zSm 20 48 rfl rfl (fun q9 => ?_) (fun q9 => ?_)
        · have h := h.1 q9
          refine zr_iload_n zSm 25 rfl rfl ?_
          refine zr_bipush zSm 26 12 rfl rfl ?_
          refine zr_ic zSm 27 62 rfl rfl (fun q10 => ?_) (fun q10 => ?_)
          · have h := h.1 q10
            refine zr_iload_n zSm 32 rfl rfl ?_
            refine zr_bipush zSm 33 25 rfl rfl ?_
            refine zr_ic zSm 34 78 rfl rfl (fun q11 => ?_) (fun q11 => ?_)
            · have h := h.1 q11
              refine zr_iload_n zSm 41 rfl rfl ?_
              refine zr_bipush zSm 42 26 rfl rfl ?_
              refine zr_ic zSm 43 95 rfl rfl (fun q12 => ?_) (fun q12 => ?_)
              · have h := h.1 q12
                refine zr_aload_n zSm 50 rfl rfl ?_
                refine zr_iload_n zSm 51 rfl rfl ?_
                refine zr_s zSm 52 rfl rfl ?_
                refine zr_bipush zSm 53 12 rfl rfl ?_
                refine zr_inv0 54 70 3 [.int p0, .int 5, .int 12] rfl rfl zk_4_111 zms_70 rfl ⟨_, _, _, _, rfl, rfl⟩ (Nat.le_of_ble_eq_true rfl) ?_
                refine zcv h (fun I8 J8 D8 h => ?_)
                refine zr_vret zSm 55 rfl rfl ?_
                exact h
              · have h := h.2 q12
                refine zr_aload_n zSm 44 rfl rfl ?_
                refine zr_iload_n zSm 45 rfl rfl ?_
                refine zr_s zSm 46 rfl rfl ?_
                refine zr_bipush zSm 47 6 rfl rfl ?_
                refine zr_inv0 48 70 3 [.int p0, .int 4, .int 6] rfl rfl zk_4_111 zms_70 rfl ⟨_, _, _, _, rfl, rfl⟩ (Nat.le_of_ble_eq_true rfl) ?_
                refine zcv h (fun I9 J9 D9 h => ?_)
                refine zr_goto zSm 49 103 rfl rfl ?_
                refine zr_vret zSm 55 rfl rfl ?_
                exact h
            · have h := h.2 q11
              refine zr_aload_n zSm 35 rfl rfl ?_
              refine zr_iload_n zSm 36 rfl rfl ?_
              refine zr_s zSm 37 rfl rfl ?_
              refine zr_s zSm 38 rfl rfl ?_
              refine zr_inv0 39 70 3 [.int p0, .int 4, .int 0] rfl rfl zk_4_111 zms_70 rfl ⟨_, _, _, _, rfl, rfl⟩ (Nat.le_of_ble_eq_true rfl) ?_
              refine zcv h (fun I10 J10 D10 h => ?_)
              refine zr_goto zSm 40 103 rfl rfl ?_
              refine zr_vret zSm 55 rfl rfl ?_
              exact h
          · have h := h.2 q10
            refine zr_aload_n zSm 28 rfl rfl ?_
            refine zr_iload_n zSm 29 rfl rfl ?_
            refine zr_inv0 30 69 1 [.int p0] rfl rfl zk_4_108 zms_69 rfl ⟨_, _, _, _, rfl, rfl⟩ (Nat.le_of_ble_eq_true rfl) ?_
            refine zcv h (fun I11 J11 D11 h => ?_)
            refine zr_goto zSm 31 103 rfl rfl ?_
            refine zr_vret zSm 55 rfl rfl ?_
            exact h
        · have h := h.2 q9
          refine zr_aload_n zSm 21 rfl rfl ?_
          refine zr_iload_n zSm 22 rfl rfl ?_
          refine zr_inv0 23 68 1 [.int p0] rfl rfl zk_4_105 zms_68 rfl ⟨_, _, _, _, rfl, rfl⟩ (Nat.le_of_ble_eq_true rfl) ?_
          refine zcv h (fun I12 J12 D12 h => ?_)
          refine zr_goto zSm 24 103 rfl rfl ?_
          refine zr_vret zSm 55 rfl rfl ?_
          exact h
    · have h := h.2 q7
      refine zr_aload_n zSm 6 rfl rfl ?_
      refine zr_iload_n zSm 7 rfl rfl ?_
      refine zr_inv0 8 67 1 [.int p0] rfl rfl zk_4_101 zms_67 rfl ⟨_, _, _, _, rfl, rfl⟩ (Nat.le_of_ble_eq_true rfl) ?_
      refine zci h (fun v13 I13 J13 D13 h => ?_)
      refine zr_if zSm 9 103 rfl rfl (fun q13 => ?_) (fun q13 => ?_)
      · have h := h.1 q13
        refine zr_vret zSm 55 rfl rfl ?_
        exact h
      · have h := h.2 q13
        refine zr_aload_n zSm 10 rfl rfl ?_
        refine zr_s zSm 11 rfl rfl ?_
        refine zr_iload_n zSm 12 rfl rfl ?_
        refine zr_inv0 13 61 2 [.int 3, .int p0] rfl rfl zk_4_41 zms_61 rfl ⟨_, _, _, _, rfl, rfl⟩ (Nat.le_of_ble_eq_true rfl) ?_
        refine zcv h (fun I14 J14 D14 h => ?_)
        refine zr_goto zSm 14 103 rfl rfl ?_
        refine zr_vret zSm 55 rfl rfl ?_
        exact h
theorem w_67 {RO : zRo} {d : Nat} {P : zP} {I : zI} {J : zJ} {D : zD} {bc bs : Nat} {p0 : Int32} (h : zw RO (d + 1) 67 P 2 [(0, .ref 19), (1, .int p0), (2, .int 1)] [] I J D bc bs) : zz RO (d + 2) 67 [.ref 19, .int p0] I J D bc bs P := by
  refine zT_of (Nat.le_of_ble_eq_true rfl) rfl ?_
  show zw RO (d + 1) 67 P 0 [(0, .ref 19), (1, .int p0)] [] I J D bc bs
  refine zr_s zSm 0 rfl rfl ?_
  refine zr_istore_n zSm 1 (ll' := [(2, .int 1), (0, .ref 19), (1, .int p0)]) rfl (by decide) rfl ?_
  refine zr_sub [1, 2, 0] rfl ?_
  exact h
theorem wl_67_2 {RO : zRo} {d : Nat} {P : zP} {I : zI} {J : zJ} {D : zD} {bc bs : Nat} {l1 l2 : Int32} (h : ((l1 ≤ l2 → P (.inl (some (.int 0))) I J D) ∧ (¬ (l1 ≤ l2) → (((zv_93 I J (l2 - 1)) < 4 → zw RO (d + 1) 67 P 2 [(0, .ref 19), (1, .int l1), (2, .int (l2 + 1))] [] I J D bc bs) ∧ (¬ ((zv_93 I J (l2 - 1)) < 4) → ((9 < (zv_93 I J (l2 - 1)) → zw RO (d + 1) 67 P 2 [(0, .ref 19), (1, .int l1), (2, .int (l2 + 1))] [] I J D bc bs) ∧ (¬ (9 < (zv_93 I J (l2 - 1))) → ((¬ (zv_95 I J l2) = (zv_95 I J l1) → zw RO (d + 1) 67 P 2 [(0, .ref 19), (1, .int l1), (2, .int (l2 + 1))] [] I J D bc bs) ∧ (¬ (¬ (zv_95 I J l2) = (zv_95 I J l1)) → P (.inl (some (.int 1))) I J D))))))))) : zw RO (d + 1) 67 P 2 [(0, .ref 19), (1, .int l1), (2, .int l2)] [] I J D bc bs := by
  refine zr_iload_n zSm 2 rfl rfl ?_
  refine zr_iload_n zSm 3 rfl rfl ?_
  refine zr_ic zSm 4 57 rfl rfl (fun q1 => ?_) (fun q1 => ?_)
  · have h := h.1 q1
    refine zr_s zSm 32 rfl rfl ?_
    refine zr_iret zSm 33 rfl rfl (zn_b (Or.inl rfl)) ?_
    exact h
  · have h := h.2 q1
    refine zr_aload_n zSm 5 rfl rfl ?_
    refine zr_getR zSm 6 rfl zf_4_9 rfl rfl (by decide) ?_
    refine zr_iload_n zSm 7 rfl rfl ?_
    refine zr_s zSm 8 rfl rfl ?_
    refine zr_s zSm 9 rfl rfl ?_
    refine zr_inv0 10 93 1 [.int (l2 - 1)] rfl rfl zk_4_28 zms_93 rfl ⟨_, _, _, _, rfl, rfl⟩ (Nat.le_of_ble_eq_true rfl) ?_
    refine ze_93 ?_
    refine zNx_i ?_
    refine zr_istore_n zSm 11 (ll' := [(3, .int (zv_93 I J (l2 - 1))), (0, .ref 19), (1, .int l1), (2, .int l2)]) rfl (by decide) rfl ?_
    refine zr_iload_n zSm 12 rfl rfl ?_
    refine zr_s zSm 13 rfl rfl ?_
    refine zr_ic zSm 14 51 rfl rfl (fun q2 => ?_) (fun q2 => ?_)
    · have h := h.1 q2
      refine zr_iinc zSm 30 (v := l2 + 1) (ll' := [(2, .int (l2 + 1)), (3, .int (zv_93 I J (l2 - 1))), (0, .ref 19), (1, .int l1)]) rfl rfl (by decide) rfl rfl ?_
      refine zr_goto zSm 31 2 rfl rfl ?_
      refine zr_sub [2, 3, 0] rfl ?_
      exact h
    · have h := h.2 q2
      refine zr_iload_n zSm 15 rfl rfl ?_
      refine zr_bipush zSm 16 9 rfl rfl ?_
      refine zr_ic zSm 17 51 rfl rfl (fun q3 => ?_) (fun q3 => ?_)
      · have h := h.1 q3
        refine zr_iinc zSm 30 (v := l2 + 1) (ll' := [(2, .int (l2 + 1)), (3, .int (zv_93 I J (l2 - 1))), (0, .ref 19), (1, .int l1)]) rfl rfl (by decide) rfl rfl ?_
        refine zr_goto zSm 31 2 rfl rfl ?_
        refine zr_sub [2, 3, 0] rfl ?_
        exact h
      · have h := h.2 q3
        refine zr_aload_n zSm 18 rfl rfl ?_
        refine zr_getR zSm 19 rfl zf_4_9 rfl rfl (by decide) ?_
        refine zr_iload_n zSm 20 rfl rfl ?_
        refine zr_inv0 21 95 1 [.int l2] rfl rfl zk_4_87 zms_95 rfl ⟨_, _, _, _, rfl, rfl⟩ (Nat.le_of_ble_eq_true rfl) ?_
        refine ze_95 ?_
        refine zNx_l ?_
        refine zr_aload_n zSm 22 rfl rfl ?_
        refine zr_getR zSm 23 rfl zf_4_9 rfl rfl (by decide) ?_
        refine zr_iload_n zSm 24 rfl rfl ?_
        refine zr_inv0 25 95 1 [.int l1] rfl rfl zk_4_87 zms_95 rfl ⟨_, _, _, _, rfl, rfl⟩ (Nat.le_of_ble_eq_true rfl) ?_
        refine ze_95 ?_
        refine zNx_l ?_
        refine zr_s zSm 26 rfl rfl ?_
        refine zr_if zSm 27 51 rfl rfl (fun q4 => ?_) (fun q4 => ?_)
        · have q4 := zq_ne.mp q4
          have h := h.1 q4
          refine zr_iinc zSm 30 (v := l2 + 1) (ll' := [(2, .int (l2 + 1)), (3, .int (zv_93 I J (l2 - 1))), (0, .ref 19), (1, .int l1)]) rfl rfl (by decide) rfl rfl ?_
          refine zr_goto zSm 31 2 rfl rfl ?_
          refine zr_sub [2, 3, 0] rfl ?_
          exact h
        · have q4 := (fun z => q4 (zq_ne.mpr z))
          have h := h.2 q4
          refine zr_s zSm 28 rfl rfl ?_
          refine zr_iret zSm 29 rfl rfl (zn_b (Or.inr rfl)) ?_
          exact h
theorem w_68 {RO : zRo} {d : Nat} {P : zP} {I : zI} {J : zJ} {D : zD} {bc bs : Nat} {p0 : Int32} (h : (zz RO d 71 [.ref 19, .int 7, .int p0, .int (I 3 4)] I J D 0 0 (zNi P fun v1 I1 J1 D1 => ((0 ≤ v1 → ((12 ≤ v1 → P (.inl none) I1 J1 D1) ∧ (¬ (12 ≤ v1) → (((I1 19 5) < 0 → P (.inl none) I1 J1 D1) ∧ (¬ ((I1 19 5) < 0) → ((6 ≤ (I1 19 5) → P (.inl none) I1 J1 D1) ∧ (¬ (6 ≤ (I1 19 5)) → P (.inl none) (zu I1 15 ((I1 19 5).toNatClampNeg) ((I1 15 ((I1 19 5).toNatClampNeg)) ||| (1 <<< (v1 &&& 31)))) J1 D1))))))) ∧ (¬ (0 ≤ v1) → (zz RO d 61 [.ref 19, .int 2, .int p0] I1 J1 D1 0 0 (zNv P fun I2 J2 D2 => P (.inl none) I2 J2 D2))))))) : zz RO (d + 1) 68 [.ref 19, .int p0] I J D bc bs P := by
  refine zT_of (Nat.le_of_ble_eq_true rfl) rfl ?_
  show zw RO d 68 P 0 [(0, .ref 19), (1, .int p0)] [] I J D bc bs
  refine zr_aload_n zSm 0 rfl rfl ?_
  refine zr_bipush zSm 1 7 rfl rfl ?_
  refine zr_iload_n zSm 2 rfl rfl ?_
  refine zr_aload_n zSm 3 rfl rfl ?_
  refine zr_getR zSm 4 rfl zf_4_9 rfl rfl (by decide) ?_
  refine zr_getI zSm 5 rfl zf_4_23 rfl rfl (by decide) ?_
  refine zr_inv0 6 71 3 [.int 7, .int p0, .int (I 3 4)] rfl rfl zk_4_115 zms_71 rfl ⟨_, _, _, _, rfl, rfl⟩ (Nat.le_of_ble_eq_true rfl) ?_
  refine zci h (fun v1 I1 J1 D1 h => ?_)
  refine zr_istore_n zSm 7 (ll' := [(2, .int v1), (0, .ref 19), (1, .int p0)]) rfl (by decide) rfl ?_
  refine zr_iload_n zSm 8 rfl rfl ?_
  refine zr_if zSm 9 28 rfl rfl (fun q1 => ?_) (fun q1 => ?_)
  · have h := h.1 q1
    refine zr_iload_n zSm 15 rfl rfl ?_
    refine zr_bipush zSm 16 12 rfl rfl ?_
    refine zr_ic zSm 17 74 rfl rfl (fun q2 => ?_) (fun q2 => ?_)
    · have h := h.1 q2
      refine zr_vret zSm 40 rfl rfl ?_
      exact h
    · have h := h.2 q2
      refine zr_aload_n zSm 18 rfl rfl ?_
      refine zr_getI zSm 19 rfl zf_4_81 rfl rfl (by decide) ?_
      refine zr_if zSm 20 74 rfl rfl (fun q3 => ?_) (fun q3 => ?_)
      · have h := h.1 q3
        refine zr_vret zSm 40 rfl rfl ?_
        exact h
      · have h := h.2 q3
        refine zr_aload_n zSm 21 rfl rfl ?_
        refine zr_getI zSm 22 rfl zf_4_81 rfl rfl (by decide) ?_
        refine zr_aload_n zSm 23 rfl rfl ?_
        refine zr_getR zSm 24 rfl zf_4_15 rfl rfl (by decide) ?_
        refine zr_getR zSm 25 rfl zf_4_94 rfl rfl (by decide) ?_
        refine zr_alen zSm 26 6 rfl rfl rfl ?_
        refine zr_ic zSm 27 74 rfl rfl (fun q4 => ?_) (fun q4 => ?_)
        · have h := h.1 q4
          refine zr_vret zSm 40 rfl rfl ?_
          exact h
        · have h := h.2 q4
          refine zr_aload_n zSm 28 rfl rfl ?_
          refine zr_getR zSm 29 rfl zf_4_15 rfl rfl (by decide) ?_
          refine zr_getR zSm 30 rfl zf_4_94 rfl rfl (by decide) ?_
          refine zr_aload_n zSm 31 rfl rfl ?_
          refine zr_getI zSm 32 rfl zf_4_81 rfl rfl (by decide) ?_
          refine zr_s zSm 33 rfl rfl ?_
          refine zr_iald zSm 34 rfl rfl (zin (zlo1 q3) (zhi1 q4) (by decide)) ?_
          refine zr_s zSm 35 rfl rfl ?_
          refine zr_iload_n zSm 36 rfl rfl ?_
          refine zr_s zSm 37 rfl rfl ?_
          refine zr_s zSm 38 rfl rfl ?_
          refine zr_iast zSm 39 rfl rfl (zin (zlo1 q3) (zhi1 q4) (by decide)) ?_
          refine zr_vret zSm 40 rfl rfl ?_
          exact h
  · have h := h.2 q1
    refine zr_aload_n zSm 10 rfl rfl ?_
    refine zr_s zSm 11 rfl rfl ?_
    refine zr_iload_n zSm 12 rfl rfl ?_
    refine zr_inv0 13 61 2 [.int 2, .int p0] rfl rfl zk_4_41 zms_61 rfl ⟨_, _, _, _, rfl, rfl⟩ (Nat.le_of_ble_eq_true rfl) ?_
    refine zcv h (fun I2 J2 D2 h => ?_)
    refine zr_goto zSm 14 74 rfl rfl ?_
    refine zr_vret zSm 40 rfl rfl ?_
    exact h
theorem w_69 {RO : zRo} {d : Nat} {P : zP} {I : zI} {J : zJ} {D : zD} {bc bs : Nat} {p0 : Int32} (h : (zz RO d 71 [.ref 19, .int 6, .int p0, .int (I 3 4)] I J D 0 0 (zNi P fun v1 I1 J1 D1 => ((0 ≤ v1 → (((I1 19 5) < 0 → P (.inl none) I1 J1 D1) ∧ (¬ ((I1 19 5) < 0) → ((8 ≤ (I1 19 5) → P (.inl none) I1 J1 D1) ∧ (¬ (8 ≤ (I1 19 5)) → P (.inl none) (zu I1 16 ((I1 19 5).toNatClampNeg) v1) J1 D1))))) ∧ (¬ (0 ≤ v1) → (zz RO d 61 [.ref 19, .int 2, .int p0] I1 J1 D1 0 0 (zNv P fun I2 J2 D2 => P (.inl none) I2 J2 D2))))))) : zz RO (d + 1) 69 [.ref 19, .int p0] I J D bc bs P := by
  refine zT_of (Nat.le_of_ble_eq_true rfl) rfl ?_
  show zw RO d 69 P 0 [(0, .ref 19), (1, .int p0)] [] I J D bc bs
  refine zr_aload_n zSm 0 rfl rfl ?_
  refine zr_bipush zSm 1 6 rfl rfl ?_
  refine zr_iload_n zSm 2 rfl rfl ?_
  refine zr_aload_n zSm 3 rfl rfl ?_
  refine zr_getR zSm 4 rfl zf_4_9 rfl rfl (by decide) ?_
  refine zr_getI zSm 5 rfl zf_4_23 rfl rfl (by decide) ?_
  refine zr_inv0 6 71 3 [.int 6, .int p0, .int (I 3 4)] rfl rfl zk_4_115 zms_71 rfl ⟨_, _, _, _, rfl, rfl⟩ (Nat.le_of_ble_eq_true rfl) ?_
  refine zci h (fun v1 I1 J1 D1 h => ?_)
  refine zr_istore_n zSm 7 (ll' := [(2, .int v1), (0, .ref 19), (1, .int p0)]) rfl (by decide) rfl ?_
  refine zr_iload_n zSm 8 rfl rfl ?_
  refine zr_if zSm 9 28 rfl rfl (fun q1 => ?_) (fun q1 => ?_)
  · have h := h.1 q1
    refine zr_aload_n zSm 15 rfl rfl ?_
    refine zr_getI zSm 16 rfl zf_4_81 rfl rfl (by decide) ?_
    refine zr_if zSm 17 63 rfl rfl (fun q2 => ?_) (fun q2 => ?_)
    · have h := h.1 q2
      refine zr_vret zSm 32 rfl rfl ?_
      exact h
    · have h := h.2 q2
      refine zr_aload_n zSm 18 rfl rfl ?_
      refine zr_getI zSm 19 rfl zf_4_81 rfl rfl (by decide) ?_
      refine zr_aload_n zSm 20 rfl rfl ?_
      refine zr_getR zSm 21 rfl zf_4_15 rfl rfl (by decide) ?_
      refine zr_getR zSm 22 rfl zf_4_119 rfl rfl (by decide) ?_
      refine zr_alen zSm 23 8 rfl rfl rfl ?_
      refine zr_ic zSm 24 63 rfl rfl (fun q3 => ?_) (fun q3 => ?_)
      · have h := h.1 q3
        refine zr_vret zSm 32 rfl rfl ?_
        exact h
      · have h := h.2 q3
        refine zr_aload_n zSm 25 rfl rfl ?_
        refine zr_getR zSm 26 rfl zf_4_15 rfl rfl (by decide) ?_
        refine zr_getR zSm 27 rfl zf_4_119 rfl rfl (by decide) ?_
        refine zr_aload_n zSm 28 rfl rfl ?_
        refine zr_getI zSm 29 rfl zf_4_81 rfl rfl (by decide) ?_
        refine zr_iload_n zSm 30 rfl rfl ?_
        refine zr_iast zSm 31 rfl rfl (zin (zlo1 q2) (zhi1 q3) (by decide)) ?_
        refine zr_vret zSm 32 rfl rfl ?_
        exact h
  · have h := h.2 q1
    refine zr_aload_n zSm 10 rfl rfl ?_
    refine zr_s zSm 11 rfl rfl ?_
    refine zr_iload_n zSm 12 rfl rfl ?_
    refine zr_inv0 13 61 2 [.int 2, .int p0] rfl rfl zk_4_41 zms_61 rfl ⟨_, _, _, _, rfl, rfl⟩ (Nat.le_of_ble_eq_true rfl) ?_
    refine zcv h (fun I2 J2 D2 h => ?_)
    refine zr_goto zSm 14 63 rfl rfl ?_
    refine zr_vret zSm 32 rfl rfl ?_
    exact h
theorem w_70 {RO : zRo} {d : Nat} {P : zP} {I : zI} {J : zJ} {D : zD} {bc bs : Nat} {p0 p1 p2 : Int32} (h : (zz RO d 71 [.ref 19, .int p1, .int p0, .int p0] I J D 0 0 (zNi P fun v1 I1 J1 D1 => ((0 ≤ v1 → (zz RO d 96 [.ref 3, .int p0, .long ((p2 + v1).toInt64)] I1 J1 D1 0 0 (zNv P fun I2 J2 D2 => P (.inl none) I2 J2 D2))) ∧ (¬ (0 ≤ v1) → (zz RO d 61 [.ref 19, .int 2, .int p0] I1 J1 D1 0 0 (zNv P fun I3 J3 D3 => P (.inl none) I3 J3 D3))))))) : zz RO (d + 1) 70 [.ref 19, .int p0, .int p1, .int p2] I J D bc bs P := by
  refine zT_of (Nat.le_of_ble_eq_true rfl) rfl ?_
  show zw RO d 70 P 0 [(0, .ref 19), (1, .int p0), (2, .int p1), (3, .int p2)] [] I J D bc bs
  refine zr_aload_n zSm 0 rfl rfl ?_
  refine zr_iload_n zSm 1 rfl rfl ?_
  refine zr_iload_n zSm 2 rfl rfl ?_
  refine zr_iload_n zSm 3 rfl rfl ?_
  refine zr_inv0 4 71 3 [.int p1, .int p0, .int p0] rfl rfl zk_4_115 zms_71 rfl ⟨_, _, _, _, rfl, rfl⟩ (Nat.le_of_ble_eq_true rfl) ?_
  refine zci h (fun v1 I1 J1 D1 h => ?_)
  refine zr_istore zSm 5 (ll' := [(4, .int v1), (0, .ref 19), (1, .int p0), (2, .int p1), (3, .int p2)]) rfl (by decide) rfl ?_
  refine zr_iload zSm 6 rfl rfl ?_
  refine zr_if zSm 7 23 rfl rfl (fun q1 => ?_) (fun q1 => ?_)
  · have h := h.1 q1
    refine zr_aload_n zSm 13 rfl rfl ?_
    refine zr_getR zSm 14 rfl zf_4_9 rfl rfl (by decide) ?_
    refine zr_iload_n zSm 15 rfl rfl ?_
    refine zr_iload_n zSm 16 rfl rfl ?_
    refine zr_iload zSm 17 rfl rfl ?_
    refine zr_s zSm 18 rfl rfl ?_
    refine zr_s zSm 19 rfl rfl ?_
    refine zr_inv0 20 96 2 [.int p0, .long ((p2 + v1).toInt64)] rfl rfl zk_4_122 zms_96 rfl ⟨_, _, _, _, rfl, rfl⟩ (Nat.le_of_ble_eq_true rfl) ?_
    refine zcv h (fun I2 J2 D2 h => ?_)
    refine zr_vret zSm 21 rfl rfl ?_
    exact h
  · have h := h.2 q1
    refine zr_aload_n zSm 8 rfl rfl ?_
    refine zr_s zSm 9 rfl rfl ?_
    refine zr_iload_n zSm 10 rfl rfl ?_
    refine zr_inv0 11 61 2 [.int 2, .int p0] rfl rfl zk_4_41 zms_61 rfl ⟨_, _, _, _, rfl, rfl⟩ (Nat.le_of_ble_eq_true rfl) ?_
    refine zcv h (fun I3 J3 D3 h => ?_)
    refine zr_goto zSm 12 36 rfl rfl ?_
    refine zr_vret zSm 21 rfl rfl ?_
    exact h
theorem w_71 {RO : zRo} {d : Nat} {P : zP} {I : zI} {J : zJ} {D : zD} {bc bs : Nat} {p0 p1 p2 : Int32} (h : zw RO (d + 1) 71 P 6 [(0, .ref 19), (1, .int p0), (2, .int p1), (3, .int p2), (4, .int 0), (5, .int 1)] [] I J D bc bs) : zz RO (d + 2) 71 [.ref 19, .int p0, .int p1, .int p2] I J D bc bs P := by
  refine zT_of (Nat.le_of_ble_eq_true rfl) rfl ?_
  show zw RO (d + 1) 71 P 0 [(0, .ref 19), (1, .int p0), (2, .int p1), (3, .int p2)] [] I J D bc bs
  refine zr_s zSm 0 rfl rfl ?_
  refine zr_istore zSm 1 (ll' := [(4, .int 0), (0, .ref 19), (1, .int p0), (2, .int p1), (3, .int p2)]) rfl (by decide) rfl ?_
  refine zr_s zSm 2 rfl rfl ?_
  refine zr_istore zSm 3 (ll' := [(5, .int 1), (4, .int 0), (0, .ref 19), (1, .int p0), (2, .int p1), (3, .int p2)]) rfl (by decide) rfl ?_
  refine zr_sub [2, 3, 4, 5, 1, 0] rfl ?_
  exact h
theorem wl_71_6 {RO : zRo} {d : Nat} {P : zP} {I : zI} {J : zJ} {D : zD} {bc bs : Nat} {l1 l2 l3 l4 l5 : Int32} (h : ((l3 ≤ l5 → P (.inl (some (.int (-1)))) I J D) ∧ (¬ (l3 ≤ l5) → ((¬ (zv_93 I J (l5 - 1)) = l1 → zw RO (d + 1) 71 P 6 [(0, .ref 19), (1, .int l1), (2, .int l2), (3, .int l3), (4, .int l4), (5, .int (l5 + 1))] [] I J D bc bs) ∧ (¬ (¬ (zv_93 I J (l5 - 1)) = l1) → ((¬ (zv_95 I J l5) = (zv_95 I J l2) → zw RO (d + 1) 71 P 6 [(0, .ref 19), (1, .int l1), (2, .int l2), (3, .int l3), (4, .int (l4 + 1)), (5, .int (l5 + 1))] [] I J D bc bs) ∧ (¬ (¬ (zv_95 I J l5) = (zv_95 I J l2)) → P (.inl (some (.int l4))) I J D))))))) : zw RO (d + 1) 71 P 6 [(0, .ref 19), (1, .int l1), (2, .int l2), (3, .int l3), (4, .int l4), (5, .int l5)] [] I J D bc bs := by
  refine zr_iload zSm 4 rfl rfl ?_
  refine zr_iload_n zSm 5 rfl rfl ?_
  refine zr_ic zSm 6 60 rfl rfl (fun q1 => ?_) (fun q1 => ?_)
  · have h := h.1 q1
    refine zr_s zSm 30 rfl rfl ?_
    refine zr_iret zSm 31 rfl rfl rfl ?_
    exact h
  · have h := h.2 q1
    refine zr_aload_n zSm 7 rfl rfl ?_
    refine zr_getR zSm 8 rfl zf_4_9 rfl rfl (by decide) ?_
    refine zr_iload zSm 9 rfl rfl ?_
    refine zr_s zSm 10 rfl rfl ?_
    refine zr_s zSm 11 rfl rfl ?_
    refine zr_inv0 12 93 1 [.int (l5 - 1)] rfl rfl zk_4_28 zms_93 rfl ⟨_, _, _, _, rfl, rfl⟩ (Nat.le_of_ble_eq_true rfl) ?_
    refine ze_93 ?_
    refine zNx_i ?_
    refine zr_iload_n zSm 13 rfl rfl ?_
    refine zr_ic zSm 14 54 rfl rfl (fun q2 => ?_) (fun q2 => ?_)
    · have h := h.1 q2
      refine zr_iinc zSm 28 (v := l5 + 1) (ll' := [(5, .int (l5 + 1)), (0, .ref 19), (1, .int l1), (2, .int l2), (3, .int l3), (4, .int l4)]) rfl rfl (by decide) rfl rfl ?_
      refine zr_goto zSm 29 6 rfl rfl ?_
      refine zr_sub [1, 2, 3, 4, 5, 0] rfl ?_
      exact h
    · have h := h.2 q2
      refine zr_aload_n zSm 15 rfl rfl ?_
      refine zr_getR zSm 16 rfl zf_4_9 rfl rfl (by decide) ?_
      refine zr_iload zSm 17 rfl rfl ?_
      refine zr_inv0 18 95 1 [.int l5] rfl rfl zk_4_87 zms_95 rfl ⟨_, _, _, _, rfl, rfl⟩ (Nat.le_of_ble_eq_true rfl) ?_
      refine ze_95 ?_
      refine zNx_l ?_
      refine zr_aload_n zSm 19 rfl rfl ?_
      refine zr_getR zSm 20 rfl zf_4_9 rfl rfl (by decide) ?_
      refine zr_iload_n zSm 21 rfl rfl ?_
      refine zr_inv0 22 95 1 [.int l2] rfl rfl zk_4_87 zms_95 rfl ⟨_, _, _, _, rfl, rfl⟩ (Nat.le_of_ble_eq_true rfl) ?_
      refine ze_95 ?_
      refine zNx_l ?_
      refine zr_s zSm 23 rfl rfl ?_
      refine zr_if zSm 24 51 rfl rfl (fun q3 => ?_) (fun q3 => ?_)
      · have q3 := zq_ne.mp q3
        have h := h.1 q3
        refine zr_iinc zSm 27 (v := l4 + 1) (ll' := [(4, .int (l4 + 1)), (0, .ref 19), (1, .int l1), (2, .int l2), (3, .int l3), (5, .int l5)]) rfl rfl (by decide) rfl rfl ?_
        refine zr_iinc zSm 28 (v := l5 + 1) (ll' := [(5, .int (l5 + 1)), (4, .int (l4 + 1)), (0, .ref 19), (1, .int l1), (2, .int l2), (3, .int l3)]) rfl rfl (by decide) rfl rfl ?_
        refine zr_goto zSm 29 6 rfl rfl ?_
        refine zr_sub [2, 3, 4, 5, 1, 0] rfl ?_
        exact h
      · have q3 := (fun z => q3 (zq_ne.mpr z))
        have h := h.2 q3
        refine zr_iload zSm 25 rfl rfl ?_
        refine zr_iret zSm 26 rfl rfl rfl ?_
        exact h
theorem w_72 {RO : zRo} {d : Nat} {P : zP} {I : zI} {J : zJ} {D : zD} {bc bs : Nat} {p0 : Int32} (h : ((¬ (zv_93 I J (p0 - 1)) = 43 → zw RO (d + 1) 72 P 28 [(0, .ref 19), (1, .int p0), (2, .int ((zv_95 I J p0).toInt32))] [] I J D bc bs) ∧ (¬ (¬ (zv_93 I J (p0 - 1)) = 43) → zw RO (d + 1) 72 P 28 [(0, .ref 19), (1, .int p0), (2, .int (-((zv_95 I J p0).toInt32)))] [] I J D bc bs))) : zz RO (d + 2) 72 [.ref 19, .int p0] I J D bc bs P := by
  refine zT_of (Nat.le_of_ble_eq_true rfl) rfl ?_
  show zw RO (d + 1) 72 P 0 [(0, .ref 19), (1, .int p0)] [] I J D bc bs
  refine zr_aload_n zSm 0 rfl rfl ?_
  refine zr_getR zSm 1 rfl zf_4_9 rfl rfl (by decide) ?_
  refine zr_iload_n zSm 2 rfl rfl ?_
  refine zr_inv0 3 95 1 [.int p0] rfl rfl zk_4_87 zms_95 rfl ⟨_, _, _, _, rfl, rfl⟩ (Nat.le_of_ble_eq_true rfl) ?_
  refine ze_95 ?_
  refine zNx_l ?_
  refine zr_s zSm 4 rfl rfl ?_
  refine zr_istore_n zSm 5 (ll' := [(2, .int ((zv_95 I J p0).toInt32)), (0, .ref 19), (1, .int p0)]) rfl (by decide) rfl ?_
  refine zr_aload_n zSm 6 rfl rfl ?_
  refine zr_getR zSm 7 rfl zf_4_9 rfl rfl (by decide) ?_
  refine zr_iload_n zSm 8 rfl rfl ?_
  refine zr_s zSm 9 rfl rfl ?_
  refine zr_s zSm 10 rfl rfl ?_
  refine zr_inv0 11 93 1 [.int (p0 - 1)] rfl rfl zk_4_28 zms_93 rfl ⟨_, _, _, _, rfl, rfl⟩ (Nat.le_of_ble_eq_true rfl) ?_
  refine ze_93 ?_
  refine zNx_i ?_
  refine zr_bipush zSm 12 43 rfl rfl ?_
  refine zr_ic zSm 13 28 rfl rfl (fun q1 => ?_) (fun q1 => ?_)
  · have h := h.1 q1
    refine zr_sub [1, 2, 0] rfl ?_
    exact h
  · have h := h.2 q1
    refine zr_iload_n zSm 14 rfl rfl ?_
    refine zr_s zSm 15 rfl rfl ?_
    refine zr_istore_n zSm 16 (ll' := [(2, .int (-((zv_95 I J p0).toInt32))), (0, .ref 19), (1, .int p0)]) rfl (by decide) rfl ?_
    refine zr_sub [1, 2, 0] rfl ?_
    exact h
theorem wl_72_28 {RO : zRo} {d : Nat} {P : zP} {I : zI} {J : zJ} {D : zD} {bc bs : Nat} {l1 l2 : Int32} (h : ((¬ (I 19 4) = 4 → zw RO (d + 1) 72 P 51 [(0, .ref 19), (1, .int l1), (2, .int l2), (3, .int (6 + (I 19 5)))] [] I J D bc bs) ∧ (¬ (¬ (I 19 4) = 4) → zw RO (d + 1) 72 P 51 [(0, .ref 19), (1, .int l1), (2, .int l2), (3, .int (I 19 5))] [] I J D bc bs))) : zw RO (d + 1) 72 P 28 [(0, .ref 19), (1, .int l1), (2, .int l2)] [] I J D bc bs := by
  refine zr_aload_n zSm 17 rfl rfl ?_
  refine zr_getI zSm 18 rfl zf_4_53 rfl rfl (by decide) ?_
  refine zr_s zSm 19 rfl rfl ?_
  refine zr_ic zSm 20 43 rfl rfl (fun q1 => ?_) (fun q1 => ?_)
  · have h := h.1 q1
    refine zr_bipush zSm 24 6 rfl rfl ?_
    refine zr_aload_n zSm 25 rfl rfl ?_
    refine zr_getI zSm 26 rfl zf_4_81 rfl rfl (by decide) ?_
    refine zr_s zSm 27 rfl rfl ?_
    refine zr_istore_n zSm 28 (ll' := [(3, .int (6 + (I 19 5))), (0, .ref 19), (1, .int l1), (2, .int l2)]) rfl (by decide) rfl ?_
    refine zr_sub [1, 2, 3, 0] rfl ?_
    exact h
  · have h := h.2 q1
    refine zr_aload_n zSm 21 rfl rfl ?_
    refine zr_getI zSm 22 rfl zf_4_81 rfl rfl (by decide) ?_
    refine zr_goto zSm 23 50 rfl rfl ?_
    refine zr_istore_n zSm 28 (ll' := [(3, .int (I 19 5)), (0, .ref 19), (1, .int l1), (2, .int l2)]) rfl (by decide) rfl ?_
    refine zr_sub [1, 2, 3, 0] rfl ?_
    exact h
theorem wl_72_51 {RO : zRo} {d : Nat} {P : zP} {I : zI} {J : zJ} {D : zD} {bc bs : Nat} {l1 l2 l3 : Int32} (h : ((¬ (I 19 6) = 0 → zw RO (d + 1) 72 P 75 [(0, .ref 19), (1, .int l1), (2, .int l2), (3, .int l3), (4, .int (zv_76 I J l3 0))] [] I J D bc bs) ∧ (¬ (¬ (I 19 6) = 0) → zw RO (d + 1) 72 P 75 [(0, .ref 19), (1, .int l1), (2, .int l2), (3, .int l3), (4, .int (-999))] [] I J D bc bs))) : zw RO (d + 1) 72 P 51 [(0, .ref 19), (1, .int l1), (2, .int l2), (3, .int l3)] [] I J D bc bs := by
  refine zr_aload_n zSm 29 rfl rfl ?_
  refine zr_getI zSm 30 rfl zf_4_84 rfl rfl (by decide) ?_
  refine zr_if zSm 31 64 rfl rfl (fun q1 => ?_) (fun q1 => ?_)
  · have h := h.1 q1
    refine zr_aload_n zSm 34 rfl rfl ?_
    refine zr_getR zSm 35 rfl zf_4_15 rfl rfl (by decide) ?_
    refine zr_iload_n zSm 36 rfl rfl ?_
    refine zr_s zSm 37 rfl rfl ?_
    refine zr_inv0 38 76 2 [.int l3, .int 0] rfl rfl zk_4_126 zms_76 rfl ⟨_, _, _, _, rfl, rfl⟩ (Nat.le_of_ble_eq_true rfl) ?_
    refine ze_76 ?_
    refine zNx_i ?_
    refine zr_istore zSm 39 (ll' := [(4, .int (zv_76 I J l3 0)), (0, .ref 19), (1, .int l1), (2, .int l2), (3, .int l3)]) rfl (by decide) rfl ?_
    refine zr_sub [1, 2, 3, 4, 0] rfl ?_
    exact h
  · have h := h.2 q1
    refine zr_sipush zSm 32 (-999) rfl rfl ?_
    refine zr_goto zSm 33 73 rfl rfl ?_
    refine zr_istore zSm 39 (ll' := [(4, .int (-999)), (0, .ref 19), (1, .int l1), (2, .int l2), (3, .int l3)]) rfl (by decide) rfl ?_
    refine zr_sub [1, 2, 3, 4, 0] rfl ?_
    exact h
theorem wl_72_75 {RO : zRo} {d : Nat} {P : zP} {I : zI} {J : zJ} {D : zD} {bc bs : Nat} {l1 l2 l3 l4 : Int32} (h : ((¬ (I 19 6) = 2 → zw RO (d + 1) 72 P 100 [(0, .ref 19), (1, .int l1), (2, .int l2), (3, .int l3), (4, .int l4), (5, .int 999)] [] I J D bc bs) ∧ (¬ (¬ (I 19 6) = 2) → zw RO (d + 1) 72 P 100 [(0, .ref 19), (1, .int l1), (2, .int l2), (3, .int l3), (4, .int l4), (5, .int (zv_76 I J l3 1))] [] I J D bc bs))) : zw RO (d + 1) 72 P 75 [(0, .ref 19), (1, .int l1), (2, .int l2), (3, .int l3), (4, .int l4)] [] I J D bc bs := by
  refine zr_aload_n zSm 40 rfl rfl ?_
  refine zr_getI zSm 41 rfl zf_4_84 rfl rfl (by decide) ?_
  refine zr_s zSm 42 rfl rfl ?_
  refine zr_ic zSm 43 95 rfl rfl (fun q1 => ?_) (fun q1 => ?_)
  · have h := h.1 q1
    refine zr_sipush zSm 50 999 rfl rfl ?_
    refine zr_istore zSm 51 (ll' := [(5, .int 999), (0, .ref 19), (1, .int l1), (2, .int l2), (3, .int l3), (4, .int l4)]) rfl (by decide) rfl ?_
    refine zr_sub [1, 2, 3, 4, 5, 0] rfl ?_
    exact h
  · have h := h.2 q1
    refine zr_aload_n zSm 44 rfl rfl ?_
    refine zr_getR zSm 45 rfl zf_4_15 rfl rfl (by decide) ?_
    refine zr_iload_n zSm 46 rfl rfl ?_
    refine zr_s zSm 47 rfl rfl ?_
    refine zr_inv0 48 76 2 [.int l3, .int 1] rfl rfl zk_4_126 zms_76 rfl ⟨_, _, _, _, rfl, rfl⟩ (Nat.le_of_ble_eq_true rfl) ?_
    refine ze_76 ?_
    refine zNx_i ?_
    refine zr_goto zSm 49 98 rfl rfl ?_
    refine zr_istore zSm 51 (ll' := [(5, .int (zv_76 I J l3 1)), (0, .ref 19), (1, .int l1), (2, .int l2), (3, .int l3), (4, .int l4)]) rfl (by decide) rfl ?_
    refine zr_sub [1, 2, 3, 4, 5, 0] rfl ?_
    exact h
theorem wl_72_100 {RO : zRo} {d : Nat} {P : zP} {I : zI} {J : zJ} {D : zD} {bc bs : Nat} {l1 l2 l3 l4 l5 : Int32} (h : ((l2 < l4 → (zz RO (d + 1) 61 [.ref 19, .int 5, .int l1] I J D 0 0 (zNv P fun I1 J1 D1 => zw RO (d + 1) 72 P 118 [(0, .ref 19), (1, .int l1), (2, .int l2), (3, .int l3), (4, .int l4), (5, .int l5)] [] I1 J1 D1 bc bs))) ∧ (¬ (l2 < l4) → ((l2 ≤ l5 → zw RO (d + 1) 72 P 118 [(0, .ref 19), (1, .int l1), (2, .int l2), (3, .int l3), (4, .int l4), (5, .int l5)] [] I J D bc bs) ∧ (¬ (l2 ≤ l5) → (zz RO (d + 1) 61 [.ref 19, .int 5, .int l1] I J D 0 0 (zNv P fun I2 J2 D2 => zw RO (d + 1) 72 P 118 [(0, .ref 19), (1, .int l1), (2, .int l2), (3, .int l3), (4, .int l4), (5, .int l5)] [] I2 J2 D2 bc bs))))))) : zw RO (d + 1) 72 P 100 [(0, .ref 19), (1, .int l1), (2, .int l2), (3, .int l3), (4, .int l4), (5, .int l5)] [] I J D bc bs := by
  refine zr_iload_n zSm 52 rfl rfl ?_
  refine zr_iload zSm 53 rfl rfl ?_
  refine zr_ic zSm 54 112 rfl rfl (fun q1 => ?_) (fun q1 => ?_)
  · have h := h.1 q1
    refine zr_aload_n zSm 58 rfl rfl ?_
    refine zr_s zSm 59 rfl rfl ?_
    refine zr_iload_n zSm 60 rfl rfl ?_
    refine zr_inv0 61 61 2 [.int 5, .int l1] rfl rfl zk_4_41 zms_61 rfl ⟨_, _, _, _, rfl, rfl⟩ (Nat.le_of_ble_eq_true rfl) ?_
    refine zcv h (fun I1 J1 D1 h => ?_)
    exact h
  · have h := h.2 q1
    refine zr_iload_n zSm 55 rfl rfl ?_
    refine zr_iload zSm 56 rfl rfl ?_
    refine zr_ic zSm 57 118 rfl rfl (fun q2 => ?_) (fun q2 => ?_)
    · have h := h.1 q2
      exact h
    · have h := h.2 q2
      refine zr_aload_n zSm 58 rfl rfl ?_
      refine zr_s zSm 59 rfl rfl ?_
      refine zr_iload_n zSm 60 rfl rfl ?_
      refine zr_inv0 61 61 2 [.int 5, .int l1] rfl rfl zk_4_41 zms_61 rfl ⟨_, _, _, _, rfl, rfl⟩ (Nat.le_of_ble_eq_true rfl) ?_
      refine zcv h (fun I2 J2 D2 h => ?_)
      exact h
theorem wl_72_118 {RO : zRo} {d : Nat} {P : zP} {I : zI} {J : zJ} {D : zD} {bc bs : Nat} {l1 l2 l3 l4 l5 : Int32} (h : (zz RO (d + 1) 77 [.ref 12, .int l3, .int (I 19 6), .int l2] I J D 0 0 (zNv P fun I1 J1 D1 => P (.inl none) (zu I1 19 6 ((I1 19 6) + 1)) J1 D1))) : zw RO (d + 1) 72 P 118 [(0, .ref 19), (1, .int l1), (2, .int l2), (3, .int l3), (4, .int l4), (5, .int l5)] [] I J D bc bs := by
  refine zr_aload_n zSm 62 rfl rfl ?_
  refine zr_getR zSm 63 rfl zf_4_15 rfl rfl (by decide) ?_
  refine zr_iload_n zSm 64 rfl rfl ?_
  refine zr_aload_n zSm 65 rfl rfl ?_
  refine zr_getI zSm 66 rfl zf_4_84 rfl rfl (by decide) ?_
  refine zr_iload_n zSm 67 rfl rfl ?_
  refine zr_inv0 68 77 3 [.int l3, .int (I 19 6), .int l2] rfl rfl zk_4_130 zms_77 rfl ⟨_, _, _, _, rfl, rfl⟩ (Nat.le_of_ble_eq_true rfl) ?_
  refine zcv h (fun I1 J1 D1 h => ?_)
  refine zr_aload_n zSm 69 rfl rfl ?_
  refine zr_s zSm 70 rfl rfl ?_
  refine zr_getI zSm 71 rfl zf_4_84 rfl rfl (by decide) ?_
  refine zr_s zSm 72 rfl rfl ?_
  refine zr_s zSm 73 rfl rfl ?_
  refine zr_putI zSm 74 rfl zf_4_84 rfl rfl (by decide) zp_4_6 ?_
  refine zr_vret zSm 75 rfl rfl ?_
  exact h
theorem w_74 {RO : zRo} {d : Nat} {P : zP} {I : zI} {J : zJ} {D : zD} {bc bs : Nat}  (h : zw RO d 74 P 7 [(0, .ref 12), (1, .int 0)] [] (zu I 12 7 0) J D bc bs) : zz RO (d + 1) 74 [.ref 12] I J D bc bs P := by
  refine zT_of (Nat.le_of_ble_eq_true rfl) rfl ?_
  show zw RO d 74 P 0 [(0, .ref 12)] [] I J D bc bs
  refine zr_aload_n zSm 0 rfl rfl ?_
  refine zr_s zSm 1 rfl rfl ?_
  refine zr_putZ zSm 2 rfl zf_5_30 rfl rfl (by decide) zp_5_7 (Or.inl rfl) ?_
  refine zr_s zSm 3 rfl rfl ?_
  refine zr_istore_n zSm 4 (ll' := [(1, .int 0), (0, .ref 12)]) rfl (by decide) rfl ?_
  refine zr_sub [1, 0] rfl ?_
  exact h
theorem wl_74_7 {RO : zRo} {d : Nat} {P : zP} {I : zI} {J : zJ} {D : zD} {bc bs : Nat} {l1 : Int32} (h : ((7 ≤ l1 → P (.inl none) I J D) ∧ (¬ (7 ≤ l1) → (vp_in l1 7 ∧ zw RO d 74 P 7 [(0, .ref 12), (1, .int (l1 + 1))] [] (zu I 13 l1.toNatClampNeg 0) J D bc bs)))) : zw RO d 74 P 7 [(0, .ref 12), (1, .int l1)] [] I J D bc bs := by
  refine zr_iload_n zSm 5 rfl rfl ?_
  refine zr_aload_n zSm 6 rfl rfl ?_
  refine zr_getR zSm 7 rfl zf_5_9 rfl rfl (by decide) ?_
  refine zr_alen zSm 8 7 rfl rfl rfl ?_
  refine zr_ic zSm 9 29 rfl rfl (fun q1 => ?_) (fun q1 => ?_)
  · have h := h.1 q1
    refine zr_vret zSm 17 rfl rfl ?_
    exact h
  · have h := h.2 q1
    refine zr_aload_n zSm 10 rfl rfl ?_
    refine zr_getR zSm 11 rfl zf_5_9 rfl rfl (by decide) ?_
    refine zr_iload_n zSm 12 rfl rfl ?_
    refine zr_s zSm 13 rfl rfl ?_
    obtain ⟨b14, h⟩ := h
    refine zr_iast zSm 14 rfl rfl b14 ?_
    refine zr_iinc zSm 15 (v := l1 + 1) (ll' := [(1, .int (l1 + 1)), (0, .ref 12)]) rfl rfl (by decide) rfl rfl ?_
    refine zr_goto zSm 16 7 rfl rfl ?_
    refine zr_sub [1, 0] rfl ?_
    exact h
theorem w_77 {RO : zRo} {d : Nat} {P : zP} {I : zI} {J : zJ} {D : zD} {bc bs : Nat} {p0 p1 p2 : Int32} (h : ((((p0 * 3) + p1) < 0 → P (.inl none) I J D) ∧ (¬ (((p0 * 3) + p1) < 0) → ((36 ≤ ((p0 * 3) + p1) → P (.inl none) I J D) ∧ (¬ (36 ≤ ((p0 * 3) + p1)) → P (.inl none) (zu I 14 (((p0 * 3) + p1).toNatClampNeg) p2) J D))))) : zz RO (d + 1) 77 [.ref 12, .int p0, .int p1, .int p2] I J D bc bs P := by
  refine zT_of (Nat.le_of_ble_eq_true rfl) rfl ?_
  show zw RO d 77 P 0 [(0, .ref 12), (1, .int p0), (2, .int p1), (3, .int p2)] [] I J D bc bs
  refine zr_iload_n zSm 0 rfl rfl ?_
  refine zr_s zSm 1 rfl rfl ?_
  refine zr_s zSm 2 rfl rfl ?_
  refine zr_iload_n zSm 3 rfl rfl ?_
  refine zr_s zSm 4 rfl rfl ?_
  refine zr_istore zSm 5 (ll' := [(4, .int ((p0 * 3) + p1)), (0, .ref 12), (1, .int p0), (2, .int p1), (3, .int p2)]) rfl (by decide) rfl ?_
  refine zr_iload zSm 6 rfl rfl ?_
  refine zr_if zSm 7 30 rfl rfl (fun q1 => ?_) (fun q1 => ?_)
  · have h := h.1 q1
    refine zr_vret zSm 18 rfl rfl ?_
    exact h
  · have h := h.2 q1
    refine zr_iload zSm 8 rfl rfl ?_
    refine zr_aload_n zSm 9 rfl rfl ?_
    refine zr_getR zSm 10 rfl zf_5_15 rfl rfl (by decide) ?_
    refine zr_alen zSm 11 36 rfl rfl rfl ?_
    refine zr_ic zSm 12 30 rfl rfl (fun q2 => ?_) (fun q2 => ?_)
    · have h := h.1 q2
      refine zr_vret zSm 18 rfl rfl ?_
      exact h
    · have h := h.2 q2
      refine zr_aload_n zSm 13 rfl rfl ?_
      refine zr_getR zSm 14 rfl zf_5_15 rfl rfl (by decide) ?_
      refine zr_iload zSm 15 rfl rfl ?_
      refine zr_iload_n zSm 16 rfl rfl ?_
      refine zr_iast zSm 17 rfl rfl (zin (zlo1 q1) (zhi1 q2) (by decide)) ?_
      refine zr_vret zSm 18 rfl rfl ?_
      exact h

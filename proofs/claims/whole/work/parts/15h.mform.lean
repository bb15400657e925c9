/-! ===== written by wip/whole/lay15.py: walks, a formula each ===== -/
theorem w_156 {RO : zRo} {d : Nat} {P : zP} {I : zI} {J : zJ} {D : zD} {bc bs : Nat}  (h : (zz RO d 154 [.ref 28, .int 301, .int 0, .int 0] (zu I 28 27 0) J D 0 0 (zNi P fun v1 I1 J1 D1 => (∃ c2 s2, c2 ≤ bc ∧ s2 ≤ bs ∧ zz RO d 157 [.ref 28] I1 J1 D1 c2 s2 (zNv P fun I2 J2 D2 => (zz RO d 155 [.ref 28, .int 450] I2 J2 D2 0 0 (zNv P fun I3 J3 D3 => (((I3 28 25) = 0 → P (.inl (some (.int (I1 28 19)))) I3 J3 D3) ∧ (¬ ((I3 28 25) = 0) → (vp_in v1 1350 ∧ P (.inl (some (.int (I1 28 19)))) (zu I3 44 v1.toNatClampNeg (I3 28 19)) J3 D3)))))))))) : zz RO (d + 1) 156 [.ref 28] I J D bc bs P := by
  refine zT_of (Nat.le_of_ble_eq_true rfl) rfl ?_
  show zw RO d 156 P 0 [(0, .ref 28)] [] I J D bc bs
  refine zr_aload_n zSm 0 rfl rfl ?_
  refine zr_s zSm 1 rfl rfl ?_
  refine zr_putI zSm 2 rfl zf_11_188 rfl rfl (by decide) zp_11_27 ?_
  refine zr_aload_n zSm 3 rfl rfl ?_
  refine zr_sipush zSm 4 301 rfl rfl ?_
  refine zr_s zSm 5 rfl rfl ?_
  refine zr_s zSm 6 rfl rfl ?_
  refine zr_inv0 7 154 3 [.int 301, .int 0, .int 0] rfl rfl zk_11_191 zms_154 rfl ⟨_, _, _, _, rfl, rfl⟩ (Nat.le_of_ble_eq_true rfl) ?_
  refine zci h (fun v1 I1 J1 D1 h => ?_)
  refine zr_istore_n zSm 8 (ll' := [(1, .int v1), (0, .ref 28)]) rfl (by decide) rfl ?_
  refine zr_aload_n zSm 9 rfl rfl ?_
  refine zr_getI zSm 10 rfl zf_11_154 rfl rfl (by decide) ?_
  refine zr_istore_n zSm 11 (ll' := [(2, .int (I1 28 19)), (1, .int v1), (0, .ref 28)]) rfl (by decide) rfl ?_
  refine zr_aload_n zSm 12 rfl rfl ?_
  obtain ⟨c2, s2, g2, f2, h⟩ := h
  refine zr_inv zSm 13 157 0 c2 s2 [] rfl rfl zk_11_195 zms_157 rfl ⟨_, _, _, _, rfl, rfl⟩ (Nat.le_of_ble_eq_true rfl) g2 f2 ?_
  refine zcv h (fun I2 J2 D2 h => ?_)
  refine zr_aload_n zSm 14 rfl rfl ?_
  refine zr_sipush zSm 15 450 rfl rfl ?_
  refine zr_inv0 16 155 1 [.int 450] rfl rfl zk_11_198 zms_155 rfl ⟨_, _, _, _, rfl, rfl⟩ (Nat.le_of_ble_eq_true rfl) ?_
  refine zcv h (fun I3 J3 D3 h => ?_)
  refine zr_aload_n zSm 17 rfl rfl ?_
  refine zr_getZ zSm 18 rfl zf_11_178 rfl rfl (by decide) ?_
  refine zr_if zSm 19 48 rfl rfl (fun q1 => ?_) (fun q1 => ?_)
  · have h := h.1 q1
    refine zr_iload_n zSm 26 rfl rfl ?_
    refine zr_iret zSm 27 rfl rfl rfl ?_
    exact h
  · have h := h.2 q1
    refine zr_aload_n zSm 20 rfl rfl ?_
    refine zr_getR zSm 21 rfl zf_11_56 rfl rfl (by decide) ?_
    refine zr_iload_n zSm 22 rfl rfl ?_
    refine zr_aload_n zSm 23 rfl rfl ?_
    refine zr_getI zSm 24 rfl zf_11_154 rfl rfl (by decide) ?_
    obtain ⟨b25, h⟩ := h
    refine zr_iast zSm 25 rfl rfl b25 ?_
    refine zr_iload_n zSm 26 rfl rfl ?_
    refine zr_iret zSm 27 rfl rfl rfl ?_
    exact h
theorem w_157 {RO : zRo} {d : Nat} {P : zP} {I : zI} {J : zJ} {D : zD} {bc bs : Nat}  (h : (∃ c1 s1, c1 ≤ bc ∧ s1 ≤ bs ∧ zz RO d 158 [.ref 28] I J D c1 s1 (zNv P fun I1 J1 D1 => zw RO d 157 P 4 [(0, .ref 28)] [] I1 J1 D1 (bc - c1) (bs - s1)))) : zz RO (d + 1) 157 [.ref 28] I J D bc bs P := by
  refine zT_of (Nat.le_of_ble_eq_true rfl) rfl ?_
  show zw RO d 157 P 0 [(0, .ref 28)] [] I J D bc bs
  refine zr_aload_n zSm 0 rfl rfl ?_
  obtain ⟨c1, s1, g1, f1, h⟩ := h
  refine zr_inv zSm 1 158 0 c1 s1 [] rfl rfl zk_11_200 zms_158 rfl ⟨_, _, _, _, rfl, rfl⟩ (Nat.le_of_ble_eq_true rfl) g1 f1 ?_
  refine zcv h (fun I1 J1 D1 h => ?_)
  exact h
theorem wl_157_4 {RO : zRo} {d : Nat} {P : zP} {I : zI} {J : zJ} {D : zD} {bc bs : Nat}  (h : (zz RO d 152 [.ref 28, .int 30] I J D 0 0 (zNi P fun v1 I1 J1 D1 => ((v1 = 0 → P (.inl none) I1 J1 D1) ∧ (¬ (v1 = 0) → (∃ c2 s2, c2 ≤ bc ∧ s2 ≤ bs ∧ zz RO d 158 [.ref 28] I1 J1 D1 c2 s2 (zNv P fun I2 J2 D2 => (zz RO d 155 [.ref 28, .int 431] I2 J2 D2 0 0 (zNv P fun I3 J3 D3 => zw RO d 157 P 4 [(0, .ref 28)] [] I3 J3 D3 (bc - c2) (bs - s2)))))))))) : zw RO d 157 P 4 [(0, .ref 28)] [] I J D bc bs := by
  refine zr_aload_n zSm 2 rfl rfl ?_
  refine zr_bipush zSm 3 30 rfl rfl ?_
  refine zr_inv0 4 152 1 [.int 30] rfl rfl zk_11_203 zms_152 rfl ⟨_, _, _, _, rfl, rfl⟩ (Nat.le_of_ble_eq_true rfl) ?_
  refine zci h (fun v1 I1 J1 D1 h => ?_)
  refine zr_if zSm 5 27 rfl rfl (fun q1 => ?_) (fun q1 => ?_)
  · have h := h.1 q1
    refine zr_vret zSm 12 rfl rfl ?_
    exact h
  · have h := h.2 q1
    refine zr_aload_n zSm 6 rfl rfl ?_
    obtain ⟨c2, s2, g2, f2, h⟩ := h
    refine zr_inv zSm 7 158 0 c2 s2 [] rfl rfl zk_11_200 zms_158 rfl ⟨_, _, _, _, rfl, rfl⟩ (Nat.le_of_ble_eq_true rfl) g2 f2 ?_
    refine zcv h (fun I2 J2 D2 h => ?_)
    refine zr_aload_n zSm 8 rfl rfl ?_
    refine zr_sipush zSm 9 431 rfl rfl ?_
    refine zr_inv0 10 155 1 [.int 431] rfl rfl zk_11_198 zms_155 rfl ⟨_, _, _, _, rfl, rfl⟩ (Nat.le_of_ble_eq_true rfl) ?_
    refine zcv h (fun I3 J3 D3 h => ?_)
    refine zr_goto zSm 11 4 rfl rfl ?_
    exact h
theorem w_158 {RO : zRo} {d : Nat} {P : zP} {I : zI} {J : zJ} {D : zD} {bc bs : Nat}  (h : (∃ c1 s1, c1 ≤ bc ∧ s1 ≤ bs ∧ zz RO d 159 [.ref 28] I J D c1 s1 (zNv P fun I1 J1 D1 => zw RO d 158 P 4 [(0, .ref 28)] [] I1 J1 D1 (bc - c1) (bs - s1)))) : zz RO (d + 1) 158 [.ref 28] I J D bc bs P := by
  refine zT_of (Nat.le_of_ble_eq_true rfl) rfl ?_
  show zw RO d 158 P 0 [(0, .ref 28)] [] I J D bc bs
  refine zr_aload_n zSm 0 rfl rfl ?_
  obtain ⟨c1, s1, g1, f1, h⟩ := h
  refine zr_inv zSm 1 159 0 c1 s1 [] rfl rfl zk_11_206 zms_159 rfl ⟨_, _, _, _, rfl, rfl⟩ (Nat.le_of_ble_eq_true rfl) g1 f1 ?_
  refine zcv h (fun I1 J1 D1 h => ?_)
  exact h
theorem wl_158_4 {RO : zRo} {d : Nat} {P : zP} {I : zI} {J : zJ} {D : zD} {bc bs : Nat}  (h : (zz RO d 152 [.ref 28, .int 29] I J D 0 0 (zNi P fun v1 I1 J1 D1 => ((v1 = 0 → P (.inl none) I1 J1 D1) ∧ (¬ (v1 = 0) → (∃ c2 s2, c2 ≤ bc ∧ s2 ≤ bs ∧ zz RO d 159 [.ref 28] I1 J1 D1 c2 s2 (zNv P fun I2 J2 D2 => (zz RO d 155 [.ref 28, .int 430] I2 J2 D2 0 0 (zNv P fun I3 J3 D3 => zw RO d 158 P 4 [(0, .ref 28)] [] I3 J3 D3 (bc - c2) (bs - s2)))))))))) : zw RO d 158 P 4 [(0, .ref 28)] [] I J D bc bs := by
  refine zr_aload_n zSm 2 rfl rfl ?_
  refine zr_bipush zSm 3 29 rfl rfl ?_
  refine zr_inv0 4 152 1 [.int 29] rfl rfl zk_11_203 zms_152 rfl ⟨_, _, _, _, rfl, rfl⟩ (Nat.le_of_ble_eq_true rfl) ?_
  refine zci h (fun v1 I1 J1 D1 h => ?_)
  refine zr_if zSm 5 27 rfl rfl (fun q1 => ?_) (fun q1 => ?_)
  · have h := h.1 q1
    refine zr_vret zSm 12 rfl rfl ?_
    exact h
  · have h := h.2 q1
    refine zr_aload_n zSm 6 rfl rfl ?_
    obtain ⟨c2, s2, g2, f2, h⟩ := h
    refine zr_inv zSm 7 159 0 c2 s2 [] rfl rfl zk_11_206 zms_159 rfl ⟨_, _, _, _, rfl, rfl⟩ (Nat.le_of_ble_eq_true rfl) g2 f2 ?_
    refine zcv h (fun I2 J2 D2 h => ?_)
    refine zr_aload_n zSm 8 rfl rfl ?_
    refine zr_sipush zSm 9 430 rfl rfl ?_
    refine zr_inv0 10 155 1 [.int 430] rfl rfl zk_11_198 zms_155 rfl ⟨_, _, _, _, rfl, rfl⟩ (Nat.le_of_ble_eq_true rfl) ?_
    refine zcv h (fun I3 J3 D3 h => ?_)
    refine zr_goto zSm 11 4 rfl rfl ?_
    exact h
theorem w_159 {RO : zRo} {d : Nat} {P : zP} {I : zI} {J : zJ} {D : zD} {bc bs : Nat}  (h : (∃ c1 s1, c1 ≤ bc ∧ s1 ≤ bs ∧ zz RO (d + 1) 160 [.ref 28] I J D c1 s1 (zNv P fun I1 J1 D1 => (zo_148 I1 J1 105 ∧ (((zv_148 I1 J1 105) = 0 → (zo_148 I1 J1 115 ∧ (((zv_148 I1 J1 115) = 0 → (zo_148 I1 J1 111 ∧ (((zv_148 I1 J1 111) = 0 → (zo_148 I1 J1 112 ∧ (((zv_148 I1 J1 112) = 0 → (zo_148 I1 J1 113 ∧ (((zv_148 I1 J1 113) = 0 → (zo_148 I1 J1 114 ∧ (((zv_148 I1 J1 114) = 0 → P (.inl none) I1 J1 D1) ∧ (¬ ((zv_148 I1 J1 114) = 0) → (∃ c2 s2, c2 ≤ (bc - c1) ∧ s2 ≤ (bs - s1) ∧ zz RO (d + 1) 160 [.ref 28] (zu I1 28 24 ((I1 28 24) + 1)) J1 D1 c2 s2 (zNv P fun I2 J2 D2 => (zz RO (d + 1) 155 [.ref 28, .int 425] I2 J2 D2 0 0 (zNv P fun I3 J3 D3 => P (.inl none) I3 J3 D3)))))))) ∧ (¬ ((zv_148 I1 J1 113) = 0) → (∃ c4 s4, c4 ≤ (bc - c1) ∧ s4 ≤ (bs - s1) ∧ zz RO (d + 1) 160 [.ref 28] (zu I1 28 24 ((I1 28 24) + 1)) J1 D1 c4 s4 (zNv P fun I4 J4 D4 => (zz RO (d + 1) 155 [.ref 28, .int 424] I4 J4 D4 0 0 (zNv P fun I5 J5 D5 => P (.inl none) I5 J5 D5)))))))) ∧ (¬ ((zv_148 I1 J1 112) = 0) → (∃ c6 s6, c6 ≤ (bc - c1) ∧ s6 ≤ (bs - s1) ∧ zz RO (d + 1) 160 [.ref 28] (zu I1 28 24 ((I1 28 24) + 1)) J1 D1 c6 s6 (zNv P fun I6 J6 D6 => (zz RO (d + 1) 155 [.ref 28, .int 423] I6 J6 D6 0 0 (zNv P fun I7 J7 D7 => P (.inl none) I7 J7 D7)))))))) ∧ (¬ ((zv_148 I1 J1 111) = 0) → (∃ c8 s8, c8 ≤ (bc - c1) ∧ s8 ≤ (bs - s1) ∧ zz RO (d + 1) 160 [.ref 28] (zu I1 28 24 ((I1 28 24) + 1)) J1 D1 c8 s8 (zNv P fun I8 J8 D8 => (zz RO (d + 1) 155 [.ref 28, .int 422] I8 J8 D8 0 0 (zNv P fun I9 J9 D9 => P (.inl none) I9 J9 D9)))))))) ∧ (¬ ((zv_148 I1 J1 115) = 0) → (∃ c10 s10, c10 ≤ (bc - c1) ∧ s10 ≤ (bs - s1) ∧ zz RO (d + 1) 160 [.ref 28] (zu I1 28 24 ((I1 28 24) + 1)) J1 D1 c10 s10 (zNv P fun I10 J10 D10 => (zz RO (d + 1) 155 [.ref 28, .int 421] I10 J10 D10 0 0 (zNv P fun I11 J11 D11 => P (.inl none) I11 J11 D11)))))))) ∧ (¬ ((zv_148 I1 J1 105) = 0) → (∃ c12 s12, c12 ≤ (bc - c1) ∧ s12 ≤ (bs - s1) ∧ zz RO (d + 1) 160 [.ref 28] (zu I1 28 24 ((I1 28 24) + 1)) J1 D1 c12 s12 (zNv P fun I12 J12 D12 => (zz RO (d + 1) 155 [.ref 28, .int 420] I12 J12 D12 0 0 (zNv P fun I13 J13 D13 => P (.inl none) I13 J13 D13)))))))))) : zz RO (d + 2) 159 [.ref 28] I J D bc bs P := by
  refine zT_of (Nat.le_of_ble_eq_true rfl) rfl ?_
  show zw RO (d + 1) 159 P 0 [(0, .ref 28)] [] I J D bc bs
  refine zr_aload_n zSm 0 rfl rfl ?_
  obtain ⟨c1, s1, g1, f1, h⟩ := h
  refine zr_inv zSm 1 160 0 c1 s1 [] rfl rfl zk_11_209 zms_160 rfl ⟨_, _, _, _, rfl, rfl⟩ (Nat.le_of_ble_eq_true rfl) g1 f1 ?_
  refine zcv h (fun I1 J1 D1 h => ?_)
  refine zr_aload_n zSm 2 rfl rfl ?_
  refine zr_bipush zSm 3 105 rfl rfl ?_
  obtain ⟨b4, h⟩ := h
  refine zr_inv0 4 148 1 [.int 105] rfl rfl zk_11_181 zms_148 rfl ⟨_, _, _, _, rfl, rfl⟩ (Nat.le_of_ble_eq_true rfl) ?_
  refine ze_148 b4 ?_
  refine zNx_i ?_
  refine zr_if zSm 5 17 rfl rfl (fun q1 => ?_) (fun q1 => ?_)
  · have h := h.1 q1
    refine zr_aload_n zSm 8 rfl rfl ?_
    refine zr_bipush zSm 9 115 rfl rfl ?_
    obtain ⟨b10, h⟩ := h
    refine zr_inv0 10 148 1 [.int 115] rfl rfl zk_11_181 zms_148 rfl ⟨_, _, _, _, rfl, rfl⟩ (Nat.le_of_ble_eq_true rfl) ?_
    refine ze_148 b10 ?_
    refine zNx_i ?_
    refine zr_if zSm 11 30 rfl rfl (fun q2 => ?_) (fun q2 => ?_)
    · have h := h.1 q2
      refine zr_aload_n zSm 14 rfl rfl ?_
      refine zr_bipush zSm 15 111 rfl rfl ?_
      obtain ⟨b16, h⟩ := h
      refine zr_inv0 16 148 1 [.int 111] rfl rfl zk_11_181 zms_148 rfl ⟨_, _, _, _, rfl, rfl⟩ (Nat.le_of_ble_eq_true rfl) ?_
      refine ze_148 b16 ?_
      refine zNx_i ?_
      refine zr_if zSm 17 43 rfl rfl (fun q3 => ?_) (fun q3 => ?_)
      · have h := h.1 q3
        refine zr_aload_n zSm 20 rfl rfl ?_
        refine zr_bipush zSm 21 112 rfl rfl ?_
        obtain ⟨b22, h⟩ := h
        refine zr_inv0 22 148 1 [.int 112] rfl rfl zk_11_181 zms_148 rfl ⟨_, _, _, _, rfl, rfl⟩ (Nat.le_of_ble_eq_true rfl) ?_
        refine ze_148 b22 ?_
        refine zNx_i ?_
        refine zr_if zSm 23 56 rfl rfl (fun q4 => ?_) (fun q4 => ?_)
        · have h := h.1 q4
          refine zr_aload_n zSm 26 rfl rfl ?_
          refine zr_bipush zSm 27 113 rfl rfl ?_
          obtain ⟨b28, h⟩ := h
          refine zr_inv0 28 148 1 [.int 113] rfl rfl zk_11_181 zms_148 rfl ⟨_, _, _, _, rfl, rfl⟩ (Nat.le_of_ble_eq_true rfl) ?_
          refine ze_148 b28 ?_
          refine zNx_i ?_
          refine zr_if zSm 29 69 rfl rfl (fun q5 => ?_) (fun q5 => ?_)
          · have h := h.1 q5
            refine zr_aload_n zSm 32 rfl rfl ?_
            refine zr_bipush zSm 33 114 rfl rfl ?_
            obtain ⟨b34, h⟩ := h
            refine zr_inv0 34 148 1 [.int 114] rfl rfl zk_11_181 zms_148 rfl ⟨_, _, _, _, rfl, rfl⟩ (Nat.le_of_ble_eq_true rfl) ?_
            refine ze_148 b34 ?_
            refine zNx_i ?_
            refine zr_if zSm 35 82 rfl rfl (fun q6 => ?_) (fun q6 => ?_)
            · have h := h.1 q6
              refine zr_s zSm 38 rfl rfl ?_
              refine zr_istore_n zSm 39 (ll' := [(1, .int (-1)), (0, .ref 28)]) rfl (by decide) rfl ?_
              refine zr_iload_n zSm 40 rfl rfl ?_
              refine zr_s zSm 41 rfl rfl ?_
              refine zr_ic zSm 42 90 rfl rfl (fun q7 => ?_) (fun q7 => ?_)
              · exact absurd q7 (by show ¬ (¬ (((-1) : Int32) = (-1))); decide)
              · refine zr_vret zSm 43 rfl rfl ?_
                exact h
            · have h := h.2 q6
              refine zr_s zSm 36 rfl rfl ?_
              refine zr_goto zSm 37 83 rfl rfl ?_
              refine zr_istore_n zSm 39 (ll' := [(1, .int 5), (0, .ref 28)]) rfl (by decide) rfl ?_
              refine zr_iload_n zSm 40 rfl rfl ?_
              refine zr_s zSm 41 rfl rfl ?_
              refine zr_ic zSm 42 90 rfl rfl (fun q8 => ?_) (fun q8 => ?_)
              · refine zr_aload_n zSm 44 rfl rfl ?_
                refine zr_s zSm 45 rfl rfl ?_
                refine zr_getI zSm 46 rfl zf_11_170 rfl rfl (by decide) ?_
                refine zr_s zSm 47 rfl rfl ?_
                refine zr_s zSm 48 rfl rfl ?_
                refine zr_putI zSm 49 rfl zf_11_170 rfl rfl (by decide) zp_11_24 ?_
                refine zr_aload_n zSm 50 rfl rfl ?_
                obtain ⟨c2, s2, g2, f2, h⟩ := h
                refine zr_inv zSm 51 160 0 c2 s2 [] rfl rfl zk_11_209 zms_160 rfl ⟨_, _, _, _, rfl, rfl⟩ (Nat.le_of_ble_eq_true rfl) g2 f2 ?_
                refine zcv h (fun I2 J2 D2 h => ?_)
                refine zr_aload_n zSm 52 rfl rfl ?_
                refine zr_sipush zSm 53 420 rfl rfl ?_
                refine zr_iload_n zSm 54 rfl rfl ?_
                refine zr_iaddf 55 (v := 425) rfl (by decide) ?_
                refine zr_inv0 56 155 1 [.int 425] rfl rfl zk_11_198 zms_155 rfl ⟨_, _, _, _, rfl, rfl⟩ (Nat.le_of_ble_eq_true rfl) ?_
                refine zcv h (fun I3 J3 D3 h => ?_)
                refine zr_vret zSm 57 rfl rfl ?_
                exact h
              · exact absurd q8 (by show ¬ ¬ (¬ ((5 : Int32) = (-1))); decide)
          · have h := h.2 q5
            refine zr_s zSm 30 rfl rfl ?_
            refine zr_goto zSm 31 83 rfl rfl ?_
            refine zr_istore_n zSm 39 (ll' := [(1, .int 4), (0, .ref 28)]) rfl (by decide) rfl ?_
            refine zr_iload_n zSm 40 rfl rfl ?_
            refine zr_s zSm 41 rfl rfl ?_
            refine zr_ic zSm 42 90 rfl rfl (fun q9 => ?_) (fun q9 => ?_)
            · refine zr_aload_n zSm 44 rfl rfl ?_
              refine zr_s zSm 45 rfl rfl ?_
              refine zr_getI zSm 46 rfl zf_11_170 rfl rfl (by decide) ?_
              refine zr_s zSm 47 rfl rfl ?_
              refine zr_s zSm 48 rfl rfl ?_
              refine zr_putI zSm 49 rfl zf_11_170 rfl rfl (by decide) zp_11_24 ?_
              refine zr_aload_n zSm 50 rfl rfl ?_
              obtain ⟨c4, s4, g4, f4, h⟩ := h
              refine zr_inv zSm 51 160 0 c4 s4 [] rfl rfl zk_11_209 zms_160 rfl ⟨_, _, _, _, rfl, rfl⟩ (Nat.le_of_ble_eq_true rfl) g4 f4 ?_
              refine zcv h (fun I4 J4 D4 h => ?_)
              refine zr_aload_n zSm 52 rfl rfl ?_
              refine zr_sipush zSm 53 420 rfl rfl ?_
              refine zr_iload_n zSm 54 rfl rfl ?_
              refine zr_iaddf 55 (v := 424) rfl (by decide) ?_
              refine zr_inv0 56 155 1 [.int 424] rfl rfl zk_11_198 zms_155 rfl ⟨_, _, _, _, rfl, rfl⟩ (Nat.le_of_ble_eq_true rfl) ?_
              refine zcv h (fun I5 J5 D5 h => ?_)
              refine zr_vret zSm 57 rfl rfl ?_
              exact h
            · exact absurd q9 (by show ¬ ¬ (¬ ((4 : Int32) = (-1))); decide)
        · have h := h.2 q4
          refine zr_s zSm 24 rfl rfl ?_
          refine zr_goto zSm 25 83 rfl rfl ?_
          refine zr_istore_n zSm 39 (ll' := [(1, .int 3), (0, .ref 28)]) rfl (by decide) rfl ?_
          refine zr_iload_n zSm 40 rfl rfl ?_
          refine zr_s zSm 41 rfl rfl ?_
          refine zr_ic zSm 42 90 rfl rfl (fun q10 => ?_) (fun q10 => ?_)
          · refine zr_aload_n zSm 44 rfl rfl ?_
            refine zr_s zSm 45 rfl rfl ?_
            refine zr_getI zSm 46 rfl zf_11_170 rfl rfl (by decide) ?_
            refine zr_s zSm 47 rfl rfl ?_
            refine zr_s zSm 48 rfl rfl ?_
            refine zr_putI zSm 49 rfl zf_11_170 rfl rfl (by decide) zp_11_24 ?_
            refine zr_aload_n zSm 50 rfl rfl ?_
            obtain ⟨c6, s6, g6, f6, h⟩ := h
            refine zr_inv zSm 51 160 0 c6 s6 [] rfl rfl zk_11_209 zms_160 rfl ⟨_, _, _, _, rfl, rfl⟩ (Nat.le_of_ble_eq_true rfl) g6 f6 ?_
            refine zcv h (fun I6 J6 D6 h => ?_)
            refine zr_aload_n zSm 52 rfl rfl ?_
            refine zr_sipush zSm 53 420 rfl rfl ?_
            refine zr_iload_n zSm 54 rfl rfl ?_
            refine zr_iaddf 55 (v := 423) rfl (by decide) ?_
            refine zr_inv0 56 155 1 [.int 423] rfl rfl zk_11_198 zms_155 rfl ⟨_, _, _, _, rfl, rfl⟩ (Nat.le_of_ble_eq_true rfl) ?_
            refine zcv h (fun I7 J7 D7 h => ?_)
            refine zr_vret zSm 57 rfl rfl ?_
            exact h
          · exact absurd q10 (by show ¬ ¬ (¬ ((3 : Int32) = (-1))); decide)
      · have h := h.2 q3
        refine zr_s zSm 18 rfl rfl ?_
        refine zr_goto zSm 19 83 rfl rfl ?_
        refine zr_istore_n zSm 39 (ll' := [(1, .int 2), (0, .ref 28)]) rfl (by decide) rfl ?_
        refine zr_iload_n zSm 40 rfl rfl ?_
        refine zr_s zSm 41 rfl rfl ?_
        refine zr_ic zSm 42 90 rfl rfl (fun q11 => ?_) (fun q11 => ?_)
        · refine zr_aload_n zSm 44 rfl rfl ?_
          refine zr_s zSm 45 rfl rfl ?_
          refine zr_getI zSm 46 rfl zf_11_170 rfl rfl (by decide) ?_
          refine zr_s zSm 47 rfl rfl ?_
          refine zr_s zSm 48 rfl rfl ?_
          refine zr_putI zSm 49 rfl zf_11_170 rfl rfl (by decide) zp_11_24 ?_
          refine zr_aload_n zSm 50 rfl rfl ?_
          obtain ⟨c8, s8, g8, f8, h⟩ := h
          refine zr_inv zSm 51 160 0 c8 s8 [] rfl rfl zk_11_209 zms_160 rfl ⟨_, _, _, _, rfl, rfl⟩ (Nat.le_of_ble_eq_true rfl) g8 f8 ?_
          refine zcv h (fun I8 J8 D8 h => ?_)
          refine zr_aload_n zSm 52 rfl rfl ?_
          refine zr_sipush zSm 53 420 rfl rfl ?_
          refine zr_iload_n zSm 54 rfl rfl ?_
          refine zr_iaddf 55 (v := 422) rfl (by decide) ?_
          refine zr_inv0 56 155 1 [.int 422] rfl rfl zk_11_198 zms_155 rfl ⟨_, _, _, _, rfl, rfl⟩ (Nat.le_of_ble_eq_true rfl) ?_
          refine zcv h (fun I9 J9 D9 h => ?_)
          refine zr_vret zSm 57 rfl rfl ?_
          exact h
        · exact absurd q11 (by show ¬ ¬ (¬ ((2 : Int32) = (-1))); decide)
    · have h := h.2 q2
      refine zr_s zSm 12 rfl rfl ?_
      refine zr_goto zSm 13 83 rfl rfl ?_
      refine zr_istore_n zSm 39 (ll' := [(1, .int 1), (0, .ref 28)]) rfl (by decide) rfl ?_
      refine zr_iload_n zSm 40 rfl rfl ?_
      refine zr_s zSm 41 rfl rfl ?_
      refine zr_ic zSm 42 90 rfl rfl (fun q12 => ?_) (fun q12 => ?_)
      · refine zr_aload_n zSm 44 rfl rfl ?_
        refine zr_s zSm 45 rfl rfl ?_
        refine zr_getI zSm 46 rfl zf_11_170 rfl rfl (by decide) ?_
        refine zr_s zSm 47 rfl rfl ?_
        refine zr_s zSm 48 rfl rfl ?_
        refine zr_putI zSm 49 rfl zf_11_170 rfl rfl (by decide) zp_11_24 ?_
        refine zr_aload_n zSm 50 rfl rfl ?_
        obtain ⟨c10, s10, g10, f10, h⟩ := h
        refine zr_inv zSm 51 160 0 c10 s10 [] rfl rfl zk_11_209 zms_160 rfl ⟨_, _, _, _, rfl, rfl⟩ (Nat.le_of_ble_eq_true rfl) g10 f10 ?_
        refine zcv h (fun I10 J10 D10 h => ?_)
        refine zr_aload_n zSm 52 rfl rfl ?_
        refine zr_sipush zSm 53 420 rfl rfl ?_
        refine zr_iload_n zSm 54 rfl rfl ?_
        refine zr_iaddf 55 (v := 421) rfl (by decide) ?_
        refine zr_inv0 56 155 1 [.int 421] rfl rfl zk_11_198 zms_155 rfl ⟨_, _, _, _, rfl, rfl⟩ (Nat.le_of_ble_eq_true rfl) ?_
        refine zcv h (fun I11 J11 D11 h => ?_)
        refine zr_vret zSm 57 rfl rfl ?_
        exact h
      · exact absurd q12 (by show ¬ ¬ (¬ ((1 : Int32) = (-1))); decide)
  · have h := h.2 q1
    refine zr_s zSm 6 rfl rfl ?_
    refine zr_goto zSm 7 83 rfl rfl ?_
    refine zr_istore_n zSm 39 (ll' := [(1, .int 0), (0, .ref 28)]) rfl (by decide) rfl ?_
    refine zr_iload_n zSm 40 rfl rfl ?_
    refine zr_s zSm 41 rfl rfl ?_
    refine zr_ic zSm 42 90 rfl rfl (fun q13 => ?_) (fun q13 => ?_)
    · refine zr_aload_n zSm 44 rfl rfl ?_
      refine zr_s zSm 45 rfl rfl ?_
      refine zr_getI zSm 46 rfl zf_11_170 rfl rfl (by decide) ?_
      refine zr_s zSm 47 rfl rfl ?_
      refine zr_s zSm 48 rfl rfl ?_
      refine zr_putI zSm 49 rfl zf_11_170 rfl rfl (by decide) zp_11_24 ?_
      refine zr_aload_n zSm 50 rfl rfl ?_
      obtain ⟨c12, s12, g12, f12, h⟩ := h
      refine zr_inv zSm 51 160 0 c12 s12 [] rfl rfl zk_11_209 zms_160 rfl ⟨_, _, _, _, rfl, rfl⟩ (Nat.le_of_ble_eq_true rfl) g12 f12 ?_
      refine zcv h (fun I12 J12 D12 h => ?_)
      refine zr_aload_n zSm 52 rfl rfl ?_
      refine zr_sipush zSm 53 420 rfl rfl ?_
      refine zr_iload_n zSm 54 rfl rfl ?_
      refine zr_iaddf 55 (v := 420) rfl (by decide) ?_
      refine zr_inv0 56 155 1 [.int 420] rfl rfl zk_11_198 zms_155 rfl ⟨_, _, _, _, rfl, rfl⟩ (Nat.le_of_ble_eq_true rfl) ?_
      refine zcv h (fun I13 J13 D13 h => ?_)
      refine zr_vret zSm 57 rfl rfl ?_
      exact h
    · exact absurd q13 (by show ¬ ¬ (¬ ((0 : Int32) = (-1))); decide)
theorem w_160 {RO : zRo} {d : Nat} {P : zP} {I : zI} {J : zJ} {D : zD} {bc bs : Nat}  (h : (∃ c1 s1, c1 ≤ bc ∧ s1 ≤ bs ∧ zz RO (d + 1) 161 [.ref 28] I J D c1 s1 (zNv P fun I1 J1 D1 => zw RO (d + 1) 160 P 4 [(0, .ref 28)] [] I1 J1 D1 (bc - c1) (bs - s1)))) : zz RO (d + 2) 160 [.ref 28] I J D bc bs P := by
  refine zT_of (Nat.le_of_ble_eq_true rfl) rfl ?_
  show zw RO (d + 1) 160 P 0 [(0, .ref 28)] [] I J D bc bs
  refine zr_aload_n zSm 0 rfl rfl ?_
  obtain ⟨c1, s1, g1, f1, h⟩ := h
  refine zr_inv zSm 1 161 0 c1 s1 [] rfl rfl zk_11_212 zms_161 rfl ⟨_, _, _, _, rfl, rfl⟩ (Nat.le_of_ble_eq_true rfl) g1 f1 ?_
  refine zcv h (fun I1 J1 D1 h => ?_)
  exact h
theorem wl_160_4 {RO : zRo} {d : Nat} {P : zP} {I : zI} {J : zJ} {D : zD} {bc bs : Nat}  (h : (zo_148 I J 106 ∧ ((¬ (zv_148 I J 106) = 0 → (vp_in (I 28 24) 452 ∧ (∃ c1 s1, c1 ≤ bc ∧ s1 ≤ bs ∧ zz RO (d + 1) 161 [.ref 28] (zu I 28 24 ((I 28 24) + 1)) J D c1 s1 (zNv P fun I1 J1 D1 => (zz RO (d + 1) 155 [.ref 28, .int (410 + ((I 31 ((I 28 24).toNatClampNeg)) - 106))] I1 J1 D1 0 0 (zNv P fun I2 J2 D2 => zw RO (d + 1) 160 P 4 [(0, .ref 28)] [] I2 J2 D2 (bc - c1) (bs - s1))))))) ∧ (¬ (¬ (zv_148 I J 106) = 0) → (zo_148 I J 107 ∧ (((zv_148 I J 107) = 0 → P (.inl none) I J D) ∧ (¬ ((zv_148 I J 107) = 0) → (vp_in (I 28 24) 452 ∧ (∃ c3 s3, c3 ≤ bc ∧ s3 ≤ bs ∧ zz RO (d + 1) 161 [.ref 28] (zu I 28 24 ((I 28 24) + 1)) J D c3 s3 (zNv P fun I3 J3 D3 => (zz RO (d + 1) 155 [.ref 28, .int (410 + ((I 31 ((I 28 24).toNatClampNeg)) - 106))] I3 J3 D3 0 0 (zNv P fun I4 J4 D4 => zw RO (d + 1) 160 P 4 [(0, .ref 28)] [] I4 J4 D4 (bc - c3) (bs - s3))))))))))))) : zw RO (d + 1) 160 P 4 [(0, .ref 28)] [] I J D bc bs := by
  refine zr_aload_n zSm 2 rfl rfl ?_
  refine zr_bipush zSm 3 106 rfl rfl ?_
  obtain ⟨b4, h⟩ := h
  refine zr_inv0 4 148 1 [.int 106] rfl rfl zk_11_181 zms_148 rfl ⟨_, _, _, _, rfl, rfl⟩ (Nat.le_of_ble_eq_true rfl) ?_
  refine ze_148 b4 ?_
  refine zNx_i ?_
  refine zr_if zSm 5 22 rfl rfl (fun q1 => ?_) (fun q1 => ?_)
  · have h := h.1 q1
    refine zr_aload_n zSm 10 rfl rfl ?_
    refine zr_getR zSm 11 rfl zf_11_17 rfl rfl (by decide) ?_
    refine zr_aload_n zSm 12 rfl rfl ?_
    refine zr_getI zSm 13 rfl zf_11_170 rfl rfl (by decide) ?_
    obtain ⟨b14, h⟩ := h
    refine zr_iald zSm 14 rfl rfl b14 ?_
    refine zr_bipush zSm 15 106 rfl rfl ?_
    refine zr_s zSm 16 rfl rfl ?_
    refine zr_istore_n zSm 17 (ll' := [(1, .int ((I 31 ((I 28 24).toNatClampNeg)) - 106)), (0, .ref 28)]) rfl (by decide) rfl ?_
    refine zr_aload_n zSm 18 rfl rfl ?_
    refine zr_s zSm 19 rfl rfl ?_
    refine zr_getI zSm 20 rfl zf_11_170 rfl rfl (by decide) ?_
    refine zr_s zSm 21 rfl rfl ?_
    refine zr_s zSm 22 rfl rfl ?_
    refine zr_putI zSm 23 rfl zf_11_170 rfl rfl (by decide) zp_11_24 ?_
    refine zr_aload_n zSm 24 rfl rfl ?_
    obtain ⟨c1, s1, g1, f1, h⟩ := h
    refine zr_inv zSm 25 161 0 c1 s1 [] rfl rfl zk_11_212 zms_161 rfl ⟨_, _, _, _, rfl, rfl⟩ (Nat.le_of_ble_eq_true rfl) g1 f1 ?_
    refine zcv h (fun I1 J1 D1 h => ?_)
    refine zr_aload_n zSm 26 rfl rfl ?_
    refine zr_sipush zSm 27 410 rfl rfl ?_
    refine zr_iload_n zSm 28 rfl rfl ?_
    refine zr_s zSm 29 rfl rfl ?_
    refine zr_inv0 30 155 1 [.int (410 + ((I 31 ((I 28 24).toNatClampNeg)) - 106))] rfl rfl zk_11_198 zms_155 rfl ⟨_, _, _, _, rfl, rfl⟩ (Nat.le_of_ble_eq_true rfl) ?_
    refine zcv h (fun I2 J2 D2 h => ?_)
    refine zr_goto zSm 31 4 rfl rfl ?_
    refine zr_sub [1] rfl ?_
    exact h
  · have h := h.2 q1
    refine zr_aload_n zSm 6 rfl rfl ?_
    refine zr_bipush zSm 7 107 rfl rfl ?_
    obtain ⟨b8, h⟩ := h
    refine zr_inv0 8 148 1 [.int 107] rfl rfl zk_11_181 zms_148 rfl ⟨_, _, _, _, rfl, rfl⟩ (Nat.le_of_ble_eq_true rfl) ?_
    refine ze_148 b8 ?_
    refine zNx_i ?_
    refine zr_if zSm 9 61 rfl rfl (fun q2 => ?_) (fun q2 => ?_)
    · have h := h.1 q2
      refine zr_vret zSm 32 rfl rfl ?_
      exact h
    · have h := h.2 q2
      refine zr_aload_n zSm 10 rfl rfl ?_
      refine zr_getR zSm 11 rfl zf_11_17 rfl rfl (by decide) ?_
      refine zr_aload_n zSm 12 rfl rfl ?_
      refine zr_getI zSm 13 rfl zf_11_170 rfl rfl (by decide) ?_
      obtain ⟨b14, h⟩ := h
      refine zr_iald zSm 14 rfl rfl b14 ?_
      refine zr_bipush zSm 15 106 rfl rfl ?_
      refine zr_s zSm 16 rfl rfl ?_
      refine zr_istore_n zSm 17 (ll' := [(1, .int ((I 31 ((I 28 24).toNatClampNeg)) - 106)), (0, .ref 28)]) rfl (by decide) rfl ?_
      refine zr_aload_n zSm 18 rfl rfl ?_
      refine zr_s zSm 19 rfl rfl ?_
      refine zr_getI zSm 20 rfl zf_11_170 rfl rfl (by decide) ?_
      refine zr_s zSm 21 rfl rfl ?_
      refine zr_s zSm 22 rfl rfl ?_
      refine zr_putI zSm 23 rfl zf_11_170 rfl rfl (by decide) zp_11_24 ?_
      refine zr_aload_n zSm 24 rfl rfl ?_
      obtain ⟨c3, s3, g3, f3, h⟩ := h
      refine zr_inv zSm 25 161 0 c3 s3 [] rfl rfl zk_11_212 zms_161 rfl ⟨_, _, _, _, rfl, rfl⟩ (Nat.le_of_ble_eq_true rfl) g3 f3 ?_
      refine zcv h (fun I3 J3 D3 h => ?_)
      refine zr_aload_n zSm 26 rfl rfl ?_
      refine zr_sipush zSm 27 410 rfl rfl ?_
      refine zr_iload_n zSm 28 rfl rfl ?_
      refine zr_s zSm 29 rfl rfl ?_
      refine zr_inv0 30 155 1 [.int (410 + ((I 31 ((I 28 24).toNatClampNeg)) - 106))] rfl rfl zk_11_198 zms_155 rfl ⟨_, _, _, _, rfl, rfl⟩ (Nat.le_of_ble_eq_true rfl) ?_
      refine zcv h (fun I4 J4 D4 h => ?_)
      refine zr_goto zSm 31 4 rfl rfl ?_
      refine zr_sub [1] rfl ?_
      exact h
theorem w_161 {RO : zRo} {d : Nat} {P : zP} {I : zI} {J : zJ} {D : zD} {bc bs : Nat}  (h : (∃ c1 s1, c1 ≤ bc ∧ s1 ≤ bs ∧ zz RO (d + 1) 162 [.ref 28] I J D c1 s1 (zNv P fun I1 J1 D1 => zw RO (d + 1) 161 P 4 [(0, .ref 28)] [] I1 J1 D1 (bc - c1) (bs - s1)))) : zz RO (d + 2) 161 [.ref 28] I J D bc bs P := by
  refine zT_of (Nat.le_of_ble_eq_true rfl) rfl ?_
  show zw RO (d + 1) 161 P 0 [(0, .ref 28)] [] I J D bc bs
  refine zr_aload_n zSm 0 rfl rfl ?_
  obtain ⟨c1, s1, g1, f1, h⟩ := h
  refine zr_inv zSm 1 162 0 c1 s1 [] rfl rfl zk_11_215 zms_162 rfl ⟨_, _, _, _, rfl, rfl⟩ (Nat.le_of_ble_eq_true rfl) g1 f1 ?_
  refine zcv h (fun I1 J1 D1 h => ?_)
  exact h
theorem wl_161_4 {RO : zRo} {d : Nat} {P : zP} {I : zI} {J : zJ} {D : zD} {bc bs : Nat}  (h : (vp_in (I 28 24) 452 ∧ (((zv_136 I J ((I 31 ((I 28 24).toNatClampNeg)).toInt64) 108 110) = 0 → P (.inl none) I J D) ∧ (¬ ((zv_136 I J ((I 31 ((I 28 24).toNatClampNeg)).toInt64) 108 110) = 0) → (vp_in (I 28 24) 452 ∧ (∃ c1 s1, c1 ≤ bc ∧ s1 ≤ bs ∧ zz RO (d + 1) 162 [.ref 28] (zu I 28 24 ((I 28 24) + 1)) J D c1 s1 (zNv P fun I1 J1 D1 => (zz RO (d + 1) 155 [.ref 28, .int (410 + ((I 31 ((I 28 24).toNatClampNeg)) - 106))] I1 J1 D1 0 0 (zNv P fun I2 J2 D2 => zw RO (d + 1) 161 P 4 [(0, .ref 28)] [] I2 J2 D2 (bc - c1) (bs - s1)))))))))) : zw RO (d + 1) 161 P 4 [(0, .ref 28)] [] I J D bc bs := by
  refine zr_aload_n zSm 2 rfl rfl ?_
  refine zr_getR zSm 3 rfl zf_11_17 rfl rfl (by decide) ?_
  refine zr_aload_n zSm 4 rfl rfl ?_
  refine zr_getI zSm 5 rfl zf_11_170 rfl rfl (by decide) ?_
  obtain ⟨b6, h⟩ := h
  refine zr_iald zSm 6 rfl rfl b6 ?_
  refine zr_s zSm 7 rfl rfl ?_
  refine zr_ldc2 zSm 8 rfl zc_11_218 ?_
  refine zr_ldc2 zSm 9 rfl zc_11_220 ?_
  refine zr_ins0 10 136 3 [.long ((I 31 ((I 28 24).toNatClampNeg)).toInt64), .long 108, .long 110] rfl rfl zk_11_110 zms_136 rfl (Nat.le_of_ble_eq_true rfl) ?_
  refine ze_136 ?_
  refine zNx_i ?_
  refine zr_if zSm 11 65 rfl rfl (fun q1 => ?_) (fun q1 => ?_)
  · have h := h.1 q1
    refine zr_vret zSm 34 rfl rfl ?_
    exact h
  · have h := h.2 q1
    refine zr_aload_n zSm 12 rfl rfl ?_
    refine zr_getR zSm 13 rfl zf_11_17 rfl rfl (by decide) ?_
    refine zr_aload_n zSm 14 rfl rfl ?_
    refine zr_getI zSm 15 rfl zf_11_170 rfl rfl (by decide) ?_
    obtain ⟨b16, h⟩ := h
    refine zr_iald zSm 16 rfl rfl b16 ?_
    refine zr_bipush zSm 17 106 rfl rfl ?_
    refine zr_s zSm 18 rfl rfl ?_
    refine zr_istore_n zSm 19 (ll' := [(1, .int ((I 31 ((I 28 24).toNatClampNeg)) - 106)), (0, .ref 28)]) rfl (by decide) rfl ?_
    refine zr_aload_n zSm 20 rfl rfl ?_
    refine zr_s zSm 21 rfl rfl ?_
    refine zr_getI zSm 22 rfl zf_11_170 rfl rfl (by decide) ?_
    refine zr_s zSm 23 rfl rfl ?_
    refine zr_s zSm 24 rfl rfl ?_
    refine zr_putI zSm 25 rfl zf_11_170 rfl rfl (by decide) zp_11_24 ?_
    refine zr_aload_n zSm 26 rfl rfl ?_
    obtain ⟨c1, s1, g1, f1, h⟩ := h
    refine zr_inv zSm 27 162 0 c1 s1 [] rfl rfl zk_11_215 zms_162 rfl ⟨_, _, _, _, rfl, rfl⟩ (Nat.le_of_ble_eq_true rfl) g1 f1 ?_
    refine zcv h (fun I1 J1 D1 h => ?_)
    refine zr_aload_n zSm 28 rfl rfl ?_
    refine zr_sipush zSm 29 410 rfl rfl ?_
    refine zr_iload_n zSm 30 rfl rfl ?_
    refine zr_s zSm 31 rfl rfl ?_
    refine zr_inv0 32 155 1 [.int (410 + ((I 31 ((I 28 24).toNatClampNeg)) - 106))] rfl rfl zk_11_198 zms_155 rfl ⟨_, _, _, _, rfl, rfl⟩ (Nat.le_of_ble_eq_true rfl) ?_
    refine zcv h (fun I2 J2 D2 h => ?_)
    refine zr_goto zSm 33 4 rfl rfl ?_
    refine zr_sub [1] rfl ?_
    exact h
theorem w_162 {RO : zRo} {d : Nat} {P : zP} {I : zI} {J : zJ} {D : zD} {bc bs : Nat}  (h : (zo_148 I J 201 ∧ (((zv_148 I J 201) = 0 → (zo_148 I J 21 ∧ ((¬ (zv_148 I J 21) = 0 → (zo_148 I J 21 ∧ (∃ c1 s1, c1 ≤ bc ∧ s1 ≤ bs ∧ zz RO (d + 1) 164 [.ref 28] I J D c1 s1 (zNi P fun v1 I1 J1 D1 => (zz RO (d + 1) 154 [.ref 28, .int 401, .int v1, .int 0] I1 J1 D1 0 0 (zNi P fun v2 I2 J2 D2 => P (.inl none) I2 J2 D2)))))) ∧ (¬ (¬ (zv_148 I J 21) = 0) → (zo_148 I J 22 ∧ ((¬ (zv_148 I J 22) = 0 → (zo_148 I J 21 ∧ (zo_148 I J 22 ∧ (∃ c3 s3, c3 ≤ bc ∧ s3 ≤ bs ∧ zz RO (d + 1) 164 [.ref 28] I J D c3 s3 (zNi P fun v3 I3 J3 D3 => (zz RO (d + 1) 154 [.ref 28, .int 402, .int v3, .int 0] I3 J3 D3 0 0 (zNi P fun v4 I4 J4 D4 => P (.inl none) I4 J4 D4))))))) ∧ (¬ (¬ (zv_148 I J 22) = 0) → (zo_148 I J 200 ∧ (((zv_148 I J 200) = 0 → (vp_in (I 28 24) 452 ∧ (((zv_136 I J ((I 31 ((I 28 24).toNatClampNeg)).toInt64) 24 28) = 0 → (zo_148 I J 100 ∧ (((zv_148 I J 100) = 0 → (zo_148 I J 107 ∧ ((¬ (zv_148 I J 107) = 0 → (zo_148 I J 107 ∧ (vp_in (I 28 24) 452 ∧ (∃ c5 s5, c5 ≤ bc ∧ s5 ≤ bs ∧ zz RO (d + 1) 150 [.ref 28, .int 1, .int 6, .int (I 32 ((I 28 24).toNatClampNeg))] I J D c5 s5 (zNv P fun I5 J5 D5 => (∃ c6 s6, c6 ≤ (bc - c5) ∧ s6 ≤ (bs - s5) ∧ zz RO (d + 1) 153 [.ref 28] I5 J5 D5 c6 s6 (zNv P fun I6 J6 D6 => (∃ c7 s7, c7 ≤ ((bc - c5) - c6) ∧ s7 ≤ ((bs - s5) - s6) ∧ zz RO (d + 1) 162 [.ref 28] I6 J6 D6 c7 s7 (zNv P fun I7 J7 D7 => (zz RO (d + 1) 155 [.ref 28, .int 441] (zu I7 28 27 ((I7 28 27) - 1)) J7 D7 0 0 (zNv P fun I8 J8 D8 => P (.inl none) I8 J8 D8))))))))))) ∧ (¬ (¬ (zv_148 I J 107) = 0) → (zo_148 I J 31 ∧ ((¬ (zv_148 I J 31) = 0 → (zo_148 I J 107 ∧ (zo_148 I J 31 ∧ (vp_in (I 28 24) 452 ∧ (∃ c9 s9, c9 ≤ bc ∧ s9 ≤ bs ∧ zz RO (d + 1) 150 [.ref 28, .int 1, .int 6, .int (I 32 ((I 28 24).toNatClampNeg))] I J D c9 s9 (zNv P fun I9 J9 D9 => (∃ c10 s10, c10 ≤ (bc - c9) ∧ s10 ≤ (bs - s9) ∧ zz RO (d + 1) 153 [.ref 28] I9 J9 D9 c10 s10 (zNv P fun I10 J10 D10 => (∃ c11 s11, c11 ≤ ((bc - c9) - c10) ∧ s11 ≤ ((bs - s9) - s10) ∧ zz RO (d + 1) 162 [.ref 28] I10 J10 D10 c11 s11 (zNv P fun I11 J11 D11 => (zz RO (d + 1) 155 [.ref 28, .int 440] (zu I11 28 27 ((I11 28 27) - 1)) J11 D11 0 0 (zNv P fun I12 J12 D12 => P (.inl none) I12 J12 D12)))))))))))) ∧ (¬ (¬ (zv_148 I J 31) = 0) → (zo_148 I J 23 ∧ (((zv_148 I J 23) = 0 → ((1 ≤ bc ∧ 8 ≤ bs) ∧ vp_in (I 28 24) 452 ∧ P (.inr (3, 1, I 32 ((I 28 24).toNatClampNeg))) I J D)) ∧ (¬ ((zv_148 I J 23) = 0) → (zo_148 I J 107 ∧ (zo_148 I J 31 ∧ (((I 28 26) = 0 → (vp_in (I 28 24) 452 ∧ (∃ c13 s13, c13 ≤ bc ∧ s13 ≤ bs ∧ zz RO (d + 1) 150 [.ref 28, .int 0, .int 6, .int (I 32 ((I 28 24).toNatClampNeg))] I J D c13 s13 (zNv P fun I13 J13 D13 => (∃ c14 s14, c14 ≤ (bc - c13) ∧ s14 ≤ (bs - s13) ∧ zz RO (d + 1) 153 [.ref 28] I13 J13 D13 c14 s14 (zNv P fun I14 J14 D14 => (∃ c15 s15, c15 ≤ ((bc - c13) - c14) ∧ s15 ≤ ((bs - s13) - s14) ∧ zz RO (d + 1) 162 [.ref 28] I14 J14 D14 c15 s15 (zNv P fun I15 J15 D15 => (zz RO (d + 1) 155 [.ref 28, .int 442] (zu I15 28 27 ((I15 28 27) - 1)) J15 D15 0 0 (zNv P fun I16 J16 D16 => P (.inl none) I16 J16 D16)))))))))) ∧ (¬ ((I 28 26) = 0) → (vp_in (I 28 24) 452 ∧ (∃ c17 s17, c17 ≤ bc ∧ s17 ≤ bs ∧ zz RO (d + 1) 150 [.ref 28, .int 1, .int 6, .int (I 32 ((I 28 24).toNatClampNeg))] I J D c17 s17 (zNv P fun I17 J17 D17 => (∃ c18 s18, c18 ≤ (bc - c17) ∧ s18 ≤ (bs - s17) ∧ zz RO (d + 1) 153 [.ref 28] I17 J17 D17 c18 s18 (zNv P fun I18 J18 D18 => (∃ c19 s19, c19 ≤ ((bc - c17) - c18) ∧ s19 ≤ ((bs - s17) - s18) ∧ zz RO (d + 1) 162 [.ref 28] I18 J18 D18 c19 s19 (zNv P fun I19 J19 D19 => (zz RO (d + 1) 155 [.ref 28, .int 442] (zu I19 28 27 ((I19 28 27) - 1)) J19 D19 0 0 (zNv P fun I20 J20 D20 => P (.inl none) I20 J20 D20))))))))))))))))))))))) ∧ (¬ ((zv_148 I J 100) = 0) → (∃ c21 s21, c21 ≤ bc ∧ s21 ≤ bs ∧ zz RO (d + 1) 153 [.ref 28] I J D c21 s21 (zNv P fun I21 J21 D21 => (∃ c22 s22, c22 ≤ (bc - c21) ∧ s22 ≤ (bs - s21) ∧ zz RO (d + 1) 157 [.ref 28] I21 J21 D21 c22 s22 (zNv P fun I22 J22 D22 => (∃ c23 s23, c23 ≤ ((bc - c21) - c22) ∧ s23 ≤ ((bs - s21) - s22) ∧ zz RO (d + 1) 151 [.ref 28, .int 101] I22 J22 D22 c23 s23 (zNv P fun I23 J23 D23 => P (.inl none) (zu I23 28 27 ((I23 28 27) - 1)) J23 D23)))))))))) ∧ (¬ ((zv_136 I J ((I 31 ((I 28 24).toNatClampNeg)).toInt64) 24 28) = 0) → (vp_in (I 28 24) 452 ∧ (zz RO (d + 1) 154 [.ref 28, .int 404, .int ((I 31 ((I 28 24).toNatClampNeg)) - 24), .int 0] I J D 0 0 (zNi P fun v24 I24 J24 D24 => P (.inl none) (zu I24 28 24 ((I24 28 24) + 1)) J24 D24))))))) ∧ (¬ ((zv_148 I J 200) = 0) → (zo_148 I J 21 ∧ (zo_148 I J 22 ∧ (∃ c25 s25, c25 ≤ bc ∧ s25 ≤ bs ∧ zz RO (d + 1) 164 [.ref 28] I J D c25 s25 (zNi P fun v25 I25 J25 D25 => (zz RO (d + 1) 154 [.ref 28, .int 403, .int v25, .int 0] I25 J25 D25 0 0 (zNi P fun v26 I26 J26 D26 => P (.inl none) I26 J26 D26)))))))))))))))) ∧ (¬ ((zv_148 I J 201) = 0) → (vp_in (I 28 24) 452 ∧ (zz RO (d + 1) 154 [.ref 28, .int 400, .int ((J 33 ((I 28 24).toNatClampNeg)).toInt32), .int 0] I J D 0 0 (zNi P fun v27 I27 J27 D27 => P (.inl none) (zu I27 28 24 ((I27 28 24) + 1)) J27 D27))))))) : zz RO (d + 2) 162 [.ref 28] I J D bc bs P := by
  refine zT_of (Nat.le_of_ble_eq_true rfl) rfl ?_
  show zw RO (d + 1) 162 P 0 [(0, .ref 28)] [] I J D bc bs
  refine zr_aload_n zSm 0 rfl rfl ?_
  refine zr_sipush zSm 1 201 rfl rfl ?_
  obtain ⟨b2, h⟩ := h
  refine zr_inv0 2 148 1 [.int 201] rfl rfl zk_11_181 zms_148 rfl ⟨_, _, _, _, rfl, rfl⟩ (Nat.le_of_ble_eq_true rfl) ?_
  refine ze_148 b2 ?_
  refine zNx_i ?_
  refine zr_if zSm 3 42 rfl rfl (fun q1 => ?_) (fun q1 => ?_)
  · have h := h.1 q1
    refine zr_aload_n zSm 22 rfl rfl ?_
    refine zr_bipush zSm 23 21 rfl rfl ?_
    obtain ⟨b24, h⟩ := h
    refine zr_inv0 24 148 1 [.int 21] rfl rfl zk_11_181 zms_148 rfl ⟨_, _, _, _, rfl, rfl⟩ (Nat.le_of_ble_eq_true rfl) ?_
    refine ze_148 b24 ?_
    refine zNx_i ?_
    refine zr_if zSm 25 70 rfl rfl (fun q2 => ?_) (fun q2 => ?_)
    · have h := h.1 q2
      refine zr_aload_n zSm 34 rfl rfl ?_
      refine zr_bipush zSm 35 21 rfl rfl ?_
      obtain ⟨b36, h⟩ := h
      refine zr_inv0 36 148 1 [.int 21] rfl rfl zk_11_181 zms_148 rfl ⟨_, _, _, _, rfl, rfl⟩ (Nat.le_of_ble_eq_true rfl) ?_
      refine ze_148 b36 ?_
      refine zNx_i ?_
      refine zr_if zSm 37 85 rfl rfl (fun q3 => ?_) (fun q3 => ?_)
      · first | exact absurd q3 q2 | exact absurd q2 q3 | exact absurd (Int32.not_lt.mp q3) q2 | exact absurd (Int32.not_lt.mp q2) q3 | exact absurd (Int32.not_le.mp q3) q2 | exact absurd (Int32.not_le.mp q2) q3 | exact absurd q3 (Int32.not_lt.mpr q2) | exact absurd q2 (Int32.not_lt.mpr q3) | exact absurd q3 (Int32.not_le.mpr q2) | exact absurd q2 (Int32.not_le.mpr q3)
      · refine zr_sipush zSm 38 401 rfl rfl ?_
        refine zr_goto zSm 39 103 rfl rfl ?_
        refine zr_istore_n zSm 47 (ll' := [(1, .int 401), (0, .ref 28)]) rfl (by decide) rfl ?_
        refine zr_aload_n zSm 48 rfl rfl ?_
        refine zr_iload_n zSm 49 rfl rfl ?_
        refine zr_aload_n zSm 50 rfl rfl ?_
        obtain ⟨c1, s1, g1, f1, h⟩ := h
        refine zr_inv zSm 51 164 0 c1 s1 [] rfl rfl zk_11_222 zms_164 rfl ⟨_, _, _, _, rfl, rfl⟩ (Nat.le_of_ble_eq_true rfl) g1 f1 ?_
        refine zci h (fun v1 I1 J1 D1 h => ?_)
        refine zr_s zSm 52 rfl rfl ?_
        refine zr_inv0 53 154 3 [.int 401, .int v1, .int 0] rfl rfl zk_11_191 zms_154 rfl ⟨_, _, _, _, rfl, rfl⟩ (Nat.le_of_ble_eq_true rfl) ?_
        refine zci h (fun v2 I2 J2 D2 h => ?_)
        refine zr_s zSm 54 rfl rfl ?_
        refine zr_goto zSm 55 336 rfl rfl ?_
        refine zr_vret zSm 163 rfl rfl ?_
        exact h
    · have h := h.2 q2
      refine zr_aload_n zSm 26 rfl rfl ?_
      refine zr_bipush zSm 27 22 rfl rfl ?_
      obtain ⟨b28, h⟩ := h
      refine zr_inv0 28 148 1 [.int 22] rfl rfl zk_11_181 zms_148 rfl ⟨_, _, _, _, rfl, rfl⟩ (Nat.le_of_ble_eq_true rfl) ?_
      refine ze_148 b28 ?_
      refine zNx_i ?_
      refine zr_if zSm 29 70 rfl rfl (fun q4 => ?_) (fun q4 => ?_)
      · have h := h.1 q4
        refine zr_aload_n zSm 34 rfl rfl ?_
        refine zr_bipush zSm 35 21 rfl rfl ?_
        obtain ⟨b36, h⟩ := h
        refine zr_inv0 36 148 1 [.int 21] rfl rfl zk_11_181 zms_148 rfl ⟨_, _, _, _, rfl, rfl⟩ (Nat.le_of_ble_eq_true rfl) ?_
        refine ze_148 b36 ?_
        refine zNx_i ?_
        refine zr_if zSm 37 85 rfl rfl (fun q5 => ?_) (fun q5 => ?_)
        · refine zr_aload_n zSm 40 rfl rfl ?_
          refine zr_bipush zSm 41 22 rfl rfl ?_
          obtain ⟨b42, h⟩ := h
          refine zr_inv0 42 148 1 [.int 22] rfl rfl zk_11_181 zms_148 rfl ⟨_, _, _, _, rfl, rfl⟩ (Nat.le_of_ble_eq_true rfl) ?_
          refine ze_148 b42 ?_
          refine zNx_i ?_
          refine zr_if zSm 43 100 rfl rfl (fun q6 => ?_) (fun q6 => ?_)
          · first | exact absurd q6 q4 | exact absurd q4 q6 | exact absurd (Int32.not_lt.mp q6) q4 | exact absurd (Int32.not_lt.mp q4) q6 | exact absurd (Int32.not_le.mp q6) q4 | exact absurd (Int32.not_le.mp q4) q6 | exact absurd q6 (Int32.not_lt.mpr q4) | exact absurd q4 (Int32.not_lt.mpr q6) | exact absurd q6 (Int32.not_le.mpr q4) | exact absurd q4 (Int32.not_le.mpr q6)
          · refine zr_sipush zSm 44 402 rfl rfl ?_
            refine zr_goto zSm 45 103 rfl rfl ?_
            refine zr_istore_n zSm 47 (ll' := [(1, .int 402), (0, .ref 28)]) rfl (by decide) rfl ?_
            refine zr_aload_n zSm 48 rfl rfl ?_
            refine zr_iload_n zSm 49 rfl rfl ?_
            refine zr_aload_n zSm 50 rfl rfl ?_
            obtain ⟨c3, s3, g3, f3, h⟩ := h
            refine zr_inv zSm 51 164 0 c3 s3 [] rfl rfl zk_11_222 zms_164 rfl ⟨_, _, _, _, rfl, rfl⟩ (Nat.le_of_ble_eq_true rfl) g3 f3 ?_
            refine zci h (fun v3 I3 J3 D3 h => ?_)
            refine zr_s zSm 52 rfl rfl ?_
            refine zr_inv0 53 154 3 [.int 402, .int v3, .int 0] rfl rfl zk_11_191 zms_154 rfl ⟨_, _, _, _, rfl, rfl⟩ (Nat.le_of_ble_eq_true rfl) ?_
            refine zci h (fun v4 I4 J4 D4 h => ?_)
            refine zr_s zSm 54 rfl rfl ?_
            refine zr_goto zSm 55 336 rfl rfl ?_
            refine zr_vret zSm 163 rfl rfl ?_
            exact h
        · first | exact absurd q5 q2 | exact absurd q2 q5 | exact absurd (Int32.not_lt.mp q5) q2 | exact absurd (Int32.not_lt.mp q2) q5 | exact absurd (Int32.not_le.mp q5) q2 | exact absurd (Int32.not_le.mp q2) q5 | exact absurd q5 (Int32.not_lt.mpr q2) | exact absurd q2 (Int32.not_lt.mpr q5) | exact absurd q5 (Int32.not_le.mpr q2) | exact absurd q2 (Int32.not_le.mpr q5)
      · have h := h.2 q4
        refine zr_aload_n zSm 30 rfl rfl ?_
        refine zr_sipush zSm 31 200 rfl rfl ?_
        obtain ⟨b32, h⟩ := h
        refine zr_inv0 32 148 1 [.int 200] rfl rfl zk_11_181 zms_148 rfl ⟨_, _, _, _, rfl, rfl⟩ (Nat.le_of_ble_eq_true rfl) ?_
        refine ze_148 b32 ?_
        refine zNx_i ?_
        refine zr_if zSm 33 118 rfl rfl (fun q7 => ?_) (fun q7 => ?_)
        · have h := h.1 q7
          refine zr_aload_n zSm 56 rfl rfl ?_
          refine zr_getR zSm 57 rfl zf_11_17 rfl rfl (by decide) ?_
          refine zr_aload_n zSm 58 rfl rfl ?_
          refine zr_getI zSm 59 rfl zf_11_170 rfl rfl (by decide) ?_
          obtain ⟨b60, h⟩ := h
          refine zr_iald zSm 60 rfl rfl b60 ?_
          refine zr_s zSm 61 rfl rfl ?_
          refine zr_ldc2 zSm 62 rfl zc_11_226 ?_
          refine zr_ldc2 zSm 63 rfl zc_11_228 ?_
          refine zr_ins0 64 136 3 [.long ((I 31 ((I 28 24).toNatClampNeg)).toInt64), .long 24, .long 28] rfl rfl zk_11_110 zms_136 rfl (Nat.le_of_ble_eq_true rfl) ?_
          refine ze_136 ?_
          refine zNx_i ?_
          refine zr_if zSm 65 174 rfl rfl (fun q8 => ?_) (fun q8 => ?_)
          · have h := h.1 q8
            refine zr_aload_n zSm 85 rfl rfl ?_
            refine zr_bipush zSm 86 100 rfl rfl ?_
            obtain ⟨b87, h⟩ := h
            refine zr_inv0 87 148 1 [.int 100] rfl rfl zk_11_181 zms_148 rfl ⟨_, _, _, _, rfl, rfl⟩ (Nat.le_of_ble_eq_true rfl) ?_
            refine ze_148 b87 ?_
            refine zNx_i ?_
            refine zr_if zSm 88 210 rfl rfl (fun q9 => ?_) (fun q9 => ?_)
            · have h := h.1 q9
              refine zr_aload_n zSm 103 rfl rfl ?_
              refine zr_bipush zSm 104 107 rfl rfl ?_
              obtain ⟨b105, h⟩ := h
              refine zr_inv0 105 148 1 [.int 107] rfl rfl zk_11_181 zms_148 rfl ⟨_, _, _, _, rfl, rfl⟩ (Nat.le_of_ble_eq_true rfl) ?_
              refine ze_148 b105 ?_
              refine zNx_i ?_
              refine zr_if zSm 106 237 rfl rfl (fun q10 => ?_) (fun q10 => ?_)
              · have h := h.1 q10
                refine zr_aload_n zSm 115 rfl rfl ?_
                refine zr_bipush zSm 116 107 rfl rfl ?_
                obtain ⟨b117, h⟩ := h
                refine zr_inv0 117 148 1 [.int 107] rfl rfl zk_11_181 zms_148 rfl ⟨_, _, _, _, rfl, rfl⟩ (Nat.le_of_ble_eq_true rfl) ?_
                refine ze_148 b117 ?_
                refine zNx_i ?_
                refine zr_if zSm 118 252 rfl rfl (fun q11 => ?_) (fun q11 => ?_)
                · first | exact absurd q11 q10 | exact absurd q10 q11 | exact absurd (Int32.not_lt.mp q11) q10 | exact absurd (Int32.not_lt.mp q10) q11 | exact absurd (Int32.not_le.mp q11) q10 | exact absurd (Int32.not_le.mp q10) q11 | exact absurd q11 (Int32.not_lt.mpr q10) | exact absurd q10 (Int32.not_lt.mpr q11) | exact absurd q11 (Int32.not_le.mpr q10) | exact absurd q10 (Int32.not_le.mpr q11)
                · refine zr_sipush zSm 119 441 rfl rfl ?_
                  refine zr_goto zSm 120 270 rfl rfl ?_
                  refine zr_istore_n zSm 128 (ll' := [(1, .int 441), (0, .ref 28)]) rfl (by decide) rfl ?_
                  refine zr_aload_n zSm 129 rfl rfl ?_
                  refine zr_iload_n zSm 130 rfl rfl ?_
                  refine zr_sipush zSm 131 442 rfl rfl ?_
                  refine zr_ic zSm 132 286 rfl rfl (fun q12 => ?_) (fun q12 => ?_)
                  · refine zr_s zSm 136 rfl rfl ?_
                    refine zr_goto zSm 137 291 rfl rfl ?_
                    refine zr_bipush zSm 139 6 rfl rfl ?_
                    refine zr_aload_n zSm 140 rfl rfl ?_
                    refine zr_getR zSm 141 rfl zf_11_20 rfl rfl (by decide) ?_
                    refine zr_aload_n zSm 142 rfl rfl ?_
                    refine zr_getI zSm 143 rfl zf_11_170 rfl rfl (by decide) ?_
                    obtain ⟨b144, h⟩ := h
                    refine zr_iald zSm 144 rfl rfl b144 ?_
                    obtain ⟨c5, s5, g5, f5, h⟩ := h
                    refine zr_inv zSm 145 150 3 c5 s5 [.int 1, .int 6, .int (I 32 ((I 28 24).toNatClampNeg))] rfl rfl zk_11_239 zms_150 rfl ⟨_, _, _, _, rfl, rfl⟩ (Nat.le_of_ble_eq_true rfl) g5 f5 ?_
                    refine zcv h (fun I5 J5 D5 h => ?_)
                    refine zr_aload_n zSm 146 rfl rfl ?_
                    obtain ⟨c6, s6, g6, f6, h⟩ := h
                    refine zr_inv zSm 147 153 0 c6 s6 [] rfl rfl zk_11_230 zms_153 rfl ⟨_, _, _, _, rfl, rfl⟩ (Nat.le_of_ble_eq_true rfl) g6 f6 ?_
                    refine zcv h (fun I6 J6 D6 h => ?_)
                    refine zr_aload_n zSm 148 rfl rfl ?_
                    obtain ⟨c7, s7, g7, f7, h⟩ := h
                    refine zr_inv zSm 149 162 0 c7 s7 [] rfl rfl zk_11_215 zms_162 rfl ⟨_, _, _, _, rfl, rfl⟩ (Nat.le_of_ble_eq_true rfl) g7 f7 ?_
                    refine zcv h (fun I7 J7 D7 h => ?_)
                    refine zr_aload_n zSm 150 rfl rfl ?_
                    refine zr_s zSm 151 rfl rfl ?_
                    refine zr_getI zSm 152 rfl zf_11_188 rfl rfl (by decide) ?_
                    refine zr_s zSm 153 rfl rfl ?_
                    refine zr_s zSm 154 rfl rfl ?_
                    refine zr_putI zSm 155 rfl zf_11_188 rfl rfl (by decide) zp_11_27 ?_
                    refine zr_aload_n zSm 156 rfl rfl ?_
                    refine zr_iload_n zSm 157 rfl rfl ?_
                    refine zr_inv0 158 155 1 [.int 441] rfl rfl zk_11_198 zms_155 rfl ⟨_, _, _, _, rfl, rfl⟩ (Nat.le_of_ble_eq_true rfl) ?_
                    refine zcv h (fun I8 J8 D8 h => ?_)
                    refine zr_goto zSm 159 336 rfl rfl ?_
                    refine zr_vret zSm 163 rfl rfl ?_
                    exact h
                  · exact absurd q12 (by show ¬ ¬ (¬ ((441 : Int32) = 442)); decide)
              · have h := h.2 q10
                refine zr_aload_n zSm 107 rfl rfl ?_
                refine zr_bipush zSm 108 31 rfl rfl ?_
                obtain ⟨b109, h⟩ := h
                refine zr_inv0 109 148 1 [.int 31] rfl rfl zk_11_181 zms_148 rfl ⟨_, _, _, _, rfl, rfl⟩ (Nat.le_of_ble_eq_true rfl) ?_
                refine ze_148 b109 ?_
                refine zNx_i ?_
                refine zr_if zSm 110 237 rfl rfl (fun q13 => ?_) (fun q13 => ?_)
                · have h := h.1 q13
                  refine zr_aload_n zSm 115 rfl rfl ?_
                  refine zr_bipush zSm 116 107 rfl rfl ?_
                  obtain ⟨b117, h⟩ := h
                  refine zr_inv0 117 148 1 [.int 107] rfl rfl zk_11_181 zms_148 rfl ⟨_, _, _, _, rfl, rfl⟩ (Nat.le_of_ble_eq_true rfl) ?_
                  refine ze_148 b117 ?_
                  refine zNx_i ?_
                  refine zr_if zSm 118 252 rfl rfl (fun q14 => ?_) (fun q14 => ?_)
                  · refine zr_aload_n zSm 121 rfl rfl ?_
                    refine zr_bipush zSm 122 31 rfl rfl ?_
                    obtain ⟨b123, h⟩ := h
                    refine zr_inv0 123 148 1 [.int 31] rfl rfl zk_11_181 zms_148 rfl ⟨_, _, _, _, rfl, rfl⟩ (Nat.le_of_ble_eq_true rfl) ?_
                    refine ze_148 b123 ?_
                    refine zNx_i ?_
                    refine zr_if zSm 124 267 rfl rfl (fun q15 => ?_) (fun q15 => ?_)
                    · first | exact absurd q15 q13 | exact absurd q13 q15 | exact absurd (Int32.not_lt.mp q15) q13 | exact absurd (Int32.not_lt.mp q13) q15 | exact absurd (Int32.not_le.mp q15) q13 | exact absurd (Int32.not_le.mp q13) q15 | exact absurd q15 (Int32.not_lt.mpr q13) | exact absurd q13 (Int32.not_lt.mpr q15) | exact absurd q15 (Int32.not_le.mpr q13) | exact absurd q13 (Int32.not_le.mpr q15)
                    · refine zr_sipush zSm 125 440 rfl rfl ?_
                      refine zr_goto zSm 126 270 rfl rfl ?_
                      refine zr_istore_n zSm 128 (ll' := [(1, .int 440), (0, .ref 28)]) rfl (by decide) rfl ?_
                      refine zr_aload_n zSm 129 rfl rfl ?_
                      refine zr_iload_n zSm 130 rfl rfl ?_
                      refine zr_sipush zSm 131 442 rfl rfl ?_
                      refine zr_ic zSm 132 286 rfl rfl (fun q16 => ?_) (fun q16 => ?_)
                      · refine zr_s zSm 136 rfl rfl ?_
                        refine zr_goto zSm 137 291 rfl rfl ?_
                        refine zr_bipush zSm 139 6 rfl rfl ?_
                        refine zr_aload_n zSm 140 rfl rfl ?_
                        refine zr_getR zSm 141 rfl zf_11_20 rfl rfl (by decide) ?_
                        refine zr_aload_n zSm 142 rfl rfl ?_
                        refine zr_getI zSm 143 rfl zf_11_170 rfl rfl (by decide) ?_
                        obtain ⟨b144, h⟩ := h
                        refine zr_iald zSm 144 rfl rfl b144 ?_
                        obtain ⟨c9, s9, g9, f9, h⟩ := h
                        refine zr_inv zSm 145 150 3 c9 s9 [.int 1, .int 6, .int (I 32 ((I 28 24).toNatClampNeg))] rfl rfl zk_11_239 zms_150 rfl ⟨_, _, _, _, rfl, rfl⟩ (Nat.le_of_ble_eq_true rfl) g9 f9 ?_
                        refine zcv h (fun I9 J9 D9 h => ?_)
                        refine zr_aload_n zSm 146 rfl rfl ?_
                        obtain ⟨c10, s10, g10, f10, h⟩ := h
                        refine zr_inv zSm 147 153 0 c10 s10 [] rfl rfl zk_11_230 zms_153 rfl ⟨_, _, _, _, rfl, rfl⟩ (Nat.le_of_ble_eq_true rfl) g10 f10 ?_
                        refine zcv h (fun I10 J10 D10 h => ?_)
                        refine zr_aload_n zSm 148 rfl rfl ?_
                        obtain ⟨c11, s11, g11, f11, h⟩ := h
                        refine zr_inv zSm 149 162 0 c11 s11 [] rfl rfl zk_11_215 zms_162 rfl ⟨_, _, _, _, rfl, rfl⟩ (Nat.le_of_ble_eq_true rfl) g11 f11 ?_
                        refine zcv h (fun I11 J11 D11 h => ?_)
                        refine zr_aload_n zSm 150 rfl rfl ?_
                        refine zr_s zSm 151 rfl rfl ?_
                        refine zr_getI zSm 152 rfl zf_11_188 rfl rfl (by decide) ?_
                        refine zr_s zSm 153 rfl rfl ?_
                        refine zr_s zSm 154 rfl rfl ?_
                        refine zr_putI zSm 155 rfl zf_11_188 rfl rfl (by decide) zp_11_27 ?_
                        refine zr_aload_n zSm 156 rfl rfl ?_
                        refine zr_iload_n zSm 157 rfl rfl ?_
                        refine zr_inv0 158 155 1 [.int 440] rfl rfl zk_11_198 zms_155 rfl ⟨_, _, _, _, rfl, rfl⟩ (Nat.le_of_ble_eq_true rfl) ?_
                        refine zcv h (fun I12 J12 D12 h => ?_)
                        refine zr_goto zSm 159 336 rfl rfl ?_
                        refine zr_vret zSm 163 rfl rfl ?_
                        exact h
                      · exact absurd q16 (by show ¬ ¬ (¬ ((440 : Int32) = 442)); decide)
                  · first | exact absurd q14 q10 | exact absurd q10 q14 | exact absurd (Int32.not_lt.mp q14) q10 | exact absurd (Int32.not_lt.mp q10) q14 | exact absurd (Int32.not_le.mp q14) q10 | exact absurd (Int32.not_le.mp q10) q14 | exact absurd q14 (Int32.not_lt.mpr q10) | exact absurd q10 (Int32.not_lt.mpr q14) | exact absurd q14 (Int32.not_le.mpr q10) | exact absurd q10 (Int32.not_le.mpr q14)
                · have h := h.2 q13
                  refine zr_aload_n zSm 111 rfl rfl ?_
                  refine zr_bipush zSm 112 23 rfl rfl ?_
                  obtain ⟨b113, h⟩ := h
                  refine zr_inv0 113 148 1 [.int 23] rfl rfl zk_11_181 zms_148 rfl ⟨_, _, _, _, rfl, rfl⟩ (Nat.le_of_ble_eq_true rfl) ?_
                  refine ze_148 b113 ?_
                  refine zNx_i ?_
                  refine zr_if zSm 114 331 rfl rfl (fun q17 => ?_) (fun q17 => ?_)
                  · have h := h.1 q17
                    refine zr_wrong 184 ⟨List.mem_of_getElem? (i := 160) rfl, List.mem_of_getElem? (i := 161) rfl, zk_11_184, List.mem_of_getElem? (i := 162) rfl⟩ rfl rfl (by decide) rfl h.1 h.2.1 ?_
                    exact h.2.2
                  · have h := h.2 q17
                    refine zr_aload_n zSm 115 rfl rfl ?_
                    refine zr_bipush zSm 116 107 rfl rfl ?_
                    obtain ⟨b117, h⟩ := h
                    refine zr_inv0 117 148 1 [.int 107] rfl rfl zk_11_181 zms_148 rfl ⟨_, _, _, _, rfl, rfl⟩ (Nat.le_of_ble_eq_true rfl) ?_
                    refine ze_148 b117 ?_
                    refine zNx_i ?_
                    refine zr_if zSm 118 252 rfl rfl (fun q18 => ?_) (fun q18 => ?_)
                    · refine zr_aload_n zSm 121 rfl rfl ?_
                      refine zr_bipush zSm 122 31 rfl rfl ?_
                      obtain ⟨b123, h⟩ := h
                      refine zr_inv0 123 148 1 [.int 31] rfl rfl zk_11_181 zms_148 rfl ⟨_, _, _, _, rfl, rfl⟩ (Nat.le_of_ble_eq_true rfl) ?_
                      refine ze_148 b123 ?_
                      refine zNx_i ?_
                      refine zr_if zSm 124 267 rfl rfl (fun q19 => ?_) (fun q19 => ?_)
                      · refine zr_sipush zSm 127 442 rfl rfl ?_
                        refine zr_istore_n zSm 128 (ll' := [(1, .int 442), (0, .ref 28)]) rfl (by decide) rfl ?_
                        refine zr_aload_n zSm 129 rfl rfl ?_
                        refine zr_iload_n zSm 130 rfl rfl ?_
                        refine zr_sipush zSm 131 442 rfl rfl ?_
                        refine zr_ic zSm 132 286 rfl rfl (fun q20 => ?_) (fun q20 => ?_)
                        · exact absurd q20 (by show ¬ (¬ ((442 : Int32) = 442)); decide)
                        · refine zr_aload_n zSm 133 rfl rfl ?_
                          refine zr_getZ zSm 134 rfl zf_11_236 rfl rfl (by decide) ?_
                          refine zr_if zSm 135 290 rfl rfl (fun q21 => ?_) (fun q21 => ?_)
                          · have h := h.1 q21
                            refine zr_s zSm 138 rfl rfl ?_
                            refine zr_bipush zSm 139 6 rfl rfl ?_
                            refine zr_aload_n zSm 140 rfl rfl ?_
                            refine zr_getR zSm 141 rfl zf_11_20 rfl rfl (by decide) ?_
                            refine zr_aload_n zSm 142 rfl rfl ?_
                            refine zr_getI zSm 143 rfl zf_11_170 rfl rfl (by decide) ?_
                            obtain ⟨b144, h⟩ := h
                            refine zr_iald zSm 144 rfl rfl b144 ?_
                            obtain ⟨c13, s13, g13, f13, h⟩ := h
                            refine zr_inv zSm 145 150 3 c13 s13 [.int 0, .int 6, .int (I 32 ((I 28 24).toNatClampNeg))] rfl rfl zk_11_239 zms_150 rfl ⟨_, _, _, _, rfl, rfl⟩ (Nat.le_of_ble_eq_true rfl) g13 f13 ?_
                            refine zcv h (fun I13 J13 D13 h => ?_)
                            refine zr_aload_n zSm 146 rfl rfl ?_
                            obtain ⟨c14, s14, g14, f14, h⟩ := h
                            refine zr_inv zSm 147 153 0 c14 s14 [] rfl rfl zk_11_230 zms_153 rfl ⟨_, _, _, _, rfl, rfl⟩ (Nat.le_of_ble_eq_true rfl) g14 f14 ?_
                            refine zcv h (fun I14 J14 D14 h => ?_)
                            refine zr_aload_n zSm 148 rfl rfl ?_
                            obtain ⟨c15, s15, g15, f15, h⟩ := h
                            refine zr_inv zSm 149 162 0 c15 s15 [] rfl rfl zk_11_215 zms_162 rfl ⟨_, _, _, _, rfl, rfl⟩ (Nat.le_of_ble_eq_true rfl) g15 f15 ?_
                            refine zcv h (fun I15 J15 D15 h => ?_)
                            refine zr_aload_n zSm 150 rfl rfl ?_
                            refine zr_s zSm 151 rfl rfl ?_
                            refine zr_getI zSm 152 rfl zf_11_188 rfl rfl (by decide) ?_
                            refine zr_s zSm 153 rfl rfl ?_
                            refine zr_s zSm 154 rfl rfl ?_
                            refine zr_putI zSm 155 rfl zf_11_188 rfl rfl (by decide) zp_11_27 ?_
                            refine zr_aload_n zSm 156 rfl rfl ?_
                            refine zr_iload_n zSm 157 rfl rfl ?_
                            refine zr_inv0 158 155 1 [.int 442] rfl rfl zk_11_198 zms_155 rfl ⟨_, _, _, _, rfl, rfl⟩ (Nat.le_of_ble_eq_true rfl) ?_
                            refine zcv h (fun I16 J16 D16 h => ?_)
                            refine zr_goto zSm 159 336 rfl rfl ?_
                            refine zr_vret zSm 163 rfl rfl ?_
                            exact h
                          · have h := h.2 q21
                            refine zr_s zSm 136 rfl rfl ?_
                            refine zr_goto zSm 137 291 rfl rfl ?_
                            refine zr_bipush zSm 139 6 rfl rfl ?_
                            refine zr_aload_n zSm 140 rfl rfl ?_
                            refine zr_getR zSm 141 rfl zf_11_20 rfl rfl (by decide) ?_
                            refine zr_aload_n zSm 142 rfl rfl ?_
                            refine zr_getI zSm 143 rfl zf_11_170 rfl rfl (by decide) ?_
                            obtain ⟨b144, h⟩ := h
                            refine zr_iald zSm 144 rfl rfl b144 ?_
                            obtain ⟨c17, s17, g17, f17, h⟩ := h
                            refine zr_inv zSm 145 150 3 c17 s17 [.int 1, .int 6, .int (I 32 ((I 28 24).toNatClampNeg))] rfl rfl zk_11_239 zms_150 rfl ⟨_, _, _, _, rfl, rfl⟩ (Nat.le_of_ble_eq_true rfl) g17 f17 ?_
                            refine zcv h (fun I17 J17 D17 h => ?_)
                            refine zr_aload_n zSm 146 rfl rfl ?_
                            obtain ⟨c18, s18, g18, f18, h⟩ := h
                            refine zr_inv zSm 147 153 0 c18 s18 [] rfl rfl zk_11_230 zms_153 rfl ⟨_, _, _, _, rfl, rfl⟩ (Nat.le_of_ble_eq_true rfl) g18 f18 ?_
                            refine zcv h (fun I18 J18 D18 h => ?_)
                            refine zr_aload_n zSm 148 rfl rfl ?_
                            obtain ⟨c19, s19, g19, f19, h⟩ := h
                            refine zr_inv zSm 149 162 0 c19 s19 [] rfl rfl zk_11_215 zms_162 rfl ⟨_, _, _, _, rfl, rfl⟩ (Nat.le_of_ble_eq_true rfl) g19 f19 ?_
                            refine zcv h (fun I19 J19 D19 h => ?_)
                            refine zr_aload_n zSm 150 rfl rfl ?_
                            refine zr_s zSm 151 rfl rfl ?_
                            refine zr_getI zSm 152 rfl zf_11_188 rfl rfl (by decide) ?_
                            refine zr_s zSm 153 rfl rfl ?_
                            refine zr_s zSm 154 rfl rfl ?_
                            refine zr_putI zSm 155 rfl zf_11_188 rfl rfl (by decide) zp_11_27 ?_
                            refine zr_aload_n zSm 156 rfl rfl ?_
                            refine zr_iload_n zSm 157 rfl rfl ?_
                            refine zr_inv0 158 155 1 [.int 442] rfl rfl zk_11_198 zms_155 rfl ⟨_, _, _, _, rfl, rfl⟩ (Nat.le_of_ble_eq_true rfl) ?_
                            refine zcv h (fun I20 J20 D20 h => ?_)
                            refine zr_goto zSm 159 336 rfl rfl ?_
                            refine zr_vret zSm 163 rfl rfl ?_
                            exact h
                      · first | exact absurd q19 q13 | exact absurd q13 q19 | exact absurd (Int32.not_lt.mp q19) q13 | exact absurd (Int32.not_lt.mp q13) q19 | exact absurd (Int32.not_le.mp q19) q13 | exact absurd (Int32.not_le.mp q13) q19 | exact absurd q19 (Int32.not_lt.mpr q13) | exact absurd q13 (Int32.not_lt.mpr q19) | exact absurd q19 (Int32.not_le.mpr q13) | exact absurd q13 (Int32.not_le.mpr q19)
                    · first | exact absurd q18 q10 | exact absurd q10 q18 | exact absurd (Int32.not_lt.mp q18) q10 | exact absurd (Int32.not_lt.mp q10) q18 | exact absurd (Int32.not_le.mp q18) q10 | exact absurd (Int32.not_le.mp q10) q18 | exact absurd q18 (Int32.not_lt.mpr q10) | exact absurd q10 (Int32.not_lt.mpr q18) | exact absurd q18 (Int32.not_le.mpr q10) | exact absurd q10 (Int32.not_le.mpr q18)
            · have h := h.2 q9
              refine zr_aload_n zSm 89 rfl rfl ?_
              obtain ⟨c21, s21, g21, f21, h⟩ := h
              refine zr_inv zSm 90 153 0 c21 s21 [] rfl rfl zk_11_230 zms_153 rfl ⟨_, _, _, _, rfl, rfl⟩ (Nat.le_of_ble_eq_true rfl) g21 f21 ?_
              refine zcv h (fun I21 J21 D21 h => ?_)
              refine zr_aload_n zSm 91 rfl rfl ?_
              obtain ⟨c22, s22, g22, f22, h⟩ := h
              refine zr_inv zSm 92 157 0 c22 s22 [] rfl rfl zk_11_195 zms_157 rfl ⟨_, _, _, _, rfl, rfl⟩ (Nat.le_of_ble_eq_true rfl) g22 f22 ?_
              refine zcv h (fun I22 J22 D22 h => ?_)
              refine zr_aload_n zSm 93 rfl rfl ?_
              refine zr_bipush zSm 94 101 rfl rfl ?_
              obtain ⟨c23, s23, g23, f23, h⟩ := h
              refine zr_inv zSm 95 151 1 c23 s23 [.int 101] rfl rfl zk_11_233 zms_151 rfl ⟨_, _, _, _, rfl, rfl⟩ (Nat.le_of_ble_eq_true rfl) g23 f23 ?_
              refine zcv h (fun I23 J23 D23 h => ?_)
              refine zr_aload_n zSm 96 rfl rfl ?_
              refine zr_s zSm 97 rfl rfl ?_
              refine zr_getI zSm 98 rfl zf_11_188 rfl rfl (by decide) ?_
              refine zr_s zSm 99 rfl rfl ?_
              refine zr_s zSm 100 rfl rfl ?_
              refine zr_putI zSm 101 rfl zf_11_188 rfl rfl (by decide) zp_11_27 ?_
              refine zr_goto zSm 102 336 rfl rfl ?_
              refine zr_vret zSm 163 rfl rfl ?_
              exact h
          · have h := h.2 q8
            refine zr_aload_n zSm 66 rfl rfl ?_
            refine zr_sipush zSm 67 404 rfl rfl ?_
            refine zr_aload_n zSm 68 rfl rfl ?_
            refine zr_getR zSm 69 rfl zf_11_17 rfl rfl (by decide) ?_
            refine zr_aload_n zSm 70 rfl rfl ?_
            refine zr_getI zSm 71 rfl zf_11_170 rfl rfl (by decide) ?_
            obtain ⟨b72, h⟩ := h
            refine zr_iald zSm 72 rfl rfl b72 ?_
            refine zr_bipush zSm 73 24 rfl rfl ?_
            refine zr_s zSm 74 rfl rfl ?_
            refine zr_s zSm 75 rfl rfl ?_
            refine zr_inv0 76 154 3 [.int 404, .int ((I 31 ((I 28 24).toNatClampNeg)) - 24), .int 0] rfl rfl zk_11_191 zms_154 rfl ⟨_, _, _, _, rfl, rfl⟩ (Nat.le_of_ble_eq_true rfl) ?_
            refine zci h (fun v24 I24 J24 D24 h => ?_)
            refine zr_s zSm 77 rfl rfl ?_
            refine zr_aload_n zSm 78 rfl rfl ?_
            refine zr_s zSm 79 rfl rfl ?_
            refine zr_getI zSm 80 rfl zf_11_170 rfl rfl (by decide) ?_
            refine zr_s zSm 81 rfl rfl ?_
            refine zr_s zSm 82 rfl rfl ?_
            refine zr_putI zSm 83 rfl zf_11_170 rfl rfl (by decide) zp_11_24 ?_
            refine zr_goto zSm 84 336 rfl rfl ?_
            refine zr_vret zSm 163 rfl rfl ?_
            exact h
        · have h := h.2 q7
          refine zr_aload_n zSm 34 rfl rfl ?_
          refine zr_bipush zSm 35 21 rfl rfl ?_
          obtain ⟨b36, h⟩ := h
          refine zr_inv0 36 148 1 [.int 21] rfl rfl zk_11_181 zms_148 rfl ⟨_, _, _, _, rfl, rfl⟩ (Nat.le_of_ble_eq_true rfl) ?_
          refine ze_148 b36 ?_
          refine zNx_i ?_
          refine zr_if zSm 37 85 rfl rfl (fun q22 => ?_) (fun q22 => ?_)
          · refine zr_aload_n zSm 40 rfl rfl ?_
            refine zr_bipush zSm 41 22 rfl rfl ?_
            obtain ⟨b42, h⟩ := h
            refine zr_inv0 42 148 1 [.int 22] rfl rfl zk_11_181 zms_148 rfl ⟨_, _, _, _, rfl, rfl⟩ (Nat.le_of_ble_eq_true rfl) ?_
            refine ze_148 b42 ?_
            refine zNx_i ?_
            refine zr_if zSm 43 100 rfl rfl (fun q23 => ?_) (fun q23 => ?_)
            · refine zr_sipush zSm 46 403 rfl rfl ?_
              refine zr_istore_n zSm 47 (ll' := [(1, .int 403), (0, .ref 28)]) rfl (by decide) rfl ?_
              refine zr_aload_n zSm 48 rfl rfl ?_
              refine zr_iload_n zSm 49 rfl rfl ?_
              refine zr_aload_n zSm 50 rfl rfl ?_
              obtain ⟨c25, s25, g25, f25, h⟩ := h
              refine zr_inv zSm 51 164 0 c25 s25 [] rfl rfl zk_11_222 zms_164 rfl ⟨_, _, _, _, rfl, rfl⟩ (Nat.le_of_ble_eq_true rfl) g25 f25 ?_
              refine zci h (fun v25 I25 J25 D25 h => ?_)
              refine zr_s zSm 52 rfl rfl ?_
              refine zr_inv0 53 154 3 [.int 403, .int v25, .int 0] rfl rfl zk_11_191 zms_154 rfl ⟨_, _, _, _, rfl, rfl⟩ (Nat.le_of_ble_eq_true rfl) ?_
              refine zci h (fun v26 I26 J26 D26 h => ?_)
              refine zr_s zSm 54 rfl rfl ?_
              refine zr_goto zSm 55 336 rfl rfl ?_
              refine zr_vret zSm 163 rfl rfl ?_
              exact h
            · first | exact absurd q23 q4 | exact absurd q4 q23 | exact absurd (Int32.not_lt.mp q23) q4 | exact absurd (Int32.not_lt.mp q4) q23 | exact absurd (Int32.not_le.mp q23) q4 | exact absurd (Int32.not_le.mp q4) q23 | exact absurd q23 (Int32.not_lt.mpr q4) | exact absurd q4 (Int32.not_lt.mpr q23) | exact absurd q23 (Int32.not_le.mpr q4) | exact absurd q4 (Int32.not_le.mpr q23)
          · first | exact absurd q22 q2 | exact absurd q2 q22 | exact absurd (Int32.not_lt.mp q22) q2 | exact absurd (Int32.not_lt.mp q2) q22 | exact absurd (Int32.not_le.mp q22) q2 | exact absurd (Int32.not_le.mp q2) q22 | exact absurd q22 (Int32.not_lt.mpr q2) | exact absurd q2 (Int32.not_lt.mpr q22) | exact absurd q22 (Int32.not_le.mpr q2) | exact absurd q2 (Int32.not_le.mpr q22)
  · have h := h.2 q1
    refine zr_aload_n zSm 4 rfl rfl ?_
    refine zr_sipush zSm 5 400 rfl rfl ?_
    refine zr_aload_n zSm 6 rfl rfl ?_
    refine zr_getR zSm 7 rfl zf_11_23 rfl rfl (by decide) ?_
    refine zr_aload_n zSm 8 rfl rfl ?_
    refine zr_getI zSm 9 rfl zf_11_170 rfl rfl (by decide) ?_
    obtain ⟨b10, h⟩ := h
    refine zr_lald zSm 10 rfl rfl b10 ?_
    refine zr_s zSm 11 rfl rfl ?_
    refine zr_s zSm 12 rfl rfl ?_
    refine zr_inv0 13 154 3 [.int 400, .int ((J 33 ((I 28 24).toNatClampNeg)).toInt32), .int 0] rfl rfl zk_11_191 zms_154 rfl ⟨_, _, _, _, rfl, rfl⟩ (Nat.le_of_ble_eq_true rfl) ?_
    refine zci h (fun v27 I27 J27 D27 h => ?_)
    refine zr_s zSm 14 rfl rfl ?_
    refine zr_aload_n zSm 15 rfl rfl ?_
    refine zr_s zSm 16 rfl rfl ?_
    refine zr_getI zSm 17 rfl zf_11_170 rfl rfl (by decide) ?_
    refine zr_s zSm 18 rfl rfl ?_
    refine zr_s zSm 19 rfl rfl ?_
    refine zr_putI zSm 20 rfl zf_11_170 rfl rfl (by decide) zp_11_24 ?_
    refine zr_goto zSm 21 336 rfl rfl ?_
    refine zr_vret zSm 163 rfl rfl ?_
    exact h
theorem w_163 {RO : zRo} {d : Nat} {P : zP} {I : zI} {J : zJ} {D : zD} {bc bs : Nat} {p0 : Int64} {p1 : Int32} (h : zw RO d 163 P 3 [(0, .ref 28), (1, .long p0), (3, .int p1), (4, .int 0)] [] I J D bc bs) : zz RO (d + 1) 163 [.ref 28, .long p0, .int p1] I J D bc bs P := by
  refine zT_of (Nat.le_of_ble_eq_true rfl) rfl ?_
  show zw RO d 163 P 0 [(0, .ref 28), (1, .long p0), (3, .int p1)] [] I J D bc bs
  refine zr_s zSm 0 rfl rfl ?_
  refine zr_istore zSm 1 (ll' := [(4, .int 0), (0, .ref 28), (1, .long p0), (3, .int p1)]) rfl (by decide) rfl ?_
  refine zr_sub [1, 2, 3, 0] rfl ?_
  exact h
theorem wl_163_3 {RO : zRo} {d : Nat} {P : zP} {I : zI} {J : zJ} {D : zD} {bc bs : Nat} {l1 : Int64} {l3 l4 : Int32} (h : (((I 28 8) ≤ l4 → P (.inl (some (.int (-1)))) I J D) ∧ (¬ ((I 28 8) ≤ l4) → (vp_in l4 46 ∧ ((¬ (J 34 l4.toNatClampNeg) = l1 → zw RO d 163 P 3 [(0, .ref 28), (1, .long l1), (3, .int l3), (4, .int (l4 + 1))] [] I J D bc bs) ∧ (¬ (¬ (J 34 l4.toNatClampNeg) = l1) → (vp_in l4 46 ∧ ((¬ (I 35 l4.toNatClampNeg) = l3 → zw RO d 163 P 3 [(0, .ref 28), (1, .long l1), (3, .int l3), (4, .int (l4 + 1))] [] I J D bc bs) ∧ (¬ (¬ (I 35 l4.toNatClampNeg) = l3) → (vp_in l4 46 ∧ P (.inl (some (.int (I 36 l4.toNatClampNeg)))) I J D)))))))))) : zw RO d 163 P 3 [(0, .ref 28), (1, .long l1), (3, .int l3), (4, .int l4)] [] I J D bc bs := by
  refine zr_iload zSm 2 rfl rfl ?_
  refine zr_aload_n zSm 3 rfl rfl ?_
  refine zr_getI zSm 4 rfl zf_11_151 rfl rfl (by decide) ?_
  refine zr_ic zSm 5 49 rfl rfl (fun q1 => ?_) (fun q1 => ?_)
  · have h := h.1 q1
    refine zr_s zSm 26 rfl rfl ?_
    refine zr_iret zSm 27 rfl rfl rfl ?_
    exact h
  · have h := h.2 q1
    refine zr_aload_n zSm 6 rfl rfl ?_
    refine zr_getR zSm 7 rfl zf_11_26 rfl rfl (by decide) ?_
    refine zr_iload zSm 8 rfl rfl ?_
    obtain ⟨b9, h⟩ := h
    refine zr_lald zSm 9 rfl rfl b9 ?_
    refine zr_lload_n zSm 10 rfl rfl ?_
    refine zr_s zSm 11 rfl rfl ?_
    refine zr_if zSm 12 43 rfl rfl (fun q2 => ?_) (fun q2 => ?_)
    · have q2 := zq_ne.mp q2
      have h := h.1 q2
      refine zr_iinc zSm 24 (v := l4 + 1) (ll' := [(4, .int (l4 + 1)), (0, .ref 28), (1, .long l1), (3, .int l3)]) rfl rfl (by decide) rfl rfl ?_
      refine zr_goto zSm 25 3 rfl rfl ?_
      refine zr_sub [1, 2, 3, 0] rfl ?_
      exact h
    · have q2 := (fun z => q2 (zq_ne.mpr z))
      have h := h.2 q2
      refine zr_aload_n zSm 13 rfl rfl ?_
      refine zr_getR zSm 14 rfl zf_11_29 rfl rfl (by decide) ?_
      refine zr_iload zSm 15 rfl rfl ?_
      obtain ⟨b16, h⟩ := h
      refine zr_iald zSm 16 rfl rfl b16 ?_
      refine zr_iload_n zSm 17 rfl rfl ?_
      refine zr_ic zSm 18 43 rfl rfl (fun q3 => ?_) (fun q3 => ?_)
      · have h := h.1 q3
        refine zr_iinc zSm 24 (v := l4 + 1) (ll' := [(4, .int (l4 + 1)), (0, .ref 28), (1, .long l1), (3, .int l3)]) rfl rfl (by decide) rfl rfl ?_
        refine zr_goto zSm 25 3 rfl rfl ?_
        refine zr_sub [1, 2, 3, 0] rfl ?_
        exact h
      · have h := h.2 q3
        refine zr_aload_n zSm 19 rfl rfl ?_
        refine zr_getR zSm 20 rfl zf_11_32 rfl rfl (by decide) ?_
        refine zr_iload zSm 21 rfl rfl ?_
        obtain ⟨b22, h⟩ := h
        refine zr_iald zSm 22 rfl rfl b22 ?_
        refine zr_iret zSm 23 rfl rfl rfl ?_
        exact h
theorem w_164 {RO : zRo} {d : Nat} {P : zP} {I : zI} {J : zJ} {D : zD} {bc bs : Nat}  (h : (zz RO (d + 1) 152 [.ref 28, .int 21] I J D 0 0 (zNi P fun v1 I1 J1 D1 => ((¬ v1 = 0 → (zo_148 I1 J1 200 ∧ ((¬ (zv_148 I1 J1 200) = 0 → (vp_in (I1 28 24) 452 ∧ (zz RO (d + 1) 163 [.ref 28, .long (J1 33 ((I1 28 24).toNatClampNeg)), .int 0] I1 J1 D1 0 0 (zNi P fun v2 I2 J2 D2 => ((v2 = (-1) → (vp_in (I2 28 24) 452 ∧ (∃ c3 s3, c3 ≤ bc ∧ s3 ≤ bs ∧ zz RO (d + 1) 150 [.ref 28, .int 0, .int 2, .int (I2 32 ((I2 28 24).toNatClampNeg))] I2 J2 D2 c3 s3 (zNv P fun I3 J3 D3 => P (.inl (some (.int v2))) (zu I3 28 24 ((I3 28 24) + 1)) J3 D3)))) ∧ (¬ (v2 = (-1)) → (vp_in (I2 28 24) 452 ∧ (∃ c4 s4, c4 ≤ bc ∧ s4 ≤ bs ∧ zz RO (d + 1) 150 [.ref 28, .int 1, .int 2, .int (I2 32 ((I2 28 24).toNatClampNeg))] I2 J2 D2 c4 s4 (zNv P fun I4 J4 D4 => P (.inl (some (.int v2))) (zu I4 28 24 ((I4 28 24) + 1)) J4 D4))))))))) ∧ (¬ (¬ (zv_148 I1 J1 200) = 0) → ((1 ≤ bc ∧ 8 ≤ bs) ∧ vp_in (I1 28 24) 452 ∧ P (.inr (3, 1, I1 32 ((I1 28 24).toNatClampNeg))) I1 J1 D1))))) ∧ (¬ (¬ v1 = 0) → (zz RO (d + 1) 152 [.ref 28, .int 22] I1 J1 D1 0 0 (zNi P fun v5 I5 J5 D5 => ((v5 = 0 → (zo_148 I5 J5 200 ∧ ((¬ (zv_148 I5 J5 200) = 0 → (vp_in (I5 28 24) 452 ∧ (zz RO (d + 1) 163 [.ref 28, .long (J5 33 ((I5 28 24).toNatClampNeg)), .int 1] I5 J5 D5 0 0 (zNi P fun v6 I6 J6 D6 => ((v6 = (-1) → (vp_in (I6 28 24) 452 ∧ (∃ c7 s7, c7 ≤ bc ∧ s7 ≤ bs ∧ zz RO (d + 1) 150 [.ref 28, .int 0, .int 2, .int (I6 32 ((I6 28 24).toNatClampNeg))] I6 J6 D6 c7 s7 (zNv P fun I7 J7 D7 => P (.inl (some (.int v6))) (zu I7 28 24 ((I7 28 24) + 1)) J7 D7)))) ∧ (¬ (v6 = (-1)) → (vp_in (I6 28 24) 452 ∧ (∃ c8 s8, c8 ≤ bc ∧ s8 ≤ bs ∧ zz RO (d + 1) 150 [.ref 28, .int 1, .int 2, .int (I6 32 ((I6 28 24).toNatClampNeg))] I6 J6 D6 c8 s8 (zNv P fun I8 J8 D8 => P (.inl (some (.int v6))) (zu I8 28 24 ((I8 28 24) + 1)) J8 D8))))))))) ∧ (¬ (¬ (zv_148 I5 J5 200) = 0) → ((1 ≤ bc ∧ 8 ≤ bs) ∧ vp_in (I5 28 24) 452 ∧ P (.inr (3, 1, I5 32 ((I5 28 24).toNatClampNeg))) I5 J5 D5))))) ∧ (¬ (v5 = 0) → (zo_148 I5 J5 200 ∧ ((¬ (zv_148 I5 J5 200) = 0 → (vp_in (I5 28 24) 452 ∧ (zz RO (d + 1) 163 [.ref 28, .long (J5 33 ((I5 28 24).toNatClampNeg)), .int 0] I5 J5 D5 0 0 (zNi P fun v9 I9 J9 D9 => ((v9 = (-1) → (vp_in (I9 28 24) 452 ∧ (∃ c10 s10, c10 ≤ bc ∧ s10 ≤ bs ∧ zz RO (d + 1) 150 [.ref 28, .int 0, .int 2, .int (I9 32 ((I9 28 24).toNatClampNeg))] I9 J9 D9 c10 s10 (zNv P fun I10 J10 D10 => P (.inl (some (.int v9))) (zu I10 28 24 ((I10 28 24) + 1)) J10 D10)))) ∧ (¬ (v9 = (-1)) → (vp_in (I9 28 24) 452 ∧ (∃ c11 s11, c11 ≤ bc ∧ s11 ≤ bs ∧ zz RO (d + 1) 150 [.ref 28, .int 1, .int 2, .int (I9 32 ((I9 28 24).toNatClampNeg))] I9 J9 D9 c11 s11 (zNv P fun I11 J11 D11 => P (.inl (some (.int v9))) (zu I11 28 24 ((I11 28 24) + 1)) J11 D11))))))))) ∧ (¬ (¬ (zv_148 I5 J5 200) = 0) → ((1 ≤ bc ∧ 8 ≤ bs) ∧ vp_in (I5 28 24) 452 ∧ P (.inr (3, 1, I5 32 ((I5 28 24).toNatClampNeg))) I5 J5 D5))))))))))))) : zz RO (d + 2) 164 [.ref 28] I J D bc bs P := by
  refine zT_of (Nat.le_of_ble_eq_true rfl) rfl ?_
  show zw RO (d + 1) 164 P 0 [(0, .ref 28)] [] I J D bc bs
  refine zr_aload_n zSm 0 rfl rfl ?_
  refine zr_bipush zSm 1 21 rfl rfl ?_
  refine zr_inv0 2 152 1 [.int 21] rfl rfl zk_11_203 zms_152 rfl ⟨_, _, _, _, rfl, rfl⟩ (Nat.le_of_ble_eq_true rfl) ?_
  refine zci h (fun v1 I1 J1 D1 h => ?_)
  refine zr_if zSm 3 18 rfl rfl (fun q1 => ?_) (fun q1 => ?_)
  · have h := h.1 q1
    refine zr_s zSm 8 rfl rfl ?_
    refine zr_goto zSm 9 23 rfl rfl ?_
    refine zr_istore_n zSm 11 (ll' := [(1, .int 1), (0, .ref 28)]) rfl (by decide) rfl ?_
    refine zr_aload_n zSm 12 rfl rfl ?_
    refine zr_sipush zSm 13 200 rfl rfl ?_
    obtain ⟨b14, h⟩ := h
    refine zr_inv0 14 148 1 [.int 200] rfl rfl zk_11_181 zms_148 rfl ⟨_, _, _, _, rfl, rfl⟩ (Nat.le_of_ble_eq_true rfl) ?_
    refine ze_148 b14 ?_
    refine zNx_i ?_
    refine zr_if zSm 15 39 rfl rfl (fun q2 => ?_) (fun q2 => ?_)
    · have h := h.1 q2
      refine zr_aload_n zSm 19 rfl rfl ?_
      refine zr_aload_n zSm 20 rfl rfl ?_
      refine zr_getR zSm 21 rfl zf_11_23 rfl rfl (by decide) ?_
      refine zr_aload_n zSm 22 rfl rfl ?_
      refine zr_getI zSm 23 rfl zf_11_170 rfl rfl (by decide) ?_
      obtain ⟨b24, h⟩ := h
      refine zr_lald zSm 24 rfl rfl b24 ?_
      refine zr_iload_n zSm 25 rfl rfl ?_
      refine zr_if zSm 26 57 rfl rfl (fun q3 => ?_) (fun q3 => ?_)
      · exact absurd q3 (by show ¬ ((1 : Int32) = 0); decide)
      · refine zr_s zSm 27 rfl rfl ?_
        refine zr_goto zSm 28 58 rfl rfl ?_
        refine zr_inv0 30 163 2 [.long (J1 33 ((I1 28 24).toNatClampNeg)), .int 0] rfl rfl zk_11_243 zms_163 rfl ⟨_, _, _, _, rfl, rfl⟩ (Nat.le_of_ble_eq_true rfl) ?_
        refine zci h (fun v2 I2 J2 D2 h => ?_)
        refine zr_istore_n zSm 31 (ll' := [(2, .int v2), (1, .int 1), (0, .ref 28)]) rfl (by decide) rfl ?_
        refine zr_aload_n zSm 32 rfl rfl ?_
        refine zr_iload_n zSm 33 rfl rfl ?_
        refine zr_s zSm 34 rfl rfl ?_
        refine zr_ic zSm 35 72 rfl rfl (fun q4 => ?_) (fun q4 => ?_)
        · have h := h.1 q4
          refine zr_s zSm 38 rfl rfl ?_
          refine zr_s zSm 39 rfl rfl ?_
          refine zr_aload_n zSm 40 rfl rfl ?_
          refine zr_getR zSm 41 rfl zf_11_20 rfl rfl (by decide) ?_
          refine zr_aload_n zSm 42 rfl rfl ?_
          refine zr_getI zSm 43 rfl zf_11_170 rfl rfl (by decide) ?_
          obtain ⟨b44, h⟩ := h
          refine zr_iald zSm 44 rfl rfl b44 ?_
          obtain ⟨c3, s3, g3, f3, h⟩ := h
          refine zr_inv zSm 45 150 3 c3 s3 [.int 0, .int 2, .int (I2 32 ((I2 28 24).toNatClampNeg))] rfl rfl zk_11_239 zms_150 rfl ⟨_, _, _, _, rfl, rfl⟩ (Nat.le_of_ble_eq_true rfl) g3 f3 ?_
          refine zcv h (fun I3 J3 D3 h => ?_)
          refine zr_aload_n zSm 46 rfl rfl ?_
          refine zr_s zSm 47 rfl rfl ?_
          refine zr_getI zSm 48 rfl zf_11_170 rfl rfl (by decide) ?_
          refine zr_s zSm 49 rfl rfl ?_
          refine zr_s zSm 50 rfl rfl ?_
          refine zr_putI zSm 51 rfl zf_11_170 rfl rfl (by decide) zp_11_24 ?_
          refine zr_iload_n zSm 52 rfl rfl ?_
          refine zr_iret zSm 53 rfl rfl rfl ?_
          exact h
        · have h := h.2 q4
          refine zr_s zSm 36 rfl rfl ?_
          refine zr_goto zSm 37 73 rfl rfl ?_
          refine zr_s zSm 39 rfl rfl ?_
          refine zr_aload_n zSm 40 rfl rfl ?_
          refine zr_getR zSm 41 rfl zf_11_20 rfl rfl (by decide) ?_
          refine zr_aload_n zSm 42 rfl rfl ?_
          refine zr_getI zSm 43 rfl zf_11_170 rfl rfl (by decide) ?_
          obtain ⟨b44, h⟩ := h
          refine zr_iald zSm 44 rfl rfl b44 ?_
          obtain ⟨c4, s4, g4, f4, h⟩ := h
          refine zr_inv zSm 45 150 3 c4 s4 [.int 1, .int 2, .int (I2 32 ((I2 28 24).toNatClampNeg))] rfl rfl zk_11_239 zms_150 rfl ⟨_, _, _, _, rfl, rfl⟩ (Nat.le_of_ble_eq_true rfl) g4 f4 ?_
          refine zcv h (fun I4 J4 D4 h => ?_)
          refine zr_aload_n zSm 46 rfl rfl ?_
          refine zr_s zSm 47 rfl rfl ?_
          refine zr_getI zSm 48 rfl zf_11_170 rfl rfl (by decide) ?_
          refine zr_s zSm 49 rfl rfl ?_
          refine zr_s zSm 50 rfl rfl ?_
          refine zr_putI zSm 51 rfl zf_11_170 rfl rfl (by decide) zp_11_24 ?_
          refine zr_iload_n zSm 52 rfl rfl ?_
          refine zr_iret zSm 53 rfl rfl rfl ?_
          exact h
    · have h := h.2 q2
      refine zr_wrong 184 ⟨List.mem_of_getElem? (i := 16) rfl, List.mem_of_getElem? (i := 17) rfl, zk_11_184, List.mem_of_getElem? (i := 18) rfl⟩ rfl rfl (by decide) rfl h.1 h.2.1 ?_
      exact h.2.2
  · have h := h.2 q1
    refine zr_aload_n zSm 4 rfl rfl ?_
    refine zr_bipush zSm 5 22 rfl rfl ?_
    refine zr_inv0 6 152 1 [.int 22] rfl rfl zk_11_203 zms_152 rfl ⟨_, _, _, _, rfl, rfl⟩ (Nat.le_of_ble_eq_true rfl) ?_
    refine zci h (fun v5 I5 J5 D5 h => ?_)
    refine zr_if zSm 7 22 rfl rfl (fun q5 => ?_) (fun q5 => ?_)
    · have h := h.1 q5
      refine zr_s zSm 10 rfl rfl ?_
      refine zr_istore_n zSm 11 (ll' := [(1, .int 0), (0, .ref 28)]) rfl (by decide) rfl ?_
      refine zr_aload_n zSm 12 rfl rfl ?_
      refine zr_sipush zSm 13 200 rfl rfl ?_
      obtain ⟨b14, h⟩ := h
      refine zr_inv0 14 148 1 [.int 200] rfl rfl zk_11_181 zms_148 rfl ⟨_, _, _, _, rfl, rfl⟩ (Nat.le_of_ble_eq_true rfl) ?_
      refine ze_148 b14 ?_
      refine zNx_i ?_
      refine zr_if zSm 15 39 rfl rfl (fun q6 => ?_) (fun q6 => ?_)
      · have h := h.1 q6
        refine zr_aload_n zSm 19 rfl rfl ?_
        refine zr_aload_n zSm 20 rfl rfl ?_
        refine zr_getR zSm 21 rfl zf_11_23 rfl rfl (by decide) ?_
        refine zr_aload_n zSm 22 rfl rfl ?_
        refine zr_getI zSm 23 rfl zf_11_170 rfl rfl (by decide) ?_
        obtain ⟨b24, h⟩ := h
        refine zr_lald zSm 24 rfl rfl b24 ?_
        refine zr_iload_n zSm 25 rfl rfl ?_
        refine zr_if zSm 26 57 rfl rfl (fun q7 => ?_) (fun q7 => ?_)
        · refine zr_s zSm 29 rfl rfl ?_
          refine zr_inv0 30 163 2 [.long (J5 33 ((I5 28 24).toNatClampNeg)), .int 1] rfl rfl zk_11_243 zms_163 rfl ⟨_, _, _, _, rfl, rfl⟩ (Nat.le_of_ble_eq_true rfl) ?_
          refine zci h (fun v6 I6 J6 D6 h => ?_)
          refine zr_istore_n zSm 31 (ll' := [(2, .int v6), (1, .int 0), (0, .ref 28)]) rfl (by decide) rfl ?_
          refine zr_aload_n zSm 32 rfl rfl ?_
          refine zr_iload_n zSm 33 rfl rfl ?_
          refine zr_s zSm 34 rfl rfl ?_
          refine zr_ic zSm 35 72 rfl rfl (fun q8 => ?_) (fun q8 => ?_)
          · have h := h.1 q8
            refine zr_s zSm 38 rfl rfl ?_
            refine zr_s zSm 39 rfl rfl ?_
            refine zr_aload_n zSm 40 rfl rfl ?_
            refine zr_getR zSm 41 rfl zf_11_20 rfl rfl (by decide) ?_
            refine zr_aload_n zSm 42 rfl rfl ?_
            refine zr_getI zSm 43 rfl zf_11_170 rfl rfl (by decide) ?_
            obtain ⟨b44, h⟩ := h
            refine zr_iald zSm 44 rfl rfl b44 ?_
            obtain ⟨c7, s7, g7, f7, h⟩ := h
            refine zr_inv zSm 45 150 3 c7 s7 [.int 0, .int 2, .int (I6 32 ((I6 28 24).toNatClampNeg))] rfl rfl zk_11_239 zms_150 rfl ⟨_, _, _, _, rfl, rfl⟩ (Nat.le_of_ble_eq_true rfl) g7 f7 ?_
            refine zcv h (fun I7 J7 D7 h => ?_)
            refine zr_aload_n zSm 46 rfl rfl ?_
            refine zr_s zSm 47 rfl rfl ?_
            refine zr_getI zSm 48 rfl zf_11_170 rfl rfl (by decide) ?_
            refine zr_s zSm 49 rfl rfl ?_
            refine zr_s zSm 50 rfl rfl ?_
            refine zr_putI zSm 51 rfl zf_11_170 rfl rfl (by decide) zp_11_24 ?_
            refine zr_iload_n zSm 52 rfl rfl ?_
            refine zr_iret zSm 53 rfl rfl rfl ?_
            exact h
          · have h := h.2 q8
            refine zr_s zSm 36 rfl rfl ?_
            refine zr_goto zSm 37 73 rfl rfl ?_
            refine zr_s zSm 39 rfl rfl ?_
            refine zr_aload_n zSm 40 rfl rfl ?_
            refine zr_getR zSm 41 rfl zf_11_20 rfl rfl (by decide) ?_
            refine zr_aload_n zSm 42 rfl rfl ?_
            refine zr_getI zSm 43 rfl zf_11_170 rfl rfl (by decide) ?_
            obtain ⟨b44, h⟩ := h
            refine zr_iald zSm 44 rfl rfl b44 ?_
            obtain ⟨c8, s8, g8, f8, h⟩ := h
            refine zr_inv zSm 45 150 3 c8 s8 [.int 1, .int 2, .int (I6 32 ((I6 28 24).toNatClampNeg))] rfl rfl zk_11_239 zms_150 rfl ⟨_, _, _, _, rfl, rfl⟩ (Nat.le_of_ble_eq_true rfl) g8 f8 ?_
            refine zcv h (fun I8 J8 D8 h => ?_)
            refine zr_aload_n zSm 46 rfl rfl ?_
            refine zr_s zSm 47 rfl rfl ?_
            refine zr_getI zSm 48 rfl zf_11_170 rfl rfl (by decide) ?_
            refine zr_s zSm 49 rfl rfl ?_
            refine zr_s zSm 50 rfl rfl ?_
            refine zr_putI zSm 51 rfl zf_11_170 rfl rfl (by decide) zp_11_24 ?_
            refine zr_iload_n zSm 52 rfl rfl ?_
            refine zr_iret zSm 53 rfl rfl rfl ?_
            exact h
        · exact absurd q7 (by show ¬ ¬ ((0 : Int32) = 0); decide)
      · have h := h.2 q6
        refine zr_wrong 184 ⟨List.mem_of_getElem? (i := 16) rfl, List.mem_of_getElem? (i := 17) rfl, zk_11_184, List.mem_of_getElem? (i := 18) rfl⟩ rfl rfl (by decide) rfl h.1 h.2.1 ?_
        exact h.2.2
    · have h := h.2 q5
      refine zr_s zSm 8 rfl rfl ?_
      refine zr_goto zSm 9 23 rfl rfl ?_
      refine zr_istore_n zSm 11 (ll' := [(1, .int 1), (0, .ref 28)]) rfl (by decide) rfl ?_
      refine zr_aload_n zSm 12 rfl rfl ?_
      refine zr_sipush zSm 13 200 rfl rfl ?_
      obtain ⟨b14, h⟩ := h
      refine zr_inv0 14 148 1 [.int 200] rfl rfl zk_11_181 zms_148 rfl ⟨_, _, _, _, rfl, rfl⟩ (Nat.le_of_ble_eq_true rfl) ?_
      refine ze_148 b14 ?_
      refine zNx_i ?_
      refine zr_if zSm 15 39 rfl rfl (fun q9 => ?_) (fun q9 => ?_)
      · have h := h.1 q9
        refine zr_aload_n zSm 19 rfl rfl ?_
        refine zr_aload_n zSm 20 rfl rfl ?_
        refine zr_getR zSm 21 rfl zf_11_23 rfl rfl (by decide) ?_
        refine zr_aload_n zSm 22 rfl rfl ?_
        refine zr_getI zSm 23 rfl zf_11_170 rfl rfl (by decide) ?_
        obtain ⟨b24, h⟩ := h
        refine zr_lald zSm 24 rfl rfl b24 ?_
        refine zr_iload_n zSm 25 rfl rfl ?_
        refine zr_if zSm 26 57 rfl rfl (fun q10 => ?_) (fun q10 => ?_)
        · exact absurd q10 (by show ¬ ((1 : Int32) = 0); decide)
        · refine zr_s zSm 27 rfl rfl ?_
          refine zr_goto zSm 28 58 rfl rfl ?_
          refine zr_inv0 30 163 2 [.long (J5 33 ((I5 28 24).toNatClampNeg)), .int 0] rfl rfl zk_11_243 zms_163 rfl ⟨_, _, _, _, rfl, rfl⟩ (Nat.le_of_ble_eq_true rfl) ?_
          refine zci h (fun v9 I9 J9 D9 h => ?_)
          refine zr_istore_n zSm 31 (ll' := [(2, .int v9), (1, .int 1), (0, .ref 28)]) rfl (by decide) rfl ?_
          refine zr_aload_n zSm 32 rfl rfl ?_
          refine zr_iload_n zSm 33 rfl rfl ?_
          refine zr_s zSm 34 rfl rfl ?_
          refine zr_ic zSm 35 72 rfl rfl (fun q11 => ?_) (fun q11 => ?_)
          · have h := h.1 q11
            refine zr_s zSm 38 rfl rfl ?_
            refine zr_s zSm 39 rfl rfl ?_
            refine zr_aload_n zSm 40 rfl rfl ?_
            refine zr_getR zSm 41 rfl zf_11_20 rfl rfl (by decide) ?_
            refine zr_aload_n zSm 42 rfl rfl ?_
            refine zr_getI zSm 43 rfl zf_11_170 rfl rfl (by decide) ?_
            obtain ⟨b44, h⟩ := h
            refine zr_iald zSm 44 rfl rfl b44 ?_
            obtain ⟨c10, s10, g10, f10, h⟩ := h
            refine zr_inv zSm 45 150 3 c10 s10 [.int 0, .int 2, .int (I9 32 ((I9 28 24).toNatClampNeg))] rfl rfl zk_11_239 zms_150 rfl ⟨_, _, _, _, rfl, rfl⟩ (Nat.le_of_ble_eq_true rfl) g10 f10 ?_
            refine zcv h (fun I10 J10 D10 h => ?_)
            refine zr_aload_n zSm 46 rfl rfl ?_
            refine zr_s zSm 47 rfl rfl ?_
            refine zr_getI zSm 48 rfl zf_11_170 rfl rfl (by decide) ?_
            refine zr_s zSm 49 rfl rfl ?_
            refine zr_s zSm 50 rfl rfl ?_
            refine zr_putI zSm 51 rfl zf_11_170 rfl rfl (by decide) zp_11_24 ?_
            refine zr_iload_n zSm 52 rfl rfl ?_
            refine zr_iret zSm 53 rfl rfl rfl ?_
            exact h
          · have h := h.2 q11
            refine zr_s zSm 36 rfl rfl ?_
            refine zr_goto zSm 37 73 rfl rfl ?_
            refine zr_s zSm 39 rfl rfl ?_
            refine zr_aload_n zSm 40 rfl rfl ?_
            refine zr_getR zSm 41 rfl zf_11_20 rfl rfl (by decide) ?_
            refine zr_aload_n zSm 42 rfl rfl ?_
            refine zr_getI zSm 43 rfl zf_11_170 rfl rfl (by decide) ?_
            obtain ⟨b44, h⟩ := h
            refine zr_iald zSm 44 rfl rfl b44 ?_
            obtain ⟨c11, s11, g11, f11, h⟩ := h
            refine zr_inv zSm 45 150 3 c11 s11 [.int 1, .int 2, .int (I9 32 ((I9 28 24).toNatClampNeg))] rfl rfl zk_11_239 zms_150 rfl ⟨_, _, _, _, rfl, rfl⟩ (Nat.le_of_ble_eq_true rfl) g11 f11 ?_
            refine zcv h (fun I11 J11 D11 h => ?_)
            refine zr_aload_n zSm 46 rfl rfl ?_
            refine zr_s zSm 47 rfl rfl ?_
            refine zr_getI zSm 48 rfl zf_11_170 rfl rfl (by decide) ?_
            refine zr_s zSm 49 rfl rfl ?_
            refine zr_s zSm 50 rfl rfl ?_
            refine zr_putI zSm 51 rfl zf_11_170 rfl rfl (by decide) zp_11_24 ?_
            refine zr_iload_n zSm 52 rfl rfl ?_
            refine zr_iret zSm 53 rfl rfl rfl ?_
            exact h
      · have h := h.2 q9
        refine zr_wrong 184 ⟨List.mem_of_getElem? (i := 16) rfl, List.mem_of_getElem? (i := 17) rfl, zk_11_184, List.mem_of_getElem? (i := 18) rfl⟩ rfl rfl (by decide) rfl h.1 h.2.1 ?_
        exact h.2.2
theorem w_165 {RO : zRo} {d : Nat} {P : zP} {I : zI} {J : zJ} {D : zD} {bc bs : Nat} {p0 : Int32} (h : (zo_148 I J 200 ∧ ((¬ (zv_148 I J 200) = 0 → zw RO (d + 1) 165 P 22 [(0, .ref 28), (1, .int p0), (2, .int 0), (3, .int (-1)), (4, .int 0)] [] I J D bc bs) ∧ (¬ (¬ (zv_148 I J 200) = 0) → ((1 ≤ bc ∧ 8 ≤ bs) ∧ vp_in (I 28 24) 452 ∧ P (.inr (3, 1, I 32 ((I 28 24).toNatClampNeg))) I J D))))) : zz RO (d + 2) 165 [.ref 28, .int p0] I J D bc bs P := by
  refine zT_of (Nat.le_of_ble_eq_true rfl) rfl ?_
  show zw RO (d + 1) 165 P 0 [(0, .ref 28), (1, .int p0)] [] I J D bc bs
  refine zr_aload_n zSm 0 rfl rfl ?_
  refine zr_sipush zSm 1 200 rfl rfl ?_
  obtain ⟨b2, h⟩ := h
  refine zr_inv0 2 148 1 [.int 200] rfl rfl zk_11_181 zms_148 rfl ⟨_, _, _, _, rfl, rfl⟩ (Nat.le_of_ble_eq_true rfl) ?_
  refine ze_148 b2 ?_
  refine zNx_i ?_
  refine zr_if zSm 3 15 rfl rfl (fun q1 => ?_) (fun q1 => ?_)
  · have h := h.1 q1
    refine zr_s zSm 7 rfl rfl ?_
    refine zr_istore_n zSm 8 (ll' := [(2, .int 0), (0, .ref 28), (1, .int p0)]) rfl (by decide) rfl ?_
    refine zr_s zSm 9 rfl rfl ?_
    refine zr_istore_n zSm 10 (ll' := [(3, .int (-1)), (2, .int 0), (0, .ref 28), (1, .int p0)]) rfl (by decide) rfl ?_
    refine zr_s zSm 11 rfl rfl ?_
    refine zr_istore zSm 12 (ll' := [(4, .int 0), (3, .int (-1)), (2, .int 0), (0, .ref 28), (1, .int p0)]) rfl (by decide) rfl ?_
    refine zr_sub [3, 4, 2, 1, 0] rfl ?_
    exact h
  · have h := h.2 q1
    refine zr_wrong 184 ⟨List.mem_of_getElem? (i := 4) rfl, List.mem_of_getElem? (i := 5) rfl, zk_11_184, List.mem_of_getElem? (i := 6) rfl⟩ rfl rfl (by decide) rfl h.1 h.2.1 ?_
    exact h.2.2
theorem wl_165_22 {RO : zRo} {d : Nat} {P : zP} {I : zI} {J : zJ} {D : zD} {bc bs : Nat} {l1 l2 l3 l4 : Int32} (h : (((I 28 25) = 0 → ((l3 = (-1) → (vp_in (I 28 24) 452 ∧ (∃ c1 s1, c1 ≤ bc ∧ s1 ≤ bs ∧ zz RO (d + 1) 150 [.ref 28, .int 0, .int 2, .int (I 32 ((I 28 24).toNatClampNeg))] I J D c1 s1 (zNv P fun I1 J1 D1 => P (.inl (some (.int l3))) (zu I1 28 24 ((I1 28 24) + 1)) J1 D1)))) ∧ (¬ (l3 = (-1)) → (vp_in (I 28 24) 452 ∧ (∃ c2 s2, c2 ≤ bc ∧ s2 ≤ bs ∧ zz RO (d + 1) 150 [.ref 28, .int 1, .int 2, .int (I 32 ((I 28 24).toNatClampNeg))] I J D c2 s2 (zNv P fun I2 J2 D2 => P (.inl (some (.int l3))) (zu I2 28 24 ((I2 28 24) + 1)) J2 D2)))))) ∧ (¬ ((I 28 25) = 0) → (((I 28 4) ≤ (l4 + 1) → ((l3 = (-1) → (vp_in (I 28 24) 452 ∧ (∃ c3 s3, c3 ≤ bc ∧ s3 ≤ bs ∧ zz RO (d + 1) 150 [.ref 28, .int 0, .int 2, .int (I 32 ((I 28 24).toNatClampNeg))] I J D c3 s3 (zNv P fun I3 J3 D3 => P (.inl (some (.int l3))) (zu I3 28 24 ((I3 28 24) + 1)) J3 D3)))) ∧ (¬ (l3 = (-1)) → (vp_in (I 28 24) 452 ∧ (∃ c4 s4, c4 ≤ bc ∧ s4 ≤ bs ∧ zz RO (d + 1) 150 [.ref 28, .int 1, .int 2, .int (I 32 ((I 28 24).toNatClampNeg))] I J D c4 s4 (zNv P fun I4 J4 D4 => P (.inl (some (.int l3))) (zu I4 28 24 ((I4 28 24) + 1)) J4 D4)))))) ∧ (¬ ((I 28 4) ≤ (l4 + 1)) → ((¬ l3 = (-1) → (vp_in (I 28 24) 452 ∧ (∃ c5 s5, c5 ≤ bc ∧ s5 ≤ bs ∧ zz RO (d + 1) 150 [.ref 28, .int 1, .int 2, .int (I 32 ((I 28 24).toNatClampNeg))] I J D c5 s5 (zNv P fun I5 J5 D5 => P (.inl (some (.int l3))) (zu I5 28 24 ((I5 28 24) + 1)) J5 D5)))) ∧ (¬ (¬ l3 = (-1)) → (vp_in l4 452 ∧ (((I 31 l4.toNatClampNeg) = l1 → (vp_in (l4 + 1) 452 ∧ (vp_in (I 28 24) 452 ∧ ((¬ (J 33 ((l4 + 1).toNatClampNeg)) = (J 33 ((I 28 24).toNatClampNeg)) → zw RO (d + 1) 165 P 22 [(0, .ref 28), (1, .int l1), (2, .int (l2 + 1)), (3, .int l3), (4, .int (l4 + 1))] [] I J D bc bs) ∧ (¬ (¬ (J 33 ((l4 + 1).toNatClampNeg)) = (J 33 ((I 28 24).toNatClampNeg))) → zw RO (d + 1) 165 P 22 [(0, .ref 28), (1, .int l1), (2, .int (l2 + 1)), (3, .int l2), (4, .int (l4 + 1))] [] I J D bc bs))))) ∧ (¬ ((I 31 l4.toNatClampNeg) = l1) → zw RO (d + 1) 165 P 22 [(0, .ref 28), (1, .int l1), (2, .int l2), (3, .int l3), (4, .int (l4 + 1))] [] I J D bc bs)))))))))) : zw RO (d + 1) 165 P 22 [(0, .ref 28), (1, .int l1), (2, .int l2), (3, .int l3), (4, .int l4)] [] I J D bc bs := by
  refine zr_aload_n zSm 13 rfl rfl ?_
  refine zr_getZ zSm 14 rfl zf_11_178 rfl rfl (by decide) ?_
  refine zr_if zSm 15 92 rfl rfl (fun q1 => ?_) (fun q1 => ?_)
  · have h := h.1 q1
    refine zr_aload_n zSm 50 rfl rfl ?_
    refine zr_iload_n zSm 51 rfl rfl ?_
    refine zr_s zSm 52 rfl rfl ?_
    refine zr_ic zSm 53 102 rfl rfl (fun q2 => ?_) (fun q2 => ?_)
    · have h := h.1 q2
      refine zr_s zSm 56 rfl rfl ?_
      refine zr_s zSm 57 rfl rfl ?_
      refine zr_aload_n zSm 58 rfl rfl ?_
      refine zr_getR zSm 59 rfl zf_11_20 rfl rfl (by decide) ?_
      refine zr_aload_n zSm 60 rfl rfl ?_
      refine zr_getI zSm 61 rfl zf_11_170 rfl rfl (by decide) ?_
      obtain ⟨b62, h⟩ := h
      refine zr_iald zSm 62 rfl rfl b62 ?_
      obtain ⟨c1, s1, g1, f1, h⟩ := h
      refine zr_inv zSm 63 150 3 c1 s1 [.int 0, .int 2, .int (I 32 ((I 28 24).toNatClampNeg))] rfl rfl zk_11_239 zms_150 rfl ⟨_, _, _, _, rfl, rfl⟩ (Nat.le_of_ble_eq_true rfl) g1 f1 ?_
      refine zcv h (fun I1 J1 D1 h => ?_)
      refine zr_aload_n zSm 64 rfl rfl ?_
      refine zr_s zSm 65 rfl rfl ?_
      refine zr_getI zSm 66 rfl zf_11_170 rfl rfl (by decide) ?_
      refine zr_s zSm 67 rfl rfl ?_
      refine zr_s zSm 68 rfl rfl ?_
      refine zr_putI zSm 69 rfl zf_11_170 rfl rfl (by decide) zp_11_24 ?_
      refine zr_iload_n zSm 70 rfl rfl ?_
      refine zr_iret zSm 71 rfl rfl rfl ?_
      exact h
    · have h := h.2 q2
      refine zr_s zSm 54 rfl rfl ?_
      refine zr_goto zSm 55 103 rfl rfl ?_
      refine zr_s zSm 57 rfl rfl ?_
      refine zr_aload_n zSm 58 rfl rfl ?_
      refine zr_getR zSm 59 rfl zf_11_20 rfl rfl (by decide) ?_
      refine zr_aload_n zSm 60 rfl rfl ?_
      refine zr_getI zSm 61 rfl zf_11_170 rfl rfl (by decide) ?_
      obtain ⟨b62, h⟩ := h
      refine zr_iald zSm 62 rfl rfl b62 ?_
      obtain ⟨c2, s2, g2, f2, h⟩ := h
      refine zr_inv zSm 63 150 3 c2 s2 [.int 1, .int 2, .int (I 32 ((I 28 24).toNatClampNeg))] rfl rfl zk_11_239 zms_150 rfl ⟨_, _, _, _, rfl, rfl⟩ (Nat.le_of_ble_eq_true rfl) g2 f2 ?_
      refine zcv h (fun I2 J2 D2 h => ?_)
      refine zr_aload_n zSm 64 rfl rfl ?_
      refine zr_s zSm 65 rfl rfl ?_
      refine zr_getI zSm 66 rfl zf_11_170 rfl rfl (by decide) ?_
      refine zr_s zSm 67 rfl rfl ?_
      refine zr_s zSm 68 rfl rfl ?_
      refine zr_putI zSm 69 rfl zf_11_170 rfl rfl (by decide) zp_11_24 ?_
      refine zr_iload_n zSm 70 rfl rfl ?_
      refine zr_iret zSm 71 rfl rfl rfl ?_
      exact h
  · have h := h.2 q1
    refine zr_iload zSm 16 rfl rfl ?_
    refine zr_s zSm 17 rfl rfl ?_
    refine zr_s zSm 18 rfl rfl ?_
    refine zr_aload_n zSm 19 rfl rfl ?_
    refine zr_getI zSm 20 rfl zf_11_122 rfl rfl (by decide) ?_
    refine zr_ic zSm 21 92 rfl rfl (fun q3 => ?_) (fun q3 => ?_)
    · have h := h.1 q3
      refine zr_aload_n zSm 50 rfl rfl ?_
      refine zr_iload_n zSm 51 rfl rfl ?_
      refine zr_s zSm 52 rfl rfl ?_
      refine zr_ic zSm 53 102 rfl rfl (fun q4 => ?_) (fun q4 => ?_)
      · have h := h.1 q4
        refine zr_s zSm 56 rfl rfl ?_
        refine zr_s zSm 57 rfl rfl ?_
        refine zr_aload_n zSm 58 rfl rfl ?_
        refine zr_getR zSm 59 rfl zf_11_20 rfl rfl (by decide) ?_
        refine zr_aload_n zSm 60 rfl rfl ?_
        refine zr_getI zSm 61 rfl zf_11_170 rfl rfl (by decide) ?_
        obtain ⟨b62, h⟩ := h
        refine zr_iald zSm 62 rfl rfl b62 ?_
        obtain ⟨c3, s3, g3, f3, h⟩ := h
        refine zr_inv zSm 63 150 3 c3 s3 [.int 0, .int 2, .int (I 32 ((I 28 24).toNatClampNeg))] rfl rfl zk_11_239 zms_150 rfl ⟨_, _, _, _, rfl, rfl⟩ (Nat.le_of_ble_eq_true rfl) g3 f3 ?_
        refine zcv h (fun I3 J3 D3 h => ?_)
        refine zr_aload_n zSm 64 rfl rfl ?_
        refine zr_s zSm 65 rfl rfl ?_
        refine zr_getI zSm 66 rfl zf_11_170 rfl rfl (by decide) ?_
        refine zr_s zSm 67 rfl rfl ?_
        refine zr_s zSm 68 rfl rfl ?_
        refine zr_putI zSm 69 rfl zf_11_170 rfl rfl (by decide) zp_11_24 ?_
        refine zr_iload_n zSm 70 rfl rfl ?_
        refine zr_iret zSm 71 rfl rfl rfl ?_
        exact h
      · have h := h.2 q4
        refine zr_s zSm 54 rfl rfl ?_
        refine zr_goto zSm 55 103 rfl rfl ?_
        refine zr_s zSm 57 rfl rfl ?_
        refine zr_aload_n zSm 58 rfl rfl ?_
        refine zr_getR zSm 59 rfl zf_11_20 rfl rfl (by decide) ?_
        refine zr_aload_n zSm 60 rfl rfl ?_
        refine zr_getI zSm 61 rfl zf_11_170 rfl rfl (by decide) ?_
        obtain ⟨b62, h⟩ := h
        refine zr_iald zSm 62 rfl rfl b62 ?_
        obtain ⟨c4, s4, g4, f4, h⟩ := h
        refine zr_inv zSm 63 150 3 c4 s4 [.int 1, .int 2, .int (I 32 ((I 28 24).toNatClampNeg))] rfl rfl zk_11_239 zms_150 rfl ⟨_, _, _, _, rfl, rfl⟩ (Nat.le_of_ble_eq_true rfl) g4 f4 ?_
        refine zcv h (fun I4 J4 D4 h => ?_)
        refine zr_aload_n zSm 64 rfl rfl ?_
        refine zr_s zSm 65 rfl rfl ?_
        refine zr_getI zSm 66 rfl zf_11_170 rfl rfl (by decide) ?_
        refine zr_s zSm 67 rfl rfl ?_
        refine zr_s zSm 68 rfl rfl ?_
        refine zr_putI zSm 69 rfl zf_11_170 rfl rfl (by decide) zp_11_24 ?_
        refine zr_iload_n zSm 70 rfl rfl ?_
        refine zr_iret zSm 71 rfl rfl rfl ?_
        exact h
    · have h := h.2 q3
      refine zr_iload_n zSm 22 rfl rfl ?_
      refine zr_s zSm 23 rfl rfl ?_
      refine zr_ic zSm 24 92 rfl rfl (fun q5 => ?_) (fun q5 => ?_)
      · have h := h.1 q5
        refine zr_aload_n zSm 50 rfl rfl ?_
        refine zr_iload_n zSm 51 rfl rfl ?_
        refine zr_s zSm 52 rfl rfl ?_
        refine zr_ic zSm 53 102 rfl rfl (fun q6 => ?_) (fun q6 => ?_)
        · first | exact absurd q6 q5 | exact absurd q5 q6 | exact absurd (Int32.not_lt.mp q6) q5 | exact absurd (Int32.not_lt.mp q5) q6 | exact absurd (Int32.not_le.mp q6) q5 | exact absurd (Int32.not_le.mp q5) q6 | exact absurd q6 (Int32.not_lt.mpr q5) | exact absurd q5 (Int32.not_lt.mpr q6) | exact absurd q6 (Int32.not_le.mpr q5) | exact absurd q5 (Int32.not_le.mpr q6)
        · refine zr_s zSm 54 rfl rfl ?_
          refine zr_goto zSm 55 103 rfl rfl ?_
          refine zr_s zSm 57 rfl rfl ?_
          refine zr_aload_n zSm 58 rfl rfl ?_
          refine zr_getR zSm 59 rfl zf_11_20 rfl rfl (by decide) ?_
          refine zr_aload_n zSm 60 rfl rfl ?_
          refine zr_getI zSm 61 rfl zf_11_170 rfl rfl (by decide) ?_
          obtain ⟨b62, h⟩ := h
          refine zr_iald zSm 62 rfl rfl b62 ?_
          obtain ⟨c5, s5, g5, f5, h⟩ := h
          refine zr_inv zSm 63 150 3 c5 s5 [.int 1, .int 2, .int (I 32 ((I 28 24).toNatClampNeg))] rfl rfl zk_11_239 zms_150 rfl ⟨_, _, _, _, rfl, rfl⟩ (Nat.le_of_ble_eq_true rfl) g5 f5 ?_
          refine zcv h (fun I5 J5 D5 h => ?_)
          refine zr_aload_n zSm 64 rfl rfl ?_
          refine zr_s zSm 65 rfl rfl ?_
          refine zr_getI zSm 66 rfl zf_11_170 rfl rfl (by decide) ?_
          refine zr_s zSm 67 rfl rfl ?_
          refine zr_s zSm 68 rfl rfl ?_
          refine zr_putI zSm 69 rfl zf_11_170 rfl rfl (by decide) zp_11_24 ?_
          refine zr_iload_n zSm 70 rfl rfl ?_
          refine zr_iret zSm 71 rfl rfl rfl ?_
          exact h
      · have h := h.2 q5
        refine zr_aload_n zSm 25 rfl rfl ?_
        refine zr_getR zSm 26 rfl zf_11_17 rfl rfl (by decide) ?_
        refine zr_iload zSm 27 rfl rfl ?_
        obtain ⟨b28, h⟩ := h
        refine zr_iald zSm 28 rfl rfl b28 ?_
        refine zr_iload_n zSm 29 rfl rfl ?_
        refine zr_ic zSm 30 59 rfl rfl (fun q7 => ?_) (fun q7 => ?_)
        · have h := h.1 q7
          refine zr_aload_n zSm 32 rfl rfl ?_
          refine zr_getR zSm 33 rfl zf_11_23 rfl rfl (by decide) ?_
          refine zr_iload zSm 34 rfl rfl ?_
          refine zr_s zSm 35 rfl rfl ?_
          refine zr_s zSm 36 rfl rfl ?_
          obtain ⟨b37, h⟩ := h
          refine zr_lald zSm 37 rfl rfl b37 ?_
          refine zr_aload_n zSm 38 rfl rfl ?_
          refine zr_getR zSm 39 rfl zf_11_23 rfl rfl (by decide) ?_
          refine zr_aload_n zSm 40 rfl rfl ?_
          refine zr_getI zSm 41 rfl zf_11_170 rfl rfl (by decide) ?_
          obtain ⟨b42, h⟩ := h
          refine zr_lald zSm 42 rfl rfl b42 ?_
          refine zr_s zSm 43 rfl rfl ?_
          refine zr_if zSm 44 83 rfl rfl (fun q8 => ?_) (fun q8 => ?_)
          · have q8 := zq_ne.mp q8
            have h := h.1 q8
            refine zr_iinc zSm 47 (v := l2 + 1) (ll' := [(2, .int (l2 + 1)), (0, .ref 28), (1, .int l1), (3, .int l3), (4, .int l4)]) rfl rfl (by decide) rfl rfl ?_
            refine zr_iinc zSm 48 (v := l4 + 1) (ll' := [(4, .int (l4 + 1)), (2, .int (l2 + 1)), (0, .ref 28), (1, .int l1), (3, .int l3)]) rfl rfl (by decide) rfl rfl ?_
            refine zr_goto zSm 49 22 rfl rfl ?_
            refine zr_sub [2, 3, 1, 4, 0] rfl ?_
            exact h
          · have q8 := (fun z => q8 (zq_ne.mpr z))
            have h := h.2 q8
            refine zr_iload_n zSm 45 rfl rfl ?_
            refine zr_istore_n zSm 46 (ll' := [(3, .int l2), (0, .ref 28), (1, .int l1), (2, .int l2), (4, .int l4)]) rfl (by decide) rfl ?_
            refine zr_iinc zSm 47 (v := l2 + 1) (ll' := [(2, .int (l2 + 1)), (3, .int l2), (0, .ref 28), (1, .int l1), (4, .int l4)]) rfl rfl (by decide) rfl rfl ?_
            refine zr_iinc zSm 48 (v := l4 + 1) (ll' := [(4, .int (l4 + 1)), (2, .int (l2 + 1)), (3, .int l2), (0, .ref 28), (1, .int l1)]) rfl rfl (by decide) rfl rfl ?_
            refine zr_goto zSm 49 22 rfl rfl ?_
            refine zr_sub [3, 4, 1, 2, 0] rfl ?_
            exact h
        · have h := h.2 q7
          refine zr_goto zSm 31 86 rfl rfl ?_
          refine zr_iinc zSm 48 (v := l4 + 1) (ll' := [(4, .int (l4 + 1)), (0, .ref 28), (1, .int l1), (2, .int l2), (3, .int l3)]) rfl rfl (by decide) rfl rfl ?_
          refine zr_goto zSm 49 22 rfl rfl ?_
          refine zr_sub [1, 2, 3, 4, 0] rfl ?_
          exact h
theorem w_166 {RO : zRo} {d : Nat} {P : zP} {I : zI} {J : zJ} {D : zD} {bc bs : Nat} {p0 : Int32} (h : (zo_148 I J 200 ∧ ((¬ (zv_148 I J 200) = 0 → (vp_in (I 28 24) 452 ∧ (zz RO (d + 1) 137 [.ref 34, .int (I 28 8), .long (J 33 ((I 28 24).toNatClampNeg))] I J D 0 0 (zNi P fun v1 I1 J1 D1 => ((¬ v1 = (-1) → (vp_in (I1 28 24) 452 ∧ (∃ c2 s2, c2 ≤ bc ∧ s2 ≤ bs ∧ zz RO (d + 1) 150 [.ref 28, .int 0, .int 3, .int (I1 32 ((I1 28 24).toNatClampNeg))] I1 J1 D1 c2 s2 (zNv P fun I2 J2 D2 => (((I2 28 25) = 0 → P (.inl none) (zu I2 28 24 ((I2 28 24) + 1)) J2 D2) ∧ (¬ ((I2 28 25) = 0) → (vp_in (I2 28 24) 452 ∧ (vp_in (I2 28 8) 46 ∧ (vp_in (I2 28 8) 46 ∧ (vp_in p0 9 ∧ (vp_in (I2 28 8) 46 ∧ P (.inl none) (zu (zu (zu (zu I2 35 ((I2 28 8).toNatClampNeg) p0) 36 ((I2 28 8).toNatClampNeg) (I2 37 p0.toNatClampNeg)) 28 8 ((I2 28 8) + 1)) 28 24 ((I2 28 24) + 1)) (zu J2 34 ((I2 28 8).toNatClampNeg) (J2 33 ((I2 28 24).toNatClampNeg))) D2))))))))))) ∧ (¬ (¬ v1 = (-1)) → (vp_in (I1 28 24) 452 ∧ (∃ c3 s3, c3 ≤ bc ∧ s3 ≤ bs ∧ zz RO (d + 1) 150 [.ref 28, .int 1, .int 3, .int (I1 32 ((I1 28 24).toNatClampNeg))] I1 J1 D1 c3 s3 (zNv P fun I3 J3 D3 => (((I3 28 25) = 0 → P (.inl none) (zu I3 28 24 ((I3 28 24) + 1)) J3 D3) ∧ (¬ ((I3 28 25) = 0) → (vp_in (I3 28 24) 452 ∧ (vp_in (I3 28 8) 46 ∧ (vp_in (I3 28 8) 46 ∧ (vp_in p0 9 ∧ (vp_in (I3 28 8) 46 ∧ P (.inl none) (zu (zu (zu (zu I3 35 ((I3 28 8).toNatClampNeg) p0) 36 ((I3 28 8).toNatClampNeg) (I3 37 p0.toNatClampNeg)) 28 8 ((I3 28 8) + 1)) 28 24 ((I3 28 24) + 1)) (zu J3 34 ((I3 28 8).toNatClampNeg) (J3 33 ((I3 28 24).toNatClampNeg))) D3)))))))))))))))) ∧ (¬ (¬ (zv_148 I J 200) = 0) → ((1 ≤ bc ∧ 8 ≤ bs) ∧ vp_in (I 28 24) 452 ∧ P (.inr (3, 1, I 32 ((I 28 24).toNatClampNeg))) I J D))))) : zz RO (d + 2) 166 [.ref 28, .int p0] I J D bc bs P := by
  refine zT_of (Nat.le_of_ble_eq_true rfl) rfl ?_
  show zw RO (d + 1) 166 P 0 [(0, .ref 28), (1, .int p0)] [] I J D bc bs
  refine zr_aload_n zSm 0 rfl rfl ?_
  refine zr_sipush zSm 1 200 rfl rfl ?_
  obtain ⟨b2, h⟩ := h
  refine zr_inv0 2 148 1 [.int 200] rfl rfl zk_11_181 zms_148 rfl ⟨_, _, _, _, rfl, rfl⟩ (Nat.le_of_ble_eq_true rfl) ?_
  refine ze_148 b2 ?_
  refine zNx_i ?_
  refine zr_if zSm 3 15 rfl rfl (fun q1 => ?_) (fun q1 => ?_)
  · have h := h.1 q1
    refine zr_aload_n zSm 7 rfl rfl ?_
    refine zr_aload_n zSm 8 rfl rfl ?_
    refine zr_getR zSm 9 rfl zf_11_26 rfl rfl (by decide) ?_
    refine zr_aload_n zSm 10 rfl rfl ?_
    refine zr_getI zSm 11 rfl zf_11_151 rfl rfl (by decide) ?_
    refine zr_aload_n zSm 12 rfl rfl ?_
    refine zr_getR zSm 13 rfl zf_11_23 rfl rfl (by decide) ?_
    refine zr_aload_n zSm 14 rfl rfl ?_
    refine zr_getI zSm 15 rfl zf_11_170 rfl rfl (by decide) ?_
    obtain ⟨b16, h⟩ := h
    refine zr_lald zSm 16 rfl rfl b16 ?_
    refine zr_ins0 17 137 3 [.ref 34, .int (I 28 8), .long (J 33 ((I 28 24).toNatClampNeg))] rfl rfl zk_11_139 zms_137 rfl (Nat.le_of_ble_eq_true rfl) ?_
    refine zci h (fun v1 I1 J1 D1 h => ?_)
    refine zr_s zSm 18 rfl rfl ?_
    refine zr_ic zSm 19 44 rfl rfl (fun q2 => ?_) (fun q2 => ?_)
    · have h := h.1 q2
      refine zr_s zSm 22 rfl rfl ?_
      refine zr_s zSm 23 rfl rfl ?_
      refine zr_aload_n zSm 24 rfl rfl ?_
      refine zr_getR zSm 25 rfl zf_11_20 rfl rfl (by decide) ?_
      refine zr_aload_n zSm 26 rfl rfl ?_
      refine zr_getI zSm 27 rfl zf_11_170 rfl rfl (by decide) ?_
      obtain ⟨b28, h⟩ := h
      refine zr_iald zSm 28 rfl rfl b28 ?_
      obtain ⟨c2, s2, g2, f2, h⟩ := h
      refine zr_inv zSm 29 150 3 c2 s2 [.int 0, .int 3, .int (I1 32 ((I1 28 24).toNatClampNeg))] rfl rfl zk_11_239 zms_150 rfl ⟨_, _, _, _, rfl, rfl⟩ (Nat.le_of_ble_eq_true rfl) g2 f2 ?_
      refine zcv h (fun I2 J2 D2 h => ?_)
      refine zr_aload_n zSm 30 rfl rfl ?_
      refine zr_getZ zSm 31 rfl zf_11_178 rfl rfl (by decide) ?_
      refine zr_if zSm 32 118 rfl rfl (fun q3 => ?_) (fun q3 => ?_)
      · have h := h.1 q3
        refine zr_aload_n zSm 64 rfl rfl ?_
        refine zr_s zSm 65 rfl rfl ?_
        refine zr_getI zSm 66 rfl zf_11_170 rfl rfl (by decide) ?_
        refine zr_s zSm 67 rfl rfl ?_
        refine zr_s zSm 68 rfl rfl ?_
        refine zr_putI zSm 69 rfl zf_11_170 rfl rfl (by decide) zp_11_24 ?_
        refine zr_vret zSm 70 rfl rfl ?_
        exact h
      · have h := h.2 q3
        refine zr_aload_n zSm 33 rfl rfl ?_
        refine zr_getR zSm 34 rfl zf_11_26 rfl rfl (by decide) ?_
        refine zr_aload_n zSm 35 rfl rfl ?_
        refine zr_getI zSm 36 rfl zf_11_151 rfl rfl (by decide) ?_
        refine zr_aload_n zSm 37 rfl rfl ?_
        refine zr_getR zSm 38 rfl zf_11_23 rfl rfl (by decide) ?_
        refine zr_aload_n zSm 39 rfl rfl ?_
        refine zr_getI zSm 40 rfl zf_11_170 rfl rfl (by decide) ?_
        obtain ⟨b41, h⟩ := h
        refine zr_lald zSm 41 rfl rfl b41 ?_
        obtain ⟨b42, h⟩ := h
        refine zr_last zSm 42 rfl rfl b42 ?_
        refine zr_aload_n zSm 43 rfl rfl ?_
        refine zr_getR zSm 44 rfl zf_11_29 rfl rfl (by decide) ?_
        refine zr_aload_n zSm 45 rfl rfl ?_
        refine zr_getI zSm 46 rfl zf_11_151 rfl rfl (by decide) ?_
        refine zr_iload_n zSm 47 rfl rfl ?_
        obtain ⟨b48, h⟩ := h
        refine zr_iast zSm 48 rfl rfl b48 ?_
        refine zr_aload_n zSm 49 rfl rfl ?_
        refine zr_getR zSm 50 rfl zf_11_32 rfl rfl (by decide) ?_
        refine zr_aload_n zSm 51 rfl rfl ?_
        refine zr_getI zSm 52 rfl zf_11_151 rfl rfl (by decide) ?_
        refine zr_aload_n zSm 53 rfl rfl ?_
        refine zr_getR zSm 54 rfl zf_11_35 rfl rfl (by decide) ?_
        refine zr_iload_n zSm 55 rfl rfl ?_
        obtain ⟨b56, h⟩ := h
        refine zr_iald zSm 56 rfl rfl b56 ?_
        obtain ⟨b57, h⟩ := h
        refine zr_iast zSm 57 rfl rfl b57 ?_
        refine zr_aload_n zSm 58 rfl rfl ?_
        refine zr_s zSm 59 rfl rfl ?_
        refine zr_getI zSm 60 rfl zf_11_151 rfl rfl (by decide) ?_
        refine zr_s zSm 61 rfl rfl ?_
        refine zr_s zSm 62 rfl rfl ?_
        refine zr_putI zSm 63 rfl zf_11_151 rfl rfl (by decide) zp_11_8 ?_
        refine zr_aload_n zSm 64 rfl rfl ?_
        refine zr_s zSm 65 rfl rfl ?_
        refine zr_getI zSm 66 rfl zf_11_170 rfl rfl (by decide) ?_
        refine zr_s zSm 67 rfl rfl ?_
        refine zr_s zSm 68 rfl rfl ?_
        refine zr_putI zSm 69 rfl zf_11_170 rfl rfl (by decide) zp_11_24 ?_
        refine zr_vret zSm 70 rfl rfl ?_
        exact h
    · have h := h.2 q2
      refine zr_s zSm 20 rfl rfl ?_
      refine zr_goto zSm 21 45 rfl rfl ?_
      refine zr_s zSm 23 rfl rfl ?_
      refine zr_aload_n zSm 24 rfl rfl ?_
      refine zr_getR zSm 25 rfl zf_11_20 rfl rfl (by decide) ?_
      refine zr_aload_n zSm 26 rfl rfl ?_
      refine zr_getI zSm 27 rfl zf_11_170 rfl rfl (by decide) ?_
      obtain ⟨b28, h⟩ := h
      refine zr_iald zSm 28 rfl rfl b28 ?_
      obtain ⟨c3, s3, g3, f3, h⟩ := h
      refine zr_inv zSm 29 150 3 c3 s3 [.int 1, .int 3, .int (I1 32 ((I1 28 24).toNatClampNeg))] rfl rfl zk_11_239 zms_150 rfl ⟨_, _, _, _, rfl, rfl⟩ (Nat.le_of_ble_eq_true rfl) g3 f3 ?_
      refine zcv h (fun I3 J3 D3 h => ?_)
      refine zr_aload_n zSm 30 rfl rfl ?_
      refine zr_getZ zSm 31 rfl zf_11_178 rfl rfl (by decide) ?_
      refine zr_if zSm 32 118 rfl rfl (fun q4 => ?_) (fun q4 => ?_)
      · have h := h.1 q4
        refine zr_aload_n zSm 64 rfl rfl ?_
        refine zr_s zSm 65 rfl rfl ?_
        refine zr_getI zSm 66 rfl zf_11_170 rfl rfl (by decide) ?_
        refine zr_s zSm 67 rfl rfl ?_
        refine zr_s zSm 68 rfl rfl ?_
        refine zr_putI zSm 69 rfl zf_11_170 rfl rfl (by decide) zp_11_24 ?_
        refine zr_vret zSm 70 rfl rfl ?_
        exact h
      · have h := h.2 q4
        refine zr_aload_n zSm 33 rfl rfl ?_
        refine zr_getR zSm 34 rfl zf_11_26 rfl rfl (by decide) ?_
        refine zr_aload_n zSm 35 rfl rfl ?_
        refine zr_getI zSm 36 rfl zf_11_151 rfl rfl (by decide) ?_
        refine zr_aload_n zSm 37 rfl rfl ?_
        refine zr_getR zSm 38 rfl zf_11_23 rfl rfl (by decide) ?_
        refine zr_aload_n zSm 39 rfl rfl ?_
        refine zr_getI zSm 40 rfl zf_11_170 rfl rfl (by decide) ?_
        obtain ⟨b41, h⟩ := h
        refine zr_lald zSm 41 rfl rfl b41 ?_
        obtain ⟨b42, h⟩ := h
        refine zr_last zSm 42 rfl rfl b42 ?_
        refine zr_aload_n zSm 43 rfl rfl ?_
        refine zr_getR zSm 44 rfl zf_11_29 rfl rfl (by decide) ?_
        refine zr_aload_n zSm 45 rfl rfl ?_
        refine zr_getI zSm 46 rfl zf_11_151 rfl rfl (by decide) ?_
        refine zr_iload_n zSm 47 rfl rfl ?_
        obtain ⟨b48, h⟩ := h
        refine zr_iast zSm 48 rfl rfl b48 ?_
        refine zr_aload_n zSm 49 rfl rfl ?_
        refine zr_getR zSm 50 rfl zf_11_32 rfl rfl (by decide) ?_
        refine zr_aload_n zSm 51 rfl rfl ?_
        refine zr_getI zSm 52 rfl zf_11_151 rfl rfl (by decide) ?_
        refine zr_aload_n zSm 53 rfl rfl ?_
        refine zr_getR zSm 54 rfl zf_11_35 rfl rfl (by decide) ?_
        refine zr_iload_n zSm 55 rfl rfl ?_
        obtain ⟨b56, h⟩ := h
        refine zr_iald zSm 56 rfl rfl b56 ?_
        obtain ⟨b57, h⟩ := h
        refine zr_iast zSm 57 rfl rfl b57 ?_
        refine zr_aload_n zSm 58 rfl rfl ?_
        refine zr_s zSm 59 rfl rfl ?_
        refine zr_getI zSm 60 rfl zf_11_151 rfl rfl (by decide) ?_
        refine zr_s zSm 61 rfl rfl ?_
        refine zr_s zSm 62 rfl rfl ?_
        refine zr_putI zSm 63 rfl zf_11_151 rfl rfl (by decide) zp_11_8 ?_
        refine zr_aload_n zSm 64 rfl rfl ?_
        refine zr_s zSm 65 rfl rfl ?_
        refine zr_getI zSm 66 rfl zf_11_170 rfl rfl (by decide) ?_
        refine zr_s zSm 67 rfl rfl ?_
        refine zr_s zSm 68 rfl rfl ?_
        refine zr_putI zSm 69 rfl zf_11_170 rfl rfl (by decide) zp_11_24 ?_
        refine zr_vret zSm 70 rfl rfl ?_
        exact h
  · have h := h.2 q1
    refine zr_wrong 184 ⟨List.mem_of_getElem? (i := 4) rfl, List.mem_of_getElem? (i := 5) rfl, zk_11_184, List.mem_of_getElem? (i := 6) rfl⟩ rfl rfl (by decide) rfl h.1 h.2.1 ?_
    exact h.2.2
theorem w_167 {RO : zRo} {d : Nat} {P : zP} {I : zI} {J : zJ} {D : zD} {bc bs : Nat} {p0 p1 : Int32} (h : (zz RO (d + 1) 152 [.ref 28, .int 107] I J D 0 0 (zNi P fun v1 I1 J1 D1 => (zo_148 I1 J1 201 ∧ ((¬ (zv_148 I1 J1 201) = 0 → ((v1 = 0 → (vp_in (I1 28 24) 452 ∧ (vp_in (I1 28 24) 452 ∧ (∃ c2 s2, c2 ≤ bc ∧ s2 ≤ bs ∧ zz RO (d + 1) 150 [.ref 28, .int (zv_136 I1 J1 (((J1 33 ((I1 28 24).toNatClampNeg)).toInt32).toInt64) p0.toInt64 p1.toInt64), .int 5, .int (I1 32 ((I1 28 24).toNatClampNeg))] I1 J1 D1 c2 s2 (zNv P fun I2 J2 D2 => P (.inl (some (.int ((J1 33 ((I1 28 24).toNatClampNeg)).toInt32)))) (zu I2 28 24 ((I2 28 24) + 1)) J2 D2))))) ∧ (¬ (v1 = 0) → (vp_in (I1 28 24) 452 ∧ (vp_in (I1 28 24) 452 ∧ (∃ c3 s3, c3 ≤ bc ∧ s3 ≤ bs ∧ zz RO (d + 1) 150 [.ref 28, .int (zv_136 I1 J1 (((-(J1 33 ((I1 28 24).toNatClampNeg))).toInt32).toInt64) p0.toInt64 p1.toInt64), .int 5, .int (I1 32 ((I1 28 24).toNatClampNeg))] I1 J1 D1 c3 s3 (zNv P fun I3 J3 D3 => P (.inl (some (.int ((-(J1 33 ((I1 28 24).toNatClampNeg))).toInt32)))) (zu I3 28 24 ((I3 28 24) + 1)) J3 D3))))))) ∧ (¬ (¬ (zv_148 I1 J1 201) = 0) → ((1 ≤ bc ∧ 8 ≤ bs) ∧ vp_in (I1 28 24) 452 ∧ P (.inr (3, 1, I1 32 ((I1 28 24).toNatClampNeg))) I1 J1 D1))))))) : zz RO (d + 2) 167 [.ref 28, .int p0, .int p1] I J D bc bs P := by
  refine zT_of (Nat.le_of_ble_eq_true rfl) rfl ?_
  show zw RO (d + 1) 167 P 0 [(0, .ref 28), (1, .int p0), (2, .int p1)] [] I J D bc bs
  refine zr_aload_n zSm 0 rfl rfl ?_
  refine zr_bipush zSm 1 107 rfl rfl ?_
  refine zr_inv0 2 152 1 [.int 107] rfl rfl zk_11_203 zms_152 rfl ⟨_, _, _, _, rfl, rfl⟩ (Nat.le_of_ble_eq_true rfl) ?_
  refine zci h (fun v1 I1 J1 D1 h => ?_)
  refine zr_istore_n zSm 3 (ll' := [(3, .int v1), (0, .ref 28), (1, .int p0), (2, .int p1)]) rfl (by decide) rfl ?_
  refine zr_aload_n zSm 4 rfl rfl ?_
  refine zr_sipush zSm 5 201 rfl rfl ?_
  obtain ⟨b6, h⟩ := h
  refine zr_inv0 6 148 1 [.int 201] rfl rfl zk_11_181 zms_148 rfl ⟨_, _, _, _, rfl, rfl⟩ (Nat.le_of_ble_eq_true rfl) ?_
  refine ze_148 b6 ?_
  refine zNx_i ?_
  refine zr_if zSm 7 22 rfl rfl (fun q1 => ?_) (fun q1 => ?_)
  · have h := h.1 q1
    refine zr_iload_n zSm 11 rfl rfl ?_
    refine zr_if zSm 12 39 rfl rfl (fun q2 => ?_) (fun q2 => ?_)
    · have h := h.1 q2
      refine zr_aload_n zSm 20 rfl rfl ?_
      refine zr_getR zSm 21 rfl zf_11_23 rfl rfl (by decide) ?_
      refine zr_aload_n zSm 22 rfl rfl ?_
      refine zr_getI zSm 23 rfl zf_11_170 rfl rfl (by decide) ?_
      obtain ⟨b24, h⟩ := h
      refine zr_lald zSm 24 rfl rfl b24 ?_
      refine zr_s zSm 25 rfl rfl ?_
      refine zr_istore zSm 26 (ll' := [(4, .int ((J1 33 ((I1 28 24).toNatClampNeg)).toInt32)), (3, .int v1), (0, .ref 28), (1, .int p0), (2, .int p1)]) rfl (by decide) rfl ?_
      refine zr_aload_n zSm 27 rfl rfl ?_
      refine zr_iload zSm 28 rfl rfl ?_
      refine zr_s zSm 29 rfl rfl ?_
      refine zr_iload_n zSm 30 rfl rfl ?_
      refine zr_s zSm 31 rfl rfl ?_
      refine zr_iload_n zSm 32 rfl rfl ?_
      refine zr_s zSm 33 rfl rfl ?_
      refine zr_ins0 34 136 3 [.long (((J1 33 ((I1 28 24).toNatClampNeg)).toInt32).toInt64), .long p0.toInt64, .long p1.toInt64] rfl rfl zk_11_110 zms_136 rfl (Nat.le_of_ble_eq_true rfl) ?_
      refine ze_136 ?_
      refine zNx_i ?_
      refine zr_s zSm 35 rfl rfl ?_
      refine zr_aload_n zSm 36 rfl rfl ?_
      refine zr_getR zSm 37 rfl zf_11_20 rfl rfl (by decide) ?_
      refine zr_aload_n zSm 38 rfl rfl ?_
      refine zr_getI zSm 39 rfl zf_11_170 rfl rfl (by decide) ?_
      obtain ⟨b40, h⟩ := h
      refine zr_iald zSm 40 rfl rfl b40 ?_
      obtain ⟨c2, s2, g2, f2, h⟩ := h
      refine zr_inv zSm 41 150 3 c2 s2 [.int (zv_136 I1 J1 (((J1 33 ((I1 28 24).toNatClampNeg)).toInt32).toInt64) p0.toInt64 p1.toInt64), .int 5, .int (I1 32 ((I1 28 24).toNatClampNeg))] rfl rfl zk_11_239 zms_150 rfl ⟨_, _, _, _, rfl, rfl⟩ (Nat.le_of_ble_eq_true rfl) g2 f2 ?_
      refine zcv h (fun I2 J2 D2 h => ?_)
      refine zr_aload_n zSm 42 rfl rfl ?_
      refine zr_s zSm 43 rfl rfl ?_
      refine zr_getI zSm 44 rfl zf_11_170 rfl rfl (by decide) ?_
      refine zr_s zSm 45 rfl rfl ?_
      refine zr_s zSm 46 rfl rfl ?_
      refine zr_putI zSm 47 rfl zf_11_170 rfl rfl (by decide) zp_11_24 ?_
      refine zr_iload zSm 48 rfl rfl ?_
      refine zr_iret zSm 49 rfl rfl rfl ?_
      exact h
    · have h := h.2 q2
      refine zr_aload_n zSm 13 rfl rfl ?_
      refine zr_getR zSm 14 rfl zf_11_23 rfl rfl (by decide) ?_
      refine zr_aload_n zSm 15 rfl rfl ?_
      refine zr_getI zSm 16 rfl zf_11_170 rfl rfl (by decide) ?_
      obtain ⟨b17, h⟩ := h
      refine zr_lald zSm 17 rfl rfl b17 ?_
      refine zr_s zSm 18 rfl rfl ?_
      refine zr_goto zSm 19 48 rfl rfl ?_
      refine zr_s zSm 25 rfl rfl ?_
      refine zr_istore zSm 26 (ll' := [(4, .int ((-(J1 33 ((I1 28 24).toNatClampNeg))).toInt32)), (3, .int v1), (0, .ref 28), (1, .int p0), (2, .int p1)]) rfl (by decide) rfl ?_
      refine zr_aload_n zSm 27 rfl rfl ?_
      refine zr_iload zSm 28 rfl rfl ?_
      refine zr_s zSm 29 rfl rfl ?_
      refine zr_iload_n zSm 30 rfl rfl ?_
      refine zr_s zSm 31 rfl rfl ?_
      refine zr_iload_n zSm 32 rfl rfl ?_
      refine zr_s zSm 33 rfl rfl ?_
      refine zr_ins0 34 136 3 [.long (((-(J1 33 ((I1 28 24).toNatClampNeg))).toInt32).toInt64), .long p0.toInt64, .long p1.toInt64] rfl rfl zk_11_110 zms_136 rfl (Nat.le_of_ble_eq_true rfl) ?_
      refine ze_136 ?_
      refine zNx_i ?_
      refine zr_s zSm 35 rfl rfl ?_
      refine zr_aload_n zSm 36 rfl rfl ?_
      refine zr_getR zSm 37 rfl zf_11_20 rfl rfl (by decide) ?_
      refine zr_aload_n zSm 38 rfl rfl ?_
      refine zr_getI zSm 39 rfl zf_11_170 rfl rfl (by decide) ?_
      obtain ⟨b40, h⟩ := h
      refine zr_iald zSm 40 rfl rfl b40 ?_
      obtain ⟨c3, s3, g3, f3, h⟩ := h
      refine zr_inv zSm 41 150 3 c3 s3 [.int (zv_136 I1 J1 (((-(J1 33 ((I1 28 24).toNatClampNeg))).toInt32).toInt64) p0.toInt64 p1.toInt64), .int 5, .int (I1 32 ((I1 28 24).toNatClampNeg))] rfl rfl zk_11_239 zms_150 rfl ⟨_, _, _, _, rfl, rfl⟩ (Nat.le_of_ble_eq_true rfl) g3 f3 ?_
      refine zcv h (fun I3 J3 D3 h => ?_)
      refine zr_aload_n zSm 42 rfl rfl ?_
      refine zr_s zSm 43 rfl rfl ?_
      refine zr_getI zSm 44 rfl zf_11_170 rfl rfl (by decide) ?_
      refine zr_s zSm 45 rfl rfl ?_
      refine zr_s zSm 46 rfl rfl ?_
      refine zr_putI zSm 47 rfl zf_11_170 rfl rfl (by decide) zp_11_24 ?_
      refine zr_iload zSm 48 rfl rfl ?_
      refine zr_iret zSm 49 rfl rfl rfl ?_
      exact h
  · have h := h.2 q1
    refine zr_wrong 184 ⟨List.mem_of_getElem? (i := 8) rfl, List.mem_of_getElem? (i := 9) rfl, zk_11_184, List.mem_of_getElem? (i := 10) rfl⟩ rfl rfl (by decide) rfl h.1 h.2.1 ?_
    exact h.2.2

/-! ===== written by wip/whole/lay15.py: walks, a formula each ===== -/
theorem w_188 {RO : zRo} {d : Nat} {P : zP} {I : zI} {J : zJ} {D : zD} {bc bs : Nat}  (h : zw RO (d + 1) 188 P 2 [(0, .ref 28), (1, .int 0)] [] I J D bc bs) : zz RO (d + 2) 188 [.ref 28] I J D bc bs P := by
  refine zT_of (Nat.le_of_ble_eq_true rfl) rfl ?_
  show zw RO (d + 1) 188 P 0 [(0, .ref 28)] [] I J D bc bs
  refine zr_s zSm 0 rfl rfl ?_
  refine zr_istore_n zSm 1 (ll' := [(1, .int 0), (0, .ref 28)]) rfl (by decide) rfl ?_
  refine zr_sub [1, 0] rfl ?_
  exact h
theorem wl_188_2 {RO : zRo} {d : Nat} {P : zP} {I : zI} {J : zJ} {D : zD} {bc bs : Nat} {l1 : Int32} (h : (((I 37 7) ≤ l1 → P (.inl none) I J D) ∧ (¬ ((I 37 7) ≤ l1) → (vp_in l1 8 ∧ ((¬ (I 42 l1.toNatClampNeg) = (I 28 36) → zw RO (d + 1) 188 P 2 [(0, .ref 28), (1, .int (l1 + 1))] [] I J D bc bs) ∧ (¬ (¬ (I 42 l1.toNatClampNeg) = (I 28 36)) → (zo_179 I J (I 28 35) ∧ (zz RO (d + 1) 184 [.ref 28, .int (20 + l1), .int (I 28 35), .int (zv_179 I J (I 28 35))] I J D 0 0 (zNi P fun v1 I1 J1 D1 => ((¬ v1 = 0 → (vp_in (20 + l1) 28 ∧ (zo_179 I1 J1 (I1 28 35) ∧ (zz RO (d + 1) 186 [.ref 28, .int (I1 41 ((20 + l1).toNatClampNeg)), .int (I1 28 35), .int (zv_179 I1 J1 (I1 28 35))] I1 J1 D1 0 0 (zNv P fun I2 J2 D2 => (zz RO (d + 1) 187 [.ref 28] I2 J2 D2 0 0 (zNi P fun v3 I3 J3 D3 => ((v3 = 0 → zw RO (d + 1) 188 P 2 [(0, .ref 28), (1, .int (l1 + 1))] [] I3 J3 D3 bc bs) ∧ (¬ (v3 = 0) → P (.inl none) I3 J3 D3))))))))) ∧ (¬ (¬ v1 = 0) → zw RO (d + 1) 188 P 2 [(0, .ref 28), (1, .int (l1 + 1))] [] I1 J1 D1 bc bs))))))))))) : zw RO (d + 1) 188 P 2 [(0, .ref 28), (1, .int l1)] [] I J D bc bs := by
  refine zr_iload_n zSm 2 rfl rfl ?_
  refine zr_aload_n zSm 3 rfl rfl ?_
  refine zr_getR zSm 4 rfl zf_11_35 rfl rfl (by decide) ?_
  refine zr_bipush zSm 5 7 rfl rfl ?_
  refine zr_iald zSm 6 rfl rfl (zin_lit (by decide) (by decide)) ?_
  refine zr_ic zSm 7 90 rfl rfl (fun q1 => ?_) (fun q1 => ?_)
  · have h := h.1 q1
    refine zr_vret zSm 48 rfl rfl ?_
    exact h
  · have h := h.2 q1
    refine zr_bipush zSm 8 20 rfl rfl ?_
    refine zr_iload_n zSm 9 rfl rfl ?_
    refine zr_s zSm 10 rfl rfl ?_
    refine zr_istore_n zSm 11 (ll' := [(2, .int (20 + l1)), (0, .ref 28), (1, .int l1)]) rfl (by decide) rfl ?_
    refine zr_aload_n zSm 12 rfl rfl ?_
    refine zr_getR zSm 13 rfl zf_11_50 rfl rfl (by decide) ?_
    refine zr_iload_n zSm 14 rfl rfl ?_
    obtain ⟨b15, h⟩ := h
    refine zr_iald zSm 15 rfl rfl b15 ?_
    refine zr_aload_n zSm 16 rfl rfl ?_
    refine zr_getI zSm 17 rfl zf_11_378 rfl rfl (by decide) ?_
    refine zr_ic zSm 18 84 rfl rfl (fun q2 => ?_) (fun q2 => ?_)
    · have h := h.1 q2
      refine zr_iinc zSm 46 (v := l1 + 1) (ll' := [(1, .int (l1 + 1)), (2, .int (20 + l1)), (0, .ref 28)]) rfl rfl (by decide) rfl rfl ?_
      refine zr_goto zSm 47 2 rfl rfl ?_
      refine zr_sub [2, 0] rfl ?_
      exact h
    · have h := h.2 q2
      refine zr_aload_n zSm 19 rfl rfl ?_
      refine zr_iload_n zSm 20 rfl rfl ?_
      refine zr_aload_n zSm 21 rfl rfl ?_
      refine zr_getI zSm 22 rfl zf_11_366 rfl rfl (by decide) ?_
      refine zr_aload_n zSm 23 rfl rfl ?_
      refine zr_aload_n zSm 24 rfl rfl ?_
      refine zr_getI zSm 25 rfl zf_11_366 rfl rfl (by decide) ?_
      obtain ⟨b26, h⟩ := h
      refine zr_inv0 26 179 1 [.int (I 28 35)] rfl rfl zk_11_369 zms_179 rfl ⟨_, _, _, _, rfl, rfl⟩ (Nat.le_of_ble_eq_true rfl) ?_
      refine ze_179 b26 ?_
      refine zNx_i ?_
      refine zr_inv0 27 184 3 [.int (20 + l1), .int (I 28 35), .int (zv_179 I J (I 28 35))] rfl rfl zk_11_380 zms_184 rfl ⟨_, _, _, _, rfl, rfl⟩ (Nat.le_of_ble_eq_true rfl) ?_
      refine zci h (fun v1 I1 J1 D1 h => ?_)
      refine zr_if zSm 28 54 rfl rfl (fun q3 => ?_) (fun q3 => ?_)
      · have h := h.1 q3
        refine zr_aload_n zSm 30 rfl rfl ?_
        refine zr_aload_n zSm 31 rfl rfl ?_
        refine zr_getR zSm 32 rfl zf_11_47 rfl rfl (by decide) ?_
        refine zr_iload_n zSm 33 rfl rfl ?_
        obtain ⟨b34, h⟩ := h
        refine zr_iald zSm 34 rfl rfl b34 ?_
        refine zr_aload_n zSm 35 rfl rfl ?_
        refine zr_getI zSm 36 rfl zf_11_366 rfl rfl (by decide) ?_
        refine zr_aload_n zSm 37 rfl rfl ?_
        refine zr_aload_n zSm 38 rfl rfl ?_
        refine zr_getI zSm 39 rfl zf_11_366 rfl rfl (by decide) ?_
        obtain ⟨b40, h⟩ := h
        refine zr_inv0 40 179 1 [.int (I1 28 35)] rfl rfl zk_11_369 zms_179 rfl ⟨_, _, _, _, rfl, rfl⟩ (Nat.le_of_ble_eq_true rfl) ?_
        refine ze_179 b40 ?_
        refine zNx_i ?_
        refine zr_inv0 41 186 3 [.int (I1 41 ((20 + l1).toNatClampNeg)), .int (I1 28 35), .int (zv_179 I1 J1 (I1 28 35))] rfl rfl zk_11_352 zms_186 rfl ⟨_, _, _, _, rfl, rfl⟩ (Nat.le_of_ble_eq_true rfl) ?_
        refine zcv h (fun I2 J2 D2 h => ?_)
        refine zr_aload_n zSm 42 rfl rfl ?_
        refine zr_inv0 43 187 0 [] rfl rfl zk_11_384 zms_187 rfl ⟨_, _, _, _, rfl, rfl⟩ (Nat.le_of_ble_eq_true rfl) ?_
        refine zci h (fun v3 I3 J3 D3 h => ?_)
        refine zr_if zSm 44 84 rfl rfl (fun q4 => ?_) (fun q4 => ?_)
        · have h := h.1 q4
          refine zr_iinc zSm 46 (v := l1 + 1) (ll' := [(1, .int (l1 + 1)), (2, .int (20 + l1)), (0, .ref 28)]) rfl rfl (by decide) rfl rfl ?_
          refine zr_goto zSm 47 2 rfl rfl ?_
          refine zr_sub [2, 0] rfl ?_
          exact h
        · have h := h.2 q4
          refine zr_vret zSm 45 rfl rfl ?_
          exact h
      · have h := h.2 q3
        refine zr_goto zSm 29 84 rfl rfl ?_
        refine zr_iinc zSm 46 (v := l1 + 1) (ll' := [(1, .int (l1 + 1)), (2, .int (20 + l1)), (0, .ref 28)]) rfl rfl (by decide) rfl rfl ?_
        refine zr_goto zSm 47 2 rfl rfl ?_
        refine zr_sub [2, 0] rfl ?_
        exact h
theorem w_189 {RO : zRo} {d : Nat} {P : zP} {I : zI} {J : zJ} {D : zD} {bc bs : Nat}  (h : (((I 28 41) = 0 → (zo_179 I J (I 28 35) ∧ ((¬ (zv_179 I J (I 28 35)) = 0 → ((¬ (I 28 42) = 100 → P (.inl (some (.int 1))) (zu (zu (zu (zu (zu (zu I 28 34 ((I 28 34) + 0)) 28 35 (zv_179 I J (I 28 35))) 28 42 ((I 28 42) + 1)) 28 36 0) 28 40 0) 28 41 0) J D) ∧ (¬ (¬ (I 28 42) = 100) → P (.inl (some (.int 0))) (zu I 28 33 2) J D))) ∧ (¬ (¬ (zv_179 I J (I 28 35)) = 0) → (((I 28 34) = 50 → P (.inl (some (.int 0))) (zu I 28 33 2) J D) ∧ (¬ ((I 28 34) = 50) → ((¬ (I 28 42) = 100 → P (.inl (some (.int 1))) (zu (zu (zu (zu (zu (zu I 28 34 ((I 28 34) + 1)) 28 35 (zv_179 I J (I 28 35))) 28 42 ((I 28 42) + 1)) 28 36 0) 28 40 0) 28 41 0) J D) ∧ (¬ (¬ (I 28 42) = 100) → P (.inl (some (.int 0))) (zu I 28 33 2) J D)))))))) ∧ (¬ ((I 28 41) = 0) → ((¬ (I 28 35) = 0 → ((¬ (I 28 42) = 100 → P (.inl (some (.int 1))) (zu (zu (zu (zu (zu (zu I 28 34 ((I 28 34) + 0)) 28 35 (I 28 35)) 28 42 ((I 28 42) + 1)) 28 36 0) 28 40 0) 28 41 0) J D) ∧ (¬ (¬ (I 28 42) = 100) → P (.inl (some (.int 0))) (zu I 28 33 2) J D))) ∧ (¬ (¬ (I 28 35) = 0) → ((¬ (I 28 42) = 100 → P (.inl (some (.int 1))) (zu (zu (zu (zu (zu (zu I 28 34 ((I 28 34) + 0)) 28 35 (I 28 35)) 28 42 ((I 28 42) + 1)) 28 36 0) 28 40 0) 28 41 0) J D) ∧ (¬ (¬ (I 28 42) = 100) → P (.inl (some (.int 0))) (zu I 28 33 2) J D))))))) : zz RO (d + 2) 189 [.ref 28] I J D bc bs P := by
  refine zT_of (Nat.le_of_ble_eq_true rfl) rfl ?_
  show zw RO (d + 1) 189 P 0 [(0, .ref 28)] [] I J D bc bs
  refine zr_aload_n zSm 0 rfl rfl ?_
  refine zr_getZ zSm 1 rfl zf_11_358 rfl rfl (by decide) ?_
  refine zr_if zSm 2 14 rfl rfl (fun q1 => ?_) (fun q1 => ?_)
  · have h := h.1 q1
    refine zr_aload_n zSm 6 rfl rfl ?_
    refine zr_aload_n zSm 7 rfl rfl ?_
    refine zr_getI zSm 8 rfl zf_11_366 rfl rfl (by decide) ?_
    obtain ⟨b9, h⟩ := h
    refine zr_inv0 9 179 1 [.int (I 28 35)] rfl rfl zk_11_369 zms_179 rfl ⟨_, _, _, _, rfl, rfl⟩ (Nat.le_of_ble_eq_true rfl) ?_
    refine ze_179 b9 ?_
    refine zNx_i ?_
    refine zr_istore_n zSm 10 (ll' := [(1, .int (zv_179 I J (I 28 35))), (0, .ref 28)]) rfl (by decide) rfl ?_
    refine zr_iload_n zSm 11 rfl rfl ?_
    refine zr_if zSm 12 38 rfl rfl (fun q2 => ?_) (fun q2 => ?_)
    · have h := h.1 q2
      refine zr_s zSm 18 rfl rfl ?_
      refine zr_istore_n zSm 19 (ll' := [(2, .int 0), (1, .int (zv_179 I J (I 28 35))), (0, .ref 28)]) rfl (by decide) rfl ?_
      refine zr_iload_n zSm 20 rfl rfl ?_
      refine zr_if zSm 21 53 rfl rfl (fun q3 => ?_) (fun q3 => ?_)
      · refine zr_aload_n zSm 26 rfl rfl ?_
        refine zr_getI zSm 27 rfl zf_11_388 rfl rfl (by decide) ?_
        refine zr_bipush zSm 28 100 rfl rfl ?_
        refine zr_ic zSm 29 69 rfl rfl (fun q4 => ?_) (fun q4 => ?_)
        · have h := h.1 q4
          refine zr_aload_n zSm 35 rfl rfl ?_
          refine zr_s zSm 36 rfl rfl ?_
          refine zr_getI zSm 37 rfl zf_11_326 rfl rfl (by decide) ?_
          refine zr_iload_n zSm 38 rfl rfl ?_
          refine zr_if zSm 39 82 rfl rfl (fun q5 => ?_) (fun q5 => ?_)
          · refine zr_s zSm 42 rfl rfl ?_
            refine zr_s zSm 43 rfl rfl ?_
            refine zr_putI zSm 44 rfl zf_11_326 rfl rfl (by decide) zp_11_34 ?_
            refine zr_aload_n zSm 45 rfl rfl ?_
            refine zr_iload_n zSm 46 rfl rfl ?_
            refine zr_putI zSm 47 rfl zf_11_366 rfl rfl (by decide) zp_11_35 ?_
            refine zr_aload_n zSm 48 rfl rfl ?_
            refine zr_s zSm 49 rfl rfl ?_
            refine zr_getI zSm 50 rfl zf_11_388 rfl rfl (by decide) ?_
            refine zr_s zSm 51 rfl rfl ?_
            refine zr_s zSm 52 rfl rfl ?_
            refine zr_putI zSm 53 rfl zf_11_388 rfl rfl (by decide) zp_11_42 ?_
            refine zr_aload_n zSm 54 rfl rfl ?_
            refine zr_s zSm 55 rfl rfl ?_
            refine zr_putI zSm 56 rfl zf_11_378 rfl rfl (by decide) zp_11_36 ?_
            refine zr_aload_n zSm 57 rfl rfl ?_
            refine zr_s zSm 58 rfl rfl ?_
            refine zr_putZ zSm 59 rfl zf_11_361 rfl rfl (by decide) zp_11_40 (Or.inl rfl) ?_
            refine zr_aload_n zSm 60 rfl rfl ?_
            refine zr_s zSm 61 rfl rfl ?_
            refine zr_putZ zSm 62 rfl zf_11_358 rfl rfl (by decide) zp_11_41 (Or.inl rfl) ?_
            refine zr_s zSm 63 rfl rfl ?_
            refine zr_iret zSm 64 rfl rfl (zn_b (Or.inr rfl)) ?_
            exact h
          · exact absurd q5 (by show ¬ ¬ ((0 : Int32) = 0); decide)
        · have h := h.2 q4
          refine zr_aload_n zSm 30 rfl rfl ?_
          refine zr_s zSm 31 rfl rfl ?_
          refine zr_putI zSm 32 rfl zf_11_375 rfl rfl (by decide) zp_11_33 ?_
          refine zr_s zSm 33 rfl rfl ?_
          refine zr_iret zSm 34 rfl rfl (zn_b (Or.inl rfl)) ?_
          exact h
      · exact absurd q3 (by show ¬ ¬ ((0 : Int32) = 0); decide)
    · have h := h.2 q2
      refine zr_aload_n zSm 13 rfl rfl ?_
      refine zr_getZ zSm 14 rfl zf_11_358 rfl rfl (by decide) ?_
      refine zr_if zSm 15 38 rfl rfl (fun q6 => ?_) (fun q6 => ?_)
      · first | exact absurd q6 q1 | exact absurd q1 q6 | exact absurd (Int32.not_lt.mp q6) q1 | exact absurd (Int32.not_lt.mp q1) q6 | exact absurd (Int32.not_le.mp q6) q1 | exact absurd (Int32.not_le.mp q1) q6 | exact absurd q6 (Int32.not_lt.mpr q1) | exact absurd q1 (Int32.not_lt.mpr q6) | exact absurd q6 (Int32.not_le.mpr q1) | exact absurd q1 (Int32.not_le.mpr q6)
      · refine zr_s zSm 16 rfl rfl ?_
        refine zr_goto zSm 17 39 rfl rfl ?_
        refine zr_istore_n zSm 19 (ll' := [(2, .int 1), (1, .int (zv_179 I J (I 28 35))), (0, .ref 28)]) rfl (by decide) rfl ?_
        refine zr_iload_n zSm 20 rfl rfl ?_
        refine zr_if zSm 21 53 rfl rfl (fun q7 => ?_) (fun q7 => ?_)
        · exact absurd q7 (by show ¬ ((1 : Int32) = 0); decide)
        · refine zr_aload_n zSm 22 rfl rfl ?_
          refine zr_getI zSm 23 rfl zf_11_326 rfl rfl (by decide) ?_
          refine zr_bipush zSm 24 50 rfl rfl ?_
          refine zr_ic zSm 25 62 rfl rfl (fun q8 => ?_) (fun q8 => ?_)
          · have h := h.1 q8
            refine zr_aload_n zSm 30 rfl rfl ?_
            refine zr_s zSm 31 rfl rfl ?_
            refine zr_putI zSm 32 rfl zf_11_375 rfl rfl (by decide) zp_11_33 ?_
            refine zr_s zSm 33 rfl rfl ?_
            refine zr_iret zSm 34 rfl rfl (zn_b (Or.inl rfl)) ?_
            exact h
          · have h := h.2 q8
            refine zr_aload_n zSm 26 rfl rfl ?_
            refine zr_getI zSm 27 rfl zf_11_388 rfl rfl (by decide) ?_
            refine zr_bipush zSm 28 100 rfl rfl ?_
            refine zr_ic zSm 29 69 rfl rfl (fun q9 => ?_) (fun q9 => ?_)
            · have h := h.1 q9
              refine zr_aload_n zSm 35 rfl rfl ?_
              refine zr_s zSm 36 rfl rfl ?_
              refine zr_getI zSm 37 rfl zf_11_326 rfl rfl (by decide) ?_
              refine zr_iload_n zSm 38 rfl rfl ?_
              refine zr_if zSm 39 82 rfl rfl (fun q10 => ?_) (fun q10 => ?_)
              · exact absurd q10 (by show ¬ ((1 : Int32) = 0); decide)
              · refine zr_s zSm 40 rfl rfl ?_
                refine zr_goto zSm 41 83 rfl rfl ?_
                refine zr_s zSm 43 rfl rfl ?_
                refine zr_putI zSm 44 rfl zf_11_326 rfl rfl (by decide) zp_11_34 ?_
                refine zr_aload_n zSm 45 rfl rfl ?_
                refine zr_iload_n zSm 46 rfl rfl ?_
                refine zr_putI zSm 47 rfl zf_11_366 rfl rfl (by decide) zp_11_35 ?_
                refine zr_aload_n zSm 48 rfl rfl ?_
                refine zr_s zSm 49 rfl rfl ?_
                refine zr_getI zSm 50 rfl zf_11_388 rfl rfl (by decide) ?_
                refine zr_s zSm 51 rfl rfl ?_
                refine zr_s zSm 52 rfl rfl ?_
                refine zr_putI zSm 53 rfl zf_11_388 rfl rfl (by decide) zp_11_42 ?_
                refine zr_aload_n zSm 54 rfl rfl ?_
                refine zr_s zSm 55 rfl rfl ?_
                refine zr_putI zSm 56 rfl zf_11_378 rfl rfl (by decide) zp_11_36 ?_
                refine zr_aload_n zSm 57 rfl rfl ?_
                refine zr_s zSm 58 rfl rfl ?_
                refine zr_putZ zSm 59 rfl zf_11_361 rfl rfl (by decide) zp_11_40 (Or.inl rfl) ?_
                refine zr_aload_n zSm 60 rfl rfl ?_
                refine zr_s zSm 61 rfl rfl ?_
                refine zr_putZ zSm 62 rfl zf_11_358 rfl rfl (by decide) zp_11_41 (Or.inl rfl) ?_
                refine zr_s zSm 63 rfl rfl ?_
                refine zr_iret zSm 64 rfl rfl (zn_b (Or.inr rfl)) ?_
                exact h
            · have h := h.2 q9
              refine zr_aload_n zSm 30 rfl rfl ?_
              refine zr_s zSm 31 rfl rfl ?_
              refine zr_putI zSm 32 rfl zf_11_375 rfl rfl (by decide) zp_11_33 ?_
              refine zr_s zSm 33 rfl rfl ?_
              refine zr_iret zSm 34 rfl rfl (zn_b (Or.inl rfl)) ?_
              exact h
  · have h := h.2 q1
    refine zr_aload_n zSm 3 rfl rfl ?_
    refine zr_getI zSm 4 rfl zf_11_366 rfl rfl (by decide) ?_
    refine zr_goto zSm 5 22 rfl rfl ?_
    refine zr_istore_n zSm 10 (ll' := [(1, .int (I 28 35)), (0, .ref 28)]) rfl (by decide) rfl ?_
    refine zr_iload_n zSm 11 rfl rfl ?_
    refine zr_if zSm 12 38 rfl rfl (fun q11 => ?_) (fun q11 => ?_)
    · have h := h.1 q11
      refine zr_s zSm 18 rfl rfl ?_
      refine zr_istore_n zSm 19 (ll' := [(2, .int 0), (1, .int (I 28 35)), (0, .ref 28)]) rfl (by decide) rfl ?_
      refine zr_iload_n zSm 20 rfl rfl ?_
      refine zr_if zSm 21 53 rfl rfl (fun q12 => ?_) (fun q12 => ?_)
      · refine zr_aload_n zSm 26 rfl rfl ?_
        refine zr_getI zSm 27 rfl zf_11_388 rfl rfl (by decide) ?_
        refine zr_bipush zSm 28 100 rfl rfl ?_
        refine zr_ic zSm 29 69 rfl rfl (fun q13 => ?_) (fun q13 => ?_)
        · have h := h.1 q13
          refine zr_aload_n zSm 35 rfl rfl ?_
          refine zr_s zSm 36 rfl rfl ?_
          refine zr_getI zSm 37 rfl zf_11_326 rfl rfl (by decide) ?_
          refine zr_iload_n zSm 38 rfl rfl ?_
          refine zr_if zSm 39 82 rfl rfl (fun q14 => ?_) (fun q14 => ?_)
          · refine zr_s zSm 42 rfl rfl ?_
            refine zr_s zSm 43 rfl rfl ?_
            refine zr_putI zSm 44 rfl zf_11_326 rfl rfl (by decide) zp_11_34 ?_
            refine zr_aload_n zSm 45 rfl rfl ?_
            refine zr_iload_n zSm 46 rfl rfl ?_
            refine zr_putI zSm 47 rfl zf_11_366 rfl rfl (by decide) zp_11_35 ?_
            refine zr_aload_n zSm 48 rfl rfl ?_
            refine zr_s zSm 49 rfl rfl ?_
            refine zr_getI zSm 50 rfl zf_11_388 rfl rfl (by decide) ?_
            refine zr_s zSm 51 rfl rfl ?_
            refine zr_s zSm 52 rfl rfl ?_
            refine zr_putI zSm 53 rfl zf_11_388 rfl rfl (by decide) zp_11_42 ?_
            refine zr_aload_n zSm 54 rfl rfl ?_
            refine zr_s zSm 55 rfl rfl ?_
            refine zr_putI zSm 56 rfl zf_11_378 rfl rfl (by decide) zp_11_36 ?_
            refine zr_aload_n zSm 57 rfl rfl ?_
            refine zr_s zSm 58 rfl rfl ?_
            refine zr_putZ zSm 59 rfl zf_11_361 rfl rfl (by decide) zp_11_40 (Or.inl rfl) ?_
            refine zr_aload_n zSm 60 rfl rfl ?_
            refine zr_s zSm 61 rfl rfl ?_
            refine zr_putZ zSm 62 rfl zf_11_358 rfl rfl (by decide) zp_11_41 (Or.inl rfl) ?_
            refine zr_s zSm 63 rfl rfl ?_
            refine zr_iret zSm 64 rfl rfl (zn_b (Or.inr rfl)) ?_
            exact h
          · exact absurd q14 (by show ¬ ¬ ((0 : Int32) = 0); decide)
        · have h := h.2 q13
          refine zr_aload_n zSm 30 rfl rfl ?_
          refine zr_s zSm 31 rfl rfl ?_
          refine zr_putI zSm 32 rfl zf_11_375 rfl rfl (by decide) zp_11_33 ?_
          refine zr_s zSm 33 rfl rfl ?_
          refine zr_iret zSm 34 rfl rfl (zn_b (Or.inl rfl)) ?_
          exact h
      · exact absurd q12 (by show ¬ ¬ ((0 : Int32) = 0); decide)
    · have h := h.2 q11
      refine zr_aload_n zSm 13 rfl rfl ?_
      refine zr_getZ zSm 14 rfl zf_11_358 rfl rfl (by decide) ?_
      refine zr_if zSm 15 38 rfl rfl (fun q15 => ?_) (fun q15 => ?_)
      · refine zr_s zSm 18 rfl rfl ?_
        refine zr_istore_n zSm 19 (ll' := [(2, .int 0), (1, .int (I 28 35)), (0, .ref 28)]) rfl (by decide) rfl ?_
        refine zr_iload_n zSm 20 rfl rfl ?_
        refine zr_if zSm 21 53 rfl rfl (fun q16 => ?_) (fun q16 => ?_)
        · refine zr_aload_n zSm 26 rfl rfl ?_
          refine zr_getI zSm 27 rfl zf_11_388 rfl rfl (by decide) ?_
          refine zr_bipush zSm 28 100 rfl rfl ?_
          refine zr_ic zSm 29 69 rfl rfl (fun q17 => ?_) (fun q17 => ?_)
          · have h := h.1 q17
            refine zr_aload_n zSm 35 rfl rfl ?_
            refine zr_s zSm 36 rfl rfl ?_
            refine zr_getI zSm 37 rfl zf_11_326 rfl rfl (by decide) ?_
            refine zr_iload_n zSm 38 rfl rfl ?_
            refine zr_if zSm 39 82 rfl rfl (fun q18 => ?_) (fun q18 => ?_)
            · refine zr_s zSm 42 rfl rfl ?_
              refine zr_s zSm 43 rfl rfl ?_
              refine zr_putI zSm 44 rfl zf_11_326 rfl rfl (by decide) zp_11_34 ?_
              refine zr_aload_n zSm 45 rfl rfl ?_
              refine zr_iload_n zSm 46 rfl rfl ?_
              refine zr_putI zSm 47 rfl zf_11_366 rfl rfl (by decide) zp_11_35 ?_
              refine zr_aload_n zSm 48 rfl rfl ?_
              refine zr_s zSm 49 rfl rfl ?_
              refine zr_getI zSm 50 rfl zf_11_388 rfl rfl (by decide) ?_
              refine zr_s zSm 51 rfl rfl ?_
              refine zr_s zSm 52 rfl rfl ?_
              refine zr_putI zSm 53 rfl zf_11_388 rfl rfl (by decide) zp_11_42 ?_
              refine zr_aload_n zSm 54 rfl rfl ?_
              refine zr_s zSm 55 rfl rfl ?_
              refine zr_putI zSm 56 rfl zf_11_378 rfl rfl (by decide) zp_11_36 ?_
              refine zr_aload_n zSm 57 rfl rfl ?_
              refine zr_s zSm 58 rfl rfl ?_
              refine zr_putZ zSm 59 rfl zf_11_361 rfl rfl (by decide) zp_11_40 (Or.inl rfl) ?_
              refine zr_aload_n zSm 60 rfl rfl ?_
              refine zr_s zSm 61 rfl rfl ?_
              refine zr_putZ zSm 62 rfl zf_11_358 rfl rfl (by decide) zp_11_41 (Or.inl rfl) ?_
              refine zr_s zSm 63 rfl rfl ?_
              refine zr_iret zSm 64 rfl rfl (zn_b (Or.inr rfl)) ?_
              exact h
            · exact absurd q18 (by show ¬ ¬ ((0 : Int32) = 0); decide)
          · have h := h.2 q17
            refine zr_aload_n zSm 30 rfl rfl ?_
            refine zr_s zSm 31 rfl rfl ?_
            refine zr_putI zSm 32 rfl zf_11_375 rfl rfl (by decide) zp_11_33 ?_
            refine zr_s zSm 33 rfl rfl ?_
            refine zr_iret zSm 34 rfl rfl (zn_b (Or.inl rfl)) ?_
            exact h
        · exact absurd q16 (by show ¬ ¬ ((0 : Int32) = 0); decide)
      · first | exact absurd q15 q1 | exact absurd q1 q15 | exact absurd (Int32.not_lt.mp q15) q1 | exact absurd (Int32.not_lt.mp q1) q15 | exact absurd (Int32.not_le.mp q15) q1 | exact absurd (Int32.not_le.mp q1) q15 | exact absurd q15 (Int32.not_lt.mpr q1) | exact absurd q1 (Int32.not_lt.mpr q15) | exact absurd q15 (Int32.not_le.mpr q1) | exact absurd q1 (Int32.not_le.mpr q15)
theorem w_190 {RO : zRo} {d : Nat} {P : zP} {I : zI} {J : zJ} {D : zD} {bc bs : Nat}  (h : zw RO d 190 P 2 [(0, .ref 28), (1, .int 1)] [] I J D bc bs) : zz RO (d + 1) 190 [.ref 28] I J D bc bs P := by
  refine zT_of (Nat.le_of_ble_eq_true rfl) rfl ?_
  show zw RO d 190 P 0 [(0, .ref 28)] [] I J D bc bs
  refine zr_s zSm 0 rfl rfl ?_
  refine zr_istore_n zSm 1 (ll' := [(1, .int 1), (0, .ref 28)]) rfl (by decide) rfl ?_
  refine zr_sub [1, 0] rfl ?_
  exact h
theorem wl_190_2 {RO : zRo} {d : Nat} {P : zP} {I : zI} {J : zJ} {D : zD} {bc bs : Nat} {l1 : Int32} (h : ((l1 = 0 → P (.inl none) I J D) ∧ (¬ (l1 = 0) → ((¬ (I 28 40) = 0 → (zz RO d 189 [.ref 28] I J D 0 0 (zNi P fun v1 I1 J1 D1 => ((¬ v1 = 0 → (zz RO d 188 [.ref 28] I1 J1 D1 0 0 (zNv P fun I2 J2 D2 => ((¬ (I2 28 33) = 0 → zw RO d 190 P 2 [(0, .ref 28), (1, .int 0)] [] I2 J2 D2 bc bs) ∧ (¬ (¬ (I2 28 33) = 0) → (((I2 28 40) = 0 → zw RO d 190 P 2 [(0, .ref 28), (1, .int 0)] [] I2 J2 D2 bc bs) ∧ (¬ ((I2 28 40) = 0) → zw RO d 190 P 2 [(0, .ref 28), (1, .int 1)] [] I2 J2 D2 bc bs))))))) ∧ (¬ (¬ v1 = 0) → P (.inl none) I1 J1 D1))))) ∧ (¬ (¬ (I 28 40) = 0) → ((¬ (I 28 36) = ((I 37 4) - 1) → (zz RO d 188 [.ref 28] (zu I 28 36 ((I 28 36) + 1)) J D 0 0 (zNv P fun I3 J3 D3 => ((¬ (I3 28 33) = 0 → zw RO d 190 P 2 [(0, .ref 28), (1, .int 0)] [] I3 J3 D3 bc bs) ∧ (¬ (¬ (I3 28 33) = 0) → (((I3 28 40) = 0 → zw RO d 190 P 2 [(0, .ref 28), (1, .int 0)] [] I3 J3 D3 bc bs) ∧ (¬ ((I3 28 40) = 0) → zw RO d 190 P 2 [(0, .ref 28), (1, .int 1)] [] I3 J3 D3 bc bs))))))) ∧ (¬ (¬ (I 28 36) = ((I 37 4) - 1)) → (zz RO d 189 [.ref 28] I J D 0 0 (zNi P fun v4 I4 J4 D4 => ((¬ v4 = 0 → (zz RO d 188 [.ref 28] I4 J4 D4 0 0 (zNv P fun I5 J5 D5 => ((¬ (I5 28 33) = 0 → zw RO d 190 P 2 [(0, .ref 28), (1, .int 0)] [] I5 J5 D5 bc bs) ∧ (¬ (¬ (I5 28 33) = 0) → (((I5 28 40) = 0 → zw RO d 190 P 2 [(0, .ref 28), (1, .int 0)] [] I5 J5 D5 bc bs) ∧ (¬ ((I5 28 40) = 0) → zw RO d 190 P 2 [(0, .ref 28), (1, .int 1)] [] I5 J5 D5 bc bs))))))) ∧ (¬ (¬ v4 = 0) → P (.inl none) I4 J4 D4))))))))))) : zw RO d 190 P 2 [(0, .ref 28), (1, .int l1)] [] I J D bc bs := by
  refine zr_iload_n zSm 2 rfl rfl ?_
  refine zr_if zSm 3 73 rfl rfl (fun q1 => ?_) (fun q1 => ?_)
  · have h := h.1 q1
    refine zr_vret zSm 39 rfl rfl ?_
    exact h
  · have h := h.2 q1
    refine zr_aload_n zSm 4 rfl rfl ?_
    refine zr_getZ zSm 5 rfl zf_11_361 rfl rfl (by decide) ?_
    refine zr_if zSm 6 28 rfl rfl (fun q2 => ?_) (fun q2 => ?_)
    · have h := h.1 q2
      refine zr_aload_n zSm 16 rfl rfl ?_
      refine zr_inv0 17 189 0 [] rfl rfl zk_11_391 zms_189 rfl ⟨_, _, _, _, rfl, rfl⟩ (Nat.le_of_ble_eq_true rfl) ?_
      refine zci h (fun v1 I1 J1 D1 h => ?_)
      refine zr_if zSm 18 46 rfl rfl (fun q3 => ?_) (fun q3 => ?_)
      · have h := h.1 q3
        refine zr_aload_n zSm 26 rfl rfl ?_
        refine zr_inv0 27 188 0 [] rfl rfl zk_11_394 zms_188 rfl ⟨_, _, _, _, rfl, rfl⟩ (Nat.le_of_ble_eq_true rfl) ?_
        refine zcv h (fun I2 J2 D2 h => ?_)
        refine zr_aload_n zSm 28 rfl rfl ?_
        refine zr_getI zSm 29 rfl zf_11_375 rfl rfl (by decide) ?_
        refine zr_if zSm 30 68 rfl rfl (fun q4 => ?_) (fun q4 => ?_)
        · have h := h.1 q4
          refine zr_s zSm 36 rfl rfl ?_
          refine zr_istore_n zSm 37 (ll' := [(1, .int 0), (0, .ref 28)]) rfl (by decide) rfl ?_
          refine zr_goto zSm 38 2 rfl rfl ?_
          refine zr_sub [1, 0] rfl ?_
          exact h
        · have h := h.2 q4
          refine zr_aload_n zSm 31 rfl rfl ?_
          refine zr_getZ zSm 32 rfl zf_11_361 rfl rfl (by decide) ?_
          refine zr_if zSm 33 68 rfl rfl (fun q5 => ?_) (fun q5 => ?_)
          · have h := h.1 q5
            refine zr_s zSm 36 rfl rfl ?_
            refine zr_istore_n zSm 37 (ll' := [(1, .int 0), (0, .ref 28)]) rfl (by decide) rfl ?_
            refine zr_goto zSm 38 2 rfl rfl ?_
            refine zr_sub [1, 0] rfl ?_
            exact h
          · have h := h.2 q5
            refine zr_s zSm 34 rfl rfl ?_
            refine zr_goto zSm 35 69 rfl rfl ?_
            refine zr_istore_n zSm 37 (ll' := [(1, .int 1), (0, .ref 28)]) rfl (by decide) rfl ?_
            refine zr_goto zSm 38 2 rfl rfl ?_
            refine zr_sub [1, 0] rfl ?_
            exact h
      · have h := h.2 q3
        refine zr_vret zSm 19 rfl rfl ?_
        exact h
    · have h := h.2 q2
      refine zr_aload_n zSm 7 rfl rfl ?_
      refine zr_getI zSm 8 rfl zf_11_378 rfl rfl (by decide) ?_
      refine zr_aload_n zSm 9 rfl rfl ?_
      refine zr_getR zSm 10 rfl zf_11_35 rfl rfl (by decide) ?_
      refine zr_s zSm 11 rfl rfl ?_
      refine zr_iald zSm 12 rfl rfl (zin_lit (by decide) (by decide)) ?_
      refine zr_s zSm 13 rfl rfl ?_
      refine zr_s zSm 14 rfl rfl ?_
      refine zr_ic zSm 15 36 rfl rfl (fun q6 => ?_) (fun q6 => ?_)
      · have h := h.1 q6
        refine zr_aload_n zSm 20 rfl rfl ?_
        refine zr_s zSm 21 rfl rfl ?_
        refine zr_getI zSm 22 rfl zf_11_378 rfl rfl (by decide) ?_
        refine zr_s zSm 23 rfl rfl ?_
        refine zr_s zSm 24 rfl rfl ?_
        refine zr_putI zSm 25 rfl zf_11_378 rfl rfl (by decide) zp_11_36 ?_
        refine zr_aload_n zSm 26 rfl rfl ?_
        refine zr_inv0 27 188 0 [] rfl rfl zk_11_394 zms_188 rfl ⟨_, _, _, _, rfl, rfl⟩ (Nat.le_of_ble_eq_true rfl) ?_
        refine zcv h (fun I3 J3 D3 h => ?_)
        refine zr_aload_n zSm 28 rfl rfl ?_
        refine zr_getI zSm 29 rfl zf_11_375 rfl rfl (by decide) ?_
        refine zr_if zSm 30 68 rfl rfl (fun q7 => ?_) (fun q7 => ?_)
        · have h := h.1 q7
          refine zr_s zSm 36 rfl rfl ?_
          refine zr_istore_n zSm 37 (ll' := [(1, .int 0), (0, .ref 28)]) rfl (by decide) rfl ?_
          refine zr_goto zSm 38 2 rfl rfl ?_
          refine zr_sub [1, 0] rfl ?_
          exact h
        · have h := h.2 q7
          refine zr_aload_n zSm 31 rfl rfl ?_
          refine zr_getZ zSm 32 rfl zf_11_361 rfl rfl (by decide) ?_
          refine zr_if zSm 33 68 rfl rfl (fun q8 => ?_) (fun q8 => ?_)
          · have h := h.1 q8
            refine zr_s zSm 36 rfl rfl ?_
            refine zr_istore_n zSm 37 (ll' := [(1, .int 0), (0, .ref 28)]) rfl (by decide) rfl ?_
            refine zr_goto zSm 38 2 rfl rfl ?_
            refine zr_sub [1, 0] rfl ?_
            exact h
          · have h := h.2 q8
            refine zr_s zSm 34 rfl rfl ?_
            refine zr_goto zSm 35 69 rfl rfl ?_
            refine zr_istore_n zSm 37 (ll' := [(1, .int 1), (0, .ref 28)]) rfl (by decide) rfl ?_
            refine zr_goto zSm 38 2 rfl rfl ?_
            refine zr_sub [1, 0] rfl ?_
            exact h
      · have h := h.2 q6
        refine zr_aload_n zSm 16 rfl rfl ?_
        refine zr_inv0 17 189 0 [] rfl rfl zk_11_391 zms_189 rfl ⟨_, _, _, _, rfl, rfl⟩ (Nat.le_of_ble_eq_true rfl) ?_
        refine zci h (fun v4 I4 J4 D4 h => ?_)
        refine zr_if zSm 18 46 rfl rfl (fun q9 => ?_) (fun q9 => ?_)
        · have h := h.1 q9
          refine zr_aload_n zSm 26 rfl rfl ?_
          refine zr_inv0 27 188 0 [] rfl rfl zk_11_394 zms_188 rfl ⟨_, _, _, _, rfl, rfl⟩ (Nat.le_of_ble_eq_true rfl) ?_
          refine zcv h (fun I5 J5 D5 h => ?_)
          refine zr_aload_n zSm 28 rfl rfl ?_
          refine zr_getI zSm 29 rfl zf_11_375 rfl rfl (by decide) ?_
          refine zr_if zSm 30 68 rfl rfl (fun q10 => ?_) (fun q10 => ?_)
          · have h := h.1 q10
            refine zr_s zSm 36 rfl rfl ?_
            refine zr_istore_n zSm 37 (ll' := [(1, .int 0), (0, .ref 28)]) rfl (by decide) rfl ?_
            refine zr_goto zSm 38 2 rfl rfl ?_
            refine zr_sub [1, 0] rfl ?_
            exact h
          · have h := h.2 q10
            refine zr_aload_n zSm 31 rfl rfl ?_
            refine zr_getZ zSm 32 rfl zf_11_361 rfl rfl (by decide) ?_
            refine zr_if zSm 33 68 rfl rfl (fun q11 => ?_) (fun q11 => ?_)
            · have h := h.1 q11
              refine zr_s zSm 36 rfl rfl ?_
              refine zr_istore_n zSm 37 (ll' := [(1, .int 0), (0, .ref 28)]) rfl (by decide) rfl ?_
              refine zr_goto zSm 38 2 rfl rfl ?_
              refine zr_sub [1, 0] rfl ?_
              exact h
            · have h := h.2 q11
              refine zr_s zSm 34 rfl rfl ?_
              refine zr_goto zSm 35 69 rfl rfl ?_
              refine zr_istore_n zSm 37 (ll' := [(1, .int 1), (0, .ref 28)]) rfl (by decide) rfl ?_
              refine zr_goto zSm 38 2 rfl rfl ?_
              refine zr_sub [1, 0] rfl ?_
              exact h
        · have h := h.2 q9
          refine zr_vret zSm 19 rfl rfl ?_
          exact h
theorem w_191 {RO : zRo} {d : Nat} {P : zP} {I : zI} {J : zJ} {D : zD} {bc bs : Nat} {p0 p1 p2 p3 : Int32} (h : (¬ 4 * (I 28 45) < 0 ∧ (4 * (I 28 45)).toNatClampNeg + 4 ≤ 40 ∧ (1 ≤ bc ∧ 4 ≤ bs) ∧ (zo_179 (zu (zu4 I 48 (4 * (I 28 45)).toNatClampNeg p0 p1 p2 p3) 28 45 ((I 28 45) + 1)) J p2 ∧ P (.inl none) (zu (zu (zu (zu4 I 48 (4 * (I 28 45)).toNatClampNeg p0 p1 p2 p3) 28 45 ((I 28 45) + 1)) 28 37 (zv_179 (zu (zu4 I 48 (4 * (I 28 45)).toNatClampNeg p0 p1 p2 p3) 28 45 ((I 28 45) + 1)) J p2)) 28 38 0) J D))) : zz RO (d + 2) 191 [.ref 28, .int p0, .int p1, .int p2, .int p3] I J D bc bs P := by
  refine zT_of (Nat.le_of_ble_eq_true rfl) rfl ?_
  show zw RO (d + 1) 191 P 0 [(0, .ref 28), (1, .int p0), (2, .int p1), (3, .int p2), (4, .int p3)] [] I J D bc bs
  obtain ⟨b0, g0, r0, h⟩ := h
  refine zr_arr 72 167 48 40 46 45 (zarr_in 0 rfl) rfl zf_11_72 zf_11_167 rfl rfl rfl rfl rfl rfl rfl rfl rfl (by decide) b0 g0 r0 (ll' := [(0, .ref 28), (1, .int p0), (2, .int p1), (3, .int p2), (4, .int p3)]) rfl ?_
  refine zr_aload_n zSm 29 rfl rfl ?_
  refine zr_s zSm 30 rfl rfl ?_
  refine zr_getI zSm 31 rfl zf_11_167 rfl rfl (by decide) ?_
  refine zr_s zSm 32 rfl rfl ?_
  refine zr_s zSm 33 rfl rfl ?_
  refine zr_putI zSm 34 rfl zf_11_167 rfl rfl (by decide) zp_11_45 ?_
  refine zr_aload_n zSm 35 rfl rfl ?_
  refine zr_aload_n zSm 36 rfl rfl ?_
  refine zr_iload_n zSm 37 rfl rfl ?_
  obtain ⟨b38, h⟩ := h
  refine zr_inv0 38 179 1 [.int p2] rfl rfl zk_11_369 zms_179 rfl ⟨_, _, _, _, rfl, rfl⟩ (Nat.le_of_ble_eq_true rfl) ?_
  refine ze_179 b38 ?_
  refine zNx_i ?_
  refine zr_putI zSm 39 rfl zf_11_403 rfl rfl (by decide) zp_11_37 ?_
  refine zr_aload_n zSm 40 rfl rfl ?_
  refine zr_s zSm 41 rfl rfl ?_
  refine zr_putI zSm 42 rfl zf_11_406 rfl rfl (by decide) zp_11_38 ?_
  refine zr_vret zSm 43 rfl rfl ?_
  exact h
theorem w_192 {RO : zRo} {d : Nat} {P : zP} {I : zI} {J : zJ} {D : zD} {bc bs : Nat}  (h : (vp_in ((4 * ((I 28 45) - 1)) + 2) 40 ∧ (vp_in ((4 * ((I 28 45) - 1)) + 3) 40 ∧ (vp_in (4 * ((I 28 45) - 1)) 40 ∧ (vp_in ((4 * ((I 28 45) - 1)) + 1) 40 ∧ (vp_in ((12 * (I 48 ((4 * ((I 28 45) - 1)).toNatClampNeg))) + (I 48 (((4 * ((I 28 45) - 1)) + 1).toNatClampNeg))) 28 ∧ (zz RO (d + 1) 186 [.ref 28, .int (I 41 (((12 * (I 48 ((4 * ((I 28 45) - 1)).toNatClampNeg))) + (I 48 (((4 * ((I 28 45) - 1)) + 1).toNatClampNeg))).toNatClampNeg)), .int (I 48 (((4 * ((I 28 45) - 1)) + 2).toNatClampNeg)), .int (I 48 (((4 * ((I 28 45) - 1)) + 3).toNatClampNeg))] (zu (zu (zu I 28 45 ((I 28 45) - 1)) 28 38 0) 28 37 (-1)) J D 0 0 (zNv P fun I1 J1 D1 => (zz RO (d + 1) 187 [.ref 28] I1 J1 D1 0 0 (zNi P fun v2 I2 J2 D2 => ((v2 = 0 → (((I2 28 45) ≤ 0 → (((I2 28 40) = 0 → P (.inl none) I2 J2 D2) ∧ (¬ ((I2 28 40) = 0) → (zz RO (d + 1) 190 [.ref 28] I2 J2 D2 0 0 (zNv P fun I3 J3 D3 => P (.inl none) I3 J3 D3))))) ∧ (¬ ((I2 28 45) ≤ 0) → (vp_in ((4 * ((I2 28 45) - 1)) + 2) 40 ∧ (zo_179 I2 J2 (I2 48 (((4 * ((I2 28 45) - 1)) + 2).toNatClampNeg)) ∧ P (.inl none) (zu I2 28 37 (zv_179 I2 J2 (I2 48 (((4 * ((I2 28 45) - 1)) + 2).toNatClampNeg)))) J2 D2))))) ∧ (¬ (v2 = 0) → P (.inl none) I2 J2 D2)))))))))))) : zz RO (d + 2) 192 [.ref 28] I J D bc bs P := by
  refine zT_of (Nat.le_of_ble_eq_true rfl) rfl ?_
  show zw RO (d + 1) 192 P 0 [(0, .ref 28)] [] I J D bc bs
  refine zr_aload_n zSm 0 rfl rfl ?_
  refine zr_s zSm 1 rfl rfl ?_
  refine zr_getI zSm 2 rfl zf_11_167 rfl rfl (by decide) ?_
  refine zr_s zSm 3 rfl rfl ?_
  refine zr_s zSm 4 rfl rfl ?_
  refine zr_putI zSm 5 rfl zf_11_167 rfl rfl (by decide) zp_11_45 ?_
  refine zr_s zSm 6 rfl rfl ?_
  refine zr_aload_n zSm 7 rfl rfl ?_
  refine zr_getI zSm 8 rfl zf_11_167 rfl rfl (by decide) ?_
  refine zr_s zSm 9 rfl rfl ?_
  refine zr_istore_n zSm 10 (ll' := [(1, .int (4 * ((I 28 45) - 1))), (0, .ref 28)]) rfl (by decide) rfl ?_
  refine zr_aload_n zSm 11 rfl rfl ?_
  refine zr_getR zSm 12 rfl zf_11_72 rfl rfl (by decide) ?_
  refine zr_iload_n zSm 13 rfl rfl ?_
  refine zr_s zSm 14 rfl rfl ?_
  refine zr_s zSm 15 rfl rfl ?_
  obtain ⟨b16, h⟩ := h
  refine zr_iald zSm 16 rfl rfl b16 ?_
  refine zr_istore_n zSm 17 (ll' := [(2, .int (I 48 (((4 * ((I 28 45) - 1)) + 2).toNatClampNeg))), (1, .int (4 * ((I 28 45) - 1))), (0, .ref 28)]) rfl (by decide) rfl ?_
  refine zr_aload_n zSm 18 rfl rfl ?_
  refine zr_getR zSm 19 rfl zf_11_72 rfl rfl (by decide) ?_
  refine zr_iload_n zSm 20 rfl rfl ?_
  refine zr_s zSm 21 rfl rfl ?_
  refine zr_s zSm 22 rfl rfl ?_
  obtain ⟨b23, h⟩ := h
  refine zr_iald zSm 23 rfl rfl b23 ?_
  refine zr_istore_n zSm 24 (ll' := [(3, .int (I 48 (((4 * ((I 28 45) - 1)) + 3).toNatClampNeg))), (2, .int (I 48 (((4 * ((I 28 45) - 1)) + 2).toNatClampNeg))), (1, .int (4 * ((I 28 45) - 1))), (0, .ref 28)]) rfl (by decide) rfl ?_
  refine zr_aload_n zSm 25 rfl rfl ?_
  refine zr_s zSm 26 rfl rfl ?_
  refine zr_putI zSm 27 rfl zf_11_406 rfl rfl (by decide) zp_11_38 ?_
  refine zr_aload_n zSm 28 rfl rfl ?_
  refine zr_s zSm 29 rfl rfl ?_
  refine zr_putI zSm 30 rfl zf_11_403 rfl rfl (by decide) zp_11_37 ?_
  refine zr_aload_n zSm 31 rfl rfl ?_
  refine zr_aload_n zSm 32 rfl rfl ?_
  refine zr_getR zSm 33 rfl zf_11_47 rfl rfl (by decide) ?_
  refine zr_bipush zSm 34 12 rfl rfl ?_
  refine zr_aload_n zSm 35 rfl rfl ?_
  refine zr_getR zSm 36 rfl zf_11_72 rfl rfl (by decide) ?_
  refine zr_iload_n zSm 37 rfl rfl ?_
  obtain ⟨b38, h⟩ := h
  refine zr_iald zSm 38 rfl rfl b38 ?_
  refine zr_s zSm 39 rfl rfl ?_
  refine zr_aload_n zSm 40 rfl rfl ?_
  refine zr_getR zSm 41 rfl zf_11_72 rfl rfl (by decide) ?_
  refine zr_iload_n zSm 42 rfl rfl ?_
  refine zr_s zSm 43 rfl rfl ?_
  refine zr_s zSm 44 rfl rfl ?_
  obtain ⟨b45, h⟩ := h
  refine zr_iald zSm 45 rfl rfl b45 ?_
  refine zr_s zSm 46 rfl rfl ?_
  obtain ⟨b47, h⟩ := h
  refine zr_iald zSm 47 rfl rfl b47 ?_
  refine zr_iload_n zSm 48 rfl rfl ?_
  refine zr_iload_n zSm 49 rfl rfl ?_
  refine zr_inv0 50 186 3 [.int (I 41 (((12 * (I 48 ((4 * ((I 28 45) - 1)).toNatClampNeg))) + (I 48 (((4 * ((I 28 45) - 1)) + 1).toNatClampNeg))).toNatClampNeg)), .int (I 48 (((4 * ((I 28 45) - 1)) + 2).toNatClampNeg)), .int (I 48 (((4 * ((I 28 45) - 1)) + 3).toNatClampNeg))] rfl rfl zk_11_352 zms_186 rfl ⟨_, _, _, _, rfl, rfl⟩ (Nat.le_of_ble_eq_true rfl) ?_
  refine zcv h (fun I1 J1 D1 h => ?_)
  refine zr_aload_n zSm 51 rfl rfl ?_
  refine zr_inv0 52 187 0 [] rfl rfl zk_11_384 zms_187 rfl ⟨_, _, _, _, rfl, rfl⟩ (Nat.le_of_ble_eq_true rfl) ?_
  refine zci h (fun v2 I2 J2 D2 h => ?_)
  refine zr_if zSm 53 82 rfl rfl (fun q1 => ?_) (fun q1 => ?_)
  · have h := h.1 q1
    refine zr_aload_n zSm 55 rfl rfl ?_
    refine zr_getI zSm 56 rfl zf_11_167 rfl rfl (by decide) ?_
    refine zr_if zSm 57 115 rfl rfl (fun q2 => ?_) (fun q2 => ?_)
    · have h := h.1 q2
      refine zr_aload_n zSm 74 rfl rfl ?_
      refine zr_getZ zSm 75 rfl zf_11_361 rfl rfl (by decide) ?_
      refine zr_if zSm 76 126 rfl rfl (fun q3 => ?_) (fun q3 => ?_)
      · have h := h.1 q3
        refine zr_vret zSm 79 rfl rfl ?_
        exact h
      · have h := h.2 q3
        refine zr_aload_n zSm 77 rfl rfl ?_
        refine zr_inv0 78 190 0 [] rfl rfl zk_11_409 zms_190 rfl ⟨_, _, _, _, rfl, rfl⟩ (Nat.le_of_ble_eq_true rfl) ?_
        refine zcv h (fun I3 J3 D3 h => ?_)
        refine zr_vret zSm 79 rfl rfl ?_
        exact h
    · have h := h.2 q2
      refine zr_aload_n zSm 58 rfl rfl ?_
      refine zr_aload_n zSm 59 rfl rfl ?_
      refine zr_aload_n zSm 60 rfl rfl ?_
      refine zr_getR zSm 61 rfl zf_11_72 rfl rfl (by decide) ?_
      refine zr_s zSm 62 rfl rfl ?_
      refine zr_aload_n zSm 63 rfl rfl ?_
      refine zr_getI zSm 64 rfl zf_11_167 rfl rfl (by decide) ?_
      refine zr_s zSm 65 rfl rfl ?_
      refine zr_s zSm 66 rfl rfl ?_
      refine zr_s zSm 67 rfl rfl ?_
      refine zr_s zSm 68 rfl rfl ?_
      refine zr_s zSm 69 rfl rfl ?_
      obtain ⟨b70, h⟩ := h
      refine zr_iald zSm 70 rfl rfl b70 ?_
      obtain ⟨b71, h⟩ := h
      refine zr_inv0 71 179 1 [.int (I2 48 (((4 * ((I2 28 45) - 1)) + 2).toNatClampNeg))] rfl rfl zk_11_369 zms_179 rfl ⟨_, _, _, _, rfl, rfl⟩ (Nat.le_of_ble_eq_true rfl) ?_
      refine ze_179 b71 ?_
      refine zNx_i ?_
      refine zr_putI zSm 72 rfl zf_11_403 rfl rfl (by decide) zp_11_37 ?_
      refine zr_goto zSm 73 126 rfl rfl ?_
      refine zr_vret zSm 79 rfl rfl ?_
      exact h
  · have h := h.2 q1
    refine zr_vret zSm 54 rfl rfl ?_
    exact h
theorem w_193 {RO : zRo} {d : Nat} {P : zP} {I : zI} {J : zJ} {D : zD} {bc bs : Nat} {p0 p1 p2 : Int32} (h : ((¬ (I 28 37) = (-1) → (¬ 4 * (I 28 47) < 0 ∧ (4 * (I 28 47)).toNatClampNeg + 4 ≤ 1000 ∧ (1 ≤ bc ∧ 4 ≤ bs) ∧ ((2 ≤ p0 → (zo_179 (zu (zu (zu (zu4 I 49 (4 * (I 28 47)).toNatClampNeg p0 p1 p2 (I 28 37)) 28 47 ((I 28 47) + 1)) 28 42 0) 28 38 ((I 28 38) + 1)) J (I 28 37) ∧ ((¬ ((I 28 38) + 1) = ((I 28 30) - 1) → ((¬ (I 28 33) = 0 → P (.inl none) (zu (zu (zu (zu (zu (zu (zu4 I 49 (4 * (I 28 47)).toNatClampNeg p0 p1 p2 (I 28 37)) 28 47 ((I 28 47) + 1)) 28 42 0) 28 38 ((I 28 38) + 1)) 28 37 (zv_179 (zu (zu (zu (zu4 I 49 (4 * (I 28 47)).toNatClampNeg p0 p1 p2 (I 28 37)) 28 47 ((I 28 47) + 1)) 28 42 0) 28 38 ((I 28 38) + 1)) J (I 28 37))) 28 37 (-1)) 28 38 0) J D) ∧ (¬ (¬ (I 28 33) = 0) → ((¬ ((I 28 47) + 1) = 250 → P (.inl none) (zu (zu (zu (zu (zu4 I 49 (4 * (I 28 47)).toNatClampNeg p0 p1 p2 (I 28 37)) 28 47 ((I 28 47) + 1)) 28 42 0) 28 38 ((I 28 38) + 1)) 28 37 (zv_179 (zu (zu (zu (zu4 I 49 (4 * (I 28 47)).toNatClampNeg p0 p1 p2 (I 28 37)) 28 47 ((I 28 47) + 1)) 28 42 0) 28 38 ((I 28 38) + 1)) J (I 28 37))) J D) ∧ (¬ (¬ ((I 28 47) + 1) = 250) → P (.inl none) (zu (zu (zu (zu (zu (zu (zu (zu4 I 49 (4 * (I 28 47)).toNatClampNeg p0 p1 p2 (I 28 37)) 28 47 ((I 28 47) + 1)) 28 42 0) 28 38 ((I 28 38) + 1)) 28 37 (zv_179 (zu (zu (zu (zu4 I 49 (4 * (I 28 47)).toNatClampNeg p0 p1 p2 (I 28 37)) 28 47 ((I 28 47) + 1)) 28 42 0) 28 38 ((I 28 38) + 1)) J (I 28 37))) 28 33 2) 28 37 (-1)) 28 38 0) J D))))) ∧ (¬ (¬ ((I 28 38) + 1) = ((I 28 30) - 1)) → (zz RO (d + 1) 192 [.ref 28] (zu (zu (zu (zu (zu4 I 49 (4 * (I 28 47)).toNatClampNeg p0 p1 p2 (I 28 37)) 28 47 ((I 28 47) + 1)) 28 42 0) 28 38 ((I 28 38) + 1)) 28 37 (zv_179 (zu (zu (zu (zu4 I 49 (4 * (I 28 47)).toNatClampNeg p0 p1 p2 (I 28 37)) 28 47 ((I 28 47) + 1)) 28 42 0) 28 38 ((I 28 38) + 1)) J (I 28 37))) J D 0 0 (zNv P fun I1 J1 D1 => ((¬ (I1 28 33) = 0 → P (.inl none) (zu (zu I1 28 37 (-1)) 28 38 0) J1 D1) ∧ (¬ (¬ (I1 28 33) = 0) → ((¬ (I1 28 47) = 250 → P (.inl none) I1 J1 D1) ∧ (¬ (¬ (I1 28 47) = 250) → P (.inl none) (zu (zu (zu I1 28 33 2) 28 37 (-1)) 28 38 0) J1 D1)))))))))) ∧ (¬ (2 ≤ p0) → (∃ c2 s2, c2 ≤ (bc - 1) ∧ s2 ≤ (bs - 4) ∧ zz RO (d + 1) 191 [.ref 28, .int p0, .int p1, .int (I 28 37), .int p2] (zu (zu (zu4 I 49 (4 * (I 28 47)).toNatClampNeg p0 p1 p2 (I 28 37)) 28 47 ((I 28 47) + 1)) 28 42 0) J D c2 s2 (zNv P fun I2 J2 D2 => ((¬ (I2 28 33) = 0 → P (.inl none) (zu (zu I2 28 37 (-1)) 28 38 0) J2 D2) ∧ (¬ (¬ (I2 28 33) = 0) → ((¬ (I2 28 47) = 250 → P (.inl none) I2 J2 D2) ∧ (¬ (¬ (I2 28 47) = 250) → P (.inl none) (zu (zu (zu I2 28 33 2) 28 37 (-1)) 28 38 0) J2 D2)))))))))) ∧ (¬ (¬ (I 28 37) = (-1)) → (¬ 4 * (I 28 47) < 0 ∧ (4 * (I 28 47)).toNatClampNeg + 4 ≤ 1000 ∧ (1 ≤ bc ∧ 4 ≤ bs) ∧ ((2 ≤ p0 → (zz RO (d + 1) 190 [.ref 28] (zu (zu (zu4 I 49 (4 * (I 28 47)).toNatClampNeg p0 p1 p2 (I 28 35)) 28 47 ((I 28 47) + 1)) 28 42 0) J D 0 0 (zNv P fun I3 J3 D3 => ((¬ (I3 28 33) = 0 → P (.inl none) (zu (zu I3 28 37 (-1)) 28 38 0) J3 D3) ∧ (¬ (¬ (I3 28 33) = 0) → ((¬ (I3 28 47) = 250 → P (.inl none) I3 J3 D3) ∧ (¬ (¬ (I3 28 47) = 250) → P (.inl none) (zu (zu (zu I3 28 33 2) 28 37 (-1)) 28 38 0) J3 D3))))))) ∧ (¬ (2 ≤ p0) → (∃ c4 s4, c4 ≤ (bc - 1) ∧ s4 ≤ (bs - 4) ∧ zz RO (d + 1) 191 [.ref 28, .int p0, .int p1, .int (I 28 35), .int p2] (zu (zu (zu4 I 49 (4 * (I 28 47)).toNatClampNeg p0 p1 p2 (I 28 35)) 28 47 ((I 28 47) + 1)) 28 42 0) J D c4 s4 (zNv P fun I4 J4 D4 => ((¬ (I4 28 33) = 0 → P (.inl none) (zu (zu I4 28 37 (-1)) 28 38 0) J4 D4) ∧ (¬ (¬ (I4 28 33) = 0) → ((¬ (I4 28 47) = 250 → P (.inl none) I4 J4 D4) ∧ (¬ (¬ (I4 28 47) = 250) → P (.inl none) (zu (zu (zu I4 28 33 2) 28 37 (-1)) 28 38 0) J4 D4)))))))))))) : zz RO (d + 2) 193 [.ref 28, .int p0, .int p1, .int p2] I J D bc bs P := by
  refine zT_of (Nat.le_of_ble_eq_true rfl) rfl ?_
  show zw RO (d + 1) 193 P 0 [(0, .ref 28), (1, .int p0), (2, .int p1), (3, .int p2)] [] I J D bc bs
  refine zr_aload_n zSm 0 rfl rfl ?_
  refine zr_getI zSm 1 rfl zf_11_403 rfl rfl (by decide) ?_
  refine zr_s zSm 2 rfl rfl ?_
  refine zr_ic zSm 3 15 rfl rfl (fun q1 => ?_) (fun q1 => ?_)
  · have h := h.1 q1
    refine zr_aload_n zSm 7 rfl rfl ?_
    refine zr_getI zSm 8 rfl zf_11_403 rfl rfl (by decide) ?_
    refine zr_istore zSm 9 (ll' := [(4, .int (I 28 37)), (0, .ref 28), (1, .int p0), (2, .int p1), (3, .int p2)]) rfl (by decide) rfl ?_
    obtain ⟨b10, g10, r10, h⟩ := h
    refine zr_arr 75 164 49 1000 48 47 (zarr_in 10 rfl) rfl zf_11_75 zf_11_164 rfl rfl rfl rfl rfl rfl rfl rfl rfl (by decide) b10 g10 r10 (ll' := [(4, .int (I 28 37)), (0, .ref 28), (1, .int p0), (2, .int p1), (3, .int p2)]) rfl ?_
    refine zr_aload_n zSm 39 rfl rfl ?_
    refine zr_s zSm 40 rfl rfl ?_
    refine zr_getI zSm 41 rfl zf_11_164 rfl rfl (by decide) ?_
    refine zr_s zSm 42 rfl rfl ?_
    refine zr_s zSm 43 rfl rfl ?_
    refine zr_putI zSm 44 rfl zf_11_164 rfl rfl (by decide) zp_11_47 ?_
    refine zr_aload_n zSm 45 rfl rfl ?_
    refine zr_s zSm 46 rfl rfl ?_
    refine zr_putI zSm 47 rfl zf_11_388 rfl rfl (by decide) zp_11_42 ?_
    refine zr_iload_n zSm 48 rfl rfl ?_
    refine zr_s zSm 49 rfl rfl ?_
    refine zr_ic zSm 50 92 rfl rfl (fun q2 => ?_) (fun q2 => ?_)
    · have h := h.1 q2
      refine zr_aload_n zSm 58 rfl rfl ?_
      refine zr_getI zSm 59 rfl zf_11_403 rfl rfl (by decide) ?_
      refine zr_s zSm 60 rfl rfl ?_
      refine zr_ic zSm 61 107 rfl rfl (fun q3 => ?_) (fun q3 => ?_)
      · refine zr_aload_n zSm 65 rfl rfl ?_
        refine zr_s zSm 66 rfl rfl ?_
        refine zr_getI zSm 67 rfl zf_11_406 rfl rfl (by decide) ?_
        refine zr_s zSm 68 rfl rfl ?_
        refine zr_s zSm 69 rfl rfl ?_
        refine zr_putI zSm 70 rfl zf_11_406 rfl rfl (by decide) zp_11_38 ?_
        refine zr_aload_n zSm 71 rfl rfl ?_
        refine zr_aload_n zSm 72 rfl rfl ?_
        refine zr_aload_n zSm 73 rfl rfl ?_
        refine zr_getI zSm 74 rfl zf_11_403 rfl rfl (by decide) ?_
        obtain ⟨b75, h⟩ := h
        refine zr_inv0 75 179 1 [.int (I 28 37)] rfl rfl zk_11_369 zms_179 rfl ⟨_, _, _, _, rfl, rfl⟩ (Nat.le_of_ble_eq_true rfl) ?_
        refine ze_179 b75 ?_
        refine zNx_i ?_
        refine zr_putI zSm 76 rfl zf_11_403 rfl rfl (by decide) zp_11_37 ?_
        refine zr_aload_n zSm 77 rfl rfl ?_
        refine zr_getI zSm 78 rfl zf_11_406 rfl rfl (by decide) ?_
        refine zr_aload_n zSm 79 rfl rfl ?_
        refine zr_getI zSm 80 rfl zf_11_161 rfl rfl (by decide) ?_
        refine zr_s zSm 81 rfl rfl ?_
        refine zr_s zSm 82 rfl rfl ?_
        refine zr_ic zSm 83 146 rfl rfl (fun q4 => ?_) (fun q4 => ?_)
        · have h := h.1 q4
          refine zr_aload_n zSm 86 rfl rfl ?_
          refine zr_getI zSm 87 rfl zf_11_375 rfl rfl (by decide) ?_
          refine zr_if zSm 88 168 rfl rfl (fun q5 => ?_) (fun q5 => ?_)
          · have h := h.1 q5
            refine zr_aload_n zSm 96 rfl rfl ?_
            refine zr_getI zSm 97 rfl zf_11_375 rfl rfl (by decide) ?_
            refine zr_if zSm 98 185 rfl rfl (fun q6 => ?_) (fun q6 => ?_)
            · first | exact absurd q6 q5 | exact absurd q5 q6 | exact absurd (Int32.not_lt.mp q6) q5 | exact absurd (Int32.not_lt.mp q5) q6 | exact absurd (Int32.not_le.mp q6) q5 | exact absurd (Int32.not_le.mp q5) q6 | exact absurd q6 (Int32.not_lt.mpr q5) | exact absurd q5 (Int32.not_lt.mpr q6) | exact absurd q6 (Int32.not_le.mpr q5) | exact absurd q5 (Int32.not_le.mpr q6)
            · refine zr_aload_n zSm 99 rfl rfl ?_
              refine zr_s zSm 100 rfl rfl ?_
              refine zr_putI zSm 101 rfl zf_11_403 rfl rfl (by decide) zp_11_37 ?_
              refine zr_aload_n zSm 102 rfl rfl ?_
              refine zr_s zSm 103 rfl rfl ?_
              refine zr_putI zSm 104 rfl zf_11_406 rfl rfl (by decide) zp_11_38 ?_
              refine zr_vret zSm 105 rfl rfl ?_
              exact h
          · have h := h.2 q5
            refine zr_aload_n zSm 89 rfl rfl ?_
            refine zr_getI zSm 90 rfl zf_11_164 rfl rfl (by decide) ?_
            refine zr_sipush zSm 91 250 rfl rfl ?_
            refine zr_ic zSm 92 168 rfl rfl (fun q7 => ?_) (fun q7 => ?_)
            · have h := h.1 q7
              refine zr_aload_n zSm 96 rfl rfl ?_
              refine zr_getI zSm 97 rfl zf_11_375 rfl rfl (by decide) ?_
              refine zr_if zSm 98 185 rfl rfl (fun q8 => ?_) (fun q8 => ?_)
              · refine zr_vret zSm 105 rfl rfl ?_
                exact h
              · first | exact absurd q8 q5 | exact absurd q5 q8 | exact absurd (Int32.not_lt.mp q8) q5 | exact absurd (Int32.not_lt.mp q5) q8 | exact absurd (Int32.not_le.mp q8) q5 | exact absurd (Int32.not_le.mp q5) q8 | exact absurd q8 (Int32.not_lt.mpr q5) | exact absurd q5 (Int32.not_lt.mpr q8) | exact absurd q8 (Int32.not_le.mpr q5) | exact absurd q5 (Int32.not_le.mpr q8)
            · have h := h.2 q7
              refine zr_aload_n zSm 93 rfl rfl ?_
              refine zr_s zSm 94 rfl rfl ?_
              refine zr_putI zSm 95 rfl zf_11_375 rfl rfl (by decide) zp_11_33 ?_
              refine zr_aload_n zSm 96 rfl rfl ?_
              refine zr_getI zSm 97 rfl zf_11_375 rfl rfl (by decide) ?_
              refine zr_if zSm 98 185 rfl rfl (fun q9 => ?_) (fun q9 => ?_)
              · exact absurd q9 (by show ¬ ((2 : Int32) = 0); decide)
              · refine zr_aload_n zSm 99 rfl rfl ?_
                refine zr_s zSm 100 rfl rfl ?_
                refine zr_putI zSm 101 rfl zf_11_403 rfl rfl (by decide) zp_11_37 ?_
                refine zr_aload_n zSm 102 rfl rfl ?_
                refine zr_s zSm 103 rfl rfl ?_
                refine zr_putI zSm 104 rfl zf_11_406 rfl rfl (by decide) zp_11_38 ?_
                refine zr_vret zSm 105 rfl rfl ?_
                exact h
        · have h := h.2 q4
          refine zr_aload_n zSm 84 rfl rfl ?_
          refine zr_inv0 85 192 0 [] rfl rfl zk_11_416 zms_192 rfl ⟨_, _, _, _, rfl, rfl⟩ (Nat.le_of_ble_eq_true rfl) ?_
          refine zcv h (fun I1 J1 D1 h => ?_)
          refine zr_aload_n zSm 86 rfl rfl ?_
          refine zr_getI zSm 87 rfl zf_11_375 rfl rfl (by decide) ?_
          refine zr_if zSm 88 168 rfl rfl (fun q10 => ?_) (fun q10 => ?_)
          · have h := h.1 q10
            refine zr_aload_n zSm 96 rfl rfl ?_
            refine zr_getI zSm 97 rfl zf_11_375 rfl rfl (by decide) ?_
            refine zr_if zSm 98 185 rfl rfl (fun q11 => ?_) (fun q11 => ?_)
            · first | exact absurd q11 q10 | exact absurd q10 q11 | exact absurd (Int32.not_lt.mp q11) q10 | exact absurd (Int32.not_lt.mp q10) q11 | exact absurd (Int32.not_le.mp q11) q10 | exact absurd (Int32.not_le.mp q10) q11 | exact absurd q11 (Int32.not_lt.mpr q10) | exact absurd q10 (Int32.not_lt.mpr q11) | exact absurd q11 (Int32.not_le.mpr q10) | exact absurd q10 (Int32.not_le.mpr q11)
            · refine zr_aload_n zSm 99 rfl rfl ?_
              refine zr_s zSm 100 rfl rfl ?_
              refine zr_putI zSm 101 rfl zf_11_403 rfl rfl (by decide) zp_11_37 ?_
              refine zr_aload_n zSm 102 rfl rfl ?_
              refine zr_s zSm 103 rfl rfl ?_
              refine zr_putI zSm 104 rfl zf_11_406 rfl rfl (by decide) zp_11_38 ?_
              refine zr_vret zSm 105 rfl rfl ?_
              exact h
          · have h := h.2 q10
            refine zr_aload_n zSm 89 rfl rfl ?_
            refine zr_getI zSm 90 rfl zf_11_164 rfl rfl (by decide) ?_
            refine zr_sipush zSm 91 250 rfl rfl ?_
            refine zr_ic zSm 92 168 rfl rfl (fun q12 => ?_) (fun q12 => ?_)
            · have h := h.1 q12
              refine zr_aload_n zSm 96 rfl rfl ?_
              refine zr_getI zSm 97 rfl zf_11_375 rfl rfl (by decide) ?_
              refine zr_if zSm 98 185 rfl rfl (fun q13 => ?_) (fun q13 => ?_)
              · refine zr_vret zSm 105 rfl rfl ?_
                exact h
              · first | exact absurd q13 q10 | exact absurd q10 q13 | exact absurd (Int32.not_lt.mp q13) q10 | exact absurd (Int32.not_lt.mp q10) q13 | exact absurd (Int32.not_le.mp q13) q10 | exact absurd (Int32.not_le.mp q10) q13 | exact absurd q13 (Int32.not_lt.mpr q10) | exact absurd q10 (Int32.not_lt.mpr q13) | exact absurd q13 (Int32.not_le.mpr q10) | exact absurd q10 (Int32.not_le.mpr q13)
            · have h := h.2 q12
              refine zr_aload_n zSm 93 rfl rfl ?_
              refine zr_s zSm 94 rfl rfl ?_
              refine zr_putI zSm 95 rfl zf_11_375 rfl rfl (by decide) zp_11_33 ?_
              refine zr_aload_n zSm 96 rfl rfl ?_
              refine zr_getI zSm 97 rfl zf_11_375 rfl rfl (by decide) ?_
              refine zr_if zSm 98 185 rfl rfl (fun q14 => ?_) (fun q14 => ?_)
              · exact absurd q14 (by show ¬ ((2 : Int32) = 0); decide)
              · refine zr_aload_n zSm 99 rfl rfl ?_
                refine zr_s zSm 100 rfl rfl ?_
                refine zr_putI zSm 101 rfl zf_11_403 rfl rfl (by decide) zp_11_37 ?_
                refine zr_aload_n zSm 102 rfl rfl ?_
                refine zr_s zSm 103 rfl rfl ?_
                refine zr_putI zSm 104 rfl zf_11_406 rfl rfl (by decide) zp_11_38 ?_
                refine zr_vret zSm 105 rfl rfl ?_
                exact h
      · exact absurd q1 q3
    · have h := h.2 q2
      refine zr_aload_n zSm 51 rfl rfl ?_
      refine zr_iload_n zSm 52 rfl rfl ?_
      refine zr_iload_n zSm 53 rfl rfl ?_
      refine zr_iload zSm 54 rfl rfl ?_
      refine zr_iload_n zSm 55 rfl rfl ?_
      obtain ⟨c2, s2, g2, f2, h⟩ := h
      refine zr_inv zSm 56 191 4 c2 s2 [.int p0, .int p1, .int (I 28 37), .int p2] rfl rfl zk_11_412 zms_191 rfl ⟨_, _, _, _, rfl, rfl⟩ (Nat.le_of_ble_eq_true rfl) g2 f2 ?_
      refine zcv h (fun I2 J2 D2 h => ?_)
      refine zr_goto zSm 57 146 rfl rfl ?_
      refine zr_aload_n zSm 86 rfl rfl ?_
      refine zr_getI zSm 87 rfl zf_11_375 rfl rfl (by decide) ?_
      refine zr_if zSm 88 168 rfl rfl (fun q15 => ?_) (fun q15 => ?_)
      · have h := h.1 q15
        refine zr_aload_n zSm 96 rfl rfl ?_
        refine zr_getI zSm 97 rfl zf_11_375 rfl rfl (by decide) ?_
        refine zr_if zSm 98 185 rfl rfl (fun q16 => ?_) (fun q16 => ?_)
        · first | exact absurd q16 q15 | exact absurd q15 q16 | exact absurd (Int32.not_lt.mp q16) q15 | exact absurd (Int32.not_lt.mp q15) q16 | exact absurd (Int32.not_le.mp q16) q15 | exact absurd (Int32.not_le.mp q15) q16 | exact absurd q16 (Int32.not_lt.mpr q15) | exact absurd q15 (Int32.not_lt.mpr q16) | exact absurd q16 (Int32.not_le.mpr q15) | exact absurd q15 (Int32.not_le.mpr q16)
        · refine zr_aload_n zSm 99 rfl rfl ?_
          refine zr_s zSm 100 rfl rfl ?_
          refine zr_putI zSm 101 rfl zf_11_403 rfl rfl (by decide) zp_11_37 ?_
          refine zr_aload_n zSm 102 rfl rfl ?_
          refine zr_s zSm 103 rfl rfl ?_
          refine zr_putI zSm 104 rfl zf_11_406 rfl rfl (by decide) zp_11_38 ?_
          refine zr_vret zSm 105 rfl rfl ?_
          exact h
      · have h := h.2 q15
        refine zr_aload_n zSm 89 rfl rfl ?_
        refine zr_getI zSm 90 rfl zf_11_164 rfl rfl (by decide) ?_
        refine zr_sipush zSm 91 250 rfl rfl ?_
        refine zr_ic zSm 92 168 rfl rfl (fun q17 => ?_) (fun q17 => ?_)
        · have h := h.1 q17
          refine zr_aload_n zSm 96 rfl rfl ?_
          refine zr_getI zSm 97 rfl zf_11_375 rfl rfl (by decide) ?_
          refine zr_if zSm 98 185 rfl rfl (fun q18 => ?_) (fun q18 => ?_)
          · refine zr_vret zSm 105 rfl rfl ?_
            exact h
          · first | exact absurd q18 q15 | exact absurd q15 q18 | exact absurd (Int32.not_lt.mp q18) q15 | exact absurd (Int32.not_lt.mp q15) q18 | exact absurd (Int32.not_le.mp q18) q15 | exact absurd (Int32.not_le.mp q15) q18 | exact absurd q18 (Int32.not_lt.mpr q15) | exact absurd q15 (Int32.not_lt.mpr q18) | exact absurd q18 (Int32.not_le.mpr q15) | exact absurd q15 (Int32.not_le.mpr q18)
        · have h := h.2 q17
          refine zr_aload_n zSm 93 rfl rfl ?_
          refine zr_s zSm 94 rfl rfl ?_
          refine zr_putI zSm 95 rfl zf_11_375 rfl rfl (by decide) zp_11_33 ?_
          refine zr_aload_n zSm 96 rfl rfl ?_
          refine zr_getI zSm 97 rfl zf_11_375 rfl rfl (by decide) ?_
          refine zr_if zSm 98 185 rfl rfl (fun q19 => ?_) (fun q19 => ?_)
          · exact absurd q19 (by show ¬ ((2 : Int32) = 0); decide)
          · refine zr_aload_n zSm 99 rfl rfl ?_
            refine zr_s zSm 100 rfl rfl ?_
            refine zr_putI zSm 101 rfl zf_11_403 rfl rfl (by decide) zp_11_37 ?_
            refine zr_aload_n zSm 102 rfl rfl ?_
            refine zr_s zSm 103 rfl rfl ?_
            refine zr_putI zSm 104 rfl zf_11_406 rfl rfl (by decide) zp_11_38 ?_
            refine zr_vret zSm 105 rfl rfl ?_
            exact h
  · have h := h.2 q1
    refine zr_aload_n zSm 4 rfl rfl ?_
    refine zr_getI zSm 5 rfl zf_11_366 rfl rfl (by decide) ?_
    refine zr_goto zSm 6 19 rfl rfl ?_
    refine zr_istore zSm 9 (ll' := [(4, .int (I 28 35)), (0, .ref 28), (1, .int p0), (2, .int p1), (3, .int p2)]) rfl (by decide) rfl ?_
    obtain ⟨b10, g10, r10, h⟩ := h
    refine zr_arr 75 164 49 1000 48 47 (zarr_in 10 rfl) rfl zf_11_75 zf_11_164 rfl rfl rfl rfl rfl rfl rfl rfl rfl (by decide) b10 g10 r10 (ll' := [(4, .int (I 28 35)), (0, .ref 28), (1, .int p0), (2, .int p1), (3, .int p2)]) rfl ?_
    refine zr_aload_n zSm 39 rfl rfl ?_
    refine zr_s zSm 40 rfl rfl ?_
    refine zr_getI zSm 41 rfl zf_11_164 rfl rfl (by decide) ?_
    refine zr_s zSm 42 rfl rfl ?_
    refine zr_s zSm 43 rfl rfl ?_
    refine zr_putI zSm 44 rfl zf_11_164 rfl rfl (by decide) zp_11_47 ?_
    refine zr_aload_n zSm 45 rfl rfl ?_
    refine zr_s zSm 46 rfl rfl ?_
    refine zr_putI zSm 47 rfl zf_11_388 rfl rfl (by decide) zp_11_42 ?_
    refine zr_iload_n zSm 48 rfl rfl ?_
    refine zr_s zSm 49 rfl rfl ?_
    refine zr_ic zSm 50 92 rfl rfl (fun q20 => ?_) (fun q20 => ?_)
    · have h := h.1 q20
      refine zr_aload_n zSm 58 rfl rfl ?_
      refine zr_getI zSm 59 rfl zf_11_403 rfl rfl (by decide) ?_
      refine zr_s zSm 60 rfl rfl ?_
      refine zr_ic zSm 61 107 rfl rfl (fun q21 => ?_) (fun q21 => ?_)
      · exact absurd q21 q1
      · refine zr_aload_n zSm 62 rfl rfl ?_
        refine zr_inv0 63 190 0 [] rfl rfl zk_11_409 zms_190 rfl ⟨_, _, _, _, rfl, rfl⟩ (Nat.le_of_ble_eq_true rfl) ?_
        refine zcv h (fun I3 J3 D3 h => ?_)
        refine zr_goto zSm 64 146 rfl rfl ?_
        refine zr_aload_n zSm 86 rfl rfl ?_
        refine zr_getI zSm 87 rfl zf_11_375 rfl rfl (by decide) ?_
        refine zr_if zSm 88 168 rfl rfl (fun q22 => ?_) (fun q22 => ?_)
        · have h := h.1 q22
          refine zr_aload_n zSm 96 rfl rfl ?_
          refine zr_getI zSm 97 rfl zf_11_375 rfl rfl (by decide) ?_
          refine zr_if zSm 98 185 rfl rfl (fun q23 => ?_) (fun q23 => ?_)
          · first | exact absurd q23 q22 | exact absurd q22 q23 | exact absurd (Int32.not_lt.mp q23) q22 | exact absurd (Int32.not_lt.mp q22) q23 | exact absurd (Int32.not_le.mp q23) q22 | exact absurd (Int32.not_le.mp q22) q23 | exact absurd q23 (Int32.not_lt.mpr q22) | exact absurd q22 (Int32.not_lt.mpr q23) | exact absurd q23 (Int32.not_le.mpr q22) | exact absurd q22 (Int32.not_le.mpr q23)
          · refine zr_aload_n zSm 99 rfl rfl ?_
            refine zr_s zSm 100 rfl rfl ?_
            refine zr_putI zSm 101 rfl zf_11_403 rfl rfl (by decide) zp_11_37 ?_
            refine zr_aload_n zSm 102 rfl rfl ?_
            refine zr_s zSm 103 rfl rfl ?_
            refine zr_putI zSm 104 rfl zf_11_406 rfl rfl (by decide) zp_11_38 ?_
            refine zr_vret zSm 105 rfl rfl ?_
            exact h
        · have h := h.2 q22
          refine zr_aload_n zSm 89 rfl rfl ?_
          refine zr_getI zSm 90 rfl zf_11_164 rfl rfl (by decide) ?_
          refine zr_sipush zSm 91 250 rfl rfl ?_
          refine zr_ic zSm 92 168 rfl rfl (fun q24 => ?_) (fun q24 => ?_)
          · have h := h.1 q24
            refine zr_aload_n zSm 96 rfl rfl ?_
            refine zr_getI zSm 97 rfl zf_11_375 rfl rfl (by decide) ?_
            refine zr_if zSm 98 185 rfl rfl (fun q25 => ?_) (fun q25 => ?_)
            · refine zr_vret zSm 105 rfl rfl ?_
              exact h
            · first | exact absurd q25 q22 | exact absurd q22 q25 | exact absurd (Int32.not_lt.mp q25) q22 | exact absurd (Int32.not_lt.mp q22) q25 | exact absurd (Int32.not_le.mp q25) q22 | exact absurd (Int32.not_le.mp q22) q25 | exact absurd q25 (Int32.not_lt.mpr q22) | exact absurd q22 (Int32.not_lt.mpr q25) | exact absurd q25 (Int32.not_le.mpr q22) | exact absurd q22 (Int32.not_le.mpr q25)
          · have h := h.2 q24
            refine zr_aload_n zSm 93 rfl rfl ?_
            refine zr_s zSm 94 rfl rfl ?_
            refine zr_putI zSm 95 rfl zf_11_375 rfl rfl (by decide) zp_11_33 ?_
            refine zr_aload_n zSm 96 rfl rfl ?_
            refine zr_getI zSm 97 rfl zf_11_375 rfl rfl (by decide) ?_
            refine zr_if zSm 98 185 rfl rfl (fun q26 => ?_) (fun q26 => ?_)
            · exact absurd q26 (by show ¬ ((2 : Int32) = 0); decide)
            · refine zr_aload_n zSm 99 rfl rfl ?_
              refine zr_s zSm 100 rfl rfl ?_
              refine zr_putI zSm 101 rfl zf_11_403 rfl rfl (by decide) zp_11_37 ?_
              refine zr_aload_n zSm 102 rfl rfl ?_
              refine zr_s zSm 103 rfl rfl ?_
              refine zr_putI zSm 104 rfl zf_11_406 rfl rfl (by decide) zp_11_38 ?_
              refine zr_vret zSm 105 rfl rfl ?_
              exact h
    · have h := h.2 q20
      refine zr_aload_n zSm 51 rfl rfl ?_
      refine zr_iload_n zSm 52 rfl rfl ?_
      refine zr_iload_n zSm 53 rfl rfl ?_
      refine zr_iload zSm 54 rfl rfl ?_
      refine zr_iload_n zSm 55 rfl rfl ?_
      obtain ⟨c4, s4, g4, f4, h⟩ := h
      refine zr_inv zSm 56 191 4 c4 s4 [.int p0, .int p1, .int (I 28 35), .int p2] rfl rfl zk_11_412 zms_191 rfl ⟨_, _, _, _, rfl, rfl⟩ (Nat.le_of_ble_eq_true rfl) g4 f4 ?_
      refine zcv h (fun I4 J4 D4 h => ?_)
      refine zr_goto zSm 57 146 rfl rfl ?_
      refine zr_aload_n zSm 86 rfl rfl ?_
      refine zr_getI zSm 87 rfl zf_11_375 rfl rfl (by decide) ?_
      refine zr_if zSm 88 168 rfl rfl (fun q27 => ?_) (fun q27 => ?_)
      · have h := h.1 q27
        refine zr_aload_n zSm 96 rfl rfl ?_
        refine zr_getI zSm 97 rfl zf_11_375 rfl rfl (by decide) ?_
        refine zr_if zSm 98 185 rfl rfl (fun q28 => ?_) (fun q28 => ?_)
        · first | exact absurd q28 q27 | exact absurd q27 q28 | exact absurd (Int32.not_lt.mp q28) q27 | exact absurd (Int32.not_lt.mp q27) q28 | exact absurd (Int32.not_le.mp q28) q27 | exact absurd (Int32.not_le.mp q27) q28 | exact absurd q28 (Int32.not_lt.mpr q27) | exact absurd q27 (Int32.not_lt.mpr q28) | exact absurd q28 (Int32.not_le.mpr q27) | exact absurd q27 (Int32.not_le.mpr q28)
        · refine zr_aload_n zSm 99 rfl rfl ?_
          refine zr_s zSm 100 rfl rfl ?_
          refine zr_putI zSm 101 rfl zf_11_403 rfl rfl (by decide) zp_11_37 ?_
          refine zr_aload_n zSm 102 rfl rfl ?_
          refine zr_s zSm 103 rfl rfl ?_
          refine zr_putI zSm 104 rfl zf_11_406 rfl rfl (by decide) zp_11_38 ?_
          refine zr_vret zSm 105 rfl rfl ?_
          exact h
      · have h := h.2 q27
        refine zr_aload_n zSm 89 rfl rfl ?_
        refine zr_getI zSm 90 rfl zf_11_164 rfl rfl (by decide) ?_
        refine zr_sipush zSm 91 250 rfl rfl ?_
        refine zr_ic zSm 92 168 rfl rfl (fun q29 => ?_) (fun q29 => ?_)
        · have h := h.1 q29
          refine zr_aload_n zSm 96 rfl rfl ?_
          refine zr_getI zSm 97 rfl zf_11_375 rfl rfl (by decide) ?_
          refine zr_if zSm 98 185 rfl rfl (fun q30 => ?_) (fun q30 => ?_)
          · refine zr_vret zSm 105 rfl rfl ?_
            exact h
          · first | exact absurd q30 q27 | exact absurd q27 q30 | exact absurd (Int32.not_lt.mp q30) q27 | exact absurd (Int32.not_lt.mp q27) q30 | exact absurd (Int32.not_le.mp q30) q27 | exact absurd (Int32.not_le.mp q27) q30 | exact absurd q30 (Int32.not_lt.mpr q27) | exact absurd q27 (Int32.not_lt.mpr q30) | exact absurd q30 (Int32.not_le.mpr q27) | exact absurd q27 (Int32.not_le.mpr q30)
        · have h := h.2 q29
          refine zr_aload_n zSm 93 rfl rfl ?_
          refine zr_s zSm 94 rfl rfl ?_
          refine zr_putI zSm 95 rfl zf_11_375 rfl rfl (by decide) zp_11_33 ?_
          refine zr_aload_n zSm 96 rfl rfl ?_
          refine zr_getI zSm 97 rfl zf_11_375 rfl rfl (by decide) ?_
          refine zr_if zSm 98 185 rfl rfl (fun q31 => ?_) (fun q31 => ?_)
          · exact absurd q31 (by show ¬ ((2 : Int32) = 0); decide)
          · refine zr_aload_n zSm 99 rfl rfl ?_
            refine zr_s zSm 100 rfl rfl ?_
            refine zr_putI zSm 101 rfl zf_11_403 rfl rfl (by decide) zp_11_37 ?_
            refine zr_aload_n zSm 102 rfl rfl ?_
            refine zr_s zSm 103 rfl rfl ?_
            refine zr_putI zSm 104 rfl zf_11_406 rfl rfl (by decide) zp_11_38 ?_
            refine zr_vret zSm 105 rfl rfl ?_
            exact h
theorem w_194 {RO : zRo} {d : Nat} {P : zP} {I : zI} {J : zJ} {D : zD} {bc bs : Nat} {p0 : Int32} {p1 : Int64} (h : zw RO d 194 P 78 [(0, .ref 28), (1, .int p0), (2, .long p1), (4, .int 0)] [] (zu (zu (zu (zu (zu (zu (zu (zu (zu (zu (zu (zu (zu I 28 30 p0) 28 33 0) 28 34 1) 28 35 0) 28 36 0) 28 37 (-1)) 28 38 0) 28 39 (-1)) 28 40 0) 28 41 0) 28 42 0) 28 45 0) 28 47 0) (zu (zu J 28 31 p1) 28 32 p1) D bc bs) : zz RO (d + 1) 194 [.ref 28, .int p0, .long p1] I J D bc bs P := by
  refine zT_of (Nat.le_of_ble_eq_true rfl) rfl ?_
  show zw RO d 194 P 0 [(0, .ref 28), (1, .int p0), (2, .long p1)] [] I J D bc bs
  refine zr_aload_n zSm 0 rfl rfl ?_
  refine zr_iload_n zSm 1 rfl rfl ?_
  refine zr_putI zSm 2 rfl zf_11_161 rfl rfl (by decide) zp_11_30 ?_
  refine zr_aload_n zSm 3 rfl rfl ?_
  refine zr_lload_n zSm 4 rfl rfl ?_
  refine zr_putJ zSm 5 rfl zf_11_419 rfl rfl (by decide) zp_11_31 ?_
  refine zr_aload_n zSm 6 rfl rfl ?_
  refine zr_lload_n zSm 7 rfl rfl ?_
  refine zr_putJ zSm 8 rfl zf_11_329 rfl rfl (by decide) zp_11_32 ?_
  refine zr_aload_n zSm 9 rfl rfl ?_
  refine zr_s zSm 10 rfl rfl ?_
  refine zr_putI zSm 11 rfl zf_11_375 rfl rfl (by decide) zp_11_33 ?_
  refine zr_aload_n zSm 12 rfl rfl ?_
  refine zr_s zSm 13 rfl rfl ?_
  refine zr_putI zSm 14 rfl zf_11_326 rfl rfl (by decide) zp_11_34 ?_
  refine zr_aload_n zSm 15 rfl rfl ?_
  refine zr_s zSm 16 rfl rfl ?_
  refine zr_putI zSm 17 rfl zf_11_366 rfl rfl (by decide) zp_11_35 ?_
  refine zr_aload_n zSm 18 rfl rfl ?_
  refine zr_s zSm 19 rfl rfl ?_
  refine zr_putI zSm 20 rfl zf_11_378 rfl rfl (by decide) zp_11_36 ?_
  refine zr_aload_n zSm 21 rfl rfl ?_
  refine zr_s zSm 22 rfl rfl ?_
  refine zr_putI zSm 23 rfl zf_11_403 rfl rfl (by decide) zp_11_37 ?_
  refine zr_aload_n zSm 24 rfl rfl ?_
  refine zr_s zSm 25 rfl rfl ?_
  refine zr_putI zSm 26 rfl zf_11_406 rfl rfl (by decide) zp_11_38 ?_
  refine zr_aload_n zSm 27 rfl rfl ?_
  refine zr_s zSm 28 rfl rfl ?_
  refine zr_putI zSm 29 rfl zf_11_372 rfl rfl (by decide) zp_11_39 ?_
  refine zr_aload_n zSm 30 rfl rfl ?_
  refine zr_s zSm 31 rfl rfl ?_
  refine zr_putZ zSm 32 rfl zf_11_361 rfl rfl (by decide) zp_11_40 (Or.inl rfl) ?_
  refine zr_aload_n zSm 33 rfl rfl ?_
  refine zr_s zSm 34 rfl rfl ?_
  refine zr_putZ zSm 35 rfl zf_11_358 rfl rfl (by decide) zp_11_41 (Or.inl rfl) ?_
  refine zr_aload_n zSm 36 rfl rfl ?_
  refine zr_s zSm 37 rfl rfl ?_
  refine zr_putI zSm 38 rfl zf_11_388 rfl rfl (by decide) zp_11_42 ?_
  refine zr_aload_n zSm 39 rfl rfl ?_
  refine zr_s zSm 40 rfl rfl ?_
  refine zr_putI zSm 41 rfl zf_11_167 rfl rfl (by decide) zp_11_45 ?_
  refine zr_aload_n zSm 42 rfl rfl ?_
  refine zr_s zSm 43 rfl rfl ?_
  refine zr_putI zSm 44 rfl zf_11_164 rfl rfl (by decide) zp_11_47 ?_
  refine zr_s zSm 45 rfl rfl ?_
  refine zr_istore zSm 46 (ll' := [(4, .int 0), (0, .ref 28), (1, .int p0), (2, .long p1)]) rfl (by decide) rfl ?_
  refine zr_sub [1, 2, 3, 0] rfl ?_
  exact h
theorem wl_194_78 {RO : zRo} {d : Nat} {P : zP} {I : zI} {J : zJ} {D : zD} {bc bs : Nat} {l1 l4 : Int32} {l2 : Int64} (h : ((4 ≤ l4 → zw RO d 194 P 133 [(0, .ref 28), (1, .int l1), (2, .long l2), (4, .int 0)] [] I J D bc bs) ∧ (¬ (4 ≤ l4) → zw RO d 194 P 87 [(0, .ref 28), (1, .int l1), (2, .long l2), (4, .int l4), (5, .int 0)] [] I J D bc bs))) : zw RO d 194 P 78 [(0, .ref 28), (1, .int l1), (2, .long l2), (4, .int l4)] [] I J D bc bs := by
  refine zr_iload zSm 47 rfl rfl ?_
  refine zr_s zSm 48 rfl rfl ?_
  refine zr_ic zSm 49 130 rfl rfl (fun q1 => ?_) (fun q1 => ?_)
  · have h := h.1 q1
    refine zr_s zSm 75 rfl rfl ?_
    refine zr_istore zSm 76 (ll' := [(4, .int 0), (0, .ref 28), (1, .int l1), (2, .long l2)]) rfl (by decide) rfl ?_
    refine zr_sub [1, 2, 3, 0] rfl ?_
    exact h
  · have h := h.2 q1
    refine zr_s zSm 50 rfl rfl ?_
    refine zr_istore zSm 51 (ll' := [(5, .int 0), (0, .ref 28), (1, .int l1), (2, .long l2), (4, .int l4)]) rfl (by decide) rfl ?_
    refine zr_sub [1, 2, 3, 4, 0] rfl ?_
    exact h
theorem wl_194_87 {RO : zRo} {d : Nat} {P : zP} {I : zI} {J : zJ} {D : zD} {bc bs : Nat} {l1 l4 l5 : Int32} {l2 : Int64} (h : ((6 ≤ l5 → zw RO d 194 P 78 [(0, .ref 28), (1, .int l1), (2, .long l2), (4, .int (l4 + 1))] [] I J D bc bs) ∧ (¬ (6 ≤ l5) → (vp_in ((3 * l5) + 2) 36 ∧ (vp_in ((6 * l4) + l5) 24 ∧ zw RO d 194 P 87 [(0, .ref 28), (1, .int l1), (2, .long l2), (4, .int l4), (5, .int (l5 + 1))] [] (zu I 46 (((6 * l4) + l5).toNatClampNeg) (I 38 (((3 * l5) + 2).toNatClampNeg))) J D bc bs))))) : zw RO d 194 P 87 [(0, .ref 28), (1, .int l1), (2, .long l2), (4, .int l4), (5, .int l5)] [] I J D bc bs := by
  refine zr_iload zSm 52 rfl rfl ?_
  refine zr_bipush zSm 53 6 rfl rfl ?_
  refine zr_ic zSm 54 124 rfl rfl (fun q1 => ?_) (fun q1 => ?_)
  · have h := h.1 q1
    refine zr_iinc zSm 73 (v := l4 + 1) (ll' := [(4, .int (l4 + 1)), (0, .ref 28), (1, .int l1), (2, .long l2), (5, .int l5)]) rfl rfl (by decide) rfl rfl ?_
    refine zr_goto zSm 74 78 rfl rfl ?_
    refine zr_sub [1, 2, 3, 0] rfl ?_
    exact h
  · have h := h.2 q1
    refine zr_aload_n zSm 55 rfl rfl ?_
    refine zr_getR zSm 56 rfl zf_11_66 rfl rfl (by decide) ?_
    refine zr_bipush zSm 57 6 rfl rfl ?_
    refine zr_iload zSm 58 rfl rfl ?_
    refine zr_s zSm 59 rfl rfl ?_
    refine zr_iload zSm 60 rfl rfl ?_
    refine zr_s zSm 61 rfl rfl ?_
    refine zr_aload_n zSm 62 rfl rfl ?_
    refine zr_getR zSm 63 rfl zf_11_38 rfl rfl (by decide) ?_
    refine zr_s zSm 64 rfl rfl ?_
    refine zr_iload zSm 65 rfl rfl ?_
    refine zr_s zSm 66 rfl rfl ?_
    refine zr_s zSm 67 rfl rfl ?_
    refine zr_s zSm 68 rfl rfl ?_
    obtain ⟨b69, h⟩ := h
    refine zr_iald zSm 69 rfl rfl b69 ?_
    obtain ⟨b70, h⟩ := h
    refine zr_iast zSm 70 rfl rfl b70 ?_
    refine zr_iinc zSm 71 (v := l5 + 1) (ll' := [(5, .int (l5 + 1)), (0, .ref 28), (1, .int l1), (2, .long l2), (4, .int l4)]) rfl rfl (by decide) rfl rfl ?_
    refine zr_goto zSm 72 87 rfl rfl ?_
    refine zr_sub [1, 2, 3, 4, 0] rfl ?_
    exact h
theorem wl_194_133 {RO : zRo} {d : Nat} {P : zP} {I : zI} {J : zJ} {D : zD} {bc bs : Nat} {l1 l4 : Int32} {l2 : Int64} (h : ((6 ≤ l4 → (zz RO d 188 [.ref 28] I J D 0 0 (zNv P fun I1 J1 D1 => ((¬ (I1 28 33) = 0 → P (.inl none) I1 J1 D1) ∧ (¬ (¬ (I1 28 33) = 0) → (((I1 28 40) = 0 → P (.inl none) I1 J1 D1) ∧ (¬ ((I1 28 40) = 0) → (zz RO d 190 [.ref 28] I1 J1 D1 0 0 (zNv P fun I2 J2 D2 => P (.inl none) I2 J2 D2))))))))) ∧ (¬ (6 ≤ l4) → (vp_in ((3 * (6 + l4)) + 2) 36 ∧ (vp_in l4 6 ∧ zw RO d 194 P 133 [(0, .ref 28), (1, .int l1), (2, .long l2), (4, .int (l4 + 1))] [] (zu I 47 l4.toNatClampNeg (I 38 (((3 * (6 + l4)) + 2).toNatClampNeg))) J D bc bs))))) : zw RO d 194 P 133 [(0, .ref 28), (1, .int l1), (2, .long l2), (4, .int l4)] [] I J D bc bs := by
  refine zr_iload zSm 77 rfl rfl ?_
  refine zr_bipush zSm 78 6 rfl rfl ?_
  refine zr_ic zSm 79 167 rfl rfl (fun q1 => ?_) (fun q1 => ?_)
  · have h := h.1 q1
    refine zr_aload_n zSm 96 rfl rfl ?_
    refine zr_inv0 97 188 0 [] rfl rfl zk_11_394 zms_188 rfl ⟨_, _, _, _, rfl, rfl⟩ (Nat.le_of_ble_eq_true rfl) ?_
    refine zcv h (fun I1 J1 D1 h => ?_)
    refine zr_aload_n zSm 98 rfl rfl ?_
    refine zr_getI zSm 99 rfl zf_11_375 rfl rfl (by decide) ?_
    refine zr_if zSm 100 189 rfl rfl (fun q2 => ?_) (fun q2 => ?_)
    · have h := h.1 q2
      refine zr_vret zSm 106 rfl rfl ?_
      exact h
    · have h := h.2 q2
      refine zr_aload_n zSm 101 rfl rfl ?_
      refine zr_getZ zSm 102 rfl zf_11_361 rfl rfl (by decide) ?_
      refine zr_if zSm 103 189 rfl rfl (fun q3 => ?_) (fun q3 => ?_)
      · have h := h.1 q3
        refine zr_vret zSm 106 rfl rfl ?_
        exact h
      · have h := h.2 q3
        refine zr_aload_n zSm 104 rfl rfl ?_
        refine zr_inv0 105 190 0 [] rfl rfl zk_11_409 zms_190 rfl ⟨_, _, _, _, rfl, rfl⟩ (Nat.le_of_ble_eq_true rfl) ?_
        refine zcv h (fun I2 J2 D2 h => ?_)
        refine zr_vret zSm 106 rfl rfl ?_
        exact h
  · have h := h.2 q1
    refine zr_aload_n zSm 80 rfl rfl ?_
    refine zr_getR zSm 81 rfl zf_11_69 rfl rfl (by decide) ?_
    refine zr_iload zSm 82 rfl rfl ?_
    refine zr_aload_n zSm 83 rfl rfl ?_
    refine zr_getR zSm 84 rfl zf_11_38 rfl rfl (by decide) ?_
    refine zr_s zSm 85 rfl rfl ?_
    refine zr_bipush zSm 86 6 rfl rfl ?_
    refine zr_iload zSm 87 rfl rfl ?_
    refine zr_s zSm 88 rfl rfl ?_
    refine zr_s zSm 89 rfl rfl ?_
    refine zr_s zSm 90 rfl rfl ?_
    refine zr_s zSm 91 rfl rfl ?_
    obtain ⟨b92, h⟩ := h
    refine zr_iald zSm 92 rfl rfl b92 ?_
    obtain ⟨b93, h⟩ := h
    refine zr_iast zSm 93 rfl rfl b93 ?_
    refine zr_iinc zSm 94 (v := l4 + 1) (ll' := [(4, .int (l4 + 1)), (0, .ref 28), (1, .int l1), (2, .long l2)]) rfl rfl (by decide) rfl rfl ?_
    refine zr_goto zSm 95 133 rfl rfl ?_
    refine zr_sub [1, 2, 3, 0] rfl ?_
    exact h
theorem w_197 {RO : zRo} {d : Nat} {P : zP} {I : zI} {J : zJ} {D : zD} {bc bs : Nat} {p0 : Int32} {p1 : Int64} (h : ((¬ (zv_136 (zu I 28 0 0) J p0.toInt64 2 4) = 0 → ((¬ (I 28 23) = 0 → (zz RO (d + 1) 194 [.ref 28, .int p0, .long p1] (zu I 28 0 0) J D 0 0 (zNv P fun I1 J1 D1 => P (.inl (some (.int (I1 28 33)))) I1 J1 D1))) ∧ (¬ (¬ (I 28 23) = 0) → (zz RO (d + 1) 135 [.ref 28, .int 2] (zu I 28 0 0) J D 0 0 (zNi P fun v2 I2 J2 D2 => P (.inl (some (.int v2))) I2 J2 D2))))) ∧ (¬ (¬ (zv_136 (zu I 28 0 0) J p0.toInt64 2 4) = 0) → (zz RO (d + 1) 135 [.ref 28, .int 1] (zu I 28 0 0) J D 0 0 (zNi P fun v3 I3 J3 D3 => P (.inl (some (.int v3))) I3 J3 D3))))) : zz RO (d + 2) 197 [.ref 28, .int p0, .long p1] I J D bc bs P := by
  refine zT_of (Nat.le_of_ble_eq_true rfl) rfl ?_
  show zw RO (d + 1) 197 P 0 [(0, .ref 28), (1, .int p0), (2, .long p1)] [] I J D bc bs
  refine zr_aload_n zSm 0 rfl rfl ?_
  refine zr_s zSm 1 rfl rfl ?_
  refine zr_putI zSm 2 rfl zf_11_96 rfl rfl (by decide) zp_11_0 ?_
  refine zr_iload_n zSm 3 rfl rfl ?_
  refine zr_s zSm 4 rfl rfl ?_
  refine zr_ldc2 zSm 5 rfl zc_11_425 ?_
  refine zr_ldc2 zSm 6 rfl zc_11_247 ?_
  refine zr_ins0 7 136 3 [.long p0.toInt64, .long 2, .long 4] rfl rfl zk_11_110 zms_136 rfl (Nat.le_of_ble_eq_true rfl) ?_
  refine ze_136 ?_
  refine zNx_i ?_
  refine zr_if zSm 8 25 rfl rfl (fun q1 => ?_) (fun q1 => ?_)
  · have h := h.1 q1
    refine zr_aload_n zSm 13 rfl rfl ?_
    refine zr_getZ zSm 14 rfl zf_11_157 rfl rfl (by decide) ?_
    refine zr_if zSm 15 38 rfl rfl (fun q2 => ?_) (fun q2 => ?_)
    · have h := h.1 q2
      refine zr_aload_n zSm 20 rfl rfl ?_
      refine zr_iload_n zSm 21 rfl rfl ?_
      refine zr_lload_n zSm 22 rfl rfl ?_
      refine zr_inv0 23 194 2 [.int p0, .long p1] rfl rfl zk_11_427 zms_194 rfl ⟨_, _, _, _, rfl, rfl⟩ (Nat.le_of_ble_eq_true rfl) ?_
      refine zcv h (fun I1 J1 D1 h => ?_)
      refine zr_aload_n zSm 24 rfl rfl ?_
      refine zr_getI zSm 25 rfl zf_11_375 rfl rfl (by decide) ?_
      refine zr_iret zSm 26 rfl rfl rfl ?_
      exact h
    · have h := h.2 q2
      refine zr_aload_n zSm 16 rfl rfl ?_
      refine zr_s zSm 17 rfl rfl ?_
      refine zr_inv0 18 135 1 [.int 2] rfl rfl zk_11_102 zms_135 rfl ⟨_, _, _, _, rfl, rfl⟩ (Nat.le_of_ble_eq_true rfl) ?_
      refine zci h (fun v2 I2 J2 D2 h => ?_)
      refine zr_iret zSm 19 rfl rfl rfl ?_
      exact h
  · have h := h.2 q1
    refine zr_aload_n zSm 9 rfl rfl ?_
    refine zr_s zSm 10 rfl rfl ?_
    refine zr_inv0 11 135 1 [.int 1] rfl rfl zk_11_102 zms_135 rfl ⟨_, _, _, _, rfl, rfl⟩ (Nat.le_of_ble_eq_true rfl) ?_
    refine zci h (fun v3 I3 J3 D3 h => ?_)
    refine zr_iret zSm 12 rfl rfl rfl ?_
    exact h
theorem w_198 {RO : zRo} {d : Nat} {P : zP} {I : zI} {J : zJ} {D : zD} {bc bs : Nat} {p0 p1 p2 : Int32} (h : (((zv_196 I J) = 0 → P (.inl (some (.int 0))) I J D) ∧ (¬ ((zv_196 I J) = 0) → ((¬ (I 28 45) = 10 → ((¬ p0 = 0 → ((¬ (I 28 37) = (-1) → (zz RO (d + 2) 184 [.ref 28, .int ((12 * p0) + p1), .int (I 28 37), .int p2] I J D 0 0 (zNi P fun v1 I1 J1 D1 => ((v1 = 0 ∨ v1 = 1) ∧ P (.inl (some (.int v1))) I1 J1 D1)))) ∧ (¬ (¬ (I 28 37) = (-1)) → P (.inl (some (.int 0))) I J D))) ∧ (¬ (¬ p0 = 0) → ((0 < (I 28 45) → P (.inl (some (.int 0))) I J D) ∧ (¬ (0 < (I 28 45)) → (vp_in (I 28 36) 6 ∧ ((¬ (((I 39 ((I 28 36).toNatClampNeg)) >>> (p1 &&& 31)) &&& 1) = 0 → (zz RO (d + 2) 184 [.ref 28, .int ((12 * p0) + p1), .int (I 28 35), .int p2] I J D 0 0 (zNi P fun v2 I2 J2 D2 => ((v2 = 0 ∨ v2 = 1) ∧ P (.inl (some (.int v2))) I2 J2 D2)))) ∧ (¬ (¬ (((I 39 ((I 28 36).toNatClampNeg)) >>> (p1 &&& 31)) &&& 1) = 0) → P (.inl (some (.int 0))) I J D)))))))) ∧ (¬ (¬ (I 28 45) = 10) → P (.inl (some (.int 0))) I J D))))) : zz RO (d + 3) 198 [.ref 28, .int p0, .int p1, .int p2] I J D bc bs P := by
  refine zT_of (Nat.le_of_ble_eq_true rfl) rfl ?_
  show zw RO (d + 2) 198 P 0 [(0, .ref 28), (1, .int p0), (2, .int p1), (3, .int p2)] [] I J D bc bs
  refine zr_aload_n zSm 0 rfl rfl ?_
  refine zr_inv0 1 196 0 [] rfl rfl zk_11_431 zms_196 rfl ⟨_, _, _, _, rfl, rfl⟩ (Nat.le_of_ble_eq_true rfl) ?_
  refine ze_196 ?_
  refine zNx_i ?_
  refine zr_if zSm 2 16 rfl rfl (fun q1 => ?_) (fun q1 => ?_)
  · have h := h.1 q1
    refine zr_s zSm 7 rfl rfl ?_
    refine zr_iret zSm 8 rfl rfl (zn_b (Or.inl rfl)) ?_
    exact h
  · have h := h.2 q1
    refine zr_aload_n zSm 3 rfl rfl ?_
    refine zr_getI zSm 4 rfl zf_11_167 rfl rfl (by decide) ?_
    refine zr_bipush zSm 5 10 rfl rfl ?_
    refine zr_ic zSm 6 18 rfl rfl (fun q2 => ?_) (fun q2 => ?_)
    · have h := h.1 q2
      refine zr_iload_n zSm 9 rfl rfl ?_
      refine zr_if zSm 10 48 rfl rfl (fun q3 => ?_) (fun q3 => ?_)
      · have h := h.1 q3
        refine zr_aload_n zSm 25 rfl rfl ?_
        refine zr_getI zSm 26 rfl zf_11_403 rfl rfl (by decide) ?_
        refine zr_s zSm 27 rfl rfl ?_
        refine zr_ic zSm 28 58 rfl rfl (fun q4 => ?_) (fun q4 => ?_)
        · have h := h.1 q4
          refine zr_aload_n zSm 31 rfl rfl ?_
          refine zr_bipush zSm 32 12 rfl rfl ?_
          refine zr_iload_n zSm 33 rfl rfl ?_
          refine zr_s zSm 34 rfl rfl ?_
          refine zr_iload_n zSm 35 rfl rfl ?_
          refine zr_s zSm 36 rfl rfl ?_
          refine zr_iload_n zSm 37 rfl rfl ?_
          refine zr_if zSm 38 76 rfl rfl (fun q5 => ?_) (fun q5 => ?_)
          · refine zr_aload_n zSm 42 rfl rfl ?_
            refine zr_getI zSm 43 rfl zf_11_403 rfl rfl (by decide) ?_
            refine zr_iload_n zSm 44 rfl rfl ?_
            refine zr_inv0 45 184 3 [.int ((12 * p0) + p1), .int (I 28 37), .int p2] rfl rfl zk_11_380 zms_184 rfl ⟨_, _, _, _, rfl, rfl⟩ (Nat.le_of_ble_eq_true rfl) ?_
            refine zci h (fun v1 I1 J1 D1 h => ?_)
            obtain ⟨b46, h⟩ := h
            refine zr_iret zSm 46 rfl rfl (zn_b b46) ?_
            exact h
          · exact absurd q3 q5
        · have h := h.2 q4
          refine zr_s zSm 29 rfl rfl ?_
          refine zr_iret zSm 30 rfl rfl (zn_b (Or.inl rfl)) ?_
          exact h
      · have h := h.2 q3
        refine zr_aload_n zSm 11 rfl rfl ?_
        refine zr_getI zSm 12 rfl zf_11_167 rfl rfl (by decide) ?_
        refine zr_if zSm 13 56 rfl rfl (fun q6 => ?_) (fun q6 => ?_)
        · have h := h.1 q6
          refine zr_s zSm 29 rfl rfl ?_
          refine zr_iret zSm 30 rfl rfl (zn_b (Or.inl rfl)) ?_
          exact h
        · have h := h.2 q6
          refine zr_aload_n zSm 14 rfl rfl ?_
          refine zr_getR zSm 15 rfl zf_11_41 rfl rfl (by decide) ?_
          refine zr_aload_n zSm 16 rfl rfl ?_
          refine zr_getI zSm 17 rfl zf_11_378 rfl rfl (by decide) ?_
          obtain ⟨b18, h⟩ := h
          refine zr_iald zSm 18 rfl rfl b18 ?_
          refine zr_iload_n zSm 19 rfl rfl ?_
          refine zr_s zSm 20 rfl rfl ?_
          refine zr_s zSm 21 rfl rfl ?_
          refine zr_s zSm 22 rfl rfl ?_
          refine zr_if zSm 23 58 rfl rfl (fun q7 => ?_) (fun q7 => ?_)
          · have h := h.1 q7
            refine zr_aload_n zSm 31 rfl rfl ?_
            refine zr_bipush zSm 32 12 rfl rfl ?_
            refine zr_iload_n zSm 33 rfl rfl ?_
            refine zr_s zSm 34 rfl rfl ?_
            refine zr_iload_n zSm 35 rfl rfl ?_
            refine zr_s zSm 36 rfl rfl ?_
            refine zr_iload_n zSm 37 rfl rfl ?_
            refine zr_if zSm 38 76 rfl rfl (fun q8 => ?_) (fun q8 => ?_)
            · exact absurd q8 q3
            · refine zr_aload_n zSm 39 rfl rfl ?_
              refine zr_getI zSm 40 rfl zf_11_366 rfl rfl (by decide) ?_
              refine zr_goto zSm 41 80 rfl rfl ?_
              refine zr_iload_n zSm 44 rfl rfl ?_
              refine zr_inv0 45 184 3 [.int ((12 * p0) + p1), .int (I 28 35), .int p2] rfl rfl zk_11_380 zms_184 rfl ⟨_, _, _, _, rfl, rfl⟩ (Nat.le_of_ble_eq_true rfl) ?_
              refine zci h (fun v2 I2 J2 D2 h => ?_)
              obtain ⟨b46, h⟩ := h
              refine zr_iret zSm 46 rfl rfl (zn_b b46) ?_
              exact h
          · have h := h.2 q7
            refine zr_goto zSm 24 56 rfl rfl ?_
            refine zr_s zSm 29 rfl rfl ?_
            refine zr_iret zSm 30 rfl rfl (zn_b (Or.inl rfl)) ?_
            exact h
    · have h := h.2 q2
      refine zr_s zSm 7 rfl rfl ?_
      refine zr_iret zSm 8 rfl rfl (zn_b (Or.inl rfl)) ?_
      exact h

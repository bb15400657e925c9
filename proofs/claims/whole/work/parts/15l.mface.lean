/-! ===== written by wip/whole/lay15.py: walks, a formula each ===== -/
theorem w_200 {RO : zRo} {d : Nat} {P : zP} {I : zI} {J : zJ} {D : zD} {bc bs : Nat} {p0 p1 p2 : Int32} (h : (vp_in (5 + p0) 9 ∧ (((zv_136 (zu I 28 0 0) J p1.toInt64 0 (((I 37 ((5 + p0).toNatClampNeg)) - 1).toInt64)) = 0 → (zz RO (d + 2) 135 [.ref 28, .int 1] (zu I 28 0 0) J D 0 0 (zNi P fun v1 I1 J1 D1 => P (.inl (some (.int v1))) I1 J1 D1))) ∧ (¬ ((zv_136 (zu I 28 0 0) J p1.toInt64 0 (((I 37 ((5 + p0).toNatClampNeg)) - 1).toInt64)) = 0) → ((¬ (zv_199 (zu I 28 0 0) J p2) = 0 → (zz RO (d + 2) 198 [.ref 28, .int p0, .int p1, .int p2] (zu I 28 0 0) J D 0 0 (zNi P fun v2 I2 J2 D2 => ((¬ v2 = 0 → (∃ c3 s3, c3 ≤ bc ∧ s3 ≤ bs ∧ zz RO (d + 2) 193 [.ref 28, .int p0, .int p1, .int p2] I2 J2 D2 c3 s3 (zNv P fun I3 J3 D3 => P (.inl (some (.int (I3 28 45)))) I3 J3 D3))) ∧ (¬ (¬ v2 = 0) → (zz RO (d + 2) 135 [.ref 28, .int 2] I2 J2 D2 0 0 (zNi P fun v4 I4 J4 D4 => P (.inl (some (.int v4))) I4 J4 D4))))))) ∧ (¬ (¬ (zv_199 (zu I 28 0 0) J p2) = 0) → (zz RO (d + 2) 135 [.ref 28, .int 1] (zu I 28 0 0) J D 0 0 (zNi P fun v5 I5 J5 D5 => P (.inl (some (.int v5))) I5 J5 D5)))))))) : zz RO (d + 3) 200 [.ref 28, .int p0, .int p1, .int p2] I J D bc bs P := by
  refine zT_of (Nat.le_of_ble_eq_true rfl) rfl ?_
  show zw RO (d + 2) 200 P 0 [(0, .ref 28), (1, .int p0), (2, .int p1), (3, .int p2)] [] I J D bc bs
  refine zr_aload_n zSm 0 rfl rfl ?_
  refine zr_s zSm 1 rfl rfl ?_
  refine zr_putI zSm 2 rfl zf_11_96 rfl rfl (by decide) zp_11_0 ?_
  refine zr_iload_n zSm 3 rfl rfl ?_
  refine zr_s zSm 4 rfl rfl ?_
  refine zr_s zSm 5 rfl rfl ?_
  refine zr_aload_n zSm 6 rfl rfl ?_
  refine zr_getR zSm 7 rfl zf_11_35 rfl rfl (by decide) ?_
  refine zr_s zSm 8 rfl rfl ?_
  refine zr_iload_n zSm 9 rfl rfl ?_
  refine zr_s zSm 10 rfl rfl ?_
  obtain ⟨b11, h⟩ := h
  refine zr_iald zSm 11 rfl rfl b11 ?_
  refine zr_s zSm 12 rfl rfl ?_
  refine zr_s zSm 13 rfl rfl ?_
  refine zr_s zSm 14 rfl rfl ?_
  refine zr_ins0 15 136 3 [.long p1.toInt64, .long 0, .long (((I 37 ((5 + p0).toNatClampNeg)) - 1).toInt64)] rfl rfl zk_11_110 zms_136 rfl (Nat.le_of_ble_eq_true rfl) ?_
  refine ze_136 ?_
  refine zNx_i ?_
  refine zr_if zSm 16 33 rfl rfl (fun q1 => ?_) (fun q1 => ?_)
  · have h := h.1 q1
    refine zr_aload_n zSm 21 rfl rfl ?_
    refine zr_s zSm 22 rfl rfl ?_
    refine zr_inv0 23 135 1 [.int 1] rfl rfl zk_11_102 zms_135 rfl ⟨_, _, _, _, rfl, rfl⟩ (Nat.le_of_ble_eq_true rfl) ?_
    refine zci h (fun v1 I1 J1 D1 h => ?_)
    refine zr_iret zSm 24 rfl rfl rfl ?_
    exact h
  · have h := h.2 q1
    refine zr_aload_n zSm 17 rfl rfl ?_
    refine zr_iload_n zSm 18 rfl rfl ?_
    refine zr_inv0 19 199 1 [.int p2] rfl rfl zk_11_434 zms_199 rfl ⟨_, _, _, _, rfl, rfl⟩ (Nat.le_of_ble_eq_true rfl) ?_
    refine ze_199 ?_
    refine zNx_i ?_
    refine zr_if zSm 20 39 rfl rfl (fun q2 => ?_) (fun q2 => ?_)
    · have h := h.1 q2
      refine zr_aload_n zSm 25 rfl rfl ?_
      refine zr_iload_n zSm 26 rfl rfl ?_
      refine zr_iload_n zSm 27 rfl rfl ?_
      refine zr_iload_n zSm 28 rfl rfl ?_
      refine zr_inv0 29 198 3 [.int p0, .int p1, .int p2] rfl rfl zk_11_437 zms_198 rfl ⟨_, _, _, _, rfl, rfl⟩ (Nat.le_of_ble_eq_true rfl) ?_
      refine zci h (fun v2 I2 J2 D2 h => ?_)
      refine zr_if zSm 30 55 rfl rfl (fun q3 => ?_) (fun q3 => ?_)
      · have h := h.1 q3
        refine zr_aload_n zSm 35 rfl rfl ?_
        refine zr_iload_n zSm 36 rfl rfl ?_
        refine zr_iload_n zSm 37 rfl rfl ?_
        refine zr_iload_n zSm 38 rfl rfl ?_
        obtain ⟨c3, s3, g3, f3, h⟩ := h
        refine zr_inv zSm 39 193 3 c3 s3 [.int p0, .int p1, .int p2] rfl rfl zk_11_440 zms_193 rfl ⟨_, _, _, _, rfl, rfl⟩ (Nat.le_of_ble_eq_true rfl) g3 f3 ?_
        refine zcv h (fun I3 J3 D3 h => ?_)
        refine zr_aload_n zSm 40 rfl rfl ?_
        refine zr_getI zSm 41 rfl zf_11_167 rfl rfl (by decide) ?_
        refine zr_iret zSm 42 rfl rfl rfl ?_
        exact h
      · have h := h.2 q3
        refine zr_aload_n zSm 31 rfl rfl ?_
        refine zr_s zSm 32 rfl rfl ?_
        refine zr_inv0 33 135 1 [.int 2] rfl rfl zk_11_102 zms_135 rfl ⟨_, _, _, _, rfl, rfl⟩ (Nat.le_of_ble_eq_true rfl) ?_
        refine zci h (fun v4 I4 J4 D4 h => ?_)
        refine zr_iret zSm 34 rfl rfl rfl ?_
        exact h
    · have h := h.2 q2
      refine zr_aload_n zSm 21 rfl rfl ?_
      refine zr_s zSm 22 rfl rfl ?_
      refine zr_inv0 23 135 1 [.int 1] rfl rfl zk_11_102 zms_135 rfl ⟨_, _, _, _, rfl, rfl⟩ (Nat.le_of_ble_eq_true rfl) ?_
      refine zci h (fun v5 I5 J5 D5 h => ?_)
      refine zr_iret zSm 24 rfl rfl rfl ?_
      exact h
theorem w_201 {RO : zRo} {d : Nat} {P : zP} {I : zI} {J : zJ} {D : zD} {bc bs : Nat} {p0 p1 : Int32} (h : (∃ c1 s1, c1 ≤ bc ∧ s1 ≤ bs ∧ zz RO d 200 [.ref 28, .int 0, .int p0, .int p1] I J D c1 s1 (zNi P fun v1 I1 J1 D1 => P (.inl (some (.int v1))) I1 J1 D1))) : zz RO (d + 1) 201 [.ref 28, .int p0, .int p1] I J D bc bs P := by
  refine zT_of (Nat.le_of_ble_eq_true rfl) rfl ?_
  show zw RO d 201 P 0 [(0, .ref 28), (1, .int p0), (2, .int p1)] [] I J D bc bs
  refine zr_aload_n zSm 0 rfl rfl ?_
  refine zr_s zSm 1 rfl rfl ?_
  refine zr_iload_n zSm 2 rfl rfl ?_
  refine zr_iload_n zSm 3 rfl rfl ?_
  obtain ⟨c1, s1, g1, f1, h⟩ := h
  refine zr_inv zSm 4 200 3 c1 s1 [.int 0, .int p0, .int p1] rfl rfl zk_11_443 zms_200 rfl ⟨_, _, _, _, rfl, rfl⟩ (Nat.le_of_ble_eq_true rfl) g1 f1 ?_
  refine zci h (fun v1 I1 J1 D1 h => ?_)
  refine zr_iret zSm 5 rfl rfl rfl ?_
  exact h
theorem w_202 {RO : zRo} {d : Nat} {P : zP} {I : zI} {J : zJ} {D : zD} {bc bs : Nat} {p0 p1 : Int32} (h : (∃ c1 s1, c1 ≤ bc ∧ s1 ≤ bs ∧ zz RO d 200 [.ref 28, .int 1, .int p0, .int p1] I J D c1 s1 (zNi P fun v1 I1 J1 D1 => P (.inl (some (.int v1))) I1 J1 D1))) : zz RO (d + 1) 202 [.ref 28, .int p0, .int p1] I J D bc bs P := by
  refine zT_of (Nat.le_of_ble_eq_true rfl) rfl ?_
  show zw RO d 202 P 0 [(0, .ref 28), (1, .int p0), (2, .int p1)] [] I J D bc bs
  refine zr_aload_n zSm 0 rfl rfl ?_
  refine zr_s zSm 1 rfl rfl ?_
  refine zr_iload_n zSm 2 rfl rfl ?_
  refine zr_iload_n zSm 3 rfl rfl ?_
  obtain ⟨c1, s1, g1, f1, h⟩ := h
  refine zr_inv zSm 4 200 3 c1 s1 [.int 1, .int p0, .int p1] rfl rfl zk_11_443 zms_200 rfl ⟨_, _, _, _, rfl, rfl⟩ (Nat.le_of_ble_eq_true rfl) g1 f1 ?_
  refine zci h (fun v1 I1 J1 D1 h => ?_)
  refine zr_iret zSm 5 rfl rfl rfl ?_
  exact h
theorem w_203 {RO : zRo} {d : Nat} {P : zP} {I : zI} {J : zJ} {D : zD} {bc bs : Nat}  (h : ((¬ (zv_196 (zu I 28 0 0) J) = 0 → (∃ c1 s1, c1 ≤ bc ∧ s1 ≤ bs ∧ zz RO (d + 2) 193 [.ref 28, .int 2, .int (-1), .int (-1)] (zu I 28 0 0) J D c1 s1 (zNv P fun I1 J1 D1 => P (.inl (some (.int (I1 28 33)))) I1 J1 D1))) ∧ (¬ (¬ (zv_196 (zu I 28 0 0) J) = 0) → (zz RO (d + 2) 135 [.ref 28, .int 1] (zu I 28 0 0) J D 0 0 (zNi P fun v2 I2 J2 D2 => P (.inl (some (.int v2))) I2 J2 D2))))) : zz RO (d + 3) 203 [.ref 28] I J D bc bs P := by
  refine zT_of (Nat.le_of_ble_eq_true rfl) rfl ?_
  show zw RO (d + 2) 203 P 0 [(0, .ref 28)] [] I J D bc bs
  refine zr_aload_n zSm 0 rfl rfl ?_
  refine zr_s zSm 1 rfl rfl ?_
  refine zr_putI zSm 2 rfl zf_11_96 rfl rfl (by decide) zp_11_0 ?_
  refine zr_aload_n zSm 3 rfl rfl ?_
  refine zr_inv0 4 196 0 [] rfl rfl zk_11_431 zms_196 rfl ⟨_, _, _, _, rfl, rfl⟩ (Nat.le_of_ble_eq_true rfl) ?_
  refine ze_196 ?_
  refine zNx_i ?_
  refine zr_if zSm 5 18 rfl rfl (fun q1 => ?_) (fun q1 => ?_)
  · have h := h.1 q1
    refine zr_aload_n zSm 10 rfl rfl ?_
    refine zr_s zSm 11 rfl rfl ?_
    refine zr_s zSm 12 rfl rfl ?_
    refine zr_s zSm 13 rfl rfl ?_
    obtain ⟨c1, s1, g1, f1, h⟩ := h
    refine zr_inv zSm 14 193 3 c1 s1 [.int 2, .int (-1), .int (-1)] rfl rfl zk_11_440 zms_193 rfl ⟨_, _, _, _, rfl, rfl⟩ (Nat.le_of_ble_eq_true rfl) g1 f1 ?_
    refine zcv h (fun I1 J1 D1 h => ?_)
    refine zr_aload_n zSm 15 rfl rfl ?_
    refine zr_getI zSm 16 rfl zf_11_375 rfl rfl (by decide) ?_
    refine zr_iret zSm 17 rfl rfl rfl ?_
    exact h
  · have h := h.2 q1
    refine zr_aload_n zSm 6 rfl rfl ?_
    refine zr_s zSm 7 rfl rfl ?_
    refine zr_inv0 8 135 1 [.int 1] rfl rfl zk_11_102 zms_135 rfl ⟨_, _, _, _, rfl, rfl⟩ (Nat.le_of_ble_eq_true rfl) ?_
    refine zci h (fun v2 I2 J2 D2 h => ?_)
    refine zr_iret zSm 9 rfl rfl rfl ?_
    exact h
theorem w_204 {RO : zRo} {d : Nat} {P : zP} {I : zI} {J : zJ} {D : zD} {bc bs : Nat} {p0 p1 p2 : Int32} (h : ((p0 = 0 → (((zv_136 I J p1.toInt64 0 (((I 37 5) - 1).toInt64)) = 0 → P (.inl (some (.int 0))) (zu I 28 0 1) J D) ∧ (¬ ((zv_136 I J p1.toInt64 0 (((I 37 5) - 1).toInt64)) = 0) → (((zv_199 I J p2) = 0 → P (.inl (some (.int 0))) (zu I 28 0 1) J D) ∧ (¬ ((zv_199 I J p2) = 0) → (zz RO (d + 2) 198 [.ref 28, .int 0, .int p1, .int p2] (zu I 28 0 0) J D 0 0 (zNi P fun v1 I1 J1 D1 => ((v1 = 0 → P (.inl (some (.int 0))) I1 J1 D1) ∧ (¬ (v1 = 0) → P (.inl (some (.int 1))) I1 J1 D1))))))))) ∧ (¬ (p0 = 0) → (((zv_136 I J p1.toInt64 0 (((I 37 6) - 1).toInt64)) = 0 → P (.inl (some (.int 0))) (zu I 28 0 1) J D) ∧ (¬ ((zv_136 I J p1.toInt64 0 (((I 37 6) - 1).toInt64)) = 0) → (((zv_199 I J p2) = 0 → P (.inl (some (.int 0))) (zu I 28 0 1) J D) ∧ (¬ ((zv_199 I J p2) = 0) → (zz RO (d + 2) 198 [.ref 28, .int 1, .int p1, .int p2] (zu I 28 0 0) J D 0 0 (zNi P fun v2 I2 J2 D2 => ((v2 = 0 → P (.inl (some (.int 0))) I2 J2 D2) ∧ (¬ (v2 = 0) → P (.inl (some (.int 1))) I2 J2 D2))))))))))) : zz RO (d + 3) 204 [.ref 28, .int p0, .int p1, .int p2] I J D bc bs P := by
  refine zT_of (Nat.le_of_ble_eq_true rfl) rfl ?_
  show zw RO (d + 2) 204 P 0 [(0, .ref 28), (1, .int p0), (2, .int p1), (3, .int p2)] [] I J D bc bs
  refine zr_iload_n zSm 0 rfl rfl ?_
  refine zr_if zSm 1 8 rfl rfl (fun q1 => ?_) (fun q1 => ?_)
  · have h := h.1 q1
    refine zr_s zSm 4 rfl rfl ?_
    refine zr_istore zSm 5 (ll' := [(4, .int 0), (0, .ref 28), (1, .int p0), (2, .int p1), (3, .int p2)]) rfl (by decide) rfl ?_
    refine zr_aload_n zSm 6 rfl rfl ?_
    refine zr_iload_n zSm 7 rfl rfl ?_
    refine zr_s zSm 8 rfl rfl ?_
    refine zr_s zSm 9 rfl rfl ?_
    refine zr_aload_n zSm 10 rfl rfl ?_
    refine zr_getR zSm 11 rfl zf_11_35 rfl rfl (by decide) ?_
    refine zr_s zSm 12 rfl rfl ?_
    refine zr_iload zSm 13 rfl rfl ?_
    refine zr_iaddf 14 (v := 5) rfl (by decide) ?_
    refine zr_iald zSm 15 rfl rfl (zin_lit (by decide) (by decide)) ?_
    refine zr_s zSm 16 rfl rfl ?_
    refine zr_s zSm 17 rfl rfl ?_
    refine zr_s zSm 18 rfl rfl ?_
    refine zr_ins0 19 136 3 [.long p1.toInt64, .long 0, .long (((I 37 5) - 1).toInt64)] rfl rfl zk_11_110 zms_136 rfl (Nat.le_of_ble_eq_true rfl) ?_
    refine ze_136 ?_
    refine zNx_i ?_
    refine zr_if zSm 20 45 rfl rfl (fun q2 => ?_) (fun q2 => ?_)
    · have h := h.1 q2
      refine zr_s zSm 27 rfl rfl ?_
      refine zr_putI zSm 28 rfl zf_11_96 rfl rfl (by decide) zp_11_0 ?_
      refine zr_aload_n zSm 29 rfl rfl ?_
      refine zr_getI zSm 30 rfl zf_11_96 rfl rfl (by decide) ?_
      refine zr_if zSm 31 71 rfl rfl (fun q3 => ?_) (fun q3 => ?_)
      · refine zr_s zSm 40 rfl rfl ?_
        refine zr_iret zSm 41 rfl rfl (zn_b (Or.inl rfl)) ?_
        exact h
      · exact absurd q3 (by show ¬ ¬ (¬ ((1 : Int32) = 0)); decide)
    · have h := h.2 q2
      refine zr_aload_n zSm 21 rfl rfl ?_
      refine zr_iload_n zSm 22 rfl rfl ?_
      refine zr_inv0 23 199 1 [.int p2] rfl rfl zk_11_434 zms_199 rfl ⟨_, _, _, _, rfl, rfl⟩ (Nat.le_of_ble_eq_true rfl) ?_
      refine ze_199 ?_
      refine zNx_i ?_
      refine zr_if zSm 24 45 rfl rfl (fun q4 => ?_) (fun q4 => ?_)
      · have h := h.1 q4
        refine zr_s zSm 27 rfl rfl ?_
        refine zr_putI zSm 28 rfl zf_11_96 rfl rfl (by decide) zp_11_0 ?_
        refine zr_aload_n zSm 29 rfl rfl ?_
        refine zr_getI zSm 30 rfl zf_11_96 rfl rfl (by decide) ?_
        refine zr_if zSm 31 71 rfl rfl (fun q5 => ?_) (fun q5 => ?_)
        · refine zr_s zSm 40 rfl rfl ?_
          refine zr_iret zSm 41 rfl rfl (zn_b (Or.inl rfl)) ?_
          exact h
        · exact absurd q5 (by show ¬ ¬ (¬ ((1 : Int32) = 0)); decide)
      · have h := h.2 q4
        refine zr_s zSm 25 rfl rfl ?_
        refine zr_goto zSm 26 46 rfl rfl ?_
        refine zr_putI zSm 28 rfl zf_11_96 rfl rfl (by decide) zp_11_0 ?_
        refine zr_aload_n zSm 29 rfl rfl ?_
        refine zr_getI zSm 30 rfl zf_11_96 rfl rfl (by decide) ?_
        refine zr_if zSm 31 71 rfl rfl (fun q6 => ?_) (fun q6 => ?_)
        · exact absurd q6 (by show ¬ (¬ ((0 : Int32) = 0)); decide)
        · refine zr_aload_n zSm 32 rfl rfl ?_
          refine zr_iload zSm 33 rfl rfl ?_
          refine zr_iload_n zSm 34 rfl rfl ?_
          refine zr_iload_n zSm 35 rfl rfl ?_
          refine zr_inv0 36 198 3 [.int 0, .int p1, .int p2] rfl rfl zk_11_437 zms_198 rfl ⟨_, _, _, _, rfl, rfl⟩ (Nat.le_of_ble_eq_true rfl) ?_
          refine zci h (fun v1 I1 J1 D1 h => ?_)
          refine zr_if zSm 37 71 rfl rfl (fun q7 => ?_) (fun q7 => ?_)
          · have h := h.1 q7
            refine zr_s zSm 40 rfl rfl ?_
            refine zr_iret zSm 41 rfl rfl (zn_b (Or.inl rfl)) ?_
            exact h
          · have h := h.2 q7
            refine zr_s zSm 38 rfl rfl ?_
            refine zr_goto zSm 39 72 rfl rfl ?_
            refine zr_iret zSm 41 rfl rfl (zn_b (Or.inr rfl)) ?_
            exact h
  · have h := h.2 q1
    refine zr_s zSm 2 rfl rfl ?_
    refine zr_goto zSm 3 9 rfl rfl ?_
    refine zr_istore zSm 5 (ll' := [(4, .int 1), (0, .ref 28), (1, .int p0), (2, .int p1), (3, .int p2)]) rfl (by decide) rfl ?_
    refine zr_aload_n zSm 6 rfl rfl ?_
    refine zr_iload_n zSm 7 rfl rfl ?_
    refine zr_s zSm 8 rfl rfl ?_
    refine zr_s zSm 9 rfl rfl ?_
    refine zr_aload_n zSm 10 rfl rfl ?_
    refine zr_getR zSm 11 rfl zf_11_35 rfl rfl (by decide) ?_
    refine zr_s zSm 12 rfl rfl ?_
    refine zr_iload zSm 13 rfl rfl ?_
    refine zr_iaddf 14 (v := 6) rfl (by decide) ?_
    refine zr_iald zSm 15 rfl rfl (zin_lit (by decide) (by decide)) ?_
    refine zr_s zSm 16 rfl rfl ?_
    refine zr_s zSm 17 rfl rfl ?_
    refine zr_s zSm 18 rfl rfl ?_
    refine zr_ins0 19 136 3 [.long p1.toInt64, .long 0, .long (((I 37 6) - 1).toInt64)] rfl rfl zk_11_110 zms_136 rfl (Nat.le_of_ble_eq_true rfl) ?_
    refine ze_136 ?_
    refine zNx_i ?_
    refine zr_if zSm 20 45 rfl rfl (fun q8 => ?_) (fun q8 => ?_)
    · have h := h.1 q8
      refine zr_s zSm 27 rfl rfl ?_
      refine zr_putI zSm 28 rfl zf_11_96 rfl rfl (by decide) zp_11_0 ?_
      refine zr_aload_n zSm 29 rfl rfl ?_
      refine zr_getI zSm 30 rfl zf_11_96 rfl rfl (by decide) ?_
      refine zr_if zSm 31 71 rfl rfl (fun q9 => ?_) (fun q9 => ?_)
      · refine zr_s zSm 40 rfl rfl ?_
        refine zr_iret zSm 41 rfl rfl (zn_b (Or.inl rfl)) ?_
        exact h
      · exact absurd q9 (by show ¬ ¬ (¬ ((1 : Int32) = 0)); decide)
    · have h := h.2 q8
      refine zr_aload_n zSm 21 rfl rfl ?_
      refine zr_iload_n zSm 22 rfl rfl ?_
      refine zr_inv0 23 199 1 [.int p2] rfl rfl zk_11_434 zms_199 rfl ⟨_, _, _, _, rfl, rfl⟩ (Nat.le_of_ble_eq_true rfl) ?_
      refine ze_199 ?_
      refine zNx_i ?_
      refine zr_if zSm 24 45 rfl rfl (fun q10 => ?_) (fun q10 => ?_)
      · have h := h.1 q10
        refine zr_s zSm 27 rfl rfl ?_
        refine zr_putI zSm 28 rfl zf_11_96 rfl rfl (by decide) zp_11_0 ?_
        refine zr_aload_n zSm 29 rfl rfl ?_
        refine zr_getI zSm 30 rfl zf_11_96 rfl rfl (by decide) ?_
        refine zr_if zSm 31 71 rfl rfl (fun q11 => ?_) (fun q11 => ?_)
        · refine zr_s zSm 40 rfl rfl ?_
          refine zr_iret zSm 41 rfl rfl (zn_b (Or.inl rfl)) ?_
          exact h
        · exact absurd q11 (by show ¬ ¬ (¬ ((1 : Int32) = 0)); decide)
      · have h := h.2 q10
        refine zr_s zSm 25 rfl rfl ?_
        refine zr_goto zSm 26 46 rfl rfl ?_
        refine zr_putI zSm 28 rfl zf_11_96 rfl rfl (by decide) zp_11_0 ?_
        refine zr_aload_n zSm 29 rfl rfl ?_
        refine zr_getI zSm 30 rfl zf_11_96 rfl rfl (by decide) ?_
        refine zr_if zSm 31 71 rfl rfl (fun q12 => ?_) (fun q12 => ?_)
        · exact absurd q12 (by show ¬ (¬ ((0 : Int32) = 0)); decide)
        · refine zr_aload_n zSm 32 rfl rfl ?_
          refine zr_iload zSm 33 rfl rfl ?_
          refine zr_iload_n zSm 34 rfl rfl ?_
          refine zr_iload_n zSm 35 rfl rfl ?_
          refine zr_inv0 36 198 3 [.int 1, .int p1, .int p2] rfl rfl zk_11_437 zms_198 rfl ⟨_, _, _, _, rfl, rfl⟩ (Nat.le_of_ble_eq_true rfl) ?_
          refine zci h (fun v2 I2 J2 D2 h => ?_)
          refine zr_if zSm 37 71 rfl rfl (fun q13 => ?_) (fun q13 => ?_)
          · have h := h.1 q13
            refine zr_s zSm 40 rfl rfl ?_
            refine zr_iret zSm 41 rfl rfl (zn_b (Or.inl rfl)) ?_
            exact h
          · have h := h.2 q13
            refine zr_s zSm 38 rfl rfl ?_
            refine zr_goto zSm 39 72 rfl rfl ?_
            refine zr_iret zSm 41 rfl rfl (zn_b (Or.inr rfl)) ?_
            exact h
theorem w_205 {RO : zRo} {d : Nat} {P : zP} {I : zI} {J : zJ} {D : zD} {bc bs : Nat}  (h : (((zv_196 (zu I 28 0 0) J) = 0 → zw RO (d + 2) 205 P 20 [(0, .ref 28), (1, .int 0), (2, .int 0)] [] (zu I 28 0 0) J D bc bs) ∧ (¬ ((zv_196 (zu I 28 0 0) J) = 0) → zw RO (d + 2) 205 P 20 [(0, .ref 28), (1, .int 1), (2, .int 0)] [] (zu I 28 0 0) J D bc bs))) : zz RO (d + 3) 205 [.ref 28] I J D bc bs P := by
  refine zT_of (Nat.le_of_ble_eq_true rfl) rfl ?_
  show zw RO (d + 2) 205 P 0 [(0, .ref 28)] [] I J D bc bs
  refine zr_aload_n zSm 0 rfl rfl ?_
  refine zr_s zSm 1 rfl rfl ?_
  refine zr_putI zSm 2 rfl zf_11_96 rfl rfl (by decide) zp_11_0 ?_
  refine zr_aload_n zSm 3 rfl rfl ?_
  refine zr_inv0 4 196 0 [] rfl rfl zk_11_431 zms_196 rfl ⟨_, _, _, _, rfl, rfl⟩ (Nat.le_of_ble_eq_true rfl) ?_
  refine ze_196 ?_
  refine zNx_i ?_
  refine zr_if zSm 5 16 rfl rfl (fun q1 => ?_) (fun q1 => ?_)
  · have h := h.1 q1
    refine zr_s zSm 8 rfl rfl ?_
    refine zr_istore_n zSm 9 (ll' := [(1, .int 0), (0, .ref 28)]) rfl (by decide) rfl ?_
    refine zr_s zSm 10 rfl rfl ?_
    refine zr_istore_n zSm 11 (ll' := [(2, .int 0), (1, .int 0), (0, .ref 28)]) rfl (by decide) rfl ?_
    refine zr_sub [2, 1, 0] rfl ?_
    exact h
  · have h := h.2 q1
    refine zr_s zSm 6 rfl rfl ?_
    refine zr_goto zSm 7 17 rfl rfl ?_
    refine zr_istore_n zSm 9 (ll' := [(1, .int 1), (0, .ref 28)]) rfl (by decide) rfl ?_
    refine zr_s zSm 10 rfl rfl ?_
    refine zr_istore_n zSm 11 (ll' := [(2, .int 0), (1, .int 1), (0, .ref 28)]) rfl (by decide) rfl ?_
    refine zr_sub [2, 1, 0] rfl ?_
    exact h
theorem wl_205_20 {RO : zRo} {d : Nat} {P : zP} {I : zI} {J : zJ} {D : zD} {bc bs : Nat} {l1 l2 : Int32} (h : ((2 ≤ l2 → P (.inl (some (.int l1))) I J D) ∧ (¬ (2 ≤ l2) → zw RO (d + 2) 205 P 27 [(0, .ref 28), (1, .int l1), (2, .int l2), (3, .int 0)] [] I J D bc bs))) : zw RO (d + 2) 205 P 20 [(0, .ref 28), (1, .int l1), (2, .int l2)] [] I J D bc bs := by
  refine zr_iload_n zSm 12 rfl rfl ?_
  refine zr_s zSm 13 rfl rfl ?_
  refine zr_ic zSm 14 88 rfl rfl (fun q1 => ?_) (fun q1 => ?_)
  · have h := h.1 q1
    refine zr_iload_n zSm 49 rfl rfl ?_
    refine zr_iret zSm 50 rfl rfl rfl ?_
    exact h
  · have h := h.2 q1
    refine zr_s zSm 15 rfl rfl ?_
    refine zr_istore_n zSm 16 (ll' := [(3, .int 0), (0, .ref 28), (1, .int l1), (2, .int l2)]) rfl (by decide) rfl ?_
    refine zr_sub [1, 2, 3, 0] rfl ?_
    exact h
theorem wl_205_27 {RO : zRo} {d : Nat} {P : zP} {I : zI} {J : zJ} {D : zD} {bc bs : Nat} {l1 l2 l3 : Int32} (h : (vp_in (5 + l2) 9 ∧ (((I 37 ((5 + l2).toNatClampNeg)) ≤ l3 → zw RO (d + 2) 205 P 20 [(0, .ref 28), (1, .int l1), (2, .int (l2 + 1))] [] I J D bc bs) ∧ (¬ ((I 37 ((5 + l2).toNatClampNeg)) ≤ l3) → zw RO (d + 2) 205 P 42 [(0, .ref 28), (1, .int l1), (2, .int l2), (3, .int l3), (4, .int 0)] [] I J D bc bs)))) : zw RO (d + 2) 205 P 27 [(0, .ref 28), (1, .int l1), (2, .int l2), (3, .int l3)] [] I J D bc bs := by
  refine zr_iload_n zSm 17 rfl rfl ?_
  refine zr_aload_n zSm 18 rfl rfl ?_
  refine zr_getR zSm 19 rfl zf_11_35 rfl rfl (by decide) ?_
  refine zr_s zSm 20 rfl rfl ?_
  refine zr_iload_n zSm 21 rfl rfl ?_
  refine zr_s zSm 22 rfl rfl ?_
  obtain ⟨b23, h⟩ := h
  refine zr_iald zSm 23 rfl rfl b23 ?_
  refine zr_ic zSm 24 82 rfl rfl (fun q1 => ?_) (fun q1 => ?_)
  · have h := h.1 q1
    refine zr_iinc zSm 47 (v := l2 + 1) (ll' := [(2, .int (l2 + 1)), (0, .ref 28), (1, .int l1), (3, .int l3)]) rfl rfl (by decide) rfl rfl ?_
    refine zr_goto zSm 48 20 rfl rfl ?_
    refine zr_sub [1, 2, 0] rfl ?_
    exact h
  · have h := h.2 q1
    refine zr_s zSm 25 rfl rfl ?_
    refine zr_istore zSm 26 (ll' := [(4, .int 0), (0, .ref 28), (1, .int l1), (2, .int l2), (3, .int l3)]) rfl (by decide) rfl ?_
    refine zr_sub [1, 2, 3, 4, 0] rfl ?_
    exact h
theorem wl_205_42 {RO : zRo} {d : Nat} {P : zP} {I : zI} {J : zJ} {D : zD} {bc bs : Nat} {l1 l2 l3 l4 : Int32} (h : (((I 28 30) ≤ l4 → zw RO (d + 2) 205 P 27 [(0, .ref 28), (1, .int l1), (2, .int l2), (3, .int (l3 + 1))] [] I J D bc bs) ∧ (¬ ((I 28 30) ≤ l4) → (zz RO (d + 2) 198 [.ref 28, .int l2, .int l3, .int l4] I J D 0 0 (zNi P fun v1 I1 J1 D1 => ((v1 = 0 → zw RO (d + 2) 205 P 42 [(0, .ref 28), (1, .int (l1 + 0)), (2, .int l2), (3, .int l3), (4, .int (l4 + 1))] [] I1 J1 D1 bc bs) ∧ (¬ (v1 = 0) → zw RO (d + 2) 205 P 42 [(0, .ref 28), (1, .int (l1 + 1)), (2, .int l2), (3, .int l3), (4, .int (l4 + 1))] [] I1 J1 D1 bc bs))))))) : zw RO (d + 2) 205 P 42 [(0, .ref 28), (1, .int l1), (2, .int l2), (3, .int l3), (4, .int l4)] [] I J D bc bs := by
  refine zr_iload zSm 27 rfl rfl ?_
  refine zr_aload_n zSm 28 rfl rfl ?_
  refine zr_getI zSm 29 rfl zf_11_161 rfl rfl (by decide) ?_
  refine zr_ic zSm 30 76 rfl rfl (fun q1 => ?_) (fun q1 => ?_)
  · have h := h.1 q1
    refine zr_iinc zSm 45 (v := l3 + 1) (ll' := [(3, .int (l3 + 1)), (0, .ref 28), (1, .int l1), (2, .int l2), (4, .int l4)]) rfl rfl (by decide) rfl rfl ?_
    refine zr_goto zSm 46 27 rfl rfl ?_
    refine zr_sub [1, 2, 3, 0] rfl ?_
    exact h
  · have h := h.2 q1
    refine zr_iload_n zSm 31 rfl rfl ?_
    refine zr_aload_n zSm 32 rfl rfl ?_
    refine zr_iload_n zSm 33 rfl rfl ?_
    refine zr_iload_n zSm 34 rfl rfl ?_
    refine zr_iload zSm 35 rfl rfl ?_
    refine zr_inv0 36 198 3 [.int l2, .int l3, .int l4] rfl rfl zk_11_437 zms_198 rfl ⟨_, _, _, _, rfl, rfl⟩ (Nat.le_of_ble_eq_true rfl) ?_
    refine zci h (fun v1 I1 J1 D1 h => ?_)
    refine zr_if zSm 37 67 rfl rfl (fun q2 => ?_) (fun q2 => ?_)
    · have h := h.1 q2
      refine zr_s zSm 40 rfl rfl ?_
      refine zr_s zSm 41 rfl rfl ?_
      refine zr_istore_n zSm 42 (ll' := [(1, .int (l1 + 0)), (0, .ref 28), (2, .int l2), (3, .int l3), (4, .int l4)]) rfl (by decide) rfl ?_
      refine zr_iinc zSm 43 (v := l4 + 1) (ll' := [(4, .int (l4 + 1)), (1, .int (l1 + 0)), (0, .ref 28), (2, .int l2), (3, .int l3)]) rfl rfl (by decide) rfl rfl ?_
      refine zr_goto zSm 44 42 rfl rfl ?_
      refine zr_sub [2, 1, 3, 4, 0] rfl ?_
      exact h
    · have h := h.2 q2
      refine zr_s zSm 38 rfl rfl ?_
      refine zr_goto zSm 39 68 rfl rfl ?_
      refine zr_s zSm 41 rfl rfl ?_
      refine zr_istore_n zSm 42 (ll' := [(1, .int (l1 + 1)), (0, .ref 28), (2, .int l2), (3, .int l3), (4, .int l4)]) rfl (by decide) rfl ?_
      refine zr_iinc zSm 43 (v := l4 + 1) (ll' := [(4, .int (l4 + 1)), (1, .int (l1 + 1)), (0, .ref 28), (2, .int l2), (3, .int l3)]) rfl rfl (by decide) rfl rfl ?_
      refine zr_goto zSm 44 42 rfl rfl ?_
      refine zr_sub [2, 1, 3, 4, 0] rfl ?_
      exact h
theorem w_207 {RO : zRo} {d : Nat} {P : zP} {I : zI} {J : zJ} {D : zD} {bc bs : Nat} {p0 : Int32} (h : (((zv_136 (zu I 28 0 0) J p0.toInt64 0 9) = 0 → (zz RO (d + 1) 135 [.ref 28, .int 1] (zu I 28 0 0) J D 0 0 (zNi P fun v1 I1 J1 D1 => P (.inl (some (.int v1))) I1 J1 D1))) ∧ (¬ ((zv_136 (zu I 28 0 0) J p0.toInt64 0 9) = 0) → P (.inl (some (.int (zv_206 (zu I 28 0 0) J p0)))) (zu I 28 0 0) J D))) : zz RO (d + 2) 207 [.ref 28, .int p0] I J D bc bs P := by
  refine zT_of (Nat.le_of_ble_eq_true rfl) rfl ?_
  show zw RO (d + 1) 207 P 0 [(0, .ref 28), (1, .int p0)] [] I J D bc bs
  refine zr_aload_n zSm 0 rfl rfl ?_
  refine zr_s zSm 1 rfl rfl ?_
  refine zr_putI zSm 2 rfl zf_11_96 rfl rfl (by decide) zp_11_0 ?_
  refine zr_iload_n zSm 3 rfl rfl ?_
  refine zr_s zSm 4 rfl rfl ?_
  refine zr_s zSm 5 rfl rfl ?_
  refine zr_ldc2 zSm 6 rfl zc_11_446 ?_
  refine zr_ins0 7 136 3 [.long p0.toInt64, .long 0, .long 9] rfl rfl zk_11_110 zms_136 rfl (Nat.le_of_ble_eq_true rfl) ?_
  refine ze_136 ?_
  refine zNx_i ?_
  refine zr_if zSm 8 25 rfl rfl (fun q1 => ?_) (fun q1 => ?_)
  · have h := h.1 q1
    refine zr_aload_n zSm 13 rfl rfl ?_
    refine zr_s zSm 14 rfl rfl ?_
    refine zr_inv0 15 135 1 [.int 1] rfl rfl zk_11_102 zms_135 rfl ⟨_, _, _, _, rfl, rfl⟩ (Nat.le_of_ble_eq_true rfl) ?_
    refine zci h (fun v1 I1 J1 D1 h => ?_)
    refine zr_iret zSm 16 rfl rfl rfl ?_
    exact h
  · have h := h.2 q1
    refine zr_aload_n zSm 9 rfl rfl ?_
    refine zr_iload_n zSm 10 rfl rfl ?_
    refine zr_inv0 11 206 1 [.int p0] rfl rfl zk_11_448 zms_206 rfl ⟨_, _, _, _, rfl, rfl⟩ (Nat.le_of_ble_eq_true rfl) ?_
    refine ze_206 ?_
    refine zNx_i ?_
    refine zr_goto zSm 12 30 rfl rfl ?_
    refine zr_iret zSm 16 rfl rfl rfl ?_
    exact h
theorem w_209 {RO : zRo} {d : Nat} {P : zP} {I : zI} {J : zJ} {D : zD} {bc bs : Nat}  (h : P (.inl (some (.int (zv_208 (zu I 28 0 0) J)))) (zu I 28 0 0) J D) : zz RO (d + 3) 209 [.ref 28] I J D bc bs P := by
  refine zT_of (Nat.le_of_ble_eq_true rfl) rfl ?_
  show zw RO (d + 2) 209 P 0 [(0, .ref 28)] [] I J D bc bs
  refine zr_aload_n zSm 0 rfl rfl ?_
  refine zr_s zSm 1 rfl rfl ?_
  refine zr_putI zSm 2 rfl zf_11_96 rfl rfl (by decide) zp_11_0 ?_
  refine zr_aload_n zSm 3 rfl rfl ?_
  refine zr_inv0 4 208 0 [] rfl rfl zk_11_451 zms_208 rfl ⟨_, _, _, _, rfl, rfl⟩ (Nat.le_of_ble_eq_true rfl) ?_
  refine ze_208 ?_
  refine zNx_i ?_
  refine zr_iret zSm 5 rfl rfl rfl ?_
  exact h
theorem w_211 {RO : zRo} {d : Nat} {P : zP} {I : zI} {J : zJ} {D : zD} {bc bs : Nat} {p0 : Int32} (h : (((zv_136 (zu I 28 0 0) J p0.toInt64 0 7) = 0 → (zz RO (d + 2) 135 [.ref 28, .int 1] (zu I 28 0 0) J D 0 0 (zNi P fun v1 I1 J1 D1 => P (.inl (some (.int v1))) I1 J1 D1))) ∧ (¬ ((zv_136 (zu I 28 0 0) J p0.toInt64 0 7) = 0) → P (.inl (some (.int (zv_210 (zu I 28 0 0) J p0)))) (zu I 28 0 0) J D))) : zz RO (d + 3) 211 [.ref 28, .int p0] I J D bc bs P := by
  refine zT_of (Nat.le_of_ble_eq_true rfl) rfl ?_
  show zw RO (d + 2) 211 P 0 [(0, .ref 28), (1, .int p0)] [] I J D bc bs
  refine zr_aload_n zSm 0 rfl rfl ?_
  refine zr_s zSm 1 rfl rfl ?_
  refine zr_putI zSm 2 rfl zf_11_96 rfl rfl (by decide) zp_11_0 ?_
  refine zr_iload_n zSm 3 rfl rfl ?_
  refine zr_s zSm 4 rfl rfl ?_
  refine zr_s zSm 5 rfl rfl ?_
  refine zr_ldc2 zSm 6 rfl zc_11_454 ?_
  refine zr_ins0 7 136 3 [.long p0.toInt64, .long 0, .long 7] rfl rfl zk_11_110 zms_136 rfl (Nat.le_of_ble_eq_true rfl) ?_
  refine ze_136 ?_
  refine zNx_i ?_
  refine zr_if zSm 8 25 rfl rfl (fun q1 => ?_) (fun q1 => ?_)
  · have h := h.1 q1
    refine zr_aload_n zSm 13 rfl rfl ?_
    refine zr_s zSm 14 rfl rfl ?_
    refine zr_inv0 15 135 1 [.int 1] rfl rfl zk_11_102 zms_135 rfl ⟨_, _, _, _, rfl, rfl⟩ (Nat.le_of_ble_eq_true rfl) ?_
    refine zci h (fun v1 I1 J1 D1 h => ?_)
    refine zr_iret zSm 16 rfl rfl rfl ?_
    exact h
  · have h := h.2 q1
    refine zr_aload_n zSm 9 rfl rfl ?_
    refine zr_iload_n zSm 10 rfl rfl ?_
    refine zr_inv0 11 210 1 [.int p0] rfl rfl zk_11_456 zms_210 rfl ⟨_, _, _, _, rfl, rfl⟩ (Nat.le_of_ble_eq_true rfl) ?_
    refine ze_210 ?_
    refine zNx_i ?_
    refine zr_goto zSm 12 30 rfl rfl ?_
    refine zr_iret zSm 16 rfl rfl rfl ?_
    exact h
theorem w_212 {RO : zRo} {d : Nat} {P : zP} {I : zI} {J : zJ} {D : zD} {bc bs : Nat} {p0 p1 : Int32} (h : (((zv_199 (zu I 28 0 0) J p0) = 0 → (zz RO (d + 2) 135 [.ref 28, .int 1] (zu I 28 0 0) J D 0 0 (zNi P fun v1 I1 J1 D1 => P (.inl (some (.int v1))) I1 J1 D1))) ∧ (¬ ((zv_199 (zu I 28 0 0) J p0) = 0) → (((zv_136 (zu I 28 0 0) J p1.toInt64 0 (((I 37 0) - 1).toInt64)) = 0 → (zz RO (d + 2) 135 [.ref 28, .int 1] (zu I 28 0 0) J D 0 0 (zNi P fun v2 I2 J2 D2 => P (.inl (some (.int v2))) I2 J2 D2))) ∧ (¬ ((zv_136 (zu I 28 0 0) J p1.toInt64 0 (((I 37 0) - 1).toInt64)) = 0) → (vp_in ((6 * p0) + p1) 24 ∧ P (.inl (some (.int (I 46 (((6 * p0) + p1).toNatClampNeg))))) (zu I 28 0 0) J D)))))) : zz RO (d + 3) 212 [.ref 28, .int p0, .int p1] I J D bc bs P := by
  refine zT_of (Nat.le_of_ble_eq_true rfl) rfl ?_
  show zw RO (d + 2) 212 P 0 [(0, .ref 28), (1, .int p0), (2, .int p1)] [] I J D bc bs
  refine zr_aload_n zSm 0 rfl rfl ?_
  refine zr_s zSm 1 rfl rfl ?_
  refine zr_putI zSm 2 rfl zf_11_96 rfl rfl (by decide) zp_11_0 ?_
  refine zr_aload_n zSm 3 rfl rfl ?_
  refine zr_iload_n zSm 4 rfl rfl ?_
  refine zr_inv0 5 199 1 [.int p0] rfl rfl zk_11_434 zms_199 rfl ⟨_, _, _, _, rfl, rfl⟩ (Nat.le_of_ble_eq_true rfl) ?_
  refine ze_199 ?_
  refine zNx_i ?_
  refine zr_if zSm 6 45 rfl rfl (fun q1 => ?_) (fun q1 => ?_)
  · have h := h.1 q1
    refine zr_aload_n zSm 28 rfl rfl ?_
    refine zr_s zSm 29 rfl rfl ?_
    refine zr_inv0 30 135 1 [.int 1] rfl rfl zk_11_102 zms_135 rfl ⟨_, _, _, _, rfl, rfl⟩ (Nat.le_of_ble_eq_true rfl) ?_
    refine zci h (fun v1 I1 J1 D1 h => ?_)
    refine zr_iret zSm 31 rfl rfl rfl ?_
    exact h
  · have h := h.2 q1
    refine zr_iload_n zSm 7 rfl rfl ?_
    refine zr_s zSm 8 rfl rfl ?_
    refine zr_s zSm 9 rfl rfl ?_
    refine zr_aload_n zSm 10 rfl rfl ?_
    refine zr_getR zSm 11 rfl zf_11_35 rfl rfl (by decide) ?_
    refine zr_s zSm 12 rfl rfl ?_
    refine zr_iald zSm 13 rfl rfl (zin_lit (by decide) (by decide)) ?_
    refine zr_s zSm 14 rfl rfl ?_
    refine zr_s zSm 15 rfl rfl ?_
    refine zr_s zSm 16 rfl rfl ?_
    refine zr_ins0 17 136 3 [.long p1.toInt64, .long 0, .long (((I 37 0) - 1).toInt64)] rfl rfl zk_11_110 zms_136 rfl (Nat.le_of_ble_eq_true rfl) ?_
    refine ze_136 ?_
    refine zNx_i ?_
    refine zr_if zSm 18 45 rfl rfl (fun q2 => ?_) (fun q2 => ?_)
    · have h := h.1 q2
      refine zr_aload_n zSm 28 rfl rfl ?_
      refine zr_s zSm 29 rfl rfl ?_
      refine zr_inv0 30 135 1 [.int 1] rfl rfl zk_11_102 zms_135 rfl ⟨_, _, _, _, rfl, rfl⟩ (Nat.le_of_ble_eq_true rfl) ?_
      refine zci h (fun v2 I2 J2 D2 h => ?_)
      refine zr_iret zSm 31 rfl rfl rfl ?_
      exact h
    · have h := h.2 q2
      refine zr_aload_n zSm 19 rfl rfl ?_
      refine zr_getR zSm 20 rfl zf_11_66 rfl rfl (by decide) ?_
      refine zr_bipush zSm 21 6 rfl rfl ?_
      refine zr_iload_n zSm 22 rfl rfl ?_
      refine zr_s zSm 23 rfl rfl ?_
      refine zr_iload_n zSm 24 rfl rfl ?_
      refine zr_s zSm 25 rfl rfl ?_
      obtain ⟨b26, h⟩ := h
      refine zr_iald zSm 26 rfl rfl b26 ?_
      refine zr_goto zSm 27 50 rfl rfl ?_
      refine zr_iret zSm 31 rfl rfl rfl ?_
      exact h
theorem w_213 {RO : zRo} {d : Nat} {P : zP} {I : zI} {J : zJ} {D : zD} {bc bs : Nat} {p0 : Int32} (h : ((¬ (zv_136 (zu I 28 0 0) J p0.toInt64 0 (((I 37 1) - 1).toInt64)) = 0 → (((zv_195 (zu I 28 0 0) J) = 0 → (vp_in ((3 * (6 + p0)) + 2) 36 ∧ P (.inl (some (.int (I 38 (((3 * (6 + p0)) + 2).toNatClampNeg))))) (zu I 28 0 0) J D)) ∧ (¬ ((zv_195 (zu I 28 0 0) J) = 0) → (vp_in p0 6 ∧ P (.inl (some (.int (I 47 p0.toNatClampNeg)))) (zu I 28 0 0) J D)))) ∧ (¬ (¬ (zv_136 (zu I 28 0 0) J p0.toInt64 0 (((I 37 1) - 1).toInt64)) = 0) → (zz RO (d + 1) 135 [.ref 28, .int 1] (zu I 28 0 0) J D 0 0 (zNi P fun v1 I1 J1 D1 => P (.inl (some (.int v1))) I1 J1 D1))))) : zz RO (d + 2) 213 [.ref 28, .int p0] I J D bc bs P := by
  refine zT_of (Nat.le_of_ble_eq_true rfl) rfl ?_
  show zw RO (d + 1) 213 P 0 [(0, .ref 28), (1, .int p0)] [] I J D bc bs
  refine zr_aload_n zSm 0 rfl rfl ?_
  refine zr_s zSm 1 rfl rfl ?_
  refine zr_putI zSm 2 rfl zf_11_96 rfl rfl (by decide) zp_11_0 ?_
  refine zr_iload_n zSm 3 rfl rfl ?_
  refine zr_s zSm 4 rfl rfl ?_
  refine zr_s zSm 5 rfl rfl ?_
  refine zr_aload_n zSm 6 rfl rfl ?_
  refine zr_getR zSm 7 rfl zf_11_35 rfl rfl (by decide) ?_
  refine zr_s zSm 8 rfl rfl ?_
  refine zr_iald zSm 9 rfl rfl (zin_lit (by decide) (by decide)) ?_
  refine zr_s zSm 10 rfl rfl ?_
  refine zr_s zSm 11 rfl rfl ?_
  refine zr_s zSm 12 rfl rfl ?_
  refine zr_ins0 13 136 3 [.long p0.toInt64, .long 0, .long (((I 37 1) - 1).toInt64)] rfl rfl zk_11_110 zms_136 rfl (Nat.le_of_ble_eq_true rfl) ?_
  refine ze_136 ?_
  refine zNx_i ?_
  refine zr_if zSm 14 29 rfl rfl (fun q1 => ?_) (fun q1 => ?_)
  · have h := h.1 q1
    refine zr_aload_n zSm 19 rfl rfl ?_
    refine zr_inv0 20 195 0 [] rfl rfl zk_11_422 zms_195 rfl ⟨_, _, _, _, rfl, rfl⟩ (Nat.le_of_ble_eq_true rfl) ?_
    refine ze_195 ?_
    refine zNx_i ?_
    refine zr_if zSm 21 45 rfl rfl (fun q2 => ?_) (fun q2 => ?_)
    · have h := h.1 q2
      refine zr_aload_n zSm 27 rfl rfl ?_
      refine zr_getR zSm 28 rfl zf_11_38 rfl rfl (by decide) ?_
      refine zr_s zSm 29 rfl rfl ?_
      refine zr_bipush zSm 30 6 rfl rfl ?_
      refine zr_iload_n zSm 31 rfl rfl ?_
      refine zr_s zSm 32 rfl rfl ?_
      refine zr_s zSm 33 rfl rfl ?_
      refine zr_s zSm 34 rfl rfl ?_
      refine zr_s zSm 35 rfl rfl ?_
      obtain ⟨b36, h⟩ := h
      refine zr_iald zSm 36 rfl rfl b36 ?_
      refine zr_iret zSm 37 rfl rfl rfl ?_
      exact h
    · have h := h.2 q2
      refine zr_aload_n zSm 22 rfl rfl ?_
      refine zr_getR zSm 23 rfl zf_11_69 rfl rfl (by decide) ?_
      refine zr_iload_n zSm 24 rfl rfl ?_
      obtain ⟨b25, h⟩ := h
      refine zr_iald zSm 25 rfl rfl b25 ?_
      refine zr_goto zSm 26 58 rfl rfl ?_
      refine zr_iret zSm 37 rfl rfl rfl ?_
      exact h
  · have h := h.2 q1
    refine zr_aload_n zSm 15 rfl rfl ?_
    refine zr_s zSm 16 rfl rfl ?_
    refine zr_inv0 17 135 1 [.int 1] rfl rfl zk_11_102 zms_135 rfl ⟨_, _, _, _, rfl, rfl⟩ (Nat.le_of_ble_eq_true rfl) ?_
    refine zci h (fun v1 I1 J1 D1 h => ?_)
    refine zr_iret zSm 18 rfl rfl rfl ?_
    exact h
theorem w_214 {RO : zRo} {d : Nat} {P : zP} {I : zI} {J : zJ} {D : zD} {bc bs : Nat} {p0 p1 : Int32} (h : (((zv_136 (zu I 28 0 0) J p0.toInt64 0 (((I 28 45) - 1).toInt64)) = 0 → (zz RO (d + 1) 135 [.ref 28, .int 1] (zu I 28 0 0) J D 0 0 (zNi P fun v1 I1 J1 D1 => P (.inl (some (.int v1))) I1 J1 D1))) ∧ (¬ ((zv_136 (zu I 28 0 0) J p0.toInt64 0 (((I 28 45) - 1).toInt64)) = 0) → (((zv_136 (zu I 28 0 0) J p1.toInt64 0 3) = 0 → (zz RO (d + 1) 135 [.ref 28, .int 1] (zu I 28 0 0) J D 0 0 (zNi P fun v2 I2 J2 D2 => P (.inl (some (.int v2))) I2 J2 D2))) ∧ (¬ ((zv_136 (zu I 28 0 0) J p1.toInt64 0 3) = 0) → (vp_in ((4 * p0) + p1) 40 ∧ P (.inl (some (.int (I 48 (((4 * p0) + p1).toNatClampNeg))))) (zu I 28 0 0) J D)))))) : zz RO (d + 2) 214 [.ref 28, .int p0, .int p1] I J D bc bs P := by
  refine zT_of (Nat.le_of_ble_eq_true rfl) rfl ?_
  show zw RO (d + 1) 214 P 0 [(0, .ref 28), (1, .int p0), (2, .int p1)] [] I J D bc bs
  refine zr_aload_n zSm 0 rfl rfl ?_
  refine zr_s zSm 1 rfl rfl ?_
  refine zr_putI zSm 2 rfl zf_11_96 rfl rfl (by decide) zp_11_0 ?_
  refine zr_iload_n zSm 3 rfl rfl ?_
  refine zr_s zSm 4 rfl rfl ?_
  refine zr_s zSm 5 rfl rfl ?_
  refine zr_aload_n zSm 6 rfl rfl ?_
  refine zr_getI zSm 7 rfl zf_11_167 rfl rfl (by decide) ?_
  refine zr_s zSm 8 rfl rfl ?_
  refine zr_s zSm 9 rfl rfl ?_
  refine zr_s zSm 10 rfl rfl ?_
  refine zr_ins0 11 136 3 [.long p0.toInt64, .long 0, .long (((I 28 45) - 1).toInt64)] rfl rfl zk_11_110 zms_136 rfl (Nat.le_of_ble_eq_true rfl) ?_
  refine ze_136 ?_
  refine zNx_i ?_
  refine zr_if zSm 12 46 rfl rfl (fun q1 => ?_) (fun q1 => ?_)
  · have h := h.1 q1
    refine zr_aload_n zSm 28 rfl rfl ?_
    refine zr_s zSm 29 rfl rfl ?_
    refine zr_inv0 30 135 1 [.int 1] rfl rfl zk_11_102 zms_135 rfl ⟨_, _, _, _, rfl, rfl⟩ (Nat.le_of_ble_eq_true rfl) ?_
    refine zci h (fun v1 I1 J1 D1 h => ?_)
    refine zr_iret zSm 31 rfl rfl rfl ?_
    exact h
  · have h := h.2 q1
    refine zr_iload_n zSm 13 rfl rfl ?_
    refine zr_s zSm 14 rfl rfl ?_
    refine zr_s zSm 15 rfl rfl ?_
    refine zr_ldc2 zSm 16 rfl zc_11_459 ?_
    refine zr_ins0 17 136 3 [.long p1.toInt64, .long 0, .long 3] rfl rfl zk_11_110 zms_136 rfl (Nat.le_of_ble_eq_true rfl) ?_
    refine ze_136 ?_
    refine zNx_i ?_
    refine zr_if zSm 18 46 rfl rfl (fun q2 => ?_) (fun q2 => ?_)
    · have h := h.1 q2
      refine zr_aload_n zSm 28 rfl rfl ?_
      refine zr_s zSm 29 rfl rfl ?_
      refine zr_inv0 30 135 1 [.int 1] rfl rfl zk_11_102 zms_135 rfl ⟨_, _, _, _, rfl, rfl⟩ (Nat.le_of_ble_eq_true rfl) ?_
      refine zci h (fun v2 I2 J2 D2 h => ?_)
      refine zr_iret zSm 31 rfl rfl rfl ?_
      exact h
    · have h := h.2 q2
      refine zr_aload_n zSm 19 rfl rfl ?_
      refine zr_getR zSm 20 rfl zf_11_72 rfl rfl (by decide) ?_
      refine zr_s zSm 21 rfl rfl ?_
      refine zr_iload_n zSm 22 rfl rfl ?_
      refine zr_s zSm 23 rfl rfl ?_
      refine zr_iload_n zSm 24 rfl rfl ?_
      refine zr_s zSm 25 rfl rfl ?_
      obtain ⟨b26, h⟩ := h
      refine zr_iald zSm 26 rfl rfl b26 ?_
      refine zr_goto zSm 27 51 rfl rfl ?_
      refine zr_iret zSm 31 rfl rfl rfl ?_
      exact h
theorem w_215 {RO : zRo} {d : Nat} {P : zP} {I : zI} {J : zJ} {D : zD} {bc bs : Nat} {p0 p1 : Int32} (h : (((zv_136 (zu I 28 0 0) J p0.toInt64 0 (((I 28 47) - 1).toInt64)) = 0 → (zz RO (d + 1) 135 [.ref 28, .int 1] (zu I 28 0 0) J D 0 0 (zNi P fun v1 I1 J1 D1 => P (.inl (some (.int v1))) I1 J1 D1))) ∧ (¬ ((zv_136 (zu I 28 0 0) J p0.toInt64 0 (((I 28 47) - 1).toInt64)) = 0) → (((zv_136 (zu I 28 0 0) J p1.toInt64 0 3) = 0 → (zz RO (d + 1) 135 [.ref 28, .int 1] (zu I 28 0 0) J D 0 0 (zNi P fun v2 I2 J2 D2 => P (.inl (some (.int v2))) I2 J2 D2))) ∧ (¬ ((zv_136 (zu I 28 0 0) J p1.toInt64 0 3) = 0) → (vp_in ((4 * p0) + p1) 1000 ∧ P (.inl (some (.int (I 49 (((4 * p0) + p1).toNatClampNeg))))) (zu I 28 0 0) J D)))))) : zz RO (d + 2) 215 [.ref 28, .int p0, .int p1] I J D bc bs P := by
  refine zT_of (Nat.le_of_ble_eq_true rfl) rfl ?_
  show zw RO (d + 1) 215 P 0 [(0, .ref 28), (1, .int p0), (2, .int p1)] [] I J D bc bs
  refine zr_aload_n zSm 0 rfl rfl ?_
  refine zr_s zSm 1 rfl rfl ?_
  refine zr_putI zSm 2 rfl zf_11_96 rfl rfl (by decide) zp_11_0 ?_
  refine zr_iload_n zSm 3 rfl rfl ?_
  refine zr_s zSm 4 rfl rfl ?_
  refine zr_s zSm 5 rfl rfl ?_
  refine zr_aload_n zSm 6 rfl rfl ?_
  refine zr_getI zSm 7 rfl zf_11_164 rfl rfl (by decide) ?_
  refine zr_s zSm 8 rfl rfl ?_
  refine zr_s zSm 9 rfl rfl ?_
  refine zr_s zSm 10 rfl rfl ?_
  refine zr_ins0 11 136 3 [.long p0.toInt64, .long 0, .long (((I 28 47) - 1).toInt64)] rfl rfl zk_11_110 zms_136 rfl (Nat.le_of_ble_eq_true rfl) ?_
  refine ze_136 ?_
  refine zNx_i ?_
  refine zr_if zSm 12 46 rfl rfl (fun q1 => ?_) (fun q1 => ?_)
  · have h := h.1 q1
    refine zr_aload_n zSm 28 rfl rfl ?_
    refine zr_s zSm 29 rfl rfl ?_
    refine zr_inv0 30 135 1 [.int 1] rfl rfl zk_11_102 zms_135 rfl ⟨_, _, _, _, rfl, rfl⟩ (Nat.le_of_ble_eq_true rfl) ?_
    refine zci h (fun v1 I1 J1 D1 h => ?_)
    refine zr_iret zSm 31 rfl rfl rfl ?_
    exact h
  · have h := h.2 q1
    refine zr_iload_n zSm 13 rfl rfl ?_
    refine zr_s zSm 14 rfl rfl ?_
    refine zr_s zSm 15 rfl rfl ?_
    refine zr_ldc2 zSm 16 rfl zc_11_459 ?_
    refine zr_ins0 17 136 3 [.long p1.toInt64, .long 0, .long 3] rfl rfl zk_11_110 zms_136 rfl (Nat.le_of_ble_eq_true rfl) ?_
    refine ze_136 ?_
    refine zNx_i ?_
    refine zr_if zSm 18 46 rfl rfl (fun q2 => ?_) (fun q2 => ?_)
    · have h := h.1 q2
      refine zr_aload_n zSm 28 rfl rfl ?_
      refine zr_s zSm 29 rfl rfl ?_
      refine zr_inv0 30 135 1 [.int 1] rfl rfl zk_11_102 zms_135 rfl ⟨_, _, _, _, rfl, rfl⟩ (Nat.le_of_ble_eq_true rfl) ?_
      refine zci h (fun v2 I2 J2 D2 h => ?_)
      refine zr_iret zSm 31 rfl rfl rfl ?_
      exact h
    · have h := h.2 q2
      refine zr_aload_n zSm 19 rfl rfl ?_
      refine zr_getR zSm 20 rfl zf_11_75 rfl rfl (by decide) ?_
      refine zr_s zSm 21 rfl rfl ?_
      refine zr_iload_n zSm 22 rfl rfl ?_
      refine zr_s zSm 23 rfl rfl ?_
      refine zr_iload_n zSm 24 rfl rfl ?_
      refine zr_s zSm 25 rfl rfl ?_
      obtain ⟨b26, h⟩ := h
      refine zr_iald zSm 26 rfl rfl b26 ?_
      refine zr_goto zSm 27 51 rfl rfl ?_
      refine zr_iret zSm 31 rfl rfl rfl ?_
      exact h
theorem w_216 {RO : zRo} {d : Nat} {P : zP} {I : zI} {J : zJ} {D : zD} {bc bs : Nat} {p0 : Int32} (h : (((zv_195 (zu I 28 0 0) J) = 0 → ((p0 = 0 → (zz RO (d + 1) 135 [.ref 28, .int 2] (zu I 28 0 0) J D 0 0 (zNi P fun v1 I1 J1 D1 => P (.inl (some (.int v1))) I1 J1 D1))) ∧ (¬ (p0 = 0) → (zz RO (d + 1) 135 [.ref 28, .int 1] (zu I 28 0 0) J D 0 0 (zNi P fun v2 I2 J2 D2 => P (.inl (some (.int v2))) I2 J2 D2))))) ∧ (¬ ((zv_195 (zu I 28 0 0) J) = 0) → (((zv_136 (zu I 28 0 0) J p0.toInt64 0 ((I 28 47).toInt64)) = 0 → (zz RO (d + 1) 135 [.ref 28, .int 1] (zu I 28 0 0) J D 0 0 (zNi P fun v3 I3 J3 D3 => P (.inl (some (.int v3))) I3 J3 D3))) ∧ (¬ ((zv_136 (zu I 28 0 0) J p0.toInt64 0 ((I 28 47).toInt64)) = 0) → ((¬ (4 * p0) < 0 ∧ 0 + (4 * p0).toNatClampNeg ≤ 1000 ∧ 0 + (4 * p0).toNatClampNeg ≤ 1000) ∧ (zz RO (d + 1) 194 [.ref 28, .int (I 28 30), .long (J 28 31)] (zcp (zu I 28 0 0) 49 51 0 0 (4 * p0).toNatClampNeg) J D 0 0 (zNv P fun I4 J4 D4 => zw RO (d + 1) 216 P 86 [(0, .ref 28), (1, .int p0), (2, .int 0)] [] I4 J4 D4 bc bs)))))))) : zz RO (d + 2) 216 [.ref 28, .int p0] I J D bc bs P := by
  refine zT_of (Nat.le_of_ble_eq_true rfl) rfl ?_
  show zw RO (d + 1) 216 P 0 [(0, .ref 28), (1, .int p0)] [] I J D bc bs
  refine zr_aload_n zSm 0 rfl rfl ?_
  refine zr_s zSm 1 rfl rfl ?_
  refine zr_putI zSm 2 rfl zf_11_96 rfl rfl (by decide) zp_11_0 ?_
  refine zr_aload_n zSm 3 rfl rfl ?_
  refine zr_inv0 4 195 0 [] rfl rfl zk_11_422 zms_195 rfl ⟨_, _, _, _, rfl, rfl⟩ (Nat.le_of_ble_eq_true rfl) ?_
  refine ze_195 ?_
  refine zNx_i ?_
  refine zr_if zSm 5 26 rfl rfl (fun q1 => ?_) (fun q1 => ?_)
  · have h := h.1 q1
    refine zr_aload_n zSm 14 rfl rfl ?_
    refine zr_inv0 15 195 0 [] rfl rfl zk_11_422 zms_195 rfl ⟨_, _, _, _, rfl, rfl⟩ (Nat.le_of_ble_eq_true rfl) ?_
    refine ze_195 ?_
    refine zNx_i ?_
    refine zr_if zSm 16 43 rfl rfl (fun q2 => ?_) (fun q2 => ?_)
    · first | exact absurd q2 q1 | exact absurd q1 q2 | exact absurd (Int32.not_lt.mp q2) q1 | exact absurd (Int32.not_lt.mp q1) q2 | exact absurd (Int32.not_le.mp q2) q1 | exact absurd (Int32.not_le.mp q1) q2 | exact absurd q2 (Int32.not_lt.mpr q1) | exact absurd q1 (Int32.not_lt.mpr q2) | exact absurd q2 (Int32.not_le.mpr q1) | exact absurd q1 (Int32.not_le.mpr q2)
    · refine zr_iload_n zSm 17 rfl rfl ?_
      refine zr_if zSm 18 43 rfl rfl (fun q3 => ?_) (fun q3 => ?_)
      · have h := h.1 q3
        refine zr_aload_n zSm 23 rfl rfl ?_
        refine zr_inv0 24 195 0 [] rfl rfl zk_11_422 zms_195 rfl ⟨_, _, _, _, rfl, rfl⟩ (Nat.le_of_ble_eq_true rfl) ?_
        refine ze_195 ?_
        refine zNx_i ?_
        refine zr_if zSm 25 56 rfl rfl (fun q4 => ?_) (fun q4 => ?_)
        · exact absurd q4 q2
        · refine zr_aload_n zSm 26 rfl rfl ?_
          refine zr_s zSm 27 rfl rfl ?_
          refine zr_inv0 28 135 1 [.int 2] rfl rfl zk_11_102 zms_135 rfl ⟨_, _, _, _, rfl, rfl⟩ (Nat.le_of_ble_eq_true rfl) ?_
          refine zci h (fun v1 I1 J1 D1 h => ?_)
          refine zr_iret zSm 29 rfl rfl rfl ?_
          exact h
      · have h := h.2 q3
        refine zr_aload_n zSm 19 rfl rfl ?_
        refine zr_s zSm 20 rfl rfl ?_
        refine zr_inv0 21 135 1 [.int 1] rfl rfl zk_11_102 zms_135 rfl ⟨_, _, _, _, rfl, rfl⟩ (Nat.le_of_ble_eq_true rfl) ?_
        refine zci h (fun v2 I2 J2 D2 h => ?_)
        refine zr_iret zSm 22 rfl rfl rfl ?_
        exact h
  · have h := h.2 q1
    refine zr_iload_n zSm 6 rfl rfl ?_
    refine zr_s zSm 7 rfl rfl ?_
    refine zr_s zSm 8 rfl rfl ?_
    refine zr_aload_n zSm 9 rfl rfl ?_
    refine zr_getI zSm 10 rfl zf_11_164 rfl rfl (by decide) ?_
    refine zr_s zSm 11 rfl rfl ?_
    refine zr_ins0 12 136 3 [.long p0.toInt64, .long 0, .long ((I 28 47).toInt64)] rfl rfl zk_11_110 zms_136 rfl (Nat.le_of_ble_eq_true rfl) ?_
    refine ze_136 ?_
    refine zNx_i ?_
    refine zr_if zSm 13 37 rfl rfl (fun q5 => ?_) (fun q5 => ?_)
    · have h := h.1 q5
      refine zr_aload_n zSm 19 rfl rfl ?_
      refine zr_s zSm 20 rfl rfl ?_
      refine zr_inv0 21 135 1 [.int 1] rfl rfl zk_11_102 zms_135 rfl ⟨_, _, _, _, rfl, rfl⟩ (Nat.le_of_ble_eq_true rfl) ?_
      refine zci h (fun v3 I3 J3 D3 h => ?_)
      refine zr_iret zSm 22 rfl rfl rfl ?_
      exact h
    · have h := h.2 q5
      refine zr_aload_n zSm 14 rfl rfl ?_
      refine zr_inv0 15 195 0 [] rfl rfl zk_11_422 zms_195 rfl ⟨_, _, _, _, rfl, rfl⟩ (Nat.le_of_ble_eq_true rfl) ?_
      refine ze_195 ?_
      refine zNx_i ?_
      refine zr_if zSm 16 43 rfl rfl (fun q6 => ?_) (fun q6 => ?_)
      · refine zr_aload_n zSm 23 rfl rfl ?_
        refine zr_inv0 24 195 0 [] rfl rfl zk_11_422 zms_195 rfl ⟨_, _, _, _, rfl, rfl⟩ (Nat.le_of_ble_eq_true rfl) ?_
        refine ze_195 ?_
        refine zNx_i ?_
        refine zr_if zSm 25 56 rfl rfl (fun q7 => ?_) (fun q7 => ?_)
        · refine zr_aload_n zSm 30 rfl rfl ?_
          refine zr_getR zSm 31 rfl zf_11_75 rfl rfl (by decide) ?_
          refine zr_s zSm 32 rfl rfl ?_
          refine zr_aload_n zSm 33 rfl rfl ?_
          refine zr_getR zSm 34 rfl zf_11_81 rfl rfl (by decide) ?_
          refine zr_s zSm 35 rfl rfl ?_
          refine zr_s zSm 36 rfl rfl ?_
          refine zr_iload_n zSm 37 rfl rfl ?_
          refine zr_s zSm 38 rfl rfl ?_
          obtain ⟨b39, h⟩ := h
          refine zr_copy 49 51 1000 1000 397 39 rfl zac_11 rfl rfl (by decide) (by decide) b39.1 b39.2.1 b39.2.2 (Nat.le_of_ble_eq_true rfl) ?_
          refine zr_aload_n zSm 40 rfl rfl ?_
          refine zr_aload_n zSm 41 rfl rfl ?_
          refine zr_getI zSm 42 rfl zf_11_161 rfl rfl (by decide) ?_
          refine zr_aload_n zSm 43 rfl rfl ?_
          refine zr_getJ zSm 44 rfl zf_11_419 rfl rfl (by decide) ?_
          refine zr_inv0 45 194 2 [.int (I 28 30), .long (J 28 31)] rfl rfl zk_11_427 zms_194 rfl ⟨_, _, _, _, rfl, rfl⟩ (Nat.le_of_ble_eq_true rfl) ?_
          refine zcv h (fun I4 J4 D4 h => ?_)
          refine zr_s zSm 46 rfl rfl ?_
          refine zr_istore_n zSm 47 (ll' := [(2, .int 0), (0, .ref 28), (1, .int p0)]) rfl (by decide) rfl ?_
          refine zr_sub [1, 2, 0] rfl ?_
          exact h
        · exact absurd q6 q7
      · first | exact absurd q6 q1 | exact absurd q1 q6 | exact absurd (Int32.not_lt.mp q6) q1 | exact absurd (Int32.not_lt.mp q1) q6 | exact absurd (Int32.not_le.mp q6) q1 | exact absurd (Int32.not_le.mp q1) q6 | exact absurd q6 (Int32.not_lt.mpr q1) | exact absurd q1 (Int32.not_lt.mpr q6) | exact absurd q6 (Int32.not_le.mpr q1) | exact absurd q1 (Int32.not_le.mpr q6)
theorem wl_216_86 {RO : zRo} {d : Nat} {P : zP} {I : zI} {J : zJ} {D : zD} {bc bs : Nat} {l1 l2 : Int32} (h : ((l1 ≤ l2 → P (.inl (some (.int (I 28 33)))) I J D) ∧ (¬ (l1 ≤ l2) → (vp_in (4 * l2) 1000 ∧ (vp_in ((4 * l2) + 1) 1000 ∧ (vp_in ((4 * l2) + 2) 1000 ∧ (∃ c1 s1, c1 ≤ bc ∧ s1 ≤ bs ∧ zz RO (d + 1) 193 [.ref 28, .int (I 51 ((4 * l2).toNatClampNeg)), .int (I 51 (((4 * l2) + 1).toNatClampNeg)), .int (I 51 (((4 * l2) + 2).toNatClampNeg))] I J D c1 s1 (zNv P fun I1 J1 D1 => zw RO (d + 1) 216 P 86 [(0, .ref 28), (1, .int l1), (2, .int (l2 + 1))] [] I1 J1 D1 (bc - c1) (bs - s1))))))))) : zw RO (d + 1) 216 P 86 [(0, .ref 28), (1, .int l1), (2, .int l2)] [] I J D bc bs := by
  refine zr_iload_n zSm 48 rfl rfl ?_
  refine zr_iload_n zSm 49 rfl rfl ?_
  refine zr_ic zSm 50 129 rfl rfl (fun q1 => ?_) (fun q1 => ?_)
  · have h := h.1 q1
    refine zr_aload_n zSm 77 rfl rfl ?_
    refine zr_getI zSm 78 rfl zf_11_375 rfl rfl (by decide) ?_
    refine zr_iret zSm 79 rfl rfl rfl ?_
    exact h
  · have h := h.2 q1
    refine zr_aload_n zSm 51 rfl rfl ?_
    refine zr_aload_n zSm 52 rfl rfl ?_
    refine zr_getR zSm 53 rfl zf_11_81 rfl rfl (by decide) ?_
    refine zr_s zSm 54 rfl rfl ?_
    refine zr_iload_n zSm 55 rfl rfl ?_
    refine zr_s zSm 56 rfl rfl ?_
    obtain ⟨b57, h⟩ := h
    refine zr_iald zSm 57 rfl rfl b57 ?_
    refine zr_aload_n zSm 58 rfl rfl ?_
    refine zr_getR zSm 59 rfl zf_11_81 rfl rfl (by decide) ?_
    refine zr_s zSm 60 rfl rfl ?_
    refine zr_iload_n zSm 61 rfl rfl ?_
    refine zr_s zSm 62 rfl rfl ?_
    refine zr_s zSm 63 rfl rfl ?_
    refine zr_s zSm 64 rfl rfl ?_
    obtain ⟨b65, h⟩ := h
    refine zr_iald zSm 65 rfl rfl b65 ?_
    refine zr_aload_n zSm 66 rfl rfl ?_
    refine zr_getR zSm 67 rfl zf_11_81 rfl rfl (by decide) ?_
    refine zr_s zSm 68 rfl rfl ?_
    refine zr_iload_n zSm 69 rfl rfl ?_
    refine zr_s zSm 70 rfl rfl ?_
    refine zr_s zSm 71 rfl rfl ?_
    refine zr_s zSm 72 rfl rfl ?_
    obtain ⟨b73, h⟩ := h
    refine zr_iald zSm 73 rfl rfl b73 ?_
    obtain ⟨c1, s1, g1, f1, h⟩ := h
    refine zr_inv zSm 74 193 3 c1 s1 [.int (I 51 ((4 * l2).toNatClampNeg)), .int (I 51 (((4 * l2) + 1).toNatClampNeg)), .int (I 51 (((4 * l2) + 2).toNatClampNeg))] rfl rfl zk_11_440 zms_193 rfl ⟨_, _, _, _, rfl, rfl⟩ (Nat.le_of_ble_eq_true rfl) g1 f1 ?_
    refine zcv h (fun I1 J1 D1 h => ?_)
    refine zr_iinc zSm 75 (v := l2 + 1) (ll' := [(2, .int (l2 + 1)), (0, .ref 28), (1, .int l1)]) rfl rfl (by decide) rfl rfl ?_
    refine zr_goto zSm 76 86 rfl rfl ?_
    refine zr_sub [1, 2, 0] rfl ?_
    exact h
theorem w_217 {RO : zRo} {d : Nat} {P : zP} {I : zI} {J : zJ} {D : zD} {bc bs : Nat}  (h : (((zv_195 (zu I 28 0 0) J) = 0 → P (.inl (some (.long 0))) (zu I 28 0 0) J D) ∧ (¬ ((zv_195 (zu I 28 0 0) J) = 0) → P (.inl (some (.long (J 28 32)))) (zu I 28 0 0) J D))) : zz RO (d + 2) 217 [.ref 28] I J D bc bs P := by
  refine zT_of (Nat.le_of_ble_eq_true rfl) rfl ?_
  show zw RO (d + 1) 217 P 0 [(0, .ref 28)] [] I J D bc bs
  refine zr_aload_n zSm 0 rfl rfl ?_
  refine zr_s zSm 1 rfl rfl ?_
  refine zr_putI zSm 2 rfl zf_11_96 rfl rfl (by decide) zp_11_0 ?_
  refine zr_aload_n zSm 3 rfl rfl ?_
  refine zr_inv0 4 195 0 [] rfl rfl zk_11_422 zms_195 rfl ⟨_, _, _, _, rfl, rfl⟩ (Nat.le_of_ble_eq_true rfl) ?_
  refine ze_195 ?_
  refine zNx_i ?_
  refine zr_if zSm 5 19 rfl rfl (fun q1 => ?_) (fun q1 => ?_)
  · have h := h.1 q1
    refine zr_s zSm 9 rfl rfl ?_
    refine zr_lret zSm 10 rfl rfl ?_
    exact h
  · have h := h.2 q1
    refine zr_aload_n zSm 6 rfl rfl ?_
    refine zr_getJ zSm 7 rfl zf_11_329 rfl rfl (by decide) ?_
    refine zr_goto zSm 8 20 rfl rfl ?_
    refine zr_lret zSm 10 rfl rfl ?_
    exact h
theorem w_218 {RO : zRo} {d : Nat} {P : zP} {I : zI} {J : zJ} {D : zD} {bc bs : Nat} {p0 : Int32} (h : (((zv_136 I J p0.toInt64 0 (((I 37 0) - 1).toInt64)) = 0 → P (.inl (some (.double FP.dconst0))) (zu I 28 0 1) J D) ∧ (¬ ((zv_136 I J p0.toInt64 0 (((I 37 0) - 1).toInt64)) = 0) → ((¬ (zv_195 (zu I 28 0 0) J) = 0 → zw RO (d + 1) 218 P 47 [(0, .ref 28), (1, .int p0), (2, .int 0), (3, .int 0)] [] (zu I 28 0 0) J D bc bs) ∧ (¬ (¬ (zv_195 (zu I 28 0 0) J) = 0) → P (.inl (some (.double FP.dconst0))) (zu I 28 0 0) J D))))) : zz RO (d + 2) 218 [.ref 28, .int p0] I J D bc bs P := by
  refine zT_of (Nat.le_of_ble_eq_true rfl) rfl ?_
  show zw RO (d + 1) 218 P 0 [(0, .ref 28), (1, .int p0)] [] I J D bc bs
  refine zr_aload_n zSm 0 rfl rfl ?_
  refine zr_iload_n zSm 1 rfl rfl ?_
  refine zr_s zSm 2 rfl rfl ?_
  refine zr_s zSm 3 rfl rfl ?_
  refine zr_aload_n zSm 4 rfl rfl ?_
  refine zr_getR zSm 5 rfl zf_11_35 rfl rfl (by decide) ?_
  refine zr_s zSm 6 rfl rfl ?_
  refine zr_iald zSm 7 rfl rfl (zin_lit (by decide) (by decide)) ?_
  refine zr_s zSm 8 rfl rfl ?_
  refine zr_s zSm 9 rfl rfl ?_
  refine zr_s zSm 10 rfl rfl ?_
  refine zr_ins0 11 136 3 [.long p0.toInt64, .long 0, .long (((I 37 0) - 1).toInt64)] rfl rfl zk_11_110 zms_136 rfl (Nat.le_of_ble_eq_true rfl) ?_
  refine ze_136 ?_
  refine zNx_i ?_
  refine zr_if zSm 12 23 rfl rfl (fun q1 => ?_) (fun q1 => ?_)
  · have h := h.1 q1
    refine zr_s zSm 15 rfl rfl ?_
    refine zr_putI zSm 16 rfl zf_11_96 rfl rfl (by decide) zp_11_0 ?_
    refine zr_aload_n zSm 17 rfl rfl ?_
    refine zr_getI zSm 18 rfl zf_11_96 rfl rfl (by decide) ?_
    refine zr_if zSm 19 41 rfl rfl (fun q2 => ?_) (fun q2 => ?_)
    · refine zr_s zSm 23 rfl rfl ?_
      refine zr_dret zSm 24 rfl rfl ?_
      exact h
    · exact absurd q2 (by show ¬ ¬ (¬ ((1 : Int32) = 0)); decide)
  · have h := h.2 q1
    refine zr_s zSm 13 rfl rfl ?_
    refine zr_goto zSm 14 24 rfl rfl ?_
    refine zr_putI zSm 16 rfl zf_11_96 rfl rfl (by decide) zp_11_0 ?_
    refine zr_aload_n zSm 17 rfl rfl ?_
    refine zr_getI zSm 18 rfl zf_11_96 rfl rfl (by decide) ?_
    refine zr_if zSm 19 41 rfl rfl (fun q3 => ?_) (fun q3 => ?_)
    · exact absurd q3 (by show ¬ (¬ ((0 : Int32) = 0)); decide)
    · refine zr_aload_n zSm 20 rfl rfl ?_
      refine zr_inv0 21 195 0 [] rfl rfl zk_11_422 zms_195 rfl ⟨_, _, _, _, rfl, rfl⟩ (Nat.le_of_ble_eq_true rfl) ?_
      refine ze_195 ?_
      refine zNx_i ?_
      refine zr_if zSm 22 43 rfl rfl (fun q4 => ?_) (fun q4 => ?_)
      · have h := h.1 q4
        refine zr_s zSm 25 rfl rfl ?_
        refine zr_istore_n zSm 26 (ll' := [(2, .int 0), (0, .ref 28), (1, .int p0)]) rfl (by decide) rfl ?_
        refine zr_s zSm 27 rfl rfl ?_
        refine zr_istore_n zSm 28 (ll' := [(3, .int 0), (2, .int 0), (0, .ref 28), (1, .int p0)]) rfl (by decide) rfl ?_
        refine zr_sub [2, 3, 1, 0] rfl ?_
        exact h
      · have h := h.2 q4
        refine zr_s zSm 23 rfl rfl ?_
        refine zr_dret zSm 24 rfl rfl ?_
        exact h
theorem wl_218_47 {RO : zRo} {d : Nat} {P : zP} {I : zI} {J : zJ} {D : zD} {bc bs : Nat} {l1 l2 l3 : Int32} (h : (((I 28 30) ≤ l3 → (vf_n64 (FP.ddiv (FP.i2d l2) (FP.i2d (I 28 30))) ∧ P (.inl (some (.double (FP.ddiv (FP.i2d l2) (FP.i2d (I 28 30)))))) I J D)) ∧ (¬ ((I 28 30) ≤ l3) → (vp_in ((6 * l3) + l1) 24 ∧ zw RO (d + 1) 218 P 47 [(0, .ref 28), (1, .int l1), (2, .int (l2 + (I 46 (((6 * l3) + l1).toNatClampNeg)))), (3, .int (l3 + 1))] [] I J D bc bs)))) : zw RO (d + 1) 218 P 47 [(0, .ref 28), (1, .int l1), (2, .int l2), (3, .int l3)] [] I J D bc bs := by
  refine zr_iload_n zSm 29 rfl rfl ?_
  refine zr_aload_n zSm 30 rfl rfl ?_
  refine zr_getI zSm 31 rfl zf_11_161 rfl rfl (by decide) ?_
  refine zr_ic zSm 32 75 rfl rfl (fun q1 => ?_) (fun q1 => ?_)
  · have h := h.1 q1
    refine zr_iload_n zSm 46 rfl rfl ?_
    refine zr_s zSm 47 rfl rfl ?_
    refine zr_aload_n zSm 48 rfl rfl ?_
    refine zr_getI zSm 49 rfl zf_11_161 rfl rfl (by decide) ?_
    refine zr_s zSm 50 rfl rfl ?_
    obtain ⟨b51, h⟩ := h
    refine zr_ddiv zSm 51 rfl b51 ?_
    refine zr_dret zSm 52 rfl rfl ?_
    exact h
  · have h := h.2 q1
    refine zr_iload_n zSm 33 rfl rfl ?_
    refine zr_aload_n zSm 34 rfl rfl ?_
    refine zr_getR zSm 35 rfl zf_11_66 rfl rfl (by decide) ?_
    refine zr_bipush zSm 36 6 rfl rfl ?_
    refine zr_iload_n zSm 37 rfl rfl ?_
    refine zr_s zSm 38 rfl rfl ?_
    refine zr_iload_n zSm 39 rfl rfl ?_
    refine zr_s zSm 40 rfl rfl ?_
    obtain ⟨b41, h⟩ := h
    refine zr_iald zSm 41 rfl rfl b41 ?_
    refine zr_s zSm 42 rfl rfl ?_
    refine zr_istore_n zSm 43 (ll' := [(2, .int (l2 + (I 46 (((6 * l3) + l1).toNatClampNeg)))), (0, .ref 28), (1, .int l1), (3, .int l3)]) rfl (by decide) rfl ?_
    refine zr_iinc zSm 44 (v := l3 + 1) (ll' := [(3, .int (l3 + 1)), (2, .int (l2 + (I 46 (((6 * l3) + l1).toNatClampNeg)))), (0, .ref 28), (1, .int l1)]) rfl rfl (by decide) rfl rfl ?_
    refine zr_goto zSm 45 47 rfl rfl ?_
    refine zr_sub [2, 3, 1, 0] rfl ?_
    exact h
theorem w_219 {RO : zRo} {d : Nat} {P : zP} {I : zI} {J : zJ} {D : zD} {bc bs : Nat}  (h : zw RO (d + 2) 219 P 11 [(0, .ref 28), (1, .long 419), (3, .int 0)] [] (zu I 28 0 0) J D bc bs) : zz RO (d + 3) 219 [.ref 28] I J D bc bs P := by
  refine zT_of (Nat.le_of_ble_eq_true rfl) rfl ?_
  show zw RO (d + 2) 219 P 0 [(0, .ref 28)] [] I J D bc bs
  refine zr_aload_n zSm 0 rfl rfl ?_
  refine zr_s zSm 1 rfl rfl ?_
  refine zr_putI zSm 2 rfl zf_11_96 rfl rfl (by decide) zp_11_0 ?_
  refine zr_ldc2 zSm 3 rfl zc_11_461 ?_
  refine zr_lstore_n zSm 4 (ll' := [(1, .long 419), (0, .ref 28)]) rfl (by decide) rfl ?_
  refine zr_s zSm 5 rfl rfl ?_
  refine zr_istore_n zSm 6 (ll' := [(3, .int 0), (1, .long 419), (0, .ref 28)]) rfl (by decide) rfl ?_
  refine zr_sub [2, 1, 0] rfl ?_
  exact h
theorem wl_219_11 {RO : zRo} {d : Nat} {P : zP} {I : zI} {J : zJ} {D : zD} {bc bs : Nat} {l1 : Int64} {l3 : Int32} (h : ((10 ≤ l3 → zw RO (d + 2) 219 P 50 [(0, .ref 28), (1, .long ((l1 * 31) + ((zv_208 I J).toInt64))), (3, .int 0)] [] I J D bc bs) ∧ (¬ (10 ≤ l3) → zw RO (d + 2) 219 P 11 [(0, .ref 28), (1, .long ((l1 * 31) + ((zv_206 I J l3).toInt64))), (3, .int (l3 + 1))] [] I J D bc bs))) : zw RO (d + 2) 219 P 11 [(0, .ref 28), (1, .long l1), (3, .int l3)] [] I J D bc bs := by
  refine zr_iload_n zSm 7 rfl rfl ?_
  refine zr_bipush zSm 8 10 rfl rfl ?_
  refine zr_ic zSm 9 36 rfl rfl (fun q1 => ?_) (fun q1 => ?_)
  · have h := h.1 q1
    refine zr_lload_n zSm 21 rfl rfl ?_
    refine zr_ldc2 zSm 22 rfl zc_11_463 ?_
    refine zr_s zSm 23 rfl rfl ?_
    refine zr_aload_n zSm 24 rfl rfl ?_
    refine zr_inv0 25 208 0 [] rfl rfl zk_11_451 zms_208 rfl ⟨_, _, _, _, rfl, rfl⟩ (Nat.le_of_ble_eq_true rfl) ?_
    refine ze_208 ?_
    refine zNx_i ?_
    refine zr_s zSm 26 rfl rfl ?_
    refine zr_s zSm 27 rfl rfl ?_
    refine zr_lstore_n zSm 28 (ll' := [(1, .long ((l1 * 31) + ((zv_208 I J).toInt64))), (0, .ref 28), (3, .int l3)]) rfl (by decide) rfl ?_
    refine zr_s zSm 29 rfl rfl ?_
    refine zr_istore_n zSm 30 (ll' := [(3, .int 0), (1, .long ((l1 * 31) + ((zv_208 I J).toInt64))), (0, .ref 28)]) rfl (by decide) rfl ?_
    refine zr_sub [2, 1, 0] rfl ?_
    exact h
  · have h := h.2 q1
    refine zr_lload_n zSm 10 rfl rfl ?_
    refine zr_ldc2 zSm 11 rfl zc_11_463 ?_
    refine zr_s zSm 12 rfl rfl ?_
    refine zr_aload_n zSm 13 rfl rfl ?_
    refine zr_iload_n zSm 14 rfl rfl ?_
    refine zr_inv0 15 206 1 [.int l3] rfl rfl zk_11_448 zms_206 rfl ⟨_, _, _, _, rfl, rfl⟩ (Nat.le_of_ble_eq_true rfl) ?_
    refine ze_206 ?_
    refine zNx_i ?_
    refine zr_s zSm 16 rfl rfl ?_
    refine zr_s zSm 17 rfl rfl ?_
    refine zr_lstore_n zSm 18 (ll' := [(1, .long ((l1 * 31) + ((zv_206 I J l3).toInt64))), (0, .ref 28), (3, .int l3)]) rfl (by decide) rfl ?_
    refine zr_iinc zSm 19 (v := l3 + 1) (ll' := [(3, .int (l3 + 1)), (1, .long ((l1 * 31) + ((zv_206 I J l3).toInt64))), (0, .ref 28)]) rfl rfl (by decide) rfl rfl ?_
    refine zr_goto zSm 20 11 rfl rfl ?_
    refine zr_sub [2, 1, 0] rfl ?_
    exact h
theorem wl_219_50 {RO : zRo} {d : Nat} {P : zP} {I : zI} {J : zJ} {D : zD} {bc bs : Nat} {l1 : Int64} {l3 : Int32} (h : ((8 ≤ l3 → (((zv_195 I J) = 0 → zw RO (d + 2) 219 P 99 [(0, .ref 28), (1, .long ((l1 * 31) + 0)), (3, .int 0)] [] I J D bc bs) ∧ (¬ ((zv_195 I J) = 0) → zw RO (d + 2) 219 P 99 [(0, .ref 28), (1, .long ((l1 * 31) + (J 28 32))), (3, .int 0)] [] I J D bc bs))) ∧ (¬ (8 ≤ l3) → zw RO (d + 2) 219 P 50 [(0, .ref 28), (1, .long ((l1 * 31) + ((zv_210 I J l3).toInt64))), (3, .int (l3 + 1))] [] I J D bc bs))) : zw RO (d + 2) 219 P 50 [(0, .ref 28), (1, .long l1), (3, .int l3)] [] I J D bc bs := by
  refine zr_iload_n zSm 31 rfl rfl ?_
  refine zr_bipush zSm 32 8 rfl rfl ?_
  refine zr_ic zSm 33 75 rfl rfl (fun q1 => ?_) (fun q1 => ?_)
  · have h := h.1 q1
    refine zr_lload_n zSm 45 rfl rfl ?_
    refine zr_ldc2 zSm 46 rfl zc_11_463 ?_
    refine zr_s zSm 47 rfl rfl ?_
    refine zr_aload_n zSm 48 rfl rfl ?_
    refine zr_inv0 49 195 0 [] rfl rfl zk_11_422 zms_195 rfl ⟨_, _, _, _, rfl, rfl⟩ (Nat.le_of_ble_eq_true rfl) ?_
    refine ze_195 ?_
    refine zNx_i ?_
    refine zr_if zSm 50 94 rfl rfl (fun q2 => ?_) (fun q2 => ?_)
    · have h := h.1 q2
      refine zr_s zSm 54 rfl rfl ?_
      refine zr_s zSm 55 rfl rfl ?_
      refine zr_lstore_n zSm 56 (ll' := [(1, .long ((l1 * 31) + 0)), (0, .ref 28), (3, .int l3)]) rfl (by decide) rfl ?_
      refine zr_s zSm 57 rfl rfl ?_
      refine zr_istore_n zSm 58 (ll' := [(3, .int 0), (1, .long ((l1 * 31) + 0)), (0, .ref 28)]) rfl (by decide) rfl ?_
      refine zr_sub [2, 1, 0] rfl ?_
      exact h
    · have h := h.2 q2
      refine zr_aload_n zSm 51 rfl rfl ?_
      refine zr_getJ zSm 52 rfl zf_11_329 rfl rfl (by decide) ?_
      refine zr_goto zSm 53 95 rfl rfl ?_
      refine zr_s zSm 55 rfl rfl ?_
      refine zr_lstore_n zSm 56 (ll' := [(1, .long ((l1 * 31) + (J 28 32))), (0, .ref 28), (3, .int l3)]) rfl (by decide) rfl ?_
      refine zr_s zSm 57 rfl rfl ?_
      refine zr_istore_n zSm 58 (ll' := [(3, .int 0), (1, .long ((l1 * 31) + (J 28 32))), (0, .ref 28)]) rfl (by decide) rfl ?_
      refine zr_sub [2, 1, 0] rfl ?_
      exact h
  · have h := h.2 q1
    refine zr_lload_n zSm 34 rfl rfl ?_
    refine zr_ldc2 zSm 35 rfl zc_11_463 ?_
    refine zr_s zSm 36 rfl rfl ?_
    refine zr_aload_n zSm 37 rfl rfl ?_
    refine zr_iload_n zSm 38 rfl rfl ?_
    refine zr_inv0 39 210 1 [.int l3] rfl rfl zk_11_456 zms_210 rfl ⟨_, _, _, _, rfl, rfl⟩ (Nat.le_of_ble_eq_true rfl) ?_
    refine ze_210 ?_
    refine zNx_i ?_
    refine zr_s zSm 40 rfl rfl ?_
    refine zr_s zSm 41 rfl rfl ?_
    refine zr_lstore_n zSm 42 (ll' := [(1, .long ((l1 * 31) + ((zv_210 I J l3).toInt64))), (0, .ref 28), (3, .int l3)]) rfl (by decide) rfl ?_
    refine zr_iinc zSm 43 (v := l3 + 1) (ll' := [(3, .int (l3 + 1)), (1, .long ((l1 * 31) + ((zv_210 I J l3).toInt64))), (0, .ref 28)]) rfl rfl (by decide) rfl rfl ?_
    refine zr_goto zSm 44 50 rfl rfl ?_
    refine zr_sub [2, 1, 0] rfl ?_
    exact h
theorem wl_219_99 {RO : zRo} {d : Nat} {P : zP} {I : zI} {J : zJ} {D : zD} {bc bs : Nat} {l1 : Int64} {l3 : Int32} (h : (((I 28 30) ≤ l3 → zw RO (d + 2) 219 P 155 [(0, .ref 28), (1, .long l1), (3, .int 0)] [] I J D bc bs) ∧ (¬ ((I 28 30) ≤ l3) → zw RO (d + 2) 219 P 110 [(0, .ref 28), (1, .long l1), (3, .int l3), (4, .int 0)] [] I J D bc bs))) : zw RO (d + 2) 219 P 99 [(0, .ref 28), (1, .long l1), (3, .int l3)] [] I J D bc bs := by
  refine zr_iload_n zSm 59 rfl rfl ?_
  refine zr_aload_n zSm 60 rfl rfl ?_
  refine zr_getI zSm 61 rfl zf_11_161 rfl rfl (by decide) ?_
  refine zr_ic zSm 62 153 rfl rfl (fun q1 => ?_) (fun q1 => ?_)
  · have h := h.1 q1
    refine zr_s zSm 89 rfl rfl ?_
    refine zr_istore_n zSm 90 (ll' := [(3, .int 0), (0, .ref 28), (1, .long l1)]) rfl (by decide) rfl ?_
    refine zr_sub [1, 2, 0] rfl ?_
    exact h
  · have h := h.2 q1
    refine zr_s zSm 63 rfl rfl ?_
    refine zr_istore zSm 64 (ll' := [(4, .int 0), (0, .ref 28), (1, .long l1), (3, .int l3)]) rfl (by decide) rfl ?_
    refine zr_sub [1, 2, 3, 0] rfl ?_
    exact h
theorem wl_219_110 {RO : zRo} {d : Nat} {P : zP} {I : zI} {J : zJ} {D : zD} {bc bs : Nat} {l1 : Int64} {l3 l4 : Int32} (h : (((I 37 0) ≤ l4 → zw RO (d + 2) 219 P 99 [(0, .ref 28), (1, .long l1), (3, .int (l3 + 1))] [] I J D bc bs) ∧ (¬ ((I 37 0) ≤ l4) → (vp_in ((6 * l3) + l4) 24 ∧ zw RO (d + 2) 219 P 110 [(0, .ref 28), (1, .long ((l1 * 31) + ((I 46 (((6 * l3) + l4).toNatClampNeg)).toInt64))), (3, .int l3), (4, .int (l4 + 1))] [] I J D bc bs)))) : zw RO (d + 2) 219 P 110 [(0, .ref 28), (1, .long l1), (3, .int l3), (4, .int l4)] [] I J D bc bs := by
  refine zr_iload zSm 65 rfl rfl ?_
  refine zr_aload_n zSm 66 rfl rfl ?_
  refine zr_getR zSm 67 rfl zf_11_35 rfl rfl (by decide) ?_
  refine zr_s zSm 68 rfl rfl ?_
  refine zr_iald zSm 69 rfl rfl (zin_lit (by decide) (by decide)) ?_
  refine zr_ic zSm 70 147 rfl rfl (fun q1 => ?_) (fun q1 => ?_)
  · have h := h.1 q1
    refine zr_iinc zSm 87 (v := l3 + 1) (ll' := [(3, .int (l3 + 1)), (0, .ref 28), (1, .long l1), (4, .int l4)]) rfl rfl (by decide) rfl rfl ?_
    refine zr_goto zSm 88 99 rfl rfl ?_
    refine zr_sub [1, 2, 0] rfl ?_
    exact h
  · have h := h.2 q1
    refine zr_lload_n zSm 71 rfl rfl ?_
    refine zr_ldc2 zSm 72 rfl zc_11_463 ?_
    refine zr_s zSm 73 rfl rfl ?_
    refine zr_aload_n zSm 74 rfl rfl ?_
    refine zr_getR zSm 75 rfl zf_11_66 rfl rfl (by decide) ?_
    refine zr_bipush zSm 76 6 rfl rfl ?_
    refine zr_iload_n zSm 77 rfl rfl ?_
    refine zr_s zSm 78 rfl rfl ?_
    refine zr_iload zSm 79 rfl rfl ?_
    refine zr_s zSm 80 rfl rfl ?_
    obtain ⟨b81, h⟩ := h
    refine zr_iald zSm 81 rfl rfl b81 ?_
    refine zr_s zSm 82 rfl rfl ?_
    refine zr_s zSm 83 rfl rfl ?_
    refine zr_lstore_n zSm 84 (ll' := [(1, .long ((l1 * 31) + ((I 46 (((6 * l3) + l4).toNatClampNeg)).toInt64))), (0, .ref 28), (3, .int l3), (4, .int l4)]) rfl (by decide) rfl ?_
    refine zr_iinc zSm 85 (v := l4 + 1) (ll' := [(4, .int (l4 + 1)), (1, .long ((l1 * 31) + ((I 46 (((6 * l3) + l4).toNatClampNeg)).toInt64))), (0, .ref 28), (3, .int l3)]) rfl rfl (by decide) rfl rfl ?_
    refine zr_goto zSm 86 110 rfl rfl ?_
    refine zr_sub [2, 1, 3, 0] rfl ?_
    exact h
theorem wl_219_155 {RO : zRo} {d : Nat} {P : zP} {I : zI} {J : zJ} {D : zD} {bc bs : Nat} {l1 : Int64} {l3 : Int32} (h : (((I 37 1) ≤ l3 → zw RO (d + 2) 219 P 194 [(0, .ref 28), (1, .long l1), (3, .int 0)] [] I J D bc bs) ∧ (¬ ((I 37 1) ≤ l3) → (((zv_195 I J) = 0 → zw RO (d + 2) 219 P 194 [(0, .ref 28), (1, .long l1), (3, .int 0)] [] I J D bc bs) ∧ (¬ ((zv_195 I J) = 0) → (vp_in l3 6 ∧ zw RO (d + 2) 219 P 155 [(0, .ref 28), (1, .long ((l1 * 31) + ((I 47 l3.toNatClampNeg).toInt64))), (3, .int (l3 + 1))] [] I J D bc bs)))))) : zw RO (d + 2) 219 P 155 [(0, .ref 28), (1, .long l1), (3, .int l3)] [] I J D bc bs := by
  refine zr_iload_n zSm 91 rfl rfl ?_
  refine zr_aload_n zSm 92 rfl rfl ?_
  refine zr_getR zSm 93 rfl zf_11_35 rfl rfl (by decide) ?_
  refine zr_s zSm 94 rfl rfl ?_
  refine zr_iald zSm 95 rfl rfl (zin_lit (by decide) (by decide)) ?_
  refine zr_ic zSm 96 192 rfl rfl (fun q1 => ?_) (fun q1 => ?_)
  · have h := h.1 q1
    refine zr_s zSm 112 rfl rfl ?_
    refine zr_istore_n zSm 113 (ll' := [(3, .int 0), (0, .ref 28), (1, .long l1)]) rfl (by decide) rfl ?_
    refine zr_sub [1, 2, 0] rfl ?_
    exact h
  · have h := h.2 q1
    refine zr_aload_n zSm 97 rfl rfl ?_
    refine zr_inv0 98 195 0 [] rfl rfl zk_11_422 zms_195 rfl ⟨_, _, _, _, rfl, rfl⟩ (Nat.le_of_ble_eq_true rfl) ?_
    refine ze_195 ?_
    refine zNx_i ?_
    refine zr_if zSm 99 192 rfl rfl (fun q2 => ?_) (fun q2 => ?_)
    · have h := h.1 q2
      refine zr_s zSm 112 rfl rfl ?_
      refine zr_istore_n zSm 113 (ll' := [(3, .int 0), (0, .ref 28), (1, .long l1)]) rfl (by decide) rfl ?_
      refine zr_sub [1, 2, 0] rfl ?_
      exact h
    · have h := h.2 q2
      refine zr_lload_n zSm 100 rfl rfl ?_
      refine zr_ldc2 zSm 101 rfl zc_11_463 ?_
      refine zr_s zSm 102 rfl rfl ?_
      refine zr_aload_n zSm 103 rfl rfl ?_
      refine zr_getR zSm 104 rfl zf_11_69 rfl rfl (by decide) ?_
      refine zr_iload_n zSm 105 rfl rfl ?_
      obtain ⟨b106, h⟩ := h
      refine zr_iald zSm 106 rfl rfl b106 ?_
      refine zr_s zSm 107 rfl rfl ?_
      refine zr_s zSm 108 rfl rfl ?_
      refine zr_lstore_n zSm 109 (ll' := [(1, .long ((l1 * 31) + ((I 47 l3.toNatClampNeg).toInt64))), (0, .ref 28), (3, .int l3)]) rfl (by decide) rfl ?_
      refine zr_iinc zSm 110 (v := l3 + 1) (ll' := [(3, .int (l3 + 1)), (1, .long ((l1 * 31) + ((I 47 l3.toNatClampNeg).toInt64))), (0, .ref 28)]) rfl rfl (by decide) rfl rfl ?_
      refine zr_goto zSm 111 155 rfl rfl ?_
      refine zr_sub [2, 1, 0] rfl ?_
      exact h
theorem wl_219_194 {RO : zRo} {d : Nat} {P : zP} {I : zI} {J : zJ} {D : zD} {bc bs : Nat} {l1 : Int64} {l3 : Int32} (h : (((4 * (I 28 45)) ≤ l3 → zw RO (d + 2) 219 P 226 [(0, .ref 28), (1, .long l1), (3, .int 0)] [] I J D bc bs) ∧ (¬ ((4 * (I 28 45)) ≤ l3) → (vp_in l3 40 ∧ zw RO (d + 2) 219 P 194 [(0, .ref 28), (1, .long ((l1 * 31) + ((I 48 l3.toNatClampNeg).toInt64))), (3, .int (l3 + 1))] [] I J D bc bs)))) : zw RO (d + 2) 219 P 194 [(0, .ref 28), (1, .long l1), (3, .int l3)] [] I J D bc bs := by
  refine zr_iload_n zSm 114 rfl rfl ?_
  refine zr_s zSm 115 rfl rfl ?_
  refine zr_aload_n zSm 116 rfl rfl ?_
  refine zr_getI zSm 117 rfl zf_11_167 rfl rfl (by decide) ?_
  refine zr_s zSm 118 rfl rfl ?_
  refine zr_ic zSm 119 224 rfl rfl (fun q1 => ?_) (fun q1 => ?_)
  · have h := h.1 q1
    refine zr_s zSm 132 rfl rfl ?_
    refine zr_istore_n zSm 133 (ll' := [(3, .int 0), (0, .ref 28), (1, .long l1)]) rfl (by decide) rfl ?_
    refine zr_sub [1, 2, 0] rfl ?_
    exact h
  · have h := h.2 q1
    refine zr_lload_n zSm 120 rfl rfl ?_
    refine zr_ldc2 zSm 121 rfl zc_11_463 ?_
    refine zr_s zSm 122 rfl rfl ?_
    refine zr_aload_n zSm 123 rfl rfl ?_
    refine zr_getR zSm 124 rfl zf_11_72 rfl rfl (by decide) ?_
    refine zr_iload_n zSm 125 rfl rfl ?_
    obtain ⟨b126, h⟩ := h
    refine zr_iald zSm 126 rfl rfl b126 ?_
    refine zr_s zSm 127 rfl rfl ?_
    refine zr_s zSm 128 rfl rfl ?_
    refine zr_lstore_n zSm 129 (ll' := [(1, .long ((l1 * 31) + ((I 48 l3.toNatClampNeg).toInt64))), (0, .ref 28), (3, .int l3)]) rfl (by decide) rfl ?_
    refine zr_iinc zSm 130 (v := l3 + 1) (ll' := [(3, .int (l3 + 1)), (1, .long ((l1 * 31) + ((I 48 l3.toNatClampNeg).toInt64))), (0, .ref 28)]) rfl rfl (by decide) rfl rfl ?_
    refine zr_goto zSm 131 194 rfl rfl ?_
    refine zr_sub [2, 1, 0] rfl ?_
    exact h
theorem wl_219_226 {RO : zRo} {d : Nat} {P : zP} {I : zI} {J : zJ} {D : zD} {bc bs : Nat} {l1 : Int64} {l3 : Int32} (h : (((4 * (I 28 47)) ≤ l3 → P (.inl (some (.long l1))) I J D) ∧ (¬ ((4 * (I 28 47)) ≤ l3) → (vp_in l3 1000 ∧ zw RO (d + 2) 219 P 226 [(0, .ref 28), (1, .long ((l1 * 31) + ((I 49 l3.toNatClampNeg).toInt64))), (3, .int (l3 + 1))] [] I J D bc bs)))) : zw RO (d + 2) 219 P 226 [(0, .ref 28), (1, .long l1), (3, .int l3)] [] I J D bc bs := by
  refine zr_iload_n zSm 134 rfl rfl ?_
  refine zr_s zSm 135 rfl rfl ?_
  refine zr_aload_n zSm 136 rfl rfl ?_
  refine zr_getI zSm 137 rfl zf_11_164 rfl rfl (by decide) ?_
  refine zr_s zSm 138 rfl rfl ?_
  refine zr_ic zSm 139 256 rfl rfl (fun q1 => ?_) (fun q1 => ?_)
  · have h := h.1 q1
    refine zr_lload_n zSm 152 rfl rfl ?_
    refine zr_lret zSm 153 rfl rfl ?_
    exact h
  · have h := h.2 q1
    refine zr_lload_n zSm 140 rfl rfl ?_
    refine zr_ldc2 zSm 141 rfl zc_11_463 ?_
    refine zr_s zSm 142 rfl rfl ?_
    refine zr_aload_n zSm 143 rfl rfl ?_
    refine zr_getR zSm 144 rfl zf_11_75 rfl rfl (by decide) ?_
    refine zr_iload_n zSm 145 rfl rfl ?_
    obtain ⟨b146, h⟩ := h
    refine zr_iald zSm 146 rfl rfl b146 ?_
    refine zr_s zSm 147 rfl rfl ?_
    refine zr_s zSm 148 rfl rfl ?_
    refine zr_lstore_n zSm 149 (ll' := [(1, .long ((l1 * 31) + ((I 49 l3.toNatClampNeg).toInt64))), (0, .ref 28), (3, .int l3)]) rfl (by decide) rfl ?_
    refine zr_iinc zSm 150 (v := l3 + 1) (ll' := [(3, .int (l3 + 1)), (1, .long ((l1 * 31) + ((I 49 l3.toNatClampNeg).toInt64))), (0, .ref 28)]) rfl rfl (by decide) rfl rfl ?_
    refine zr_goto zSm 151 226 rfl rfl ?_
    refine zr_sub [2, 1, 0] rfl ?_
    exact h

/-! ===== written by wip/whole/lay15.py: walks, a formula each ===== -/
theorem w_1 {RO : zRo} {d : Nat} {P : zP} {I : zI} {J : zJ} {D : zD} {bc bs : Nat} {p0 p1 : Int32} (h : (((I 8 2) < 0 → P (.inl (some (.int (I 8 2)))) I J D) ∧ (¬ ((I 8 2) < 0) → ((450 ≤ (I 8 2) → P (.inl (some (.int (I 8 2)))) I J D) ∧ (¬ (450 ≤ (I 8 2)) → P (.inl (some (.int (I 8 2)))) (zu (zu (zu I 9 ((I 8 2).toNatClampNeg) p0) 10 ((I 8 2).toNatClampNeg) p1) 8 2 ((I 8 2) + 1)) J D))))) : zz RO (d + 1) 1 [.ref 8, .int p0, .int p1] I J D bc bs P := by
  refine zT_of (Nat.le_of_ble_eq_true rfl) rfl ?_
  show zw RO d 1 P 0 [(0, .ref 8), (1, .int p0), (2, .int p1)] [] I J D bc bs
  refine zr_aload_n zSm 0 rfl rfl ?_
  refine zr_getI zSm 1 rfl zf_0_18 rfl rfl (by decide) ?_
  refine zr_istore_n zSm 2 (ll' := [(3, .int (I 8 2)), (0, .ref 8), (1, .int p0), (2, .int p1)]) rfl (by decide) rfl ?_
  refine zr_iload_n zSm 3 rfl rfl ?_
  refine zr_if zSm 4 48 rfl rfl (fun q1 => ?_) (fun q1 => ?_)
  · have h := h.1 q1
    refine zr_iload_n zSm 30 rfl rfl ?_
    refine zr_iret zSm 31 rfl rfl rfl ?_
    exact h
  · have h := h.2 q1
    refine zr_iload_n zSm 5 rfl rfl ?_
    refine zr_aload_n zSm 6 rfl rfl ?_
    refine zr_getR zSm 7 rfl zf_0_9 rfl rfl (by decide) ?_
    refine zr_alen zSm 8 450 rfl rfl rfl ?_
    refine zr_ic zSm 9 48 rfl rfl (fun q2 => ?_) (fun q2 => ?_)
    · have h := h.1 q2
      refine zr_iload_n zSm 30 rfl rfl ?_
      refine zr_iret zSm 31 rfl rfl rfl ?_
      exact h
    · have h := h.2 q2
      refine zr_iload_n zSm 10 rfl rfl ?_
      refine zr_aload_n zSm 11 rfl rfl ?_
      refine zr_getR zSm 12 rfl zf_0_15 rfl rfl (by decide) ?_
      refine zr_alen zSm 13 450 rfl rfl rfl ?_
      refine zr_ic zSm 14 48 rfl rfl (fun q3 => ?_) (fun q3 => ?_)
      · exact absurd q3 q2
      · refine zr_aload_n zSm 15 rfl rfl ?_
        refine zr_getR zSm 16 rfl zf_0_9 rfl rfl (by decide) ?_
        refine zr_iload_n zSm 17 rfl rfl ?_
        refine zr_iload_n zSm 18 rfl rfl ?_
        refine zr_iast zSm 19 rfl rfl (zin (zlo1 q1) (zhi1 q3) (by decide)) ?_
        refine zr_aload_n zSm 20 rfl rfl ?_
        refine zr_getR zSm 21 rfl zf_0_15 rfl rfl (by decide) ?_
        refine zr_iload_n zSm 22 rfl rfl ?_
        refine zr_iload_n zSm 23 rfl rfl ?_
        refine zr_iast zSm 24 rfl rfl (zin (zlo1 q1) (zhi1 q3) (by decide)) ?_
        refine zr_aload_n zSm 25 rfl rfl ?_
        refine zr_iload_n zSm 26 rfl rfl ?_
        refine zr_s zSm 27 rfl rfl ?_
        refine zr_s zSm 28 rfl rfl ?_
        refine zr_putI zSm 29 rfl zf_0_18 rfl rfl (by decide) zp_0_2 ?_
        refine zr_iload_n zSm 30 rfl rfl ?_
        refine zr_iret zSm 31 rfl rfl rfl ?_
        exact h
theorem w_2 {RO : zRo} {d : Nat} {P : zP} {I : zI} {J : zJ} {D : zD} {bc bs : Nat} {p0 : Int32} (h : ((p0 < 0 → P (.inl none) I J D) ∧ (¬ (p0 < 0) → (((I 8 2) ≤ p0 → P (.inl none) I J D) ∧ (¬ ((I 8 2) ≤ p0) → ((450 ≤ p0 → P (.inl none) I J D) ∧ (¬ (450 ≤ p0) → P (.inl none) (zu I 10 p0.toNatClampNeg (I 8 2)) J D))))))) : zz RO (d + 1) 2 [.ref 8, .int p0] I J D bc bs P := by
  refine zT_of (Nat.le_of_ble_eq_true rfl) rfl ?_
  show zw RO d 2 P 0 [(0, .ref 8), (1, .int p0)] [] I J D bc bs
  refine zr_iload_n zSm 0 rfl rfl ?_
  refine zr_if zSm 1 31 rfl rfl (fun q1 => ?_) (fun q1 => ?_)
  · have h := h.1 q1
    refine zr_vret zSm 17 rfl rfl ?_
    exact h
  · have h := h.2 q1
    refine zr_iload_n zSm 2 rfl rfl ?_
    refine zr_aload_n zSm 3 rfl rfl ?_
    refine zr_getI zSm 4 rfl zf_0_18 rfl rfl (by decide) ?_
    refine zr_ic zSm 5 31 rfl rfl (fun q2 => ?_) (fun q2 => ?_)
    · have h := h.1 q2
      refine zr_vret zSm 17 rfl rfl ?_
      exact h
    · have h := h.2 q2
      refine zr_iload_n zSm 6 rfl rfl ?_
      refine zr_aload_n zSm 7 rfl rfl ?_
      refine zr_getR zSm 8 rfl zf_0_15 rfl rfl (by decide) ?_
      refine zr_alen zSm 9 450 rfl rfl rfl ?_
      refine zr_ic zSm 10 31 rfl rfl (fun q3 => ?_) (fun q3 => ?_)
      · have h := h.1 q3
        refine zr_vret zSm 17 rfl rfl ?_
        exact h
      · have h := h.2 q3
        refine zr_aload_n zSm 11 rfl rfl ?_
        refine zr_getR zSm 12 rfl zf_0_15 rfl rfl (by decide) ?_
        refine zr_iload_n zSm 13 rfl rfl ?_
        refine zr_aload_n zSm 14 rfl rfl ?_
        refine zr_getI zSm 15 rfl zf_0_18 rfl rfl (by decide) ?_
        refine zr_iast zSm 16 rfl rfl (zin (zlo1 q1) (zhi1 q3) (by decide)) ?_
        refine zr_vret zSm 17 rfl rfl ?_
        exact h
theorem w_5 {RO : zRo} {d : Nat} {P : zP} {I : zI} {J : zJ} {D : zD} {bc bs : Nat}  (h : zw RO (d + 1) 5 P 2 [(0, .ref 8), (1, .ref 3), (2, .int 0)] [] I J D bc bs) : zz RO (d + 2) 5 [.ref 8, .ref 3] I J D bc bs P := by
  refine zT_of (Nat.le_of_ble_eq_true rfl) rfl ?_
  show zw RO (d + 1) 5 P 0 [(0, .ref 8), (1, .ref 3)] [] I J D bc bs
  refine zr_s zSm 0 rfl rfl ?_
  refine zr_istore_n zSm 1 (ll' := [(2, .int 0), (0, .ref 8), (1, .ref 3)]) rfl (by decide) rfl ?_
  refine zr_sub [1, 2, 0] rfl ?_
  exact h
theorem wl_5_2 {RO : zRo} {d : Nat} {P : zP} {I : zI} {J : zJ} {D : zD} {bc bs : Nat} {l2 : Int32} (h : (((I 8 2) ≤ l2 → P (.inl none) I J D) ∧ (¬ ((I 8 2) ≤ l2) → ((450 ≤ l2 → P (.inl none) I J D) ∧ (¬ (450 ≤ l2) → (((zv_3 I J l2) = 3 → (vp_in l2 450 ∧ (vp_in l2 450 ∧ zw RO (d + 1) 5 P 2 [(0, .ref 8), (1, .ref 3), (2, .int (l2 + 1))] [] (zu I 10 l2.toNatClampNeg ((zv_95 I J (I 10 l2.toNatClampNeg)).toInt32)) J D bc bs))) ∧ (¬ ((zv_3 I J l2) = 3) → (((zv_3 I J l2) = 2 → (vp_in l2 450 ∧ (vp_in l2 450 ∧ zw RO (d + 1) 5 P 2 [(0, .ref 8), (1, .ref 3), (2, .int (l2 + 1))] [] (zu I 10 l2.toNatClampNeg ((zv_95 I J (I 10 l2.toNatClampNeg)).toInt32)) J D bc bs))) ∧ (¬ ((zv_3 I J l2) = 2) → (((zv_3 I J l2) = 16 → (vp_in l2 450 ∧ (vp_in l2 450 ∧ zw RO (d + 1) 5 P 2 [(0, .ref 8), (1, .ref 3), (2, .int (l2 + 1))] [] (zu I 10 l2.toNatClampNeg ((zv_95 I J (I 10 l2.toNatClampNeg)).toInt32)) J D bc bs))) ∧ (¬ ((zv_3 I J l2) = 16) → ((¬ (zv_3 I J l2) = 17 → zw RO (d + 1) 5 P 2 [(0, .ref 8), (1, .ref 3), (2, .int (l2 + 1))] [] I J D bc bs) ∧ (¬ (¬ (zv_3 I J l2) = 17) → (vp_in l2 450 ∧ (vp_in l2 450 ∧ zw RO (d + 1) 5 P 2 [(0, .ref 8), (1, .ref 3), (2, .int (l2 + 1))] [] (zu I 10 l2.toNatClampNeg ((zv_95 I J (I 10 l2.toNatClampNeg)).toInt32)) J D bc bs))))))))))))))) : zw RO (d + 1) 5 P 2 [(0, .ref 8), (1, .ref 3), (2, .int l2)] [] I J D bc bs := by
  refine zr_iload_n zSm 2 rfl rfl ?_
  refine zr_aload_n zSm 3 rfl rfl ?_
  refine zr_getI zSm 4 rfl zf_0_18 rfl rfl (by decide) ?_
  refine zr_ic zSm 5 70 rfl rfl (fun q1 => ?_) (fun q1 => ?_)
  · have h := h.1 q1
    refine zr_vret zSm 40 rfl rfl ?_
    exact h
  · have h := h.2 q1
    refine zr_iload_n zSm 6 rfl rfl ?_
    refine zr_aload_n zSm 7 rfl rfl ?_
    refine zr_getR zSm 8 rfl zf_0_15 rfl rfl (by decide) ?_
    refine zr_alen zSm 9 450 rfl rfl rfl ?_
    refine zr_ic zSm 10 70 rfl rfl (fun q2 => ?_) (fun q2 => ?_)
    · have h := h.1 q2
      refine zr_vret zSm 40 rfl rfl ?_
      exact h
    · have h := h.2 q2
      refine zr_aload_n zSm 11 rfl rfl ?_
      refine zr_iload_n zSm 12 rfl rfl ?_
      refine zr_inv0 13 3 1 [.int l2] rfl rfl zk_0_22 zms_3 rfl ⟨_, _, _, _, rfl, rfl⟩ (Nat.le_of_ble_eq_true rfl) ?_
      refine ze_3 ?_
      refine zNx_i ?_
      refine zr_istore_n zSm 14 (ll' := [(3, .int (zv_3 I J l2)), (0, .ref 8), (1, .ref 3), (2, .int l2)]) rfl (by decide) rfl ?_
      refine zr_iload_n zSm 15 rfl rfl ?_
      refine zr_s zSm 16 rfl rfl ?_
      refine zr_ic zSm 17 47 rfl rfl (fun q3 => ?_) (fun q3 => ?_)
      · have h := h.1 q3
        refine zr_aload_n zSm 27 rfl rfl ?_
        refine zr_getR zSm 28 rfl zf_0_15 rfl rfl (by decide) ?_
        refine zr_iload_n zSm 29 rfl rfl ?_
        refine zr_aload_n zSm 30 rfl rfl ?_
        refine zr_aload_n zSm 31 rfl rfl ?_
        refine zr_getR zSm 32 rfl zf_0_15 rfl rfl (by decide) ?_
        refine zr_iload_n zSm 33 rfl rfl ?_
        obtain ⟨b34, h⟩ := h
        refine zr_iald zSm 34 rfl rfl b34 ?_
        refine zr_inv0 35 95 1 [.int (I 10 l2.toNatClampNeg)] rfl rfl zk_0_26 zms_95 rfl ⟨_, _, _, _, rfl, rfl⟩ (Nat.le_of_ble_eq_true rfl) ?_
        refine ze_95 ?_
        refine zNx_l ?_
        refine zr_s zSm 36 rfl rfl ?_
        obtain ⟨b37, h⟩ := h
        refine zr_iast zSm 37 rfl rfl b37 ?_
        refine zr_iinc zSm 38 (v := l2 + 1) (ll' := [(2, .int (l2 + 1)), (3, .int (zv_3 I J l2)), (0, .ref 8), (1, .ref 3)]) rfl rfl (by decide) rfl rfl ?_
        refine zr_goto zSm 39 2 rfl rfl ?_
        refine zr_sub [2, 3, 0] rfl ?_
        exact h
      · have h := h.2 q3
        refine zr_iload_n zSm 18 rfl rfl ?_
        refine zr_s zSm 19 rfl rfl ?_
        refine zr_ic zSm 20 47 rfl rfl (fun q4 => ?_) (fun q4 => ?_)
        · have h := h.1 q4
          refine zr_aload_n zSm 27 rfl rfl ?_
          refine zr_getR zSm 28 rfl zf_0_15 rfl rfl (by decide) ?_
          refine zr_iload_n zSm 29 rfl rfl ?_
          refine zr_aload_n zSm 30 rfl rfl ?_
          refine zr_aload_n zSm 31 rfl rfl ?_
          refine zr_getR zSm 32 rfl zf_0_15 rfl rfl (by decide) ?_
          refine zr_iload_n zSm 33 rfl rfl ?_
          obtain ⟨b34, h⟩ := h
          refine zr_iald zSm 34 rfl rfl b34 ?_
          refine zr_inv0 35 95 1 [.int (I 10 l2.toNatClampNeg)] rfl rfl zk_0_26 zms_95 rfl ⟨_, _, _, _, rfl, rfl⟩ (Nat.le_of_ble_eq_true rfl) ?_
          refine ze_95 ?_
          refine zNx_l ?_
          refine zr_s zSm 36 rfl rfl ?_
          obtain ⟨b37, h⟩ := h
          refine zr_iast zSm 37 rfl rfl b37 ?_
          refine zr_iinc zSm 38 (v := l2 + 1) (ll' := [(2, .int (l2 + 1)), (3, .int (zv_3 I J l2)), (0, .ref 8), (1, .ref 3)]) rfl rfl (by decide) rfl rfl ?_
          refine zr_goto zSm 39 2 rfl rfl ?_
          refine zr_sub [2, 3, 0] rfl ?_
          exact h
        · have h := h.2 q4
          refine zr_iload_n zSm 21 rfl rfl ?_
          refine zr_bipush zSm 22 16 rfl rfl ?_
          refine zr_ic zSm 23 47 rfl rfl (fun q5 => ?_) (fun q5 => ?_)
          · have h := h.1 q5
            refine zr_aload_n zSm 27 rfl rfl ?_
            refine zr_getR zSm 28 rfl zf_0_15 rfl rfl (by decide) ?_
            refine zr_iload_n zSm 29 rfl rfl ?_
            refine zr_aload_n zSm 30 rfl rfl ?_
            refine zr_aload_n zSm 31 rfl rfl ?_
            refine zr_getR zSm 32 rfl zf_0_15 rfl rfl (by decide) ?_
            refine zr_iload_n zSm 33 rfl rfl ?_
            obtain ⟨b34, h⟩ := h
            refine zr_iald zSm 34 rfl rfl b34 ?_
            refine zr_inv0 35 95 1 [.int (I 10 l2.toNatClampNeg)] rfl rfl zk_0_26 zms_95 rfl ⟨_, _, _, _, rfl, rfl⟩ (Nat.le_of_ble_eq_true rfl) ?_
            refine ze_95 ?_
            refine zNx_l ?_
            refine zr_s zSm 36 rfl rfl ?_
            obtain ⟨b37, h⟩ := h
            refine zr_iast zSm 37 rfl rfl b37 ?_
            refine zr_iinc zSm 38 (v := l2 + 1) (ll' := [(2, .int (l2 + 1)), (3, .int (zv_3 I J l2)), (0, .ref 8), (1, .ref 3)]) rfl rfl (by decide) rfl rfl ?_
            refine zr_goto zSm 39 2 rfl rfl ?_
            refine zr_sub [2, 3, 0] rfl ?_
            exact h
          · have h := h.2 q5
            refine zr_iload_n zSm 24 rfl rfl ?_
            refine zr_bipush zSm 25 17 rfl rfl ?_
            refine zr_ic zSm 26 64 rfl rfl (fun q6 => ?_) (fun q6 => ?_)
            · have h := h.1 q6
              refine zr_iinc zSm 38 (v := l2 + 1) (ll' := [(2, .int (l2 + 1)), (3, .int (zv_3 I J l2)), (0, .ref 8), (1, .ref 3)]) rfl rfl (by decide) rfl rfl ?_
              refine zr_goto zSm 39 2 rfl rfl ?_
              refine zr_sub [2, 3, 0] rfl ?_
              exact h
            · have h := h.2 q6
              refine zr_aload_n zSm 27 rfl rfl ?_
              refine zr_getR zSm 28 rfl zf_0_15 rfl rfl (by decide) ?_
              refine zr_iload_n zSm 29 rfl rfl ?_
              refine zr_aload_n zSm 30 rfl rfl ?_
              refine zr_aload_n zSm 31 rfl rfl ?_
              refine zr_getR zSm 32 rfl zf_0_15 rfl rfl (by decide) ?_
              refine zr_iload_n zSm 33 rfl rfl ?_
              obtain ⟨b34, h⟩ := h
              refine zr_iald zSm 34 rfl rfl b34 ?_
              refine zr_inv0 35 95 1 [.int (I 10 l2.toNatClampNeg)] rfl rfl zk_0_26 zms_95 rfl ⟨_, _, _, _, rfl, rfl⟩ (Nat.le_of_ble_eq_true rfl) ?_
              refine ze_95 ?_
              refine zNx_l ?_
              refine zr_s zSm 36 rfl rfl ?_
              obtain ⟨b37, h⟩ := h
              refine zr_iast zSm 37 rfl rfl b37 ?_
              refine zr_iinc zSm 38 (v := l2 + 1) (ll' := [(2, .int (l2 + 1)), (3, .int (zv_3 I J l2)), (0, .ref 8), (1, .ref 3)]) rfl rfl (by decide) rfl rfl ?_
              refine zr_goto zSm 39 2 rfl rfl ?_
              refine zr_sub [2, 3, 0] rfl ?_
              exact h
theorem w_89 {RO : zRo} {d : Nat} {P : zP} {I : zI} {J : zJ} {D : zD} {bc bs : Nat} {p0 : Int32} (h : zw RO d 89 P 3 [(0, .ref 1), (1, .int p0), (2, .int 24)] [] I J D bc bs) : zz RO (d + 1) 89 [.ref 1, .int p0] I J D bc bs P := by
  refine zT_of (Nat.le_of_ble_eq_true rfl) rfl ?_
  show zw RO d 89 P 0 [(0, .ref 1), (1, .int p0)] [] I J D bc bs
  refine zr_bipush zSm 0 24 rfl rfl ?_
  refine zr_istore_n zSm 1 (ll' := [(2, .int 24), (0, .ref 1), (1, .int p0)]) rfl (by decide) rfl ?_
  refine zr_sub [1, 2, 0] rfl ?_
  exact h
theorem wl_89_3 {RO : zRo} {d : Nat} {P : zP} {I : zI} {J : zJ} {D : zD} {bc bs : Nat} {l1 l2 : Int32} (h : ((l2 < 0 → P (.inl none) I J D) ∧ (¬ (l2 < 0) → (((I 1 1) < 0 → zw RO d 89 P 3 [(0, .ref 1), (1, .int l1), (2, .int (l2 + (-8)))] [] I J D bc bs) ∧ (¬ ((I 1 1) < 0) → ((2000 ≤ (I 1 1) → zw RO d 89 P 3 [(0, .ref 1), (1, .int l1), (2, .int (l2 + (-8)))] [] I J D bc bs) ∧ (¬ (2000 ≤ (I 1 1)) → zw RO d 89 P 3 [(0, .ref 1), (1, .int l1), (2, .int (l2 + (-8)))] [] (zu (zu I 2 ((I 1 1).toNatClampNeg) (vp_nar .byte (((l1.toUInt32 >>> (l2.toUInt32 &&& Int32.toUInt32 31)).toInt32).toInt8.toInt32))) 1 1 ((I 1 1) + 1)) J D bc bs))))))) : zw RO d 89 P 3 [(0, .ref 1), (1, .int l1), (2, .int l2)] [] I J D bc bs := by
  refine zr_iload_n zSm 2 rfl rfl ?_
  refine zr_if zSm 3 55 rfl rfl (fun q1 => ?_) (fun q1 => ?_)
  · have h := h.1 q1
    refine zr_vret zSm 30 rfl rfl ?_
    exact h
  · have h := h.2 q1
    refine zr_aload_n zSm 4 rfl rfl ?_
    refine zr_getI zSm 5 rfl zf_7_15 rfl rfl (by decide) ?_
    refine zr_if zSm 6 49 rfl rfl (fun q2 => ?_) (fun q2 => ?_)
    · have h := h.1 q2
      refine zr_iinc zSm 28 (v := l2 + (-8)) (ll' := [(2, .int (l2 + (-8))), (0, .ref 1), (1, .int l1)]) rfl rfl (by decide) rfl rfl ?_
      refine zr_goto zSm 29 3 rfl rfl ?_
      refine zr_sub [1, 2, 0] rfl ?_
      exact h
    · have h := h.2 q2
      refine zr_aload_n zSm 7 rfl rfl ?_
      refine zr_getI zSm 8 rfl zf_7_15 rfl rfl (by decide) ?_
      refine zr_aload_n zSm 9 rfl rfl ?_
      refine zr_getR zSm 10 rfl zf_7_9 rfl rfl (by decide) ?_
      refine zr_alen zSm 11 2000 rfl rfl rfl ?_
      refine zr_ic zSm 12 49 rfl rfl (fun q3 => ?_) (fun q3 => ?_)
      · have h := h.1 q3
        refine zr_iinc zSm 28 (v := l2 + (-8)) (ll' := [(2, .int (l2 + (-8))), (0, .ref 1), (1, .int l1)]) rfl rfl (by decide) rfl rfl ?_
        refine zr_goto zSm 29 3 rfl rfl ?_
        refine zr_sub [1, 2, 0] rfl ?_
        exact h
      · have h := h.2 q3
        refine zr_aload_n zSm 13 rfl rfl ?_
        refine zr_getR zSm 14 rfl zf_7_9 rfl rfl (by decide) ?_
        refine zr_aload_n zSm 15 rfl rfl ?_
        refine zr_getI zSm 16 rfl zf_7_15 rfl rfl (by decide) ?_
        refine zr_iload_n zSm 17 rfl rfl ?_
        refine zr_iload_n zSm 18 rfl rfl ?_
        refine zr_s zSm 19 rfl rfl ?_
        refine zr_s zSm 20 rfl rfl ?_
        refine zr_bast zSm 21 rfl rfl (zin (zlo1 q2) (zhi1 q3) (by decide)) ?_
        refine zr_aload_n zSm 22 rfl rfl ?_
        refine zr_s zSm 23 rfl rfl ?_
        refine zr_getI zSm 24 rfl zf_7_15 rfl rfl (by decide) ?_
        refine zr_s zSm 25 rfl rfl ?_
        refine zr_s zSm 26 rfl rfl ?_
        refine zr_putI zSm 27 rfl zf_7_15 rfl rfl (by decide) zp_7_1 ?_
        refine zr_iinc zSm 28 (v := l2 + (-8)) (ll' := [(2, .int (l2 + (-8))), (0, .ref 1), (1, .int l1)]) rfl rfl (by decide) rfl rfl ?_
        refine zr_goto zSm 29 3 rfl rfl ?_
        refine zr_sub [1, 2, 0] rfl ?_
        exact h
theorem w_92 {RO : zRo} {d : Nat} {P : zP} {I : zI} {J : zJ} {D : zD} {bc bs : Nat}  (h : zw RO (d + 1) 92 P 9 [(0, .ref 3), (1, .ref 1), (2, .int 0), (3, .int 0)] [] (zu I 3 4 0) J D bc bs) : zz RO (d + 2) 92 [.ref 3, .ref 1] I J D bc bs P := by
  refine zT_of (Nat.le_of_ble_eq_true rfl) rfl ?_
  show zw RO (d + 1) 92 P 0 [(0, .ref 3), (1, .ref 1)] [] I J D bc bs
  refine zr_aload_n zSm 0 rfl rfl ?_
  refine zr_s zSm 1 rfl rfl ?_
  refine zr_putI zSm 2 rfl zf_8_37 rfl rfl (by decide) zp_8_4 ?_
  refine zr_s zSm 3 rfl rfl ?_
  refine zr_istore_n zSm 4 (ll' := [(2, .int 0), (0, .ref 3), (1, .ref 1)]) rfl (by decide) rfl ?_
  refine zr_s zSm 5 rfl rfl ?_
  refine zr_istore_n zSm 6 (ll' := [(3, .int 0), (2, .int 0), (0, .ref 3), (1, .ref 1)]) rfl (by decide) rfl ?_
  refine zr_sub [2, 3, 1, 0] rfl ?_
  exact h
theorem wl_92_9 {RO : zRo} {d : Nat} {P : zP} {I : zI} {J : zJ} {D : zD} {bc bs : Nat} {l2 l3 : Int32} (h : ((450 ≤ l3 → (zz RO (d + 1) 98 [.ref 1, .int l2] I J D 0 0 (zNi P fun v1 I1 J1 D1 => (((I1 1 1) ≤ v1 → (zz RO (d + 1) 97 [.ref 3, .int 1, .int v1, .long 0] I1 J1 D1 0 0 (zNv P fun I2 J2 D2 => P (.inl none) I2 J2 D2))) ∧ (¬ ((I1 1 1) ≤ v1) → (zz RO (d + 1) 97 [.ref 3, .int 0, .int v1, .long 0] I1 J1 D1 0 0 (zNv P fun I3 J3 D3 => P (.inl none) I3 J3 D3))))))) ∧ (¬ (450 ≤ l3) → (zz RO (d + 1) 98 [.ref 1, .int l2] I J D 0 0 (zNi P fun v4 I4 J4 D4 => (zz RO (d + 1) 99 [.ref 3, .ref 1, .int v4] I4 J4 D4 0 0 (zNi P fun v5 I5 J5 D5 => ((1 < (zv_93 I5 J5 l3) → zw RO (d + 1) 92 P 9 [(0, .ref 3), (1, .ref 1), (2, .int v5), (3, .int (l3 + 1))] [] I5 J5 D5 bc bs) ∧ (¬ (1 < (zv_93 I5 J5 l3)) → P (.inl none) I5 J5 D5))))))))) : zw RO (d + 1) 92 P 9 [(0, .ref 3), (1, .ref 1), (2, .int l2), (3, .int l3)] [] I J D bc bs := by
  refine zr_iload_n zSm 7 rfl rfl ?_
  refine zr_sipush zSm 8 450 rfl rfl ?_
  refine zr_ic zSm 9 43 rfl rfl (fun q1 => ?_) (fun q1 => ?_)
  · have h := h.1 q1
    refine zr_aload_n zSm 25 rfl rfl ?_
    refine zr_iload_n zSm 26 rfl rfl ?_
    refine zr_ins0 27 98 2 [.ref 1, .int l2] rfl rfl zk_8_41 zms_98 rfl (Nat.le_of_ble_eq_true rfl) ?_
    refine zci h (fun v1 I1 J1 D1 h => ?_)
    refine zr_istore_n zSm 28 (ll' := [(2, .int v1), (0, .ref 3), (1, .ref 1), (3, .int l3)]) rfl (by decide) rfl ?_
    refine zr_aload_n zSm 29 rfl rfl ?_
    refine zr_iload_n zSm 30 rfl rfl ?_
    refine zr_aload_n zSm 31 rfl rfl ?_
    refine zr_getI zSm 32 rfl zf_8_52 rfl rfl (by decide) ?_
    refine zr_ic zSm 33 62 rfl rfl (fun q2 => ?_) (fun q2 => ?_)
    · have h := h.1 q2
      refine zr_s zSm 36 rfl rfl ?_
      refine zr_iload_n zSm 37 rfl rfl ?_
      refine zr_s zSm 38 rfl rfl ?_
      refine zr_inv0 39 97 3 [.int 1, .int v1, .long 0] rfl rfl zk_8_56 zms_97 rfl ⟨_, _, _, _, rfl, rfl⟩ (Nat.le_of_ble_eq_true rfl) ?_
      refine zcv h (fun I2 J2 D2 h => ?_)
      refine zr_vret zSm 40 rfl rfl ?_
      exact h
    · have h := h.2 q2
      refine zr_s zSm 34 rfl rfl ?_
      refine zr_goto zSm 35 63 rfl rfl ?_
      refine zr_iload_n zSm 37 rfl rfl ?_
      refine zr_s zSm 38 rfl rfl ?_
      refine zr_inv0 39 97 3 [.int 0, .int v1, .long 0] rfl rfl zk_8_56 zms_97 rfl ⟨_, _, _, _, rfl, rfl⟩ (Nat.le_of_ble_eq_true rfl) ?_
      refine zcv h (fun I3 J3 D3 h => ?_)
      refine zr_vret zSm 40 rfl rfl ?_
      exact h
  · have h := h.2 q1
    refine zr_aload_n zSm 10 rfl rfl ?_
    refine zr_aload_n zSm 11 rfl rfl ?_
    refine zr_aload_n zSm 12 rfl rfl ?_
    refine zr_iload_n zSm 13 rfl rfl ?_
    refine zr_ins0 14 98 2 [.ref 1, .int l2] rfl rfl zk_8_41 zms_98 rfl (Nat.le_of_ble_eq_true rfl) ?_
    refine zci h (fun v4 I4 J4 D4 h => ?_)
    refine zr_inv0 15 99 2 [.ref 1, .int v4] rfl rfl zk_8_45 zms_99 rfl ⟨_, _, _, _, rfl, rfl⟩ (Nat.le_of_ble_eq_true rfl) ?_
    refine zci h (fun v5 I5 J5 D5 h => ?_)
    refine zr_istore_n zSm 16 (ll' := [(2, .int v5), (0, .ref 3), (1, .ref 1), (3, .int l3)]) rfl (by decide) rfl ?_
    refine zr_aload_n zSm 17 rfl rfl ?_
    refine zr_iload_n zSm 18 rfl rfl ?_
    refine zr_inv0 19 93 1 [.int l3] rfl rfl zk_8_48 zms_93 rfl ⟨_, _, _, _, rfl, rfl⟩ (Nat.le_of_ble_eq_true rfl) ?_
    refine ze_93 ?_
    refine zNx_i ?_
    refine zr_s zSm 20 rfl rfl ?_
    refine zr_ic zSm 21 37 rfl rfl (fun q3 => ?_) (fun q3 => ?_)
    · have h := h.1 q3
      refine zr_iinc zSm 23 (v := l3 + 1) (ll' := [(3, .int (l3 + 1)), (2, .int v5), (0, .ref 3), (1, .ref 1)]) rfl rfl (by decide) rfl rfl ?_
      refine zr_goto zSm 24 9 rfl rfl ?_
      refine zr_sub [2, 3, 1, 0] rfl ?_
      exact h
    · have h := h.2 q3
      refine zr_vret zSm 22 rfl rfl ?_
      exact h
theorem w_96 {RO : zRo} {d : Nat} {P : zP} {I : zI} {J : zJ} {D : zD} {bc bs : Nat} {p0 : Int32} {p1 : Int64} (h : ((p0 < 0 → P (.inl none) I J D) ∧ (¬ (p0 < 0) → (((I 3 4) ≤ p0 → P (.inl none) I J D) ∧ (¬ ((I 3 4) ≤ p0) → ((451 ≤ p0 → P (.inl none) I J D) ∧ (¬ (451 ≤ p0) → P (.inl none) I (zu J 6 p0.toNatClampNeg p1) D))))))) : zz RO (d + 1) 96 [.ref 3, .int p0, .long p1] I J D bc bs P := by
  refine zT_of (Nat.le_of_ble_eq_true rfl) rfl ?_
  show zw RO d 96 P 0 [(0, .ref 3), (1, .int p0), (2, .long p1)] [] I J D bc bs
  refine zr_iload_n zSm 0 rfl rfl ?_
  refine zr_if zSm 1 28 rfl rfl (fun q1 => ?_) (fun q1 => ?_)
  · have h := h.1 q1
    refine zr_vret zSm 16 rfl rfl ?_
    exact h
  · have h := h.2 q1
    refine zr_iload_n zSm 2 rfl rfl ?_
    refine zr_aload_n zSm 3 rfl rfl ?_
    refine zr_getI zSm 4 rfl zf_8_37 rfl rfl (by decide) ?_
    refine zr_ic zSm 5 28 rfl rfl (fun q2 => ?_) (fun q2 => ?_)
    · have h := h.1 q2
      refine zr_vret zSm 16 rfl rfl ?_
      exact h
    · have h := h.2 q2
      refine zr_iload_n zSm 6 rfl rfl ?_
      refine zr_aload_n zSm 7 rfl rfl ?_
      refine zr_getR zSm 8 rfl zf_8_18 rfl rfl (by decide) ?_
      refine zr_alen zSm 9 451 rfl rfl rfl ?_
      refine zr_ic zSm 10 28 rfl rfl (fun q3 => ?_) (fun q3 => ?_)
      · have h := h.1 q3
        refine zr_vret zSm 16 rfl rfl ?_
        exact h
      · have h := h.2 q3
        refine zr_aload_n zSm 11 rfl rfl ?_
        refine zr_getR zSm 12 rfl zf_8_18 rfl rfl (by decide) ?_
        refine zr_iload_n zSm 13 rfl rfl ?_
        refine zr_lload_n zSm 14 rfl rfl ?_
        refine zr_last zSm 15 rfl rfl (zin (zlo1 q1) (zhi1 q3) (by decide)) ?_
        refine zr_vret zSm 16 rfl rfl ?_
        exact h
theorem w_97 {RO : zRo} {d : Nat} {P : zP} {I : zI} {J : zJ} {D : zD} {bc bs : Nat} {p0 p1 : Int32} {p2 : Int64} (h : (((I 3 4) < 0 → P (.inl none) I J D) ∧ (¬ ((I 3 4) < 0) → ((451 ≤ (I 3 4) → P (.inl none) I J D) ∧ (¬ (451 ≤ (I 3 4)) → P (.inl none) (zu (zu (zu I 4 ((I 3 4).toNatClampNeg) p0) 5 ((I 3 4).toNatClampNeg) p1) 3 4 ((I 3 4) + 1)) (zu J 6 ((I 3 4).toNatClampNeg) p2) D))))) : zz RO (d + 1) 97 [.ref 3, .int p0, .int p1, .long p2] I J D bc bs P := by
  refine zT_of (Nat.le_of_ble_eq_true rfl) rfl ?_
  show zw RO d 97 P 0 [(0, .ref 3), (1, .int p0), (2, .int p1), (3, .long p2)] [] I J D bc bs
  refine zr_aload_n zSm 0 rfl rfl ?_
  refine zr_getI zSm 1 rfl zf_8_37 rfl rfl (by decide) ?_
  refine zr_if zSm 2 83 rfl rfl (fun q1 => ?_) (fun q1 => ?_)
  · have h := h.1 q1
    refine zr_vret zSm 45 rfl rfl ?_
    exact h
  · have h := h.2 q1
    refine zr_aload_n zSm 3 rfl rfl ?_
    refine zr_getI zSm 4 rfl zf_8_37 rfl rfl (by decide) ?_
    refine zr_aload_n zSm 5 rfl rfl ?_
    refine zr_getR zSm 6 rfl zf_8_9 rfl rfl (by decide) ?_
    refine zr_alen zSm 7 451 rfl rfl rfl ?_
    refine zr_ic zSm 8 83 rfl rfl (fun q2 => ?_) (fun q2 => ?_)
    · have h := h.1 q2
      refine zr_vret zSm 45 rfl rfl ?_
      exact h
    · have h := h.2 q2
      refine zr_aload_n zSm 9 rfl rfl ?_
      refine zr_getI zSm 10 rfl zf_8_37 rfl rfl (by decide) ?_
      refine zr_aload_n zSm 11 rfl rfl ?_
      refine zr_getR zSm 12 rfl zf_8_15 rfl rfl (by decide) ?_
      refine zr_alen zSm 13 451 rfl rfl rfl ?_
      refine zr_ic zSm 14 83 rfl rfl (fun q3 => ?_) (fun q3 => ?_)
      · exact absurd q3 q2
      · refine zr_aload_n zSm 15 rfl rfl ?_
        refine zr_getI zSm 16 rfl zf_8_37 rfl rfl (by decide) ?_
        refine zr_aload_n zSm 17 rfl rfl ?_
        refine zr_getR zSm 18 rfl zf_8_18 rfl rfl (by decide) ?_
        refine zr_alen zSm 19 451 rfl rfl rfl ?_
        refine zr_ic zSm 20 83 rfl rfl (fun q4 => ?_) (fun q4 => ?_)
        · exact absurd q4 q3
        · refine zr_aload_n zSm 21 rfl rfl ?_
          refine zr_getR zSm 22 rfl zf_8_9 rfl rfl (by decide) ?_
          refine zr_aload_n zSm 23 rfl rfl ?_
          refine zr_getI zSm 24 rfl zf_8_37 rfl rfl (by decide) ?_
          refine zr_iload_n zSm 25 rfl rfl ?_
          refine zr_iast zSm 26 rfl rfl (zin (zlo1 q1) (zhi1 q4) (by decide)) ?_
          refine zr_aload_n zSm 27 rfl rfl ?_
          refine zr_getR zSm 28 rfl zf_8_15 rfl rfl (by decide) ?_
          refine zr_aload_n zSm 29 rfl rfl ?_
          refine zr_getI zSm 30 rfl zf_8_37 rfl rfl (by decide) ?_
          refine zr_iload_n zSm 31 rfl rfl ?_
          refine zr_iast zSm 32 rfl rfl (zin (zlo1 q1) (zhi1 q4) (by decide)) ?_
          refine zr_aload_n zSm 33 rfl rfl ?_
          refine zr_getR zSm 34 rfl zf_8_18 rfl rfl (by decide) ?_
          refine zr_aload_n zSm 35 rfl rfl ?_
          refine zr_getI zSm 36 rfl zf_8_37 rfl rfl (by decide) ?_
          refine zr_lload_n zSm 37 rfl rfl ?_
          refine zr_last zSm 38 rfl rfl (zin (zlo1 q1) (zhi1 q4) (by decide)) ?_
          refine zr_aload_n zSm 39 rfl rfl ?_
          refine zr_s zSm 40 rfl rfl ?_
          refine zr_getI zSm 41 rfl zf_8_37 rfl rfl (by decide) ?_
          refine zr_s zSm 42 rfl rfl ?_
          refine zr_s zSm 43 rfl rfl ?_
          refine zr_putI zSm 44 rfl zf_8_37 rfl rfl (by decide) zp_8_4 ?_
          refine zr_vret zSm 45 rfl rfl ?_
          exact h
theorem w_98 {RO : zRo} {d : Nat} {P : zP} {I : zI} {J : zJ} {D : zD} {bc bs : Nat} {p0 : Int32} (h : zw RO (d + 1) 98 P 2 [(0, .ref 1), (1, .int p0), (2, .int p0)] [] I J D bc bs) : zz RO (d + 2) 98 [.ref 1, .int p0] I J D bc bs P := by
  refine zT_of (Nat.le_of_ble_eq_true rfl) rfl ?_
  show zw RO (d + 1) 98 P 0 [(0, .ref 1), (1, .int p0)] [] I J D bc bs
  refine zr_iload_n zSm 0 rfl rfl ?_
  refine zr_istore_n zSm 1 (ll' := [(2, .int p0), (0, .ref 1), (1, .int p0)]) rfl (by decide) rfl ?_
  refine zr_sub [1, 2, 0] rfl ?_
  exact h
theorem wl_98_2 {RO : zRo} {d : Nat} {P : zP} {I : zI} {J : zJ} {D : zD} {bc bs : Nat} {l1 l2 : Int32} (h : (((I 1 1) ≤ l2 → P (.inl (some (.int l2))) I J D) ∧ (¬ ((I 1 1) ≤ l2) → (((zv_90 I J l2) = 32 → zw RO (d + 1) 98 P 2 [(0, .ref 1), (1, .int l1), (2, .int (l2 + 1))] [] I J D bc bs) ∧ (¬ ((zv_90 I J l2) = 32) → ((¬ (zv_90 I J l2) = 10 → P (.inl (some (.int l2))) I J D) ∧ (¬ (¬ (zv_90 I J l2) = 10) → zw RO (d + 1) 98 P 2 [(0, .ref 1), (1, .int l1), (2, .int (l2 + 1))] [] I J D bc bs))))))) : zw RO (d + 1) 98 P 2 [(0, .ref 1), (1, .int l1), (2, .int l2)] [] I J D bc bs := by
  refine zr_iload_n zSm 2 rfl rfl ?_
  refine zr_aload_n zSm 3 rfl rfl ?_
  refine zr_getI zSm 4 rfl zf_8_52 rfl rfl (by decide) ?_
  refine zr_ic zSm 5 36 rfl rfl (fun q1 => ?_) (fun q1 => ?_)
  · have h := h.1 q1
    refine zr_iload_n zSm 18 rfl rfl ?_
    refine zr_iret zSm 19 rfl rfl rfl ?_
    exact h
  · have h := h.2 q1
    refine zr_aload_n zSm 6 rfl rfl ?_
    refine zr_iload_n zSm 7 rfl rfl ?_
    refine zr_inv0 8 90 1 [.int l2] rfl rfl zk_8_60 zms_90 rfl ⟨_, _, _, _, rfl, rfl⟩ (Nat.le_of_ble_eq_true rfl) ?_
    refine ze_90 ?_
    refine zNx_i ?_
    refine zr_bipush zSm 9 32 rfl rfl ?_
    refine zr_ic zSm 10 30 rfl rfl (fun q2 => ?_) (fun q2 => ?_)
    · have h := h.1 q2
      refine zr_iinc zSm 16 (v := l2 + 1) (ll' := [(2, .int (l2 + 1)), (0, .ref 1), (1, .int l1)]) rfl rfl (by decide) rfl rfl ?_
      refine zr_goto zSm 17 2 rfl rfl ?_
      refine zr_sub [1, 2, 0] rfl ?_
      exact h
    · have h := h.2 q2
      refine zr_aload_n zSm 11 rfl rfl ?_
      refine zr_iload_n zSm 12 rfl rfl ?_
      refine zr_inv0 13 90 1 [.int l2] rfl rfl zk_8_60 zms_90 rfl ⟨_, _, _, _, rfl, rfl⟩ (Nat.le_of_ble_eq_true rfl) ?_
      refine ze_90 ?_
      refine zNx_i ?_
      refine zr_bipush zSm 14 10 rfl rfl ?_
      refine zr_ic zSm 15 36 rfl rfl (fun q3 => ?_) (fun q3 => ?_)
      · have h := h.1 q3
        refine zr_iload_n zSm 18 rfl rfl ?_
        refine zr_iret zSm 19 rfl rfl rfl ?_
        exact h
      · have h := h.2 q3
        refine zr_iinc zSm 16 (v := l2 + 1) (ll' := [(2, .int (l2 + 1)), (0, .ref 1), (1, .int l1)]) rfl rfl (by decide) rfl rfl ?_
        refine zr_goto zSm 17 2 rfl rfl ?_
        refine zr_sub [1, 2, 0] rfl ?_
        exact h
theorem w_99 {RO : zRo} {d : Nat} {P : zP} {I : zI} {J : zJ} {D : zD} {bc bs : Nat} {p0 : Int32} (h : ((p0 < (I 1 1) → (((zv_104 I J (zv_90 I J p0)) = 0 → (((zv_105 I J (zv_90 I J p0)) = 0 → (zz RO (d + 1) 102 [.ref 3, .ref 1, .int p0] I J D 0 0 (zNi P fun v1 I1 J1 D1 => P (.inl (some (.int v1))) I1 J1 D1))) ∧ (¬ ((zv_105 I J (zv_90 I J p0)) = 0) → (zz RO (d + 1) 101 [.ref 3, .ref 1, .int p0] I J D 0 0 (zNi P fun v2 I2 J2 D2 => P (.inl (some (.int v2))) I2 J2 D2))))) ∧ (¬ ((zv_104 I J (zv_90 I J p0)) = 0) → (zz RO (d + 1) 100 [.ref 3, .ref 1, .int p0] I J D 0 0 (zNi P fun v3 I3 J3 D3 => P (.inl (some (.int v3))) I3 J3 D3))))) ∧ (¬ (p0 < (I 1 1)) → (zz RO (d + 1) 97 [.ref 3, .int 1, .int p0, .long 0] I J D 0 0 (zNv P fun I4 J4 D4 => P (.inl (some (.int p0))) I4 J4 D4))))) : zz RO (d + 2) 99 [.ref 3, .ref 1, .int p0] I J D bc bs P := by
  refine zT_of (Nat.le_of_ble_eq_true rfl) rfl ?_
  show zw RO (d + 1) 99 P 0 [(0, .ref 3), (1, .ref 1), (2, .int p0)] [] I J D bc bs
  refine zr_aload_n zSm 0 rfl rfl ?_
  refine zr_iload_n zSm 1 rfl rfl ?_
  refine zr_inv0 2 90 1 [.int p0] rfl rfl zk_8_60 zms_90 rfl ⟨_, _, _, _, rfl, rfl⟩ (Nat.le_of_ble_eq_true rfl) ?_
  refine ze_90 ?_
  refine zNx_i ?_
  refine zr_istore_n zSm 3 (ll' := [(3, .int (zv_90 I J p0)), (0, .ref 3), (1, .ref 1), (2, .int p0)]) rfl (by decide) rfl ?_
  refine zr_iload_n zSm 4 rfl rfl ?_
  refine zr_aload_n zSm 5 rfl rfl ?_
  refine zr_getI zSm 6 rfl zf_8_52 rfl rfl (by decide) ?_
  refine zr_ic zSm 7 23 rfl rfl (fun q1 => ?_) (fun q1 => ?_)
  · have h := h.1 q1
    refine zr_iload_n zSm 15 rfl rfl ?_
    refine zr_ins0 16 104 1 [.int (zv_90 I J p0)] rfl rfl zk_8_63 zms_104 rfl (Nat.le_of_ble_eq_true rfl) ?_
    refine ze_104 ?_
    refine zNx_i ?_
    refine zr_if zSm 17 37 rfl rfl (fun q2 => ?_) (fun q2 => ?_)
    · have h := h.1 q2
      refine zr_iload_n zSm 23 rfl rfl ?_
      refine zr_ins0 24 105 1 [.int (zv_90 I J p0)] rfl rfl zk_8_70 zms_105 rfl (Nat.le_of_ble_eq_true rfl) ?_
      refine ze_105 ?_
      refine zNx_i ?_
      refine zr_if zSm 25 51 rfl rfl (fun q3 => ?_) (fun q3 => ?_)
      · have h := h.1 q3
        refine zr_aload_n zSm 31 rfl rfl ?_
        refine zr_aload_n zSm 32 rfl rfl ?_
        refine zr_iload_n zSm 33 rfl rfl ?_
        refine zr_inv0 34 102 2 [.ref 1, .int p0] rfl rfl zk_8_76 zms_102 rfl ⟨_, _, _, _, rfl, rfl⟩ (Nat.le_of_ble_eq_true rfl) ?_
        refine zci h (fun v1 I1 J1 D1 h => ?_)
        refine zr_iret zSm 35 rfl rfl rfl ?_
        exact h
      · have h := h.2 q3
        refine zr_aload_n zSm 26 rfl rfl ?_
        refine zr_aload_n zSm 27 rfl rfl ?_
        refine zr_iload_n zSm 28 rfl rfl ?_
        refine zr_inv0 29 101 2 [.ref 1, .int p0] rfl rfl zk_8_73 zms_101 rfl ⟨_, _, _, _, rfl, rfl⟩ (Nat.le_of_ble_eq_true rfl) ?_
        refine zci h (fun v2 I2 J2 D2 h => ?_)
        refine zr_iret zSm 30 rfl rfl rfl ?_
        exact h
    · have h := h.2 q2
      refine zr_aload_n zSm 18 rfl rfl ?_
      refine zr_aload_n zSm 19 rfl rfl ?_
      refine zr_iload_n zSm 20 rfl rfl ?_
      refine zr_inv0 21 100 2 [.ref 1, .int p0] rfl rfl zk_8_67 zms_100 rfl ⟨_, _, _, _, rfl, rfl⟩ (Nat.le_of_ble_eq_true rfl) ?_
      refine zci h (fun v3 I3 J3 D3 h => ?_)
      refine zr_iret zSm 22 rfl rfl rfl ?_
      exact h
  · have h := h.2 q1
    refine zr_aload_n zSm 8 rfl rfl ?_
    refine zr_s zSm 9 rfl rfl ?_
    refine zr_iload_n zSm 10 rfl rfl ?_
    refine zr_s zSm 11 rfl rfl ?_
    refine zr_inv0 12 97 3 [.int 1, .int p0, .long 0] rfl rfl zk_8_56 zms_97 rfl ⟨_, _, _, _, rfl, rfl⟩ (Nat.le_of_ble_eq_true rfl) ?_
    refine zcv h (fun I4 J4 D4 h => ?_)
    refine zr_iload_n zSm 13 rfl rfl ?_
    refine zr_iret zSm 14 rfl rfl rfl ?_
    exact h
theorem w_100 {RO : zRo} {d : Nat} {P : zP} {I : zI} {J : zJ} {D : zD} {bc bs : Nat} {p0 : Int32} (h : zw RO (d + 1) 100 P 5 [(0, .ref 3), (1, .ref 1), (2, .int p0), (3, .long 0), (5, .int p0)] [] I J D bc bs) : zz RO (d + 2) 100 [.ref 3, .ref 1, .int p0] I J D bc bs P := by
  refine zT_of (Nat.le_of_ble_eq_true rfl) rfl ?_
  show zw RO (d + 1) 100 P 0 [(0, .ref 3), (1, .ref 1), (2, .int p0)] [] I J D bc bs
  refine zr_s zSm 0 rfl rfl ?_
  refine zr_lstore_n zSm 1 (ll' := [(3, .long 0), (0, .ref 3), (1, .ref 1), (2, .int p0)]) rfl (by decide) rfl ?_
  refine zr_iload_n zSm 2 rfl rfl ?_
  refine zr_istore zSm 3 (ll' := [(5, .int p0), (3, .long 0), (0, .ref 3), (1, .ref 1), (2, .int p0)]) rfl (by decide) rfl ?_
  refine zr_sub [2, 3, 4, 1, 0] rfl ?_
  exact h
theorem wl_100_5 {RO : zRo} {d : Nat} {P : zP} {I : zI} {J : zJ} {D : zD} {bc bs : Nat} {l2 l5 : Int32} {l3 : Int64} (h : (((I 1 1) ≤ l5 → (((l5 - l2) ≤ 8 → (zz RO (d + 1) 103 [.ref 3, .long l3] I J D 0 0 (zNi P fun v1 I1 J1 D1 => (zz RO (d + 1) 97 [.ref 3, .int v1, .int l2, .long l3] I1 J1 D1 0 0 (zNv P fun I2 J2 D2 => P (.inl (some (.int l5))) I2 J2 D2))))) ∧ (¬ ((l5 - l2) ≤ 8) → (zz RO (d + 1) 97 [.ref 3, .int 0, .int l2, .long l3] I J D 0 0 (zNv P fun I3 J3 D3 => P (.inl (some (.int l5))) I3 J3 D3))))) ∧ (¬ ((I 1 1) ≤ l5) → ((¬ (zv_104 I J (zv_90 I J l5)) = 0 → zw RO (d + 1) 100 P 5 [(0, .ref 3), (1, .ref 1), (2, .int l2), (3, .long ((l3 <<< ((8 : Int32).toInt64 &&& 63)) ||| ((zv_90 I J l5).toInt64))), (5, .int (l5 + 1))] [] I J D bc bs) ∧ (¬ (¬ (zv_104 I J (zv_90 I J l5)) = 0) → (((zv_105 I J (zv_90 I J l5)) = 0 → (((l5 - l2) ≤ 8 → (zz RO (d + 1) 103 [.ref 3, .long l3] I J D 0 0 (zNi P fun v4 I4 J4 D4 => (zz RO (d + 1) 97 [.ref 3, .int v4, .int l2, .long l3] I4 J4 D4 0 0 (zNv P fun I5 J5 D5 => P (.inl (some (.int l5))) I5 J5 D5))))) ∧ (¬ ((l5 - l2) ≤ 8) → (zz RO (d + 1) 97 [.ref 3, .int 0, .int l2, .long l3] I J D 0 0 (zNv P fun I6 J6 D6 => P (.inl (some (.int l5))) I6 J6 D6))))) ∧ (¬ ((zv_105 I J (zv_90 I J l5)) = 0) → zw RO (d + 1) 100 P 5 [(0, .ref 3), (1, .ref 1), (2, .int l2), (3, .long ((l3 <<< ((8 : Int32).toInt64 &&& 63)) ||| ((zv_90 I J l5).toInt64))), (5, .int (l5 + 1))] [] I J D bc bs))))))) : zw RO (d + 1) 100 P 5 [(0, .ref 3), (1, .ref 1), (2, .int l2), (3, .long l3), (5, .int l5)] [] I J D bc bs := by
  refine zr_iload zSm 4 rfl rfl ?_
  refine zr_aload_n zSm 5 rfl rfl ?_
  refine zr_getI zSm 6 rfl zf_8_52 rfl rfl (by decide) ?_
  refine zr_ic zSm 7 57 rfl rfl (fun q1 => ?_) (fun q1 => ?_)
  · have h := h.1 q1
    refine zr_aload_n zSm 29 rfl rfl ?_
    refine zr_iload zSm 30 rfl rfl ?_
    refine zr_iload_n zSm 31 rfl rfl ?_
    refine zr_s zSm 32 rfl rfl ?_
    refine zr_bipush zSm 33 8 rfl rfl ?_
    refine zr_ic zSm 34 71 rfl rfl (fun q2 => ?_) (fun q2 => ?_)
    · have h := h.1 q2
      refine zr_aload_n zSm 37 rfl rfl ?_
      refine zr_lload_n zSm 38 rfl rfl ?_
      refine zr_inv0 39 103 1 [.long l3] rfl rfl zk_8_79 zms_103 rfl ⟨_, _, _, _, rfl, rfl⟩ (Nat.le_of_ble_eq_true rfl) ?_
      refine zci h (fun v1 I1 J1 D1 h => ?_)
      refine zr_iload_n zSm 40 rfl rfl ?_
      refine zr_lload_n zSm 41 rfl rfl ?_
      refine zr_inv0 42 97 3 [.int v1, .int l2, .long l3] rfl rfl zk_8_56 zms_97 rfl ⟨_, _, _, _, rfl, rfl⟩ (Nat.le_of_ble_eq_true rfl) ?_
      refine zcv h (fun I2 J2 D2 h => ?_)
      refine zr_iload zSm 43 rfl rfl ?_
      refine zr_iret zSm 44 rfl rfl rfl ?_
      exact h
    · have h := h.2 q2
      refine zr_s zSm 35 rfl rfl ?_
      refine zr_goto zSm 36 76 rfl rfl ?_
      refine zr_iload_n zSm 40 rfl rfl ?_
      refine zr_lload_n zSm 41 rfl rfl ?_
      refine zr_inv0 42 97 3 [.int 0, .int l2, .long l3] rfl rfl zk_8_56 zms_97 rfl ⟨_, _, _, _, rfl, rfl⟩ (Nat.le_of_ble_eq_true rfl) ?_
      refine zcv h (fun I3 J3 D3 h => ?_)
      refine zr_iload zSm 43 rfl rfl ?_
      refine zr_iret zSm 44 rfl rfl rfl ?_
      exact h
  · have h := h.2 q1
    refine zr_aload_n zSm 8 rfl rfl ?_
    refine zr_iload zSm 9 rfl rfl ?_
    refine zr_inv0 10 90 1 [.int l5] rfl rfl zk_8_60 zms_90 rfl ⟨_, _, _, _, rfl, rfl⟩ (Nat.le_of_ble_eq_true rfl) ?_
    refine ze_90 ?_
    refine zNx_i ?_
    refine zr_ins0 11 104 1 [.int (zv_90 I J l5)] rfl rfl zk_8_63 zms_104 rfl (Nat.le_of_ble_eq_true rfl) ?_
    refine ze_104 ?_
    refine zNx_i ?_
    refine zr_if zSm 12 38 rfl rfl (fun q3 => ?_) (fun q3 => ?_)
    · have h := h.1 q3
      refine zr_lload_n zSm 18 rfl rfl ?_
      refine zr_bipush zSm 19 8 rfl rfl ?_
      refine zr_s zSm 20 rfl rfl ?_
      refine zr_aload_n zSm 21 rfl rfl ?_
      refine zr_iload zSm 22 rfl rfl ?_
      refine zr_inv0 23 90 1 [.int l5] rfl rfl zk_8_60 zms_90 rfl ⟨_, _, _, _, rfl, rfl⟩ (Nat.le_of_ble_eq_true rfl) ?_
      refine ze_90 ?_
      refine zNx_i ?_
      refine zr_s zSm 24 rfl rfl ?_
      refine zr_s zSm 25 rfl rfl ?_
      refine zr_lstore_n zSm 26 (ll' := [(3, .long ((l3 <<< ((8 : Int32).toInt64 &&& 63)) ||| ((zv_90 I J l5).toInt64))), (0, .ref 3), (1, .ref 1), (2, .int l2), (5, .int l5)]) rfl (by decide) rfl ?_
      refine zr_iinc zSm 27 (v := l5 + 1) (ll' := [(5, .int (l5 + 1)), (3, .long ((l3 <<< ((8 : Int32).toInt64 &&& 63)) ||| ((zv_90 I J l5).toInt64))), (0, .ref 3), (1, .ref 1), (2, .int l2)]) rfl rfl (by decide) rfl rfl ?_
      refine zr_goto zSm 28 5 rfl rfl ?_
      refine zr_sub [2, 3, 4, 1, 0] rfl ?_
      exact h
    · have h := h.2 q3
      refine zr_aload_n zSm 13 rfl rfl ?_
      refine zr_iload zSm 14 rfl rfl ?_
      refine zr_inv0 15 90 1 [.int l5] rfl rfl zk_8_60 zms_90 rfl ⟨_, _, _, _, rfl, rfl⟩ (Nat.le_of_ble_eq_true rfl) ?_
      refine ze_90 ?_
      refine zNx_i ?_
      refine zr_ins0 16 105 1 [.int (zv_90 I J l5)] rfl rfl zk_8_70 zms_105 rfl (Nat.le_of_ble_eq_true rfl) ?_
      refine ze_105 ?_
      refine zNx_i ?_
      refine zr_if zSm 17 57 rfl rfl (fun q4 => ?_) (fun q4 => ?_)
      · have h := h.1 q4
        refine zr_aload_n zSm 29 rfl rfl ?_
        refine zr_iload zSm 30 rfl rfl ?_
        refine zr_iload_n zSm 31 rfl rfl ?_
        refine zr_s zSm 32 rfl rfl ?_
        refine zr_bipush zSm 33 8 rfl rfl ?_
        refine zr_ic zSm 34 71 rfl rfl (fun q5 => ?_) (fun q5 => ?_)
        · have h := h.1 q5
          refine zr_aload_n zSm 37 rfl rfl ?_
          refine zr_lload_n zSm 38 rfl rfl ?_
          refine zr_inv0 39 103 1 [.long l3] rfl rfl zk_8_79 zms_103 rfl ⟨_, _, _, _, rfl, rfl⟩ (Nat.le_of_ble_eq_true rfl) ?_
          refine zci h (fun v4 I4 J4 D4 h => ?_)
          refine zr_iload_n zSm 40 rfl rfl ?_
          refine zr_lload_n zSm 41 rfl rfl ?_
          refine zr_inv0 42 97 3 [.int v4, .int l2, .long l3] rfl rfl zk_8_56 zms_97 rfl ⟨_, _, _, _, rfl, rfl⟩ (Nat.le_of_ble_eq_true rfl) ?_
          refine zcv h (fun I5 J5 D5 h => ?_)
          refine zr_iload zSm 43 rfl rfl ?_
          refine zr_iret zSm 44 rfl rfl rfl ?_
          exact h
        · have h := h.2 q5
          refine zr_s zSm 35 rfl rfl ?_
          refine zr_goto zSm 36 76 rfl rfl ?_
          refine zr_iload_n zSm 40 rfl rfl ?_
          refine zr_lload_n zSm 41 rfl rfl ?_
          refine zr_inv0 42 97 3 [.int 0, .int l2, .long l3] rfl rfl zk_8_56 zms_97 rfl ⟨_, _, _, _, rfl, rfl⟩ (Nat.le_of_ble_eq_true rfl) ?_
          refine zcv h (fun I6 J6 D6 h => ?_)
          refine zr_iload zSm 43 rfl rfl ?_
          refine zr_iret zSm 44 rfl rfl rfl ?_
          exact h
      · have h := h.2 q4
        refine zr_lload_n zSm 18 rfl rfl ?_
        refine zr_bipush zSm 19 8 rfl rfl ?_
        refine zr_s zSm 20 rfl rfl ?_
        refine zr_aload_n zSm 21 rfl rfl ?_
        refine zr_iload zSm 22 rfl rfl ?_
        refine zr_inv0 23 90 1 [.int l5] rfl rfl zk_8_60 zms_90 rfl ⟨_, _, _, _, rfl, rfl⟩ (Nat.le_of_ble_eq_true rfl) ?_
        refine ze_90 ?_
        refine zNx_i ?_
        refine zr_s zSm 24 rfl rfl ?_
        refine zr_s zSm 25 rfl rfl ?_
        refine zr_lstore_n zSm 26 (ll' := [(3, .long ((l3 <<< ((8 : Int32).toInt64 &&& 63)) ||| ((zv_90 I J l5).toInt64))), (0, .ref 3), (1, .ref 1), (2, .int l2), (5, .int l5)]) rfl (by decide) rfl ?_
        refine zr_iinc zSm 27 (v := l5 + 1) (ll' := [(5, .int (l5 + 1)), (3, .long ((l3 <<< ((8 : Int32).toInt64 &&& 63)) ||| ((zv_90 I J l5).toInt64))), (0, .ref 3), (1, .ref 1), (2, .int l2)]) rfl rfl (by decide) rfl rfl ?_
        refine zr_goto zSm 28 5 rfl rfl ?_
        refine zr_sub [2, 3, 4, 1, 0] rfl ?_
        exact h
theorem w_101 {RO : zRo} {d : Nat} {P : zP} {I : zI} {J : zJ} {D : zD} {bc bs : Nat} {p0 : Int32} (h : zw RO (d + 1) 101 P 5 [(0, .ref 3), (1, .ref 1), (2, .int p0), (3, .long 0), (5, .int p0)] [] I J D bc bs) : zz RO (d + 2) 101 [.ref 3, .ref 1, .int p0] I J D bc bs P := by
  refine zT_of (Nat.le_of_ble_eq_true rfl) rfl ?_
  show zw RO (d + 1) 101 P 0 [(0, .ref 3), (1, .ref 1), (2, .int p0)] [] I J D bc bs
  refine zr_s zSm 0 rfl rfl ?_
  refine zr_lstore_n zSm 1 (ll' := [(3, .long 0), (0, .ref 3), (1, .ref 1), (2, .int p0)]) rfl (by decide) rfl ?_
  refine zr_iload_n zSm 2 rfl rfl ?_
  refine zr_istore zSm 3 (ll' := [(5, .int p0), (3, .long 0), (0, .ref 3), (1, .ref 1), (2, .int p0)]) rfl (by decide) rfl ?_
  refine zr_sub [2, 3, 4, 1, 0] rfl ?_
  exact h
theorem wl_101_5 {RO : zRo} {d : Nat} {P : zP} {I : zI} {J : zJ} {D : zD} {bc bs : Nat} {l2 l5 : Int32} {l3 : Int64} (h : (((I 1 1) ≤ l5 → (((l5 - l2) ≤ 4 → (zz RO (d + 1) 97 [.ref 3, .int 3, .int l2, .long l3] I J D 0 0 (zNv P fun I1 J1 D1 => P (.inl (some (.int l5))) I1 J1 D1))) ∧ (¬ ((l5 - l2) ≤ 4) → (zz RO (d + 1) 97 [.ref 3, .int 0, .int l2, .long l3] I J D 0 0 (zNv P fun I2 J2 D2 => P (.inl (some (.int l5))) I2 J2 D2))))) ∧ (¬ ((I 1 1) ≤ l5) → (((zv_105 I J (zv_90 I J l5)) = 0 → (((l5 - l2) ≤ 4 → (zz RO (d + 1) 97 [.ref 3, .int 3, .int l2, .long l3] I J D 0 0 (zNv P fun I3 J3 D3 => P (.inl (some (.int l5))) I3 J3 D3))) ∧ (¬ ((l5 - l2) ≤ 4) → (zz RO (d + 1) 97 [.ref 3, .int 0, .int l2, .long l3] I J D 0 0 (zNv P fun I4 J4 D4 => P (.inl (some (.int l5))) I4 J4 D4))))) ∧ (¬ ((zv_105 I J (zv_90 I J l5)) = 0) → zw RO (d + 1) 101 P 5 [(0, .ref 3), (1, .ref 1), (2, .int l2), (3, .long ((l3 * 10) + (((zv_90 I J l5) - 48).toInt64))), (5, .int (l5 + 1))] [] I J D bc bs))))) : zw RO (d + 1) 101 P 5 [(0, .ref 3), (1, .ref 1), (2, .int l2), (3, .long l3), (5, .int l5)] [] I J D bc bs := by
  refine zr_iload zSm 4 rfl rfl ?_
  refine zr_aload_n zSm 5 rfl rfl ?_
  refine zr_getI zSm 6 rfl zf_8_52 rfl rfl (by decide) ?_
  refine zr_ic zSm 7 49 rfl rfl (fun q1 => ?_) (fun q1 => ?_)
  · have h := h.1 q1
    refine zr_aload_n zSm 26 rfl rfl ?_
    refine zr_iload zSm 27 rfl rfl ?_
    refine zr_iload_n zSm 28 rfl rfl ?_
    refine zr_s zSm 29 rfl rfl ?_
    refine zr_s zSm 30 rfl rfl ?_
    refine zr_ic zSm 31 62 rfl rfl (fun q2 => ?_) (fun q2 => ?_)
    · have h := h.1 q2
      refine zr_s zSm 34 rfl rfl ?_
      refine zr_iload_n zSm 35 rfl rfl ?_
      refine zr_lload_n zSm 36 rfl rfl ?_
      refine zr_inv0 37 97 3 [.int 3, .int l2, .long l3] rfl rfl zk_8_56 zms_97 rfl ⟨_, _, _, _, rfl, rfl⟩ (Nat.le_of_ble_eq_true rfl) ?_
      refine zcv h (fun I1 J1 D1 h => ?_)
      refine zr_iload zSm 38 rfl rfl ?_
      refine zr_iret zSm 39 rfl rfl rfl ?_
      exact h
    · have h := h.2 q2
      refine zr_s zSm 32 rfl rfl ?_
      refine zr_goto zSm 33 63 rfl rfl ?_
      refine zr_iload_n zSm 35 rfl rfl ?_
      refine zr_lload_n zSm 36 rfl rfl ?_
      refine zr_inv0 37 97 3 [.int 0, .int l2, .long l3] rfl rfl zk_8_56 zms_97 rfl ⟨_, _, _, _, rfl, rfl⟩ (Nat.le_of_ble_eq_true rfl) ?_
      refine zcv h (fun I2 J2 D2 h => ?_)
      refine zr_iload zSm 38 rfl rfl ?_
      refine zr_iret zSm 39 rfl rfl rfl ?_
      exact h
  · have h := h.2 q1
    refine zr_aload_n zSm 8 rfl rfl ?_
    refine zr_iload zSm 9 rfl rfl ?_
    refine zr_inv0 10 90 1 [.int l5] rfl rfl zk_8_60 zms_90 rfl ⟨_, _, _, _, rfl, rfl⟩ (Nat.le_of_ble_eq_true rfl) ?_
    refine ze_90 ?_
    refine zNx_i ?_
    refine zr_ins0 11 105 1 [.int (zv_90 I J l5)] rfl rfl zk_8_70 zms_105 rfl (Nat.le_of_ble_eq_true rfl) ?_
    refine ze_105 ?_
    refine zNx_i ?_
    refine zr_if zSm 12 49 rfl rfl (fun q3 => ?_) (fun q3 => ?_)
    · have h := h.1 q3
      refine zr_aload_n zSm 26 rfl rfl ?_
      refine zr_iload zSm 27 rfl rfl ?_
      refine zr_iload_n zSm 28 rfl rfl ?_
      refine zr_s zSm 29 rfl rfl ?_
      refine zr_s zSm 30 rfl rfl ?_
      refine zr_ic zSm 31 62 rfl rfl (fun q4 => ?_) (fun q4 => ?_)
      · have h := h.1 q4
        refine zr_s zSm 34 rfl rfl ?_
        refine zr_iload_n zSm 35 rfl rfl ?_
        refine zr_lload_n zSm 36 rfl rfl ?_
        refine zr_inv0 37 97 3 [.int 3, .int l2, .long l3] rfl rfl zk_8_56 zms_97 rfl ⟨_, _, _, _, rfl, rfl⟩ (Nat.le_of_ble_eq_true rfl) ?_
        refine zcv h (fun I3 J3 D3 h => ?_)
        refine zr_iload zSm 38 rfl rfl ?_
        refine zr_iret zSm 39 rfl rfl rfl ?_
        exact h
      · have h := h.2 q4
        refine zr_s zSm 32 rfl rfl ?_
        refine zr_goto zSm 33 63 rfl rfl ?_
        refine zr_iload_n zSm 35 rfl rfl ?_
        refine zr_lload_n zSm 36 rfl rfl ?_
        refine zr_inv0 37 97 3 [.int 0, .int l2, .long l3] rfl rfl zk_8_56 zms_97 rfl ⟨_, _, _, _, rfl, rfl⟩ (Nat.le_of_ble_eq_true rfl) ?_
        refine zcv h (fun I4 J4 D4 h => ?_)
        refine zr_iload zSm 38 rfl rfl ?_
        refine zr_iret zSm 39 rfl rfl rfl ?_
        exact h
    · have h := h.2 q3
      refine zr_lload_n zSm 13 rfl rfl ?_
      refine zr_ldc2 zSm 14 rfl zc_8_83 ?_
      refine zr_s zSm 15 rfl rfl ?_
      refine zr_aload_n zSm 16 rfl rfl ?_
      refine zr_iload zSm 17 rfl rfl ?_
      refine zr_inv0 18 90 1 [.int l5] rfl rfl zk_8_60 zms_90 rfl ⟨_, _, _, _, rfl, rfl⟩ (Nat.le_of_ble_eq_true rfl) ?_
      refine ze_90 ?_
      refine zNx_i ?_
      refine zr_bipush zSm 19 48 rfl rfl ?_
      refine zr_s zSm 20 rfl rfl ?_
      refine zr_s zSm 21 rfl rfl ?_
      refine zr_s zSm 22 rfl rfl ?_
      refine zr_lstore_n zSm 23 (ll' := [(3, .long ((l3 * 10) + (((zv_90 I J l5) - 48).toInt64))), (0, .ref 3), (1, .ref 1), (2, .int l2), (5, .int l5)]) rfl (by decide) rfl ?_
      refine zr_iinc zSm 24 (v := l5 + 1) (ll' := [(5, .int (l5 + 1)), (3, .long ((l3 * 10) + (((zv_90 I J l5) - 48).toInt64))), (0, .ref 3), (1, .ref 1), (2, .int l2)]) rfl rfl (by decide) rfl rfl ?_
      refine zr_goto zSm 25 5 rfl rfl ?_
      refine zr_sub [2, 3, 4, 1, 0] rfl ?_
      exact h
theorem w_102 {RO : zRo} {d : Nat} {P : zP} {I : zI} {J : zJ} {D : zD} {bc bs : Nat} {p0 : Int32} (h : ((¬ (zv_90 I J p0) = 60 → ((¬ (zv_90 I J p0) = 62 → ((0 ≤ (zv_90 I J p0) → (zz RO (d + 1) 245 [.ref (110 + 0), .int (((zv_90 I J p0).toUInt32 % 65536).toInt32)] I J D 0 0 (zNi P fun v1 I1 J1 D1 => ((0 ≤ v1 → (zz RO (d + 1) 97 [.ref 3, .int (36 + v1), .int p0, .long 0] I1 J1 D1 0 0 (zNv P fun I2 J2 D2 => P (.inl (some (.int (p0 + 1)))) I2 J2 D2))) ∧ (¬ (0 ≤ v1) → (zz RO (d + 1) 97 [.ref 3, .int 0, .int p0, .long 0] I1 J1 D1 0 0 (zNv P fun I3 J3 D3 => P (.inl (some (.int (p0 + 1)))) I3 J3 D3))))))) ∧ (¬ (0 ≤ (zv_90 I J p0)) → (zz RO (d + 1) 97 [.ref 3, .int 0, .int p0, .long 0] I J D 0 0 (zNv P fun I4 J4 D4 => P (.inl (some (.int (p0 + 1)))) I4 J4 D4))))) ∧ (¬ (¬ (zv_90 I J p0) = 62) → ((¬ (zv_90 I J (p0 + 1)) = 61 → ((0 ≤ (zv_90 I J p0) → (zz RO (d + 1) 245 [.ref (110 + 0), .int (((zv_90 I J p0).toUInt32 % 65536).toInt32)] I J D 0 0 (zNi P fun v5 I5 J5 D5 => ((0 ≤ v5 → (zz RO (d + 1) 97 [.ref 3, .int (36 + v5), .int p0, .long 0] I5 J5 D5 0 0 (zNv P fun I6 J6 D6 => P (.inl (some (.int (p0 + 1)))) I6 J6 D6))) ∧ (¬ (0 ≤ v5) → (zz RO (d + 1) 97 [.ref 3, .int 0, .int p0, .long 0] I5 J5 D5 0 0 (zNv P fun I7 J7 D7 => P (.inl (some (.int (p0 + 1)))) I7 J7 D7))))))) ∧ (¬ (0 ≤ (zv_90 I J p0)) → (zz RO (d + 1) 97 [.ref 3, .int 0, .int p0, .long 0] I J D 0 0 (zNv P fun I8 J8 D8 => P (.inl (some (.int (p0 + 1)))) I8 J8 D8))))) ∧ (¬ (¬ (zv_90 I J (p0 + 1)) = 61) → (zz RO (d + 1) 97 [.ref 3, .int 50, .int p0, .long 0] I J D 0 0 (zNv P fun I9 J9 D9 => P (.inl (some (.int (p0 + 2)))) I9 J9 D9))))))) ∧ (¬ (¬ (zv_90 I J p0) = 60) → ((¬ (zv_90 I J (p0 + 1)) = 61 → ((¬ (zv_90 I J (p0 + 1)) = 62 → ((¬ (zv_90 I J p0) = 62 → ((0 ≤ (zv_90 I J p0) → (zz RO (d + 1) 245 [.ref (110 + 0), .int (((zv_90 I J p0).toUInt32 % 65536).toInt32)] I J D 0 0 (zNi P fun v10 I10 J10 D10 => ((0 ≤ v10 → (zz RO (d + 1) 97 [.ref 3, .int (36 + v10), .int p0, .long 0] I10 J10 D10 0 0 (zNv P fun I11 J11 D11 => P (.inl (some (.int (p0 + 1)))) I11 J11 D11))) ∧ (¬ (0 ≤ v10) → (zz RO (d + 1) 97 [.ref 3, .int 0, .int p0, .long 0] I10 J10 D10 0 0 (zNv P fun I12 J12 D12 => P (.inl (some (.int (p0 + 1)))) I12 J12 D12))))))) ∧ (¬ (0 ≤ (zv_90 I J p0)) → (zz RO (d + 1) 97 [.ref 3, .int 0, .int p0, .long 0] I J D 0 0 (zNv P fun I13 J13 D13 => P (.inl (some (.int (p0 + 1)))) I13 J13 D13))))) ∧ (¬ (¬ (zv_90 I J p0) = 62) → ((0 ≤ (zv_90 I J p0) → (zz RO (d + 1) 245 [.ref (110 + 0), .int (((zv_90 I J p0).toUInt32 % 65536).toInt32)] I J D 0 0 (zNi P fun v14 I14 J14 D14 => ((0 ≤ v14 → (zz RO (d + 1) 97 [.ref 3, .int (36 + v14), .int p0, .long 0] I14 J14 D14 0 0 (zNv P fun I15 J15 D15 => P (.inl (some (.int (p0 + 1)))) I15 J15 D15))) ∧ (¬ (0 ≤ v14) → (zz RO (d + 1) 97 [.ref 3, .int 0, .int p0, .long 0] I14 J14 D14 0 0 (zNv P fun I16 J16 D16 => P (.inl (some (.int (p0 + 1)))) I16 J16 D16))))))) ∧ (¬ (0 ≤ (zv_90 I J p0)) → (zz RO (d + 1) 97 [.ref 3, .int 0, .int p0, .long 0] I J D 0 0 (zNv P fun I17 J17 D17 => P (.inl (some (.int (p0 + 1)))) I17 J17 D17))))))) ∧ (¬ (¬ (zv_90 I J (p0 + 1)) = 62) → (zz RO (d + 1) 97 [.ref 3, .int 51, .int p0, .long 0] I J D 0 0 (zNv P fun I18 J18 D18 => P (.inl (some (.int (p0 + 2)))) I18 J18 D18))))) ∧ (¬ (¬ (zv_90 I J (p0 + 1)) = 61) → (zz RO (d + 1) 97 [.ref 3, .int 49, .int p0, .long 0] I J D 0 0 (zNv P fun I19 J19 D19 => P (.inl (some (.int (p0 + 2)))) I19 J19 D19))))))) : zz RO (d + 2) 102 [.ref 3, .ref 1, .int p0] I J D bc bs P := by
  refine zT_of (Nat.le_of_ble_eq_true rfl) rfl ?_
  show zw RO (d + 1) 102 P 0 [(0, .ref 3), (1, .ref 1), (2, .int p0)] [] I J D bc bs
  refine zr_aload_n zSm 0 rfl rfl ?_
  refine zr_iload_n zSm 1 rfl rfl ?_
  refine zr_inv0 2 90 1 [.int p0] rfl rfl zk_8_60 zms_90 rfl ⟨_, _, _, _, rfl, rfl⟩ (Nat.le_of_ble_eq_true rfl) ?_
  refine ze_90 ?_
  refine zNx_i ?_
  refine zr_istore_n zSm 3 (ll' := [(3, .int (zv_90 I J p0)), (0, .ref 3), (1, .ref 1), (2, .int p0)]) rfl (by decide) rfl ?_
  refine zr_aload_n zSm 4 rfl rfl ?_
  refine zr_iload_n zSm 5 rfl rfl ?_
  refine zr_s zSm 6 rfl rfl ?_
  refine zr_s zSm 7 rfl rfl ?_
  refine zr_inv0 8 90 1 [.int (p0 + 1)] rfl rfl zk_8_60 zms_90 rfl ⟨_, _, _, _, rfl, rfl⟩ (Nat.le_of_ble_eq_true rfl) ?_
  refine ze_90 ?_
  refine zNx_i ?_
  refine zr_istore zSm 9 (ll' := [(4, .int (zv_90 I J (p0 + 1))), (3, .int (zv_90 I J p0)), (0, .ref 3), (1, .ref 1), (2, .int p0)]) rfl (by decide) rfl ?_
  refine zr_s zSm 10 rfl rfl ?_
  refine zr_istore zSm 11 (ll' := [(5, .int 0), (4, .int (zv_90 I J (p0 + 1))), (3, .int (zv_90 I J p0)), (0, .ref 3), (1, .ref 1), (2, .int p0)]) rfl (by decide) rfl ?_
  refine zr_iload_n zSm 12 rfl rfl ?_
  refine zr_bipush zSm 13 60 rfl rfl ?_
  refine zr_ic zSm 14 38 rfl rfl (fun q1 => ?_) (fun q1 => ?_)
  · have h := h.1 q1
    refine zr_iload_n zSm 21 rfl rfl ?_
    refine zr_bipush zSm 22 60 rfl rfl ?_
    refine zr_ic zSm 23 58 rfl rfl (fun q2 => ?_) (fun q2 => ?_)
    · refine zr_iload_n zSm 30 rfl rfl ?_
      refine zr_bipush zSm 31 62 rfl rfl ?_
      refine zr_ic zSm 32 75 rfl rfl (fun q3 => ?_) (fun q3 => ?_)
      · have h := h.1 q3
        refine zr_iload zSm 38 rfl rfl ?_
        refine zr_if zSm 39 92 rfl rfl (fun q4 => ?_) (fun q4 => ?_)
        · refine zr_iload_n zSm 49 rfl rfl ?_
          refine zr_if zSm 50 100 rfl rfl (fun q5 => ?_) (fun q5 => ?_)
          · have h := h.1 q5
            refine zr_ldcS 53 0 rfl (by decide +kernel) ?_
            refine zr_iload_n zSm 54 rfl rfl ?_
            refine zr_s zSm 55 rfl rfl ?_
            refine zr_invS 56 245 1 0 [.int (((zv_90 I J p0).toUInt32 % 65536).toInt32)] rfl rfl (by decide) zk_8_87 zms_245 rfl rfl (Nat.le_of_ble_eq_true rfl) ?_
            refine zci h (fun v1 I1 J1 D1 h => ?_)
            refine zr_istore zSm 57 (ll' := [(6, .int v1), (5, .int 0), (4, .int (zv_90 I J (p0 + 1))), (3, .int (zv_90 I J p0)), (0, .ref 3), (1, .ref 1), (2, .int p0)]) rfl (by decide) rfl ?_
            refine zr_aload_n zSm 58 rfl rfl ?_
            refine zr_iload zSm 59 rfl rfl ?_
            refine zr_if zSm 60 119 rfl rfl (fun q6 => ?_) (fun q6 => ?_)
            · have h := h.1 q6
              refine zr_bipush zSm 63 36 rfl rfl ?_
              refine zr_iload zSm 64 rfl rfl ?_
              refine zr_s zSm 65 rfl rfl ?_
              refine zr_iload_n zSm 66 rfl rfl ?_
              refine zr_s zSm 67 rfl rfl ?_
              refine zr_inv0 68 97 3 [.int (36 + v1), .int p0, .long 0] rfl rfl zk_8_56 zms_97 rfl ⟨_, _, _, _, rfl, rfl⟩ (Nat.le_of_ble_eq_true rfl) ?_
              refine zcv h (fun I2 J2 D2 h => ?_)
              refine zr_iload_n zSm 69 rfl rfl ?_
              refine zr_s zSm 70 rfl rfl ?_
              refine zr_s zSm 71 rfl rfl ?_
              refine zr_iret zSm 72 rfl rfl rfl ?_
              exact h
            · have h := h.2 q6
              refine zr_s zSm 61 rfl rfl ?_
              refine zr_goto zSm 62 124 rfl rfl ?_
              refine zr_iload_n zSm 66 rfl rfl ?_
              refine zr_s zSm 67 rfl rfl ?_
              refine zr_inv0 68 97 3 [.int 0, .int p0, .long 0] rfl rfl zk_8_56 zms_97 rfl ⟨_, _, _, _, rfl, rfl⟩ (Nat.le_of_ble_eq_true rfl) ?_
              refine zcv h (fun I3 J3 D3 h => ?_)
              refine zr_iload_n zSm 69 rfl rfl ?_
              refine zr_s zSm 70 rfl rfl ?_
              refine zr_s zSm 71 rfl rfl ?_
              refine zr_iret zSm 72 rfl rfl rfl ?_
              exact h
          · have h := h.2 q5
            refine zr_s zSm 51 rfl rfl ?_
            refine zr_goto zSm 52 107 rfl rfl ?_
            refine zr_istore zSm 57 (ll' := [(6, .int (-1)), (5, .int 0), (4, .int (zv_90 I J (p0 + 1))), (3, .int (zv_90 I J p0)), (0, .ref 3), (1, .ref 1), (2, .int p0)]) rfl (by decide) rfl ?_
            refine zr_aload_n zSm 58 rfl rfl ?_
            refine zr_iload zSm 59 rfl rfl ?_
            refine zr_if zSm 60 119 rfl rfl (fun q7 => ?_) (fun q7 => ?_)
            · exact absurd q7 (by show ¬ (0 ≤ ((-1) : Int32)); decide)
            · refine zr_s zSm 61 rfl rfl ?_
              refine zr_goto zSm 62 124 rfl rfl ?_
              refine zr_iload_n zSm 66 rfl rfl ?_
              refine zr_s zSm 67 rfl rfl ?_
              refine zr_inv0 68 97 3 [.int 0, .int p0, .long 0] rfl rfl zk_8_56 zms_97 rfl ⟨_, _, _, _, rfl, rfl⟩ (Nat.le_of_ble_eq_true rfl) ?_
              refine zcv h (fun I4 J4 D4 h => ?_)
              refine zr_iload_n zSm 69 rfl rfl ?_
              refine zr_s zSm 70 rfl rfl ?_
              refine zr_s zSm 71 rfl rfl ?_
              refine zr_iret zSm 72 rfl rfl rfl ?_
              exact h
        · exact absurd q4 (by show ¬ ¬ ((0 : Int32) = 0); decide)
      · have h := h.2 q3
        refine zr_iload zSm 33 rfl rfl ?_
        refine zr_bipush zSm 34 61 rfl rfl ?_
        refine zr_ic zSm 35 75 rfl rfl (fun q8 => ?_) (fun q8 => ?_)
        · have h := h.1 q8
          refine zr_iload zSm 38 rfl rfl ?_
          refine zr_if zSm 39 92 rfl rfl (fun q9 => ?_) (fun q9 => ?_)
          · refine zr_iload_n zSm 49 rfl rfl ?_
            refine zr_if zSm 50 100 rfl rfl (fun q10 => ?_) (fun q10 => ?_)
            · have h := h.1 q10
              refine zr_ldcS 53 0 rfl (by decide +kernel) ?_
              refine zr_iload_n zSm 54 rfl rfl ?_
              refine zr_s zSm 55 rfl rfl ?_
              refine zr_invS 56 245 1 0 [.int (((zv_90 I J p0).toUInt32 % 65536).toInt32)] rfl rfl (by decide) zk_8_87 zms_245 rfl rfl (Nat.le_of_ble_eq_true rfl) ?_
              refine zci h (fun v5 I5 J5 D5 h => ?_)
              refine zr_istore zSm 57 (ll' := [(6, .int v5), (5, .int 0), (4, .int (zv_90 I J (p0 + 1))), (3, .int (zv_90 I J p0)), (0, .ref 3), (1, .ref 1), (2, .int p0)]) rfl (by decide) rfl ?_
              refine zr_aload_n zSm 58 rfl rfl ?_
              refine zr_iload zSm 59 rfl rfl ?_
              refine zr_if zSm 60 119 rfl rfl (fun q11 => ?_) (fun q11 => ?_)
              · have h := h.1 q11
                refine zr_bipush zSm 63 36 rfl rfl ?_
                refine zr_iload zSm 64 rfl rfl ?_
                refine zr_s zSm 65 rfl rfl ?_
                refine zr_iload_n zSm 66 rfl rfl ?_
                refine zr_s zSm 67 rfl rfl ?_
                refine zr_inv0 68 97 3 [.int (36 + v5), .int p0, .long 0] rfl rfl zk_8_56 zms_97 rfl ⟨_, _, _, _, rfl, rfl⟩ (Nat.le_of_ble_eq_true rfl) ?_
                refine zcv h (fun I6 J6 D6 h => ?_)
                refine zr_iload_n zSm 69 rfl rfl ?_
                refine zr_s zSm 70 rfl rfl ?_
                refine zr_s zSm 71 rfl rfl ?_
                refine zr_iret zSm 72 rfl rfl rfl ?_
                exact h
              · have h := h.2 q11
                refine zr_s zSm 61 rfl rfl ?_
                refine zr_goto zSm 62 124 rfl rfl ?_
                refine zr_iload_n zSm 66 rfl rfl ?_
                refine zr_s zSm 67 rfl rfl ?_
                refine zr_inv0 68 97 3 [.int 0, .int p0, .long 0] rfl rfl zk_8_56 zms_97 rfl ⟨_, _, _, _, rfl, rfl⟩ (Nat.le_of_ble_eq_true rfl) ?_
                refine zcv h (fun I7 J7 D7 h => ?_)
                refine zr_iload_n zSm 69 rfl rfl ?_
                refine zr_s zSm 70 rfl rfl ?_
                refine zr_s zSm 71 rfl rfl ?_
                refine zr_iret zSm 72 rfl rfl rfl ?_
                exact h
            · have h := h.2 q10
              refine zr_s zSm 51 rfl rfl ?_
              refine zr_goto zSm 52 107 rfl rfl ?_
              refine zr_istore zSm 57 (ll' := [(6, .int (-1)), (5, .int 0), (4, .int (zv_90 I J (p0 + 1))), (3, .int (zv_90 I J p0)), (0, .ref 3), (1, .ref 1), (2, .int p0)]) rfl (by decide) rfl ?_
              refine zr_aload_n zSm 58 rfl rfl ?_
              refine zr_iload zSm 59 rfl rfl ?_
              refine zr_if zSm 60 119 rfl rfl (fun q12 => ?_) (fun q12 => ?_)
              · exact absurd q12 (by show ¬ (0 ≤ ((-1) : Int32)); decide)
              · refine zr_s zSm 61 rfl rfl ?_
                refine zr_goto zSm 62 124 rfl rfl ?_
                refine zr_iload_n zSm 66 rfl rfl ?_
                refine zr_s zSm 67 rfl rfl ?_
                refine zr_inv0 68 97 3 [.int 0, .int p0, .long 0] rfl rfl zk_8_56 zms_97 rfl ⟨_, _, _, _, rfl, rfl⟩ (Nat.le_of_ble_eq_true rfl) ?_
                refine zcv h (fun I8 J8 D8 h => ?_)
                refine zr_iload_n zSm 69 rfl rfl ?_
                refine zr_s zSm 70 rfl rfl ?_
                refine zr_s zSm 71 rfl rfl ?_
                refine zr_iret zSm 72 rfl rfl rfl ?_
                exact h
          · exact absurd q9 (by show ¬ ¬ ((0 : Int32) = 0); decide)
        · have h := h.2 q8
          refine zr_bipush zSm 36 50 rfl rfl ?_
          refine zr_istore zSm 37 (ll' := [(5, .int 50), (4, .int (zv_90 I J (p0 + 1))), (3, .int (zv_90 I J p0)), (0, .ref 3), (1, .ref 1), (2, .int p0)]) rfl (by decide) rfl ?_
          refine zr_iload zSm 38 rfl rfl ?_
          refine zr_if zSm 39 92 rfl rfl (fun q13 => ?_) (fun q13 => ?_)
          · exact absurd q13 (by show ¬ ((50 : Int32) = 0); decide)
          · refine zr_aload_n zSm 40 rfl rfl ?_
            refine zr_iload zSm 41 rfl rfl ?_
            refine zr_iload_n zSm 42 rfl rfl ?_
            refine zr_s zSm 43 rfl rfl ?_
            refine zr_inv0 44 97 3 [.int 50, .int p0, .long 0] rfl rfl zk_8_56 zms_97 rfl ⟨_, _, _, _, rfl, rfl⟩ (Nat.le_of_ble_eq_true rfl) ?_
            refine zcv h (fun I9 J9 D9 h => ?_)
            refine zr_iload_n zSm 45 rfl rfl ?_
            refine zr_s zSm 46 rfl rfl ?_
            refine zr_s zSm 47 rfl rfl ?_
            refine zr_iret zSm 48 rfl rfl rfl ?_
            exact h
    · exact absurd q1 q2
  · have h := h.2 q1
    refine zr_iload zSm 15 rfl rfl ?_
    refine zr_bipush zSm 16 61 rfl rfl ?_
    refine zr_ic zSm 17 38 rfl rfl (fun q14 => ?_) (fun q14 => ?_)
    · have h := h.1 q14
      refine zr_iload_n zSm 21 rfl rfl ?_
      refine zr_bipush zSm 22 60 rfl rfl ?_
      refine zr_ic zSm 23 58 rfl rfl (fun q15 => ?_) (fun q15 => ?_)
      · exact absurd q15 q1
      · refine zr_iload zSm 24 rfl rfl ?_
        refine zr_bipush zSm 25 62 rfl rfl ?_
        refine zr_ic zSm 26 58 rfl rfl (fun q16 => ?_) (fun q16 => ?_)
        · have h := h.1 q16
          refine zr_iload_n zSm 30 rfl rfl ?_
          refine zr_bipush zSm 31 62 rfl rfl ?_
          refine zr_ic zSm 32 75 rfl rfl (fun q17 => ?_) (fun q17 => ?_)
          · have h := h.1 q17
            refine zr_iload zSm 38 rfl rfl ?_
            refine zr_if zSm 39 92 rfl rfl (fun q18 => ?_) (fun q18 => ?_)
            · refine zr_iload_n zSm 49 rfl rfl ?_
              refine zr_if zSm 50 100 rfl rfl (fun q19 => ?_) (fun q19 => ?_)
              · have h := h.1 q19
                refine zr_ldcS 53 0 rfl (by decide +kernel) ?_
                refine zr_iload_n zSm 54 rfl rfl ?_
                refine zr_s zSm 55 rfl rfl ?_
                refine zr_invS 56 245 1 0 [.int (((zv_90 I J p0).toUInt32 % 65536).toInt32)] rfl rfl (by decide) zk_8_87 zms_245 rfl rfl (Nat.le_of_ble_eq_true rfl) ?_
                refine zci h (fun v10 I10 J10 D10 h => ?_)
                refine zr_istore zSm 57 (ll' := [(6, .int v10), (5, .int 0), (4, .int (zv_90 I J (p0 + 1))), (3, .int (zv_90 I J p0)), (0, .ref 3), (1, .ref 1), (2, .int p0)]) rfl (by decide) rfl ?_
                refine zr_aload_n zSm 58 rfl rfl ?_
                refine zr_iload zSm 59 rfl rfl ?_
                refine zr_if zSm 60 119 rfl rfl (fun q20 => ?_) (fun q20 => ?_)
                · have h := h.1 q20
                  refine zr_bipush zSm 63 36 rfl rfl ?_
                  refine zr_iload zSm 64 rfl rfl ?_
                  refine zr_s zSm 65 rfl rfl ?_
                  refine zr_iload_n zSm 66 rfl rfl ?_
                  refine zr_s zSm 67 rfl rfl ?_
                  refine zr_inv0 68 97 3 [.int (36 + v10), .int p0, .long 0] rfl rfl zk_8_56 zms_97 rfl ⟨_, _, _, _, rfl, rfl⟩ (Nat.le_of_ble_eq_true rfl) ?_
                  refine zcv h (fun I11 J11 D11 h => ?_)
                  refine zr_iload_n zSm 69 rfl rfl ?_
                  refine zr_s zSm 70 rfl rfl ?_
                  refine zr_s zSm 71 rfl rfl ?_
                  refine zr_iret zSm 72 rfl rfl rfl ?_
                  exact h
                · have h := h.2 q20
                  refine zr_s zSm 61 rfl rfl ?_
                  refine zr_goto zSm 62 124 rfl rfl ?_
                  refine zr_iload_n zSm 66 rfl rfl ?_
                  refine zr_s zSm 67 rfl rfl ?_
                  refine zr_inv0 68 97 3 [.int 0, .int p0, .long 0] rfl rfl zk_8_56 zms_97 rfl ⟨_, _, _, _, rfl, rfl⟩ (Nat.le_of_ble_eq_true rfl) ?_
                  refine zcv h (fun I12 J12 D12 h => ?_)
                  refine zr_iload_n zSm 69 rfl rfl ?_
                  refine zr_s zSm 70 rfl rfl ?_
                  refine zr_s zSm 71 rfl rfl ?_
                  refine zr_iret zSm 72 rfl rfl rfl ?_
                  exact h
              · have h := h.2 q19
                refine zr_s zSm 51 rfl rfl ?_
                refine zr_goto zSm 52 107 rfl rfl ?_
                refine zr_istore zSm 57 (ll' := [(6, .int (-1)), (5, .int 0), (4, .int (zv_90 I J (p0 + 1))), (3, .int (zv_90 I J p0)), (0, .ref 3), (1, .ref 1), (2, .int p0)]) rfl (by decide) rfl ?_
                refine zr_aload_n zSm 58 rfl rfl ?_
                refine zr_iload zSm 59 rfl rfl ?_
                refine zr_if zSm 60 119 rfl rfl (fun q21 => ?_) (fun q21 => ?_)
                · exact absurd q21 (by show ¬ (0 ≤ ((-1) : Int32)); decide)
                · refine zr_s zSm 61 rfl rfl ?_
                  refine zr_goto zSm 62 124 rfl rfl ?_
                  refine zr_iload_n zSm 66 rfl rfl ?_
                  refine zr_s zSm 67 rfl rfl ?_
                  refine zr_inv0 68 97 3 [.int 0, .int p0, .long 0] rfl rfl zk_8_56 zms_97 rfl ⟨_, _, _, _, rfl, rfl⟩ (Nat.le_of_ble_eq_true rfl) ?_
                  refine zcv h (fun I13 J13 D13 h => ?_)
                  refine zr_iload_n zSm 69 rfl rfl ?_
                  refine zr_s zSm 70 rfl rfl ?_
                  refine zr_s zSm 71 rfl rfl ?_
                  refine zr_iret zSm 72 rfl rfl rfl ?_
                  exact h
            · exact absurd q18 (by show ¬ ¬ ((0 : Int32) = 0); decide)
          · have h := h.2 q17
            refine zr_iload zSm 33 rfl rfl ?_
            refine zr_bipush zSm 34 61 rfl rfl ?_
            refine zr_ic zSm 35 75 rfl rfl (fun q22 => ?_) (fun q22 => ?_)
            · refine zr_iload zSm 38 rfl rfl ?_
              refine zr_if zSm 39 92 rfl rfl (fun q23 => ?_) (fun q23 => ?_)
              · refine zr_iload_n zSm 49 rfl rfl ?_
                refine zr_if zSm 50 100 rfl rfl (fun q24 => ?_) (fun q24 => ?_)
                · have h := h.1 q24
                  refine zr_ldcS 53 0 rfl (by decide +kernel) ?_
                  refine zr_iload_n zSm 54 rfl rfl ?_
                  refine zr_s zSm 55 rfl rfl ?_
                  refine zr_invS 56 245 1 0 [.int (((zv_90 I J p0).toUInt32 % 65536).toInt32)] rfl rfl (by decide) zk_8_87 zms_245 rfl rfl (Nat.le_of_ble_eq_true rfl) ?_
                  refine zci h (fun v14 I14 J14 D14 h => ?_)
                  refine zr_istore zSm 57 (ll' := [(6, .int v14), (5, .int 0), (4, .int (zv_90 I J (p0 + 1))), (3, .int (zv_90 I J p0)), (0, .ref 3), (1, .ref 1), (2, .int p0)]) rfl (by decide) rfl ?_
                  refine zr_aload_n zSm 58 rfl rfl ?_
                  refine zr_iload zSm 59 rfl rfl ?_
                  refine zr_if zSm 60 119 rfl rfl (fun q25 => ?_) (fun q25 => ?_)
                  · have h := h.1 q25
                    refine zr_bipush zSm 63 36 rfl rfl ?_
                    refine zr_iload zSm 64 rfl rfl ?_
                    refine zr_s zSm 65 rfl rfl ?_
                    refine zr_iload_n zSm 66 rfl rfl ?_
                    refine zr_s zSm 67 rfl rfl ?_
                    refine zr_inv0 68 97 3 [.int (36 + v14), .int p0, .long 0] rfl rfl zk_8_56 zms_97 rfl ⟨_, _, _, _, rfl, rfl⟩ (Nat.le_of_ble_eq_true rfl) ?_
                    refine zcv h (fun I15 J15 D15 h => ?_)
                    refine zr_iload_n zSm 69 rfl rfl ?_
                    refine zr_s zSm 70 rfl rfl ?_
                    refine zr_s zSm 71 rfl rfl ?_
                    refine zr_iret zSm 72 rfl rfl rfl ?_
                    exact h
                  · have h := h.2 q25
                    refine zr_s zSm 61 rfl rfl ?_
                    refine zr_goto zSm 62 124 rfl rfl ?_
                    refine zr_iload_n zSm 66 rfl rfl ?_
                    refine zr_s zSm 67 rfl rfl ?_
                    refine zr_inv0 68 97 3 [.int 0, .int p0, .long 0] rfl rfl zk_8_56 zms_97 rfl ⟨_, _, _, _, rfl, rfl⟩ (Nat.le_of_ble_eq_true rfl) ?_
                    refine zcv h (fun I16 J16 D16 h => ?_)
                    refine zr_iload_n zSm 69 rfl rfl ?_
                    refine zr_s zSm 70 rfl rfl ?_
                    refine zr_s zSm 71 rfl rfl ?_
                    refine zr_iret zSm 72 rfl rfl rfl ?_
                    exact h
                · have h := h.2 q24
                  refine zr_s zSm 51 rfl rfl ?_
                  refine zr_goto zSm 52 107 rfl rfl ?_
                  refine zr_istore zSm 57 (ll' := [(6, .int (-1)), (5, .int 0), (4, .int (zv_90 I J (p0 + 1))), (3, .int (zv_90 I J p0)), (0, .ref 3), (1, .ref 1), (2, .int p0)]) rfl (by decide) rfl ?_
                  refine zr_aload_n zSm 58 rfl rfl ?_
                  refine zr_iload zSm 59 rfl rfl ?_
                  refine zr_if zSm 60 119 rfl rfl (fun q26 => ?_) (fun q26 => ?_)
                  · exact absurd q26 (by show ¬ (0 ≤ ((-1) : Int32)); decide)
                  · refine zr_s zSm 61 rfl rfl ?_
                    refine zr_goto zSm 62 124 rfl rfl ?_
                    refine zr_iload_n zSm 66 rfl rfl ?_
                    refine zr_s zSm 67 rfl rfl ?_
                    refine zr_inv0 68 97 3 [.int 0, .int p0, .long 0] rfl rfl zk_8_56 zms_97 rfl ⟨_, _, _, _, rfl, rfl⟩ (Nat.le_of_ble_eq_true rfl) ?_
                    refine zcv h (fun I17 J17 D17 h => ?_)
                    refine zr_iload_n zSm 69 rfl rfl ?_
                    refine zr_s zSm 70 rfl rfl ?_
                    refine zr_s zSm 71 rfl rfl ?_
                    refine zr_iret zSm 72 rfl rfl rfl ?_
                    exact h
              · exact absurd q23 (by show ¬ ¬ ((0 : Int32) = 0); decide)
            · exact absurd q14 q22
        · have h := h.2 q16
          refine zr_bipush zSm 27 51 rfl rfl ?_
          refine zr_istore zSm 28 (ll' := [(5, .int 51), (4, .int (zv_90 I J (p0 + 1))), (3, .int (zv_90 I J p0)), (0, .ref 3), (1, .ref 1), (2, .int p0)]) rfl (by decide) rfl ?_
          refine zr_goto zSm 29 75 rfl rfl ?_
          refine zr_iload zSm 38 rfl rfl ?_
          refine zr_if zSm 39 92 rfl rfl (fun q27 => ?_) (fun q27 => ?_)
          · exact absurd q27 (by show ¬ ((51 : Int32) = 0); decide)
          · refine zr_aload_n zSm 40 rfl rfl ?_
            refine zr_iload zSm 41 rfl rfl ?_
            refine zr_iload_n zSm 42 rfl rfl ?_
            refine zr_s zSm 43 rfl rfl ?_
            refine zr_inv0 44 97 3 [.int 51, .int p0, .long 0] rfl rfl zk_8_56 zms_97 rfl ⟨_, _, _, _, rfl, rfl⟩ (Nat.le_of_ble_eq_true rfl) ?_
            refine zcv h (fun I18 J18 D18 h => ?_)
            refine zr_iload_n zSm 45 rfl rfl ?_
            refine zr_s zSm 46 rfl rfl ?_
            refine zr_s zSm 47 rfl rfl ?_
            refine zr_iret zSm 48 rfl rfl rfl ?_
            exact h
    · have h := h.2 q14
      refine zr_bipush zSm 18 49 rfl rfl ?_
      refine zr_istore zSm 19 (ll' := [(5, .int 49), (4, .int (zv_90 I J (p0 + 1))), (3, .int (zv_90 I J p0)), (0, .ref 3), (1, .ref 1), (2, .int p0)]) rfl (by decide) rfl ?_
      refine zr_goto zSm 20 75 rfl rfl ?_
      refine zr_iload zSm 38 rfl rfl ?_
      refine zr_if zSm 39 92 rfl rfl (fun q28 => ?_) (fun q28 => ?_)
      · exact absurd q28 (by show ¬ ((49 : Int32) = 0); decide)
      · refine zr_aload_n zSm 40 rfl rfl ?_
        refine zr_iload zSm 41 rfl rfl ?_
        refine zr_iload_n zSm 42 rfl rfl ?_
        refine zr_s zSm 43 rfl rfl ?_
        refine zr_inv0 44 97 3 [.int 49, .int p0, .long 0] rfl rfl zk_8_56 zms_97 rfl ⟨_, _, _, _, rfl, rfl⟩ (Nat.le_of_ble_eq_true rfl) ?_
        refine zcv h (fun I19 J19 D19 h => ?_)
        refine zr_iload_n zSm 45 rfl rfl ?_
        refine zr_s zSm 46 rfl rfl ?_
        refine zr_s zSm 47 rfl rfl ?_
        refine zr_iret zSm 48 rfl rfl rfl ?_
        exact h
theorem w_103 {RO : zRo} {d : Nat} {P : zP} {I : zI} {J : zJ} {D : zD} {bc bs : Nat} {p0 : Int64} (h : zw RO d 103 P 2 [(0, .ref 3), (1, .long p0), (3, .int 0)] [] I J D bc bs) : zz RO (d + 1) 103 [.ref 3, .long p0] I J D bc bs P := by
  refine zT_of (Nat.le_of_ble_eq_true rfl) rfl ?_
  show zw RO d 103 P 0 [(0, .ref 3), (1, .long p0)] [] I J D bc bs
  refine zr_s zSm 0 rfl rfl ?_
  refine zr_istore_n zSm 1 (ll' := [(3, .int 0), (0, .ref 3), (1, .long p0)]) rfl (by decide) rfl ?_
  refine zr_sub [1, 2, 0] rfl ?_
  exact h
theorem wl_103_2 {RO : zRo} {d : Nat} {P : zP} {I : zI} {J : zJ} {D : zD} {bc bs : Nat} {l1 : Int64} {l3 : Int32} (h : ((32 ≤ l3 → P (.inl (some (.int 2))) I J D) ∧ (¬ (32 ≤ l3) → (vp_in l3 32 ∧ ((¬ (J 7 l3.toNatClampNeg) = l1 → zw RO d 103 P 2 [(0, .ref 3), (1, .long l1), (3, .int (l3 + 1))] [] I J D bc bs) ∧ (¬ (¬ (J 7 l3.toNatClampNeg) = l1) → P (.inl (some (.int (4 + l3)))) I J D)))))) : zw RO d 103 P 2 [(0, .ref 3), (1, .long l1), (3, .int l3)] [] I J D bc bs := by
  refine zr_iload_n zSm 2 rfl rfl ?_
  refine zr_aload_n zSm 3 rfl rfl ?_
  refine zr_getR zSm 4 rfl zf_8_22 rfl rfl (by decide) ?_
  refine zr_alen zSm 5 32 rfl rfl rfl ?_
  refine zr_ic zSm 6 32 rfl rfl (fun q1 => ?_) (fun q1 => ?_)
  · have h := h.1 q1
    refine zr_s zSm 20 rfl rfl ?_
    refine zr_iret zSm 21 rfl rfl rfl ?_
    exact h
  · have h := h.2 q1
    refine zr_aload_n zSm 7 rfl rfl ?_
    refine zr_getR zSm 8 rfl zf_8_22 rfl rfl (by decide) ?_
    refine zr_iload_n zSm 9 rfl rfl ?_
    obtain ⟨b10, h⟩ := h
    refine zr_lald zSm 10 rfl rfl b10 ?_
    refine zr_lload_n zSm 11 rfl rfl ?_
    refine zr_s zSm 12 rfl rfl ?_
    refine zr_if zSm 13 26 rfl rfl (fun q2 => ?_) (fun q2 => ?_)
    · have q2 := zq_ne.mp q2
      have h := h.1 q2
      refine zr_iinc zSm 18 (v := l3 + 1) (ll' := [(3, .int (l3 + 1)), (0, .ref 3), (1, .long l1)]) rfl rfl (by decide) rfl rfl ?_
      refine zr_goto zSm 19 2 rfl rfl ?_
      refine zr_sub [1, 2, 0] rfl ?_
      exact h
    · have q2 := (fun z => q2 (zq_ne.mpr z))
      have h := h.2 q2
      refine zr_s zSm 14 rfl rfl ?_
      refine zr_iload_n zSm 15 rfl rfl ?_
      refine zr_s zSm 16 rfl rfl ?_
      refine zr_iret zSm 17 rfl rfl rfl ?_
      exact h

/-! ===== written by wip/whole/lay15.py: walks, a formula each ===== -/
theorem w_178 {RO : zRo} {d : Nat} {P : zP} {I : zI} {J : zJ} {D : zD} {bc bs : Nat}  (h : P (.inl (some (.int (I 28 29)))) (zu I 28 0 0) J D) : zz RO (d + 1) 178 [.ref 28] I J D bc bs P := by
  refine zT_of (Nat.le_of_ble_eq_true rfl) rfl ?_
  show zw RO d 178 P 0 [(0, .ref 28)] [] I J D bc bs
  refine zr_aload_n zSm 0 rfl rfl ?_
  refine zr_s zSm 1 rfl rfl ?_
  refine zr_putI zSm 2 rfl zf_11_96 rfl rfl (by decide) zp_11_0 ?_
  refine zr_aload_n zSm 3 rfl rfl ?_
  refine zr_getI zSm 4 rfl zf_11_62 rfl rfl (by decide) ?_
  refine zr_iret zSm 5 rfl rfl rfl ?_
  exact h
theorem w_180 {RO : zRo} {d : Nat} {P : zP} {I : zI} {J : zJ} {D : zD} {bc bs : Nat} {p0 p1 p2 : Int32} (h : zw RO (d + 1) 180 P 6 [(0, .ref 28), (1, .int p0), (2, .int p1), (3, .int p2), (4, .int 0), (5, .int p0)] [] I J D bc bs) : zz RO (d + 2) 180 [.ref 28, .int p0, .int p1, .int p2] I J D bc bs P := by
  refine zT_of (Nat.le_of_ble_eq_true rfl) rfl ?_
  show zw RO (d + 1) 180 P 0 [(0, .ref 28), (1, .int p0), (2, .int p1), (3, .int p2)] [] I J D bc bs
  refine zr_s zSm 0 rfl rfl ?_
  refine zr_istore zSm 1 (ll' := [(4, .int 0), (0, .ref 28), (1, .int p0), (2, .int p1), (3, .int p2)]) rfl (by decide) rfl ?_
  refine zr_iload_n zSm 2 rfl rfl ?_
  refine zr_istore zSm 3 (ll' := [(5, .int p0), (4, .int 0), (0, .ref 28), (1, .int p0), (2, .int p1), (3, .int p2)]) rfl (by decide) rfl ?_
  refine zr_sub [2, 3, 4, 5, 1, 0] rfl ?_
  exact h
theorem wl_180_6 {RO : zRo} {d : Nat} {P : zP} {I : zI} {J : zJ} {D : zD} {bc bs : Nat} {l1 l2 l3 l4 l5 : Int32} (h : (vp_in l5 1350 ∧ (((I 43 l5.toNatClampNeg) = 450 → P (.inl (some (.long (J 50 0)))) I J D) ∧ (¬ ((I 43 l5.toNatClampNeg) = 450) → (vp_in l5 1350 ∧ ((404 < (I 43 l5.toNatClampNeg) → (((I 43 l5.toNatClampNeg) < 440 → (vp_in ((l4 + (-1)) - 1) 452 ∧ (vp_in (l4 + (-1)) 452 ∧ (vp_in ((l4 + (-1)) - 1) 452 ∧ zw RO (d + 1) 180 P 6 [(0, .ref 28), (1, .int l1), (2, .int l2), (3, .int l3), (4, .int (l4 + (-1))), (5, .int (l5 + 1))] [] I (zu J 50 (((l4 + (-1)) - 1).toNatClampNeg) (zv_183 I J (I 43 l5.toNatClampNeg) (J 50 (((l4 + (-1)) - 1).toNatClampNeg)) (J 50 ((l4 + (-1)).toNatClampNeg)))) D bc bs)))) ∧ (¬ ((I 43 l5.toNatClampNeg) < 440) → (vp_in (l4 - 1) 452 ∧ ((¬ (I 43 l5.toNatClampNeg) = 441 → ((¬ (I 43 l5.toNatClampNeg) = 442 → ((¬ (J 50 ((l4 - 1).toNatClampNeg)) = 0 → (vp_in (l4 - 1) 452 ∧ zw RO (d + 1) 180 P 6 [(0, .ref 28), (1, .int l1), (2, .int l2), (3, .int l3), (4, .int l4), (5, .int (l5 + 1))] [] I (zu J 50 ((l4 - 1).toNatClampNeg) 0) D bc bs)) ∧ (¬ (¬ (J 50 ((l4 - 1).toNatClampNeg)) = 0) → (vp_in (l4 - 1) 452 ∧ zw RO (d + 1) 180 P 6 [(0, .ref 28), (1, .int l1), (2, .int l2), (3, .int l3), (4, .int l4), (5, .int (l5 + 1))] [] I (zu J 50 ((l4 - 1).toNatClampNeg) 1) D bc bs)))) ∧ (¬ (¬ (I 43 l5.toNatClampNeg) = 442) → (zz RO (d + 1) 182 [.ref 28, .long (J 50 ((l4 - 1).toNatClampNeg))] I J D 0 0 (zNl P fun v1 I1 J1 D1 => (vp_in (l4 - 1) 452 ∧ zw RO (d + 1) 180 P 6 [(0, .ref 28), (1, .int l1), (2, .int l2), (3, .int l3), (4, .int l4), (5, .int (l5 + 1))] [] I1 (zu J1 50 ((l4 - 1).toNatClampNeg) v1) D1 bc bs)))))) ∧ (¬ (¬ (I 43 l5.toNatClampNeg) = 441) → (vp_in (l4 - 1) 452 ∧ zw RO (d + 1) 180 P 6 [(0, .ref 28), (1, .int l1), (2, .int l2), (3, .int l3), (4, .int l4), (5, .int (l5 + 1))] [] I (zu J 50 ((l4 - 1).toNatClampNeg) (-(J 50 ((l4 - 1).toNatClampNeg)))) D bc bs))))))) ∧ (¬ (404 < (I 43 l5.toNatClampNeg)) → (vp_in l5 1350 ∧ (zo_181 I J (I 43 l5.toNatClampNeg) (I 44 l5.toNatClampNeg) l2 l3 ∧ (vp_in l4 452 ∧ zw RO (d + 1) 180 P 6 [(0, .ref 28), (1, .int l1), (2, .int l2), (3, .int l3), (4, .int (l4 + 1)), (5, .int (l5 + 1))] [] I (zu J 50 l4.toNatClampNeg (zv_181 I J (I 43 l5.toNatClampNeg) (I 44 l5.toNatClampNeg) l2 l3)) D bc bs)))))))))) : zw RO (d + 1) 180 P 6 [(0, .ref 28), (1, .int l1), (2, .int l2), (3, .int l3), (4, .int l4), (5, .int l5)] [] I J D bc bs := by
  refine zr_aload_n zSm 4 rfl rfl ?_
  refine zr_getR zSm 5 rfl zf_11_53 rfl rfl (by decide) ?_
  refine zr_iload zSm 6 rfl rfl ?_
  obtain ⟨b7, h⟩ := h
  refine zr_iald zSm 7 rfl rfl b7 ?_
  refine zr_sipush zSm 8 450 rfl rfl ?_
  refine zr_ic zSm 9 177 rfl rfl (fun q1 => ?_) (fun q1 => ?_)
  · have h := h.1 q1
    refine zr_aload_n zSm 91 rfl rfl ?_
    refine zr_getR zSm 92 rfl zf_11_78 rfl rfl (by decide) ?_
    refine zr_s zSm 93 rfl rfl ?_
    refine zr_lald zSm 94 rfl rfl (zin_lit (by decide) (by decide)) ?_
    refine zr_lret zSm 95 rfl rfl ?_
    exact h
  · have h := h.2 q1
    refine zr_aload_n zSm 10 rfl rfl ?_
    refine zr_getR zSm 11 rfl zf_11_53 rfl rfl (by decide) ?_
    refine zr_iload zSm 12 rfl rfl ?_
    obtain ⟨b13, h⟩ := h
    refine zr_iald zSm 13 rfl rfl b13 ?_
    refine zr_istore zSm 14 (ll' := [(6, .int (I 43 l5.toNatClampNeg)), (0, .ref 28), (1, .int l1), (2, .int l2), (3, .int l3), (4, .int l4), (5, .int l5)]) rfl (by decide) rfl ?_
    refine zr_iload zSm 15 rfl rfl ?_
    refine zr_sipush zSm 16 404 rfl rfl ?_
    refine zr_ic zSm 17 64 rfl rfl (fun q2 => ?_) (fun q2 => ?_)
    · have h := h.1 q2
      refine zr_iload zSm 33 rfl rfl ?_
      refine zr_sipush zSm 34 440 rfl rfl ?_
      refine zr_ic zSm 35 138 rfl rfl (fun q3 => ?_) (fun q3 => ?_)
      · have h := h.1 q3
        refine zr_iinc zSm 70 (v := l4 + (-1)) (ll' := [(4, .int (l4 + (-1))), (6, .int (I 43 l5.toNatClampNeg)), (0, .ref 28), (1, .int l1), (2, .int l2), (3, .int l3), (5, .int l5)]) rfl rfl (by decide) rfl rfl ?_
        refine zr_aload_n zSm 71 rfl rfl ?_
        refine zr_getR zSm 72 rfl zf_11_78 rfl rfl (by decide) ?_
        refine zr_iload zSm 73 rfl rfl ?_
        refine zr_s zSm 74 rfl rfl ?_
        refine zr_s zSm 75 rfl rfl ?_
        refine zr_iload zSm 76 rfl rfl ?_
        refine zr_aload_n zSm 77 rfl rfl ?_
        refine zr_getR zSm 78 rfl zf_11_78 rfl rfl (by decide) ?_
        refine zr_iload zSm 79 rfl rfl ?_
        refine zr_s zSm 80 rfl rfl ?_
        refine zr_s zSm 81 rfl rfl ?_
        obtain ⟨b82, h⟩ := h
        refine zr_lald zSm 82 rfl rfl b82 ?_
        refine zr_aload_n zSm 83 rfl rfl ?_
        refine zr_getR zSm 84 rfl zf_11_78 rfl rfl (by decide) ?_
        refine zr_iload zSm 85 rfl rfl ?_
        obtain ⟨b86, h⟩ := h
        refine zr_lald zSm 86 rfl rfl b86 ?_
        refine zr_ins0 87 183 3 [.int (I 43 l5.toNatClampNeg), .long (J 50 (((l4 + (-1)) - 1).toNatClampNeg)), .long (J 50 ((l4 + (-1)).toNatClampNeg))] rfl rfl zk_11_322 zms_183 rfl (Nat.le_of_ble_eq_true rfl) ?_
        refine ze_183 ?_
        refine zNx_l ?_
        obtain ⟨b88, h⟩ := h
        refine zr_last zSm 88 rfl rfl b88 ?_
        refine zr_iinc zSm 89 (v := l5 + 1) (ll' := [(5, .int (l5 + 1)), (4, .int (l4 + (-1))), (6, .int (I 43 l5.toNatClampNeg)), (0, .ref 28), (1, .int l1), (2, .int l2), (3, .int l3)]) rfl rfl (by decide) rfl rfl ?_
        refine zr_goto zSm 90 6 rfl rfl ?_
        refine zr_sub [3, 4, 5, 6, 1, 0] rfl ?_
        exact h
      · have h := h.2 q3
        refine zr_aload_n zSm 36 rfl rfl ?_
        refine zr_getR zSm 37 rfl zf_11_78 rfl rfl (by decide) ?_
        refine zr_iload zSm 38 rfl rfl ?_
        refine zr_s zSm 39 rfl rfl ?_
        refine zr_s zSm 40 rfl rfl ?_
        obtain ⟨b41, h⟩ := h
        refine zr_lald zSm 41 rfl rfl b41 ?_
        refine zr_lstore zSm 42 (ll' := [(7, .long (J 50 ((l4 - 1).toNatClampNeg))), (6, .int (I 43 l5.toNatClampNeg)), (0, .ref 28), (1, .int l1), (2, .int l2), (3, .int l3), (4, .int l4), (5, .int l5)]) rfl (by decide) rfl ?_
        refine zr_aload_n zSm 43 rfl rfl ?_
        refine zr_getR zSm 44 rfl zf_11_78 rfl rfl (by decide) ?_
        refine zr_iload zSm 45 rfl rfl ?_
        refine zr_s zSm 46 rfl rfl ?_
        refine zr_s zSm 47 rfl rfl ?_
        refine zr_iload zSm 48 rfl rfl ?_
        refine zr_sipush zSm 49 441 rfl rfl ?_
        refine zr_ic zSm 50 105 rfl rfl (fun q4 => ?_) (fun q4 => ?_)
        · have h := h.1 q4
          refine zr_iload zSm 54 rfl rfl ?_
          refine zr_sipush zSm 55 442 rfl rfl ?_
          refine zr_ic zSm 56 122 rfl rfl (fun q5 => ?_) (fun q5 => ?_)
          · have h := h.1 q5
            refine zr_lload zSm 61 rfl rfl ?_
            refine zr_s zSm 62 rfl rfl ?_
            refine zr_s zSm 63 rfl rfl ?_
            refine zr_if zSm 64 133 rfl rfl (fun q6 => ?_) (fun q6 => ?_)
            · have q6 := zq_ne.mp q6
              have h := h.1 q6
              refine zr_s zSm 67 rfl rfl ?_
              obtain ⟨b68, h⟩ := h
              refine zr_last zSm 68 rfl rfl b68 ?_
              refine zr_goto zSm 69 171 rfl rfl ?_
              refine zr_iinc zSm 89 (v := l5 + 1) (ll' := [(5, .int (l5 + 1)), (7, .long (J 50 ((l4 - 1).toNatClampNeg))), (6, .int (I 43 l5.toNatClampNeg)), (0, .ref 28), (1, .int l1), (2, .int l2), (3, .int l3), (4, .int l4)]) rfl rfl (by decide) rfl rfl ?_
              refine zr_goto zSm 90 6 rfl rfl ?_
              refine zr_sub [3, 4, 5, 6, 7, 0] rfl ?_
              exact h
            · have q6 := (fun z => q6 (zq_ne.mpr z))
              have h := h.2 q6
              refine zr_s zSm 65 rfl rfl ?_
              refine zr_goto zSm 66 134 rfl rfl ?_
              obtain ⟨b68, h⟩ := h
              refine zr_last zSm 68 rfl rfl b68 ?_
              refine zr_goto zSm 69 171 rfl rfl ?_
              refine zr_iinc zSm 89 (v := l5 + 1) (ll' := [(5, .int (l5 + 1)), (7, .long (J 50 ((l4 - 1).toNatClampNeg))), (6, .int (I 43 l5.toNatClampNeg)), (0, .ref 28), (1, .int l1), (2, .int l2), (3, .int l3), (4, .int l4)]) rfl rfl (by decide) rfl rfl ?_
              refine zr_goto zSm 90 6 rfl rfl ?_
              refine zr_sub [3, 4, 5, 6, 7, 0] rfl ?_
              exact h
          · have h := h.2 q5
            refine zr_aload_n zSm 57 rfl rfl ?_
            refine zr_lload zSm 58 rfl rfl ?_
            refine zr_inv0 59 182 1 [.long (J 50 ((l4 - 1).toNatClampNeg))] rfl rfl zk_11_318 zms_182 rfl ⟨_, _, _, _, rfl, rfl⟩ (Nat.le_of_ble_eq_true rfl) ?_
            refine zcl h (fun v1 I1 J1 D1 h => ?_)
            refine zr_goto zSm 60 134 rfl rfl ?_
            obtain ⟨b68, h⟩ := h
            refine zr_last zSm 68 rfl rfl b68 ?_
            refine zr_goto zSm 69 171 rfl rfl ?_
            refine zr_iinc zSm 89 (v := l5 + 1) (ll' := [(5, .int (l5 + 1)), (7, .long (J 50 ((l4 - 1).toNatClampNeg))), (6, .int (I 43 l5.toNatClampNeg)), (0, .ref 28), (1, .int l1), (2, .int l2), (3, .int l3), (4, .int l4)]) rfl rfl (by decide) rfl rfl ?_
            refine zr_goto zSm 90 6 rfl rfl ?_
            refine zr_sub [3, 4, 5, 6, 7, 0] rfl ?_
            exact h
        · have h := h.2 q4
          refine zr_lload zSm 51 rfl rfl ?_
          refine zr_s zSm 52 rfl rfl ?_
          refine zr_goto zSm 53 134 rfl rfl ?_
          obtain ⟨b68, h⟩ := h
          refine zr_last zSm 68 rfl rfl b68 ?_
          refine zr_goto zSm 69 171 rfl rfl ?_
          refine zr_iinc zSm 89 (v := l5 + 1) (ll' := [(5, .int (l5 + 1)), (7, .long (J 50 ((l4 - 1).toNatClampNeg))), (6, .int (I 43 l5.toNatClampNeg)), (0, .ref 28), (1, .int l1), (2, .int l2), (3, .int l3), (4, .int l4)]) rfl rfl (by decide) rfl rfl ?_
          refine zr_goto zSm 90 6 rfl rfl ?_
          refine zr_sub [3, 4, 5, 6, 7, 0] rfl ?_
          exact h
    · have h := h.2 q2
      refine zr_aload_n zSm 18 rfl rfl ?_
      refine zr_getR zSm 19 rfl zf_11_78 rfl rfl (by decide) ?_
      refine zr_iload zSm 20 rfl rfl ?_
      refine zr_aload_n zSm 21 rfl rfl ?_
      refine zr_iload zSm 22 rfl rfl ?_
      refine zr_aload_n zSm 23 rfl rfl ?_
      refine zr_getR zSm 24 rfl zf_11_56 rfl rfl (by decide) ?_
      refine zr_iload zSm 25 rfl rfl ?_
      obtain ⟨b26, h⟩ := h
      refine zr_iald zSm 26 rfl rfl b26 ?_
      refine zr_iload_n zSm 27 rfl rfl ?_
      refine zr_iload_n zSm 28 rfl rfl ?_
      obtain ⟨b29, h⟩ := h
      refine zr_inv0 29 181 4 [.int (I 43 l5.toNatClampNeg), .int (I 44 l5.toNatClampNeg), .int l2, .int l3] rfl rfl zk_11_314 zms_181 rfl ⟨_, _, _, _, rfl, rfl⟩ (Nat.le_of_ble_eq_true rfl) ?_
      refine ze_181 b29 ?_
      refine zNx_l ?_
      obtain ⟨b30, h⟩ := h
      refine zr_last zSm 30 rfl rfl b30 ?_
      refine zr_iinc zSm 31 (v := l4 + 1) (ll' := [(4, .int (l4 + 1)), (6, .int (I 43 l5.toNatClampNeg)), (0, .ref 28), (1, .int l1), (2, .int l2), (3, .int l3), (5, .int l5)]) rfl rfl (by decide) rfl rfl ?_
      refine zr_goto zSm 32 171 rfl rfl ?_
      refine zr_iinc zSm 89 (v := l5 + 1) (ll' := [(5, .int (l5 + 1)), (4, .int (l4 + 1)), (6, .int (I 43 l5.toNatClampNeg)), (0, .ref 28), (1, .int l1), (2, .int l2), (3, .int l3)]) rfl rfl (by decide) rfl rfl ?_
      refine zr_goto zSm 90 6 rfl rfl ?_
      refine zr_sub [3, 4, 5, 6, 1, 0] rfl ?_
      exact h
theorem w_182 {RO : zRo} {d : Nat} {P : zP} {I : zI} {J : zJ} {D : zD} {bc bs : Nat} {p0 : Int64} (h : (¬ (if (if 1000 < p0 then 1000 else p0) < 1 then 1 else (if 1000 < p0 then 1000 else p0)) = 0 ∧ P (.inl (some (.long (1 + ((((((J 28 32) * 6364136223846793005) + 1442695040888963407).toUInt64 >>> ((33 : Int32).toInt64.toUInt64 &&& Int64.toUInt64 63)).toInt64) - (((((J 28 32) * 6364136223846793005) + 1442695040888963407).toUInt64 >>> ((33 : Int32).toInt64.toUInt64 &&& Int64.toUInt64 63)).toInt64) / (if (if 1000 < p0 then 1000 else p0) < 1 then 1 else (if 1000 < p0 then 1000 else p0)) * (if (if 1000 < p0 then 1000 else p0) < 1 then 1 else (if 1000 < p0 then 1000 else p0))))))) I (zu J 28 32 (((J 28 32) * 6364136223846793005) + 1442695040888963407)) D)) : zz RO (d + 1) 182 [.ref 28, .long p0] I J D bc bs P := by
  refine zT_of (Nat.le_of_ble_eq_true rfl) rfl ?_
  show zw RO d 182 P 0 [(0, .ref 28), (1, .long p0)] [] I J D bc bs
  refine zr_aload_n zSm 0 rfl rfl ?_
  refine zr_aload_n zSm 1 rfl rfl ?_
  refine zr_getJ zSm 2 rfl zf_11_329 rfl rfl (by decide) ?_
  refine zr_ldc2 zSm 3 rfl zc_11_333 ?_
  refine zr_s zSm 4 rfl rfl ?_
  refine zr_ldc2 zSm 5 rfl zc_11_335 ?_
  refine zr_s zSm 6 rfl rfl ?_
  refine zr_putJ zSm 7 rfl zf_11_329 rfl rfl (by decide) zp_11_32 ?_
  refine zr_s zSm 8 rfl rfl ?_
  refine zr_aload_n zSm 9 rfl rfl ?_
  refine zr_getJ zSm 10 rfl zf_11_329 rfl rfl (by decide) ?_
  refine zr_bipush zSm 11 33 rfl rfl ?_
  refine zr_s zSm 12 rfl rfl ?_
  refine zr_s zSm 13 rfl rfl ?_
  refine zr_ldc2 zSm 14 rfl zc_11_337 ?_
  refine zr_lload_n zSm 15 rfl rfl ?_
  refine zr_minl 16 rfl zmt_11_339 (Nat.le_of_ble_eq_true rfl) ?_
  refine zr_maxl 17 rfl zmt_11_345 (Nat.le_of_ble_eq_true rfl) ?_
  obtain ⟨b18, h⟩ := h
  refine zr_lrem zSm 18 rfl b18 ?_
  refine zr_s zSm 19 rfl rfl ?_
  refine zr_lret zSm 20 rfl rfl ?_
  exact h
theorem w_184 {RO : zRo} {d : Nat} {P : zP} {I : zI} {J : zJ} {D : zD} {bc bs : Nat} {p0 p1 p2 : Int32} (h : (vp_in p0 28 ∧ (((I 40 p0.toNatClampNeg) = (-1) → P (.inl (some (.int 1))) I J D) ∧ (¬ ((I 40 p0.toNatClampNeg) = (-1)) → (vp_in p0 28 ∧ (zz RO d 180 [.ref 28, .int (I 40 p0.toNatClampNeg), .int p1, .int p2] I J D 0 0 (zNl P fun v1 I1 J1 D1 => ((v1 = 0 → P (.inl (some (.int 0))) I1 J1 D1) ∧ (¬ (v1 = 0) → P (.inl (some (.int 1))) I1 J1 D1))))))))) : zz RO (d + 1) 184 [.ref 28, .int p0, .int p1, .int p2] I J D bc bs P := by
  refine zT_of (Nat.le_of_ble_eq_true rfl) rfl ?_
  show zw RO d 184 P 0 [(0, .ref 28), (1, .int p0), (2, .int p1), (3, .int p2)] [] I J D bc bs
  refine zr_aload_n zSm 0 rfl rfl ?_
  refine zr_getR zSm 1 rfl zf_11_44 rfl rfl (by decide) ?_
  refine zr_iload_n zSm 2 rfl rfl ?_
  obtain ⟨b3, h⟩ := h
  refine zr_iald zSm 3 rfl rfl b3 ?_
  refine zr_s zSm 4 rfl rfl ?_
  refine zr_ic zSm 5 27 rfl rfl (fun q1 => ?_) (fun q1 => ?_)
  · have h := h.1 q1
    refine zr_s zSm 17 rfl rfl ?_
    refine zr_goto zSm 18 32 rfl rfl ?_
    refine zr_iret zSm 20 rfl rfl (zn_b (Or.inr rfl)) ?_
    exact h
  · have h := h.2 q1
    refine zr_aload_n zSm 6 rfl rfl ?_
    refine zr_aload_n zSm 7 rfl rfl ?_
    refine zr_getR zSm 8 rfl zf_11_44 rfl rfl (by decide) ?_
    refine zr_iload_n zSm 9 rfl rfl ?_
    obtain ⟨b10, h⟩ := h
    refine zr_iald zSm 10 rfl rfl b10 ?_
    refine zr_iload_n zSm 11 rfl rfl ?_
    refine zr_iload_n zSm 12 rfl rfl ?_
    refine zr_inv0 13 180 3 [.int (I 40 p0.toNatClampNeg), .int p1, .int p2] rfl rfl zk_11_348 zms_180 rfl ⟨_, _, _, _, rfl, rfl⟩ (Nat.le_of_ble_eq_true rfl) ?_
    refine zcl h (fun v1 I1 J1 D1 h => ?_)
    refine zr_s zSm 14 rfl rfl ?_
    refine zr_s zSm 15 rfl rfl ?_
    refine zr_if zSm 16 31 rfl rfl (fun q2 => ?_) (fun q2 => ?_)
    · have q2 := zq_eq.mp q2
      have h := h.1 q2
      refine zr_s zSm 19 rfl rfl ?_
      refine zr_iret zSm 20 rfl rfl (zn_b (Or.inl rfl)) ?_
      exact h
    · have q2 := (fun z => q2 (zq_eq.mpr z))
      have h := h.2 q2
      refine zr_s zSm 17 rfl rfl ?_
      refine zr_goto zSm 18 32 rfl rfl ?_
      refine zr_iret zSm 20 rfl rfl (zn_b (Or.inr rfl)) ?_
      exact h
theorem w_185 {RO : zRo} {d : Nat} {P : zP} {I : zI} {J : zJ} {D : zD} {bc bs : Nat} {p0 p1 p2 : Int32} (h : (vp_in p0 1350 ∧ (vp_in p0 1350 ∧ ((¬ ((I 44 p0.toNatClampNeg) - (I 44 p0.toNatClampNeg) / 4 * 4) = 0 → zw RO d 185 P 38 [(0, .ref 28), (1, .int p0), (2, .int p1), (3, .int p2), (4, .int ((I 44 p0.toNatClampNeg) - (I 44 p0.toNatClampNeg) / 4 * 4)), (5, .int ((I 44 p0.toNatClampNeg) / 4)), (6, .int ((6 * p2) + ((I 44 p0.toNatClampNeg) / 4)))] [] I J D bc bs) ∧ (¬ (¬ ((I 44 p0.toNatClampNeg) - (I 44 p0.toNatClampNeg) / 4 * 4) = 0) → zw RO d 185 P 38 [(0, .ref 28), (1, .int p0), (2, .int p1), (3, .int p2), (4, .int ((I 44 p0.toNatClampNeg) - (I 44 p0.toNatClampNeg) / 4 * 4)), (5, .int ((I 44 p0.toNatClampNeg) / 4)), (6, .int ((6 * p1) + ((I 44 p0.toNatClampNeg) / 4)))] [] I J D bc bs))))) : zz RO (d + 1) 185 [.ref 28, .int p0, .int p1, .int p2] I J D bc bs P := by
  refine zT_of (Nat.le_of_ble_eq_true rfl) rfl ?_
  show zw RO d 185 P 0 [(0, .ref 28), (1, .int p0), (2, .int p1), (3, .int p2)] [] I J D bc bs
  refine zr_aload_n zSm 0 rfl rfl ?_
  refine zr_getR zSm 1 rfl zf_11_56 rfl rfl (by decide) ?_
  refine zr_iload_n zSm 2 rfl rfl ?_
  obtain ⟨b3, h⟩ := h
  refine zr_iald zSm 3 rfl rfl b3 ?_
  refine zr_s zSm 4 rfl rfl ?_
  refine zr_irem zSm 5 rfl (by decide) ?_
  refine zr_istore zSm 6 (ll' := [(4, .int ((I 44 p0.toNatClampNeg) - (I 44 p0.toNatClampNeg) / 4 * 4)), (0, .ref 28), (1, .int p0), (2, .int p1), (3, .int p2)]) rfl (by decide) rfl ?_
  refine zr_aload_n zSm 7 rfl rfl ?_
  refine zr_getR zSm 8 rfl zf_11_56 rfl rfl (by decide) ?_
  refine zr_iload_n zSm 9 rfl rfl ?_
  obtain ⟨b10, h⟩ := h
  refine zr_iald zSm 10 rfl rfl b10 ?_
  refine zr_s zSm 11 rfl rfl ?_
  refine zr_idiv zSm 12 rfl (by decide) ?_
  refine zr_istore zSm 13 (ll' := [(5, .int ((I 44 p0.toNatClampNeg) / 4)), (4, .int ((I 44 p0.toNatClampNeg) - (I 44 p0.toNatClampNeg) / 4 * 4)), (0, .ref 28), (1, .int p0), (2, .int p1), (3, .int p2)]) rfl (by decide) rfl ?_
  refine zr_bipush zSm 14 6 rfl rfl ?_
  refine zr_iload zSm 15 rfl rfl ?_
  refine zr_if zSm 16 31 rfl rfl (fun q1 => ?_) (fun q1 => ?_)
  · have h := h.1 q1
    refine zr_iload_n zSm 19 rfl rfl ?_
    refine zr_s zSm 20 rfl rfl ?_
    refine zr_iload zSm 21 rfl rfl ?_
    refine zr_s zSm 22 rfl rfl ?_
    refine zr_istore zSm 23 (ll' := [(6, .int ((6 * p2) + ((I 44 p0.toNatClampNeg) / 4))), (5, .int ((I 44 p0.toNatClampNeg) / 4)), (4, .int ((I 44 p0.toNatClampNeg) - (I 44 p0.toNatClampNeg) / 4 * 4)), (0, .ref 28), (1, .int p0), (2, .int p1), (3, .int p2)]) rfl (by decide) rfl ?_
    refine zr_sub [3, 4, 5, 6, 2, 1, 0] rfl ?_
    exact h
  · have h := h.2 q1
    refine zr_iload_n zSm 17 rfl rfl ?_
    refine zr_goto zSm 18 32 rfl rfl ?_
    refine zr_s zSm 20 rfl rfl ?_
    refine zr_iload zSm 21 rfl rfl ?_
    refine zr_s zSm 22 rfl rfl ?_
    refine zr_istore zSm 23 (ll' := [(6, .int ((6 * p1) + ((I 44 p0.toNatClampNeg) / 4))), (5, .int ((I 44 p0.toNatClampNeg) / 4)), (4, .int ((I 44 p0.toNatClampNeg) - (I 44 p0.toNatClampNeg) / 4 * 4)), (0, .ref 28), (1, .int p0), (2, .int p1), (3, .int p2)]) rfl (by decide) rfl ?_
    refine zr_sub [3, 4, 5, 6, 2, 1, 0] rfl ?_
    exact h
theorem wl_185_38 {RO : zRo} {d : Nat} {P : zP} {I : zI} {J : zJ} {D : zD} {bc bs : Nat} {l1 l2 l3 l4 l5 l6 : Int32} (h : (vp_in l1 1350 ∧ (zz RO d 180 [.ref 28, .int (I 45 l1.toNatClampNeg), .int l2, .int l3] I J D 0 0 (zNl P fun v1 I1 J1 D1 => (vp_in l1 1350 ∧ ((¬ (I1 43 l1.toNatClampNeg) = 13 → zw RO d 185 P 93 [(0, .ref 28), (1, .int l1), (2, .int l2), (3, .int l3), (4, .int l4), (5, .int l5), (6, .int l6), (7, .long v1)] [] I1 J1 D1 bc bs) ∧ (¬ (¬ (I1 43 l1.toNatClampNeg) = 13) → ((¬ l4 = 2 → (vp_in l6 24 ∧ zw RO d 185 P 93 [(0, .ref 28), (1, .int l1), (2, .int l2), (3, .int l3), (4, .int l4), (5, .int l5), (6, .int l6), (7, .long (v1 + ((I1 46 l6.toNatClampNeg).toInt64)))] [] I1 J1 D1 bc bs)) ∧ (¬ (¬ l4 = 2) → (vp_in l5 6 ∧ zw RO d 185 P 93 [(0, .ref 28), (1, .int l1), (2, .int l2), (3, .int l3), (4, .int l4), (5, .int l5), (6, .int l6), (7, .long (v1 + ((I1 47 l5.toNatClampNeg).toInt64)))] [] I1 J1 D1 bc bs)))))))))) : zw RO d 185 P 38 [(0, .ref 28), (1, .int l1), (2, .int l2), (3, .int l3), (4, .int l4), (5, .int l5), (6, .int l6)] [] I J D bc bs := by
  refine zr_aload_n zSm 24 rfl rfl ?_
  refine zr_aload_n zSm 25 rfl rfl ?_
  refine zr_getR zSm 26 rfl zf_11_59 rfl rfl (by decide) ?_
  refine zr_iload_n zSm 27 rfl rfl ?_
  obtain ⟨b28, h⟩ := h
  refine zr_iald zSm 28 rfl rfl b28 ?_
  refine zr_iload_n zSm 29 rfl rfl ?_
  refine zr_iload_n zSm 30 rfl rfl ?_
  refine zr_inv0 31 180 3 [.int (I 45 l1.toNatClampNeg), .int l2, .int l3] rfl rfl zk_11_348 zms_180 rfl ⟨_, _, _, _, rfl, rfl⟩ (Nat.le_of_ble_eq_true rfl) ?_
  refine zcl h (fun v1 I1 J1 D1 h => ?_)
  refine zr_lstore zSm 32 (ll' := [(7, .long v1), (0, .ref 28), (1, .int l1), (2, .int l2), (3, .int l3), (4, .int l4), (5, .int l5), (6, .int l6)]) rfl (by decide) rfl ?_
  refine zr_aload_n zSm 33 rfl rfl ?_
  refine zr_getR zSm 34 rfl zf_11_53 rfl rfl (by decide) ?_
  refine zr_iload_n zSm 35 rfl rfl ?_
  obtain ⟨b36, h⟩ := h
  refine zr_iald zSm 36 rfl rfl b36 ?_
  refine zr_bipush zSm 37 13 rfl rfl ?_
  refine zr_ic zSm 38 93 rfl rfl (fun q1 => ?_) (fun q1 => ?_)
  · have h := h.1 q1
    refine zr_sub [1, 2, 3, 4, 5, 6, 7, 0] rfl ?_
    exact h
  · have h := h.2 q1
    refine zr_lload zSm 39 rfl rfl ?_
    refine zr_iload zSm 40 rfl rfl ?_
    refine zr_s zSm 41 rfl rfl ?_
    refine zr_ic zSm 42 82 rfl rfl (fun q2 => ?_) (fun q2 => ?_)
    · have h := h.1 q2
      refine zr_aload_n zSm 49 rfl rfl ?_
      refine zr_getR zSm 50 rfl zf_11_66 rfl rfl (by decide) ?_
      refine zr_iload zSm 51 rfl rfl ?_
      obtain ⟨b52, h⟩ := h
      refine zr_iald zSm 52 rfl rfl b52 ?_
      refine zr_s zSm 53 rfl rfl ?_
      refine zr_s zSm 54 rfl rfl ?_
      refine zr_lstore zSm 55 (ll' := [(7, .long (v1 + ((I1 46 l6.toNatClampNeg).toInt64))), (0, .ref 28), (1, .int l1), (2, .int l2), (3, .int l3), (4, .int l4), (5, .int l5), (6, .int l6)]) rfl (by decide) rfl ?_
      refine zr_sub [1, 2, 3, 4, 5, 6, 7, 0] rfl ?_
      exact h
    · have h := h.2 q2
      refine zr_aload_n zSm 43 rfl rfl ?_
      refine zr_getR zSm 44 rfl zf_11_69 rfl rfl (by decide) ?_
      refine zr_iload zSm 45 rfl rfl ?_
      obtain ⟨b46, h⟩ := h
      refine zr_iald zSm 46 rfl rfl b46 ?_
      refine zr_s zSm 47 rfl rfl ?_
      refine zr_goto zSm 48 90 rfl rfl ?_
      refine zr_s zSm 54 rfl rfl ?_
      refine zr_lstore zSm 55 (ll' := [(7, .long (v1 + ((I1 47 l5.toNatClampNeg).toInt64))), (0, .ref 28), (1, .int l1), (2, .int l2), (3, .int l3), (4, .int l4), (5, .int l5), (6, .int l6)]) rfl (by decide) rfl ?_
      refine zr_sub [1, 2, 3, 4, 5, 6, 7, 0] rfl ?_
      exact h
theorem wl_185_93 {RO : zRo} {d : Nat} {P : zP} {I : zI} {J : zJ} {D : zD} {bc bs : Nat} {l1 l2 l3 l4 l5 l6 : Int32} {l7 : Int64} (h : ((¬ l4 = 2 → zw RO d 185 P 113 [(0, .ref 28), (1, .int l1), (2, .int l2), (3, .int l3), (4, .int l4), (5, .int l5), (6, .int l6), (7, .long l7), (9, .int (3 * l5))] [] I J D bc bs) ∧ (¬ (¬ l4 = 2) → zw RO d 185 P 113 [(0, .ref 28), (1, .int l1), (2, .int l2), (3, .int l3), (4, .int l4), (5, .int l5), (6, .int l6), (7, .long l7), (9, .int (3 * (6 + l5)))] [] I J D bc bs))) : zw RO d 185 P 93 [(0, .ref 28), (1, .int l1), (2, .int l2), (3, .int l3), (4, .int l4), (5, .int l5), (6, .int l6), (7, .long l7)] [] I J D bc bs := by
  refine zr_s zSm 56 rfl rfl ?_
  refine zr_iload zSm 57 rfl rfl ?_
  refine zr_s zSm 58 rfl rfl ?_
  refine zr_ic zSm 59 108 rfl rfl (fun q1 => ?_) (fun q1 => ?_)
  · have h := h.1 q1
    refine zr_iload zSm 64 rfl rfl ?_
    refine zr_s zSm 65 rfl rfl ?_
    refine zr_istore zSm 66 (ll' := [(9, .int (3 * l5)), (0, .ref 28), (1, .int l1), (2, .int l2), (3, .int l3), (4, .int l4), (5, .int l5), (6, .int l6), (7, .long l7)]) rfl (by decide) rfl ?_
    refine zr_sub [1, 2, 3, 4, 5, 6, 7, 8, 0] rfl ?_
    exact h
  · have h := h.2 q1
    refine zr_bipush zSm 60 6 rfl rfl ?_
    refine zr_iload zSm 61 rfl rfl ?_
    refine zr_s zSm 62 rfl rfl ?_
    refine zr_goto zSm 63 110 rfl rfl ?_
    refine zr_s zSm 65 rfl rfl ?_
    refine zr_istore zSm 66 (ll' := [(9, .int (3 * (6 + l5))), (0, .ref 28), (1, .int l1), (2, .int l2), (3, .int l3), (4, .int l4), (5, .int l5), (6, .int l6), (7, .long l7)]) rfl (by decide) rfl ?_
    refine zr_sub [1, 2, 3, 4, 5, 6, 7, 8, 0] rfl ?_
    exact h
theorem wl_185_113 {RO : zRo} {d : Nat} {P : zP} {I : zI} {J : zJ} {D : zD} {bc bs : Nat} {l1 l2 l3 l4 l5 l6 l9 : Int32} {l7 : Int64} (h : (vp_in l9 36 ∧ (vp_in (l9 + 1) 36 ∧ zw RO d 185 P 142 [(0, .ref 28), (1, .int l1), (2, .int l2), (3, .int l3), (4, .int l4), (5, .int l5), (6, .int l6), (7, .long l7), (9, .int l9), (10, .int ((if (if ((I 38 ((l9 + 1).toNatClampNeg)).toInt64) < l7 then ((I 38 ((l9 + 1).toNatClampNeg)).toInt64) else l7) < ((I 38 l9.toNatClampNeg).toInt64) then ((I 38 l9.toNatClampNeg).toInt64) else (if ((I 38 ((l9 + 1).toNatClampNeg)).toInt64) < l7 then ((I 38 ((l9 + 1).toNatClampNeg)).toInt64) else l7)).toInt32))] [] I J D bc bs))) : zw RO d 185 P 113 [(0, .ref 28), (1, .int l1), (2, .int l2), (3, .int l3), (4, .int l4), (5, .int l5), (6, .int l6), (7, .long l7), (9, .int l9)] [] I J D bc bs := by
  refine zr_aload_n zSm 67 rfl rfl ?_
  refine zr_getR zSm 68 rfl zf_11_38 rfl rfl (by decide) ?_
  refine zr_iload zSm 69 rfl rfl ?_
  obtain ⟨b70, h⟩ := h
  refine zr_iald zSm 70 rfl rfl b70 ?_
  refine zr_s zSm 71 rfl rfl ?_
  refine zr_aload_n zSm 72 rfl rfl ?_
  refine zr_getR zSm 73 rfl zf_11_38 rfl rfl (by decide) ?_
  refine zr_iload zSm 74 rfl rfl ?_
  refine zr_s zSm 75 rfl rfl ?_
  refine zr_s zSm 76 rfl rfl ?_
  obtain ⟨b77, h⟩ := h
  refine zr_iald zSm 77 rfl rfl b77 ?_
  refine zr_s zSm 78 rfl rfl ?_
  refine zr_lload zSm 79 rfl rfl ?_
  refine zr_minl 80 rfl zmt_11_339 (Nat.le_of_ble_eq_true rfl) ?_
  refine zr_maxl 81 rfl zmt_11_345 (Nat.le_of_ble_eq_true rfl) ?_
  refine zr_s zSm 82 rfl rfl ?_
  refine zr_istore zSm 83 (ll' := [(10, .int ((if (if ((I 38 ((l9 + 1).toNatClampNeg)).toInt64) < l7 then ((I 38 ((l9 + 1).toNatClampNeg)).toInt64) else l7) < ((I 38 l9.toNatClampNeg).toInt64) then ((I 38 l9.toNatClampNeg).toInt64) else (if ((I 38 ((l9 + 1).toNatClampNeg)).toInt64) < l7 then ((I 38 ((l9 + 1).toNatClampNeg)).toInt64) else l7)).toInt32)), (0, .ref 28), (1, .int l1), (2, .int l2), (3, .int l3), (4, .int l4), (5, .int l5), (6, .int l6), (7, .long l7), (9, .int l9)]) rfl (by decide) rfl ?_
  refine zr_sub [1, 2, 3, 4, 5, 6, 7, 8, 9, 0] rfl ?_
  exact h
theorem wl_185_142 {RO : zRo} {d : Nat} {P : zP} {I : zI} {J : zJ} {D : zD} {bc bs : Nat} {l1 l2 l3 l4 l5 l6 l9 l10 : Int32} {l7 : Int64} (h : ((¬ l4 = 2 → (vp_in l6 24 ∧ P (.inl none) (zu I 46 l6.toNatClampNeg l10) J D)) ∧ (¬ (¬ l4 = 2) → (vp_in l5 6 ∧ P (.inl none) (zu I 47 l5.toNatClampNeg l10) J D)))) : zw RO d 185 P 142 [(0, .ref 28), (1, .int l1), (2, .int l2), (3, .int l3), (4, .int l4), (5, .int l5), (6, .int l6), (7, .long l7), (9, .int l9), (10, .int l10)] [] I J D bc bs := by
  refine zr_iload zSm 84 rfl rfl ?_
  refine zr_s zSm 85 rfl rfl ?_
  refine zr_ic zSm 86 160 rfl rfl (fun q1 => ?_) (fun q1 => ?_)
  · have h := h.1 q1
    refine zr_aload_n zSm 93 rfl rfl ?_
    refine zr_getR zSm 94 rfl zf_11_66 rfl rfl (by decide) ?_
    refine zr_iload zSm 95 rfl rfl ?_
    refine zr_iload zSm 96 rfl rfl ?_
    obtain ⟨b97, h⟩ := h
    refine zr_iast zSm 97 rfl rfl b97 ?_
    refine zr_vret zSm 98 rfl rfl ?_
    exact h
  · have h := h.2 q1
    refine zr_aload_n zSm 87 rfl rfl ?_
    refine zr_getR zSm 88 rfl zf_11_69 rfl rfl (by decide) ?_
    refine zr_iload zSm 89 rfl rfl ?_
    refine zr_iload zSm 90 rfl rfl ?_
    obtain ⟨b91, h⟩ := h
    refine zr_iast zSm 91 rfl rfl b91 ?_
    refine zr_goto zSm 92 169 rfl rfl ?_
    refine zr_vret zSm 98 rfl rfl ?_
    exact h
theorem w_186 {RO : zRo} {d : Nat} {P : zP} {I : zI} {J : zJ} {D : zD} {bc bs : Nat} {p0 p1 p2 : Int32} (h : zw RO d 186 P 3 [(0, .ref 28), (1, .int p0), (2, .int p1), (3, .int p2), (4, .int p0)] [] I J D bc bs) : zz RO (d + 1) 186 [.ref 28, .int p0, .int p1, .int p2] I J D bc bs P := by
  refine zT_of (Nat.le_of_ble_eq_true rfl) rfl ?_
  show zw RO d 186 P 0 [(0, .ref 28), (1, .int p0), (2, .int p1), (3, .int p2)] [] I J D bc bs
  refine zr_iload_n zSm 0 rfl rfl ?_
  refine zr_istore zSm 1 (ll' := [(4, .int p0), (0, .ref 28), (1, .int p0), (2, .int p1), (3, .int p2)]) rfl (by decide) rfl ?_
  refine zr_sub [1, 2, 3, 4, 0] rfl ?_
  exact h
theorem wl_186_3 {RO : zRo} {d : Nat} {P : zP} {I : zI} {J : zJ} {D : zD} {bc bs : Nat} {l1 l2 l3 l4 : Int32} (h : (vp_in l4 1350 ∧ (((I 43 l4.toNatClampNeg) = 303 → P (.inl none) I J D) ∧ (¬ ((I 43 l4.toNatClampNeg) = 303) → (vp_in l4 1350 ∧ (((I 43 l4.toNatClampNeg) = 17 → zw RO d 186 P 3 [(0, .ref 28), (1, .int l1), (2, .int l2), (3, .int l3), (4, .int (l4 + 1))] [] (zu I 28 45 (if 0 < ((I 28 45) - 1) then ((I 28 45) - 1) else 0)) J D bc bs) ∧ (¬ ((I 43 l4.toNatClampNeg) = 17) → (((I 43 l4.toNatClampNeg) = 18 → zw RO d 186 P 3 [(0, .ref 28), (1, .int l1), (2, .int l2), (3, .int l3), (4, .int (l4 + 1))] [] (zu I 28 41 1) J D bc bs) ∧ (¬ ((I 43 l4.toNatClampNeg) = 18) → (((I 43 l4.toNatClampNeg) = 19 → zw RO d 186 P 3 [(0, .ref 28), (1, .int l1), (2, .int l2), (3, .int l3), (4, .int (l4 + 1))] [] (zu I 28 40 1) J D bc bs) ∧ (¬ ((I 43 l4.toNatClampNeg) = 19) → (((I 43 l4.toNatClampNeg) = 300 → (vp_in l4 1350 ∧ (zz RO d 180 [.ref 28, .int (I 45 l4.toNatClampNeg), .int l2, .int l3] I J D 0 0 (zNl P fun v1 I1 J1 D1 => ((v1 = 0 → (vp_in l4 1350 ∧ zw RO d 186 P 3 [(0, .ref 28), (1, .int l1), (2, .int l2), (3, .int l3), (4, .int (I1 44 l4.toNatClampNeg))] [] I1 J1 D1 bc bs)) ∧ (¬ (v1 = 0) → zw RO d 186 P 3 [(0, .ref 28), (1, .int l1), (2, .int l2), (3, .int l3), (4, .int (l4 + 1))] [] I1 J1 D1 bc bs)))))) ∧ (¬ ((I 43 l4.toNatClampNeg) = 300) → (((I 43 l4.toNatClampNeg) = 301 → (vp_in l4 1350 ∧ zw RO d 186 P 3 [(0, .ref 28), (1, .int l1), (2, .int l2), (3, .int l3), (4, .int (I 44 l4.toNatClampNeg))] [] I J D bc bs)) ∧ (¬ ((I 43 l4.toNatClampNeg) = 301) → (((I 43 l4.toNatClampNeg) = 302 → zw RO d 186 P 140 [(0, .ref 28), (1, .int l1), (2, .int l2), (3, .int l3), (4, .int l4), (5, .int (l4 + 1)), (6, .int 1)] [] I J D bc bs) ∧ (¬ ((I 43 l4.toNatClampNeg) = 302) → (zz RO d 185 [.ref 28, .int l4, .int l2, .int l3] I J D 0 0 (zNv P fun I2 J2 D2 => zw RO d 186 P 3 [(0, .ref 28), (1, .int l1), (2, .int l2), (3, .int l3), (4, .int (l4 + 1))] [] I2 J2 D2 bc bs))))))))))))))))))) : zw RO d 186 P 3 [(0, .ref 28), (1, .int l1), (2, .int l2), (3, .int l3), (4, .int l4)] [] I J D bc bs := by
  refine zr_aload_n zSm 2 rfl rfl ?_
  refine zr_getR zSm 3 rfl zf_11_53 rfl rfl (by decide) ?_
  refine zr_iload zSm 4 rfl rfl ?_
  obtain ⟨b5, h⟩ := h
  refine zr_iald zSm 5 rfl rfl b5 ?_
  refine zr_sipush zSm 6 303 rfl rfl ?_
  refine zr_ic zSm 7 233 rfl rfl (fun q1 => ?_) (fun q1 => ?_)
  · have h := h.1 q1
    refine zr_vret zSm 95 rfl rfl ?_
    exact h
  · have h := h.2 q1
    refine zr_iload zSm 8 rfl rfl ?_
    refine zr_s zSm 9 rfl rfl ?_
    refine zr_s zSm 10 rfl rfl ?_
    refine zr_istore zSm 11 (ll' := [(5, .int (l4 + 1)), (0, .ref 28), (1, .int l1), (2, .int l2), (3, .int l3), (4, .int l4)]) rfl (by decide) rfl ?_
    refine zr_aload_n zSm 12 rfl rfl ?_
    refine zr_getR zSm 13 rfl zf_11_53 rfl rfl (by decide) ?_
    refine zr_iload zSm 14 rfl rfl ?_
    obtain ⟨b15, h⟩ := h
    refine zr_iald zSm 15 rfl rfl b15 ?_
    by_cases q2 : (I 43 l4.toNatClampNeg) = 17
    · have h := h.1 q2
      refine zr_lsG 16 185 [17] rfl (by simp only [List.mem_cons, List.not_mem_nil, or_false]; exact q2) (by decide) (by decide) ?_
      refine zr_aload_n zSm 70 rfl rfl ?_
      refine zr_s zSm 71 rfl rfl ?_
      refine zr_aload_n zSm 72 rfl rfl ?_
      refine zr_getI zSm 73 rfl zf_11_167 rfl rfl (by decide) ?_
      refine zr_s zSm 74 rfl rfl ?_
      refine zr_s zSm 75 rfl rfl ?_
      refine zr_max 76 rfl zmt_11_356 (Nat.le_of_ble_eq_true rfl) ?_
      refine zr_putI zSm 77 rfl zf_11_167 rfl rfl (by decide) zp_11_45 ?_
      refine zr_goto zSm 78 226 rfl rfl ?_
      refine zr_iload zSm 92 rfl rfl ?_
      refine zr_istore zSm 93 (ll' := [(4, .int (l4 + 1)), (5, .int (l4 + 1)), (0, .ref 28), (1, .int l1), (2, .int l2), (3, .int l3)]) rfl (by decide) rfl ?_
      refine zr_goto zSm 94 3 rfl rfl ?_
      refine zr_sub [2, 3, 4, 5, 0] rfl ?_
      exact h
    · have h := h.2 q2
      by_cases q3 : (I 43 l4.toNatClampNeg) = 18
      · have h := h.1 q3
        refine zr_lsG 16 202 [18] rfl (by simp only [List.mem_cons, List.not_mem_nil, or_false]; exact q3) (by decide) (by decide) ?_
        refine zr_aload_n zSm 79 rfl rfl ?_
        refine zr_s zSm 80 rfl rfl ?_
        refine zr_putZ zSm 81 rfl zf_11_358 rfl rfl (by decide) zp_11_41 (Or.inr rfl) ?_
        refine zr_goto zSm 82 226 rfl rfl ?_
        refine zr_iload zSm 92 rfl rfl ?_
        refine zr_istore zSm 93 (ll' := [(4, .int (l4 + 1)), (5, .int (l4 + 1)), (0, .ref 28), (1, .int l1), (2, .int l2), (3, .int l3)]) rfl (by decide) rfl ?_
        refine zr_goto zSm 94 3 rfl rfl ?_
        refine zr_sub [2, 3, 4, 5, 0] rfl ?_
        exact h
      · have h := h.2 q3
        by_cases q4 : (I 43 l4.toNatClampNeg) = 19
        · have h := h.1 q4
          refine zr_lsG 16 210 [19] rfl (by simp only [List.mem_cons, List.not_mem_nil, or_false]; exact q4) (by decide) (by decide) ?_
          refine zr_aload_n zSm 83 rfl rfl ?_
          refine zr_s zSm 84 rfl rfl ?_
          refine zr_putZ zSm 85 rfl zf_11_361 rfl rfl (by decide) zp_11_40 (Or.inr rfl) ?_
          refine zr_goto zSm 86 226 rfl rfl ?_
          refine zr_iload zSm 92 rfl rfl ?_
          refine zr_istore zSm 93 (ll' := [(4, .int (l4 + 1)), (5, .int (l4 + 1)), (0, .ref 28), (1, .int l1), (2, .int l2), (3, .int l3)]) rfl (by decide) rfl ?_
          refine zr_goto zSm 94 3 rfl rfl ?_
          refine zr_sub [2, 3, 4, 5, 0] rfl ?_
          exact h
        · have h := h.2 q4
          by_cases q5 : (I 43 l4.toNatClampNeg) = 300
          · have h := h.1 q5
            refine zr_lsG 16 100 [300] rfl (by simp only [List.mem_cons, List.not_mem_nil, or_false]; exact q5) (by decide) (by decide) ?_
            refine zr_aload_n zSm 23 rfl rfl ?_
            refine zr_aload_n zSm 24 rfl rfl ?_
            refine zr_getR zSm 25 rfl zf_11_59 rfl rfl (by decide) ?_
            refine zr_iload zSm 26 rfl rfl ?_
            obtain ⟨b27, h⟩ := h
            refine zr_iald zSm 27 rfl rfl b27 ?_
            refine zr_iload_n zSm 28 rfl rfl ?_
            refine zr_iload_n zSm 29 rfl rfl ?_
            refine zr_inv0 30 180 3 [.int (I 45 l4.toNatClampNeg), .int l2, .int l3] rfl rfl zk_11_348 zms_180 rfl ⟨_, _, _, _, rfl, rfl⟩ (Nat.le_of_ble_eq_true rfl) ?_
            refine zcl h (fun v1 I1 J1 D1 h => ?_)
            refine zr_s zSm 31 rfl rfl ?_
            refine zr_s zSm 32 rfl rfl ?_
            refine zr_if zSm 33 125 rfl rfl (fun q6 => ?_) (fun q6 => ?_)
            · have q6 := zq_eq.mp q6
              have h := h.1 q6
              refine zr_aload_n zSm 38 rfl rfl ?_
              refine zr_getR zSm 39 rfl zf_11_56 rfl rfl (by decide) ?_
              refine zr_iload zSm 40 rfl rfl ?_
              obtain ⟨b41, h⟩ := h
              refine zr_iald zSm 41 rfl rfl b41 ?_
              refine zr_istore zSm 42 (ll' := [(5, .int (I1 44 l4.toNatClampNeg)), (0, .ref 28), (1, .int l1), (2, .int l2), (3, .int l3), (4, .int l4)]) rfl (by decide) rfl ?_
              refine zr_goto zSm 43 226 rfl rfl ?_
              refine zr_iload zSm 92 rfl rfl ?_
              refine zr_istore zSm 93 (ll' := [(4, .int (I1 44 l4.toNatClampNeg)), (5, .int (I1 44 l4.toNatClampNeg)), (0, .ref 28), (1, .int l1), (2, .int l2), (3, .int l3)]) rfl (by decide) rfl ?_
              refine zr_goto zSm 94 3 rfl rfl ?_
              refine zr_sub [2, 3, 4, 5, 0] rfl ?_
              exact h
            · have q6 := (fun z => q6 (zq_eq.mpr z))
              have h := h.2 q6
              refine zr_iload zSm 34 rfl rfl ?_
              refine zr_s zSm 35 rfl rfl ?_
              refine zr_s zSm 36 rfl rfl ?_
              refine zr_goto zSm 37 132 rfl rfl ?_
              refine zr_istore zSm 42 (ll' := [(5, .int (l4 + 1)), (0, .ref 28), (1, .int l1), (2, .int l2), (3, .int l3), (4, .int l4)]) rfl (by decide) rfl ?_
              refine zr_goto zSm 43 226 rfl rfl ?_
              refine zr_iload zSm 92 rfl rfl ?_
              refine zr_istore zSm 93 (ll' := [(4, .int (l4 + 1)), (5, .int (l4 + 1)), (0, .ref 28), (1, .int l1), (2, .int l2), (3, .int l3)]) rfl (by decide) rfl ?_
              refine zr_goto zSm 94 3 rfl rfl ?_
              refine zr_sub [2, 3, 4, 5, 0] rfl ?_
              exact h
          · have h := h.2 q5
            by_cases q7 : (I 43 l4.toNatClampNeg) = 301
            · have h := h.1 q7
              refine zr_lsG 16 88 [301] rfl (by simp only [List.mem_cons, List.not_mem_nil, or_false]; exact q7) (by decide) (by decide) ?_
              refine zr_aload_n zSm 17 rfl rfl ?_
              refine zr_getR zSm 18 rfl zf_11_56 rfl rfl (by decide) ?_
              refine zr_iload zSm 19 rfl rfl ?_
              obtain ⟨b20, h⟩ := h
              refine zr_iald zSm 20 rfl rfl b20 ?_
              refine zr_istore zSm 21 (ll' := [(5, .int (I 44 l4.toNatClampNeg)), (0, .ref 28), (1, .int l1), (2, .int l2), (3, .int l3), (4, .int l4)]) rfl (by decide) rfl ?_
              refine zr_goto zSm 22 226 rfl rfl ?_
              refine zr_iload zSm 92 rfl rfl ?_
              refine zr_istore zSm 93 (ll' := [(4, .int (I 44 l4.toNatClampNeg)), (5, .int (I 44 l4.toNatClampNeg)), (0, .ref 28), (1, .int l1), (2, .int l2), (3, .int l3)]) rfl (by decide) rfl ?_
              refine zr_goto zSm 94 3 rfl rfl ?_
              refine zr_sub [2, 3, 4, 5, 0] rfl ?_
              exact h
            · have h := h.2 q7
              by_cases q8 : (I 43 l4.toNatClampNeg) = 302
              · have h := h.1 q8
                refine zr_lsG 16 137 [302] rfl (by simp only [List.mem_cons, List.not_mem_nil, or_false]; exact q8) (by decide) (by decide) ?_
                refine zr_s zSm 44 rfl rfl ?_
                refine zr_istore zSm 45 (ll' := [(6, .int 1), (5, .int (l4 + 1)), (0, .ref 28), (1, .int l1), (2, .int l2), (3, .int l3), (4, .int l4)]) rfl (by decide) rfl ?_
                refine zr_sub [2, 3, 4, 5, 6, 1, 0] rfl ?_
                exact h
              · have h := h.2 q8
                refine zr_lsD 16 218 [17, 18, 19, 300, 301, 302] rfl ?_ (by decide) (by decide) rfl ?_
                · intro hx
                  simp only [List.mem_cons, List.not_mem_nil, or_false] at hx
                  rcases hx with e | e | e | e | e | e
                  · exact q2 e
                  · exact q3 e
                  · exact q4 e
                  · exact q5 e
                  · exact q7 e
                  · exact q8 e
                · refine zr_aload_n zSm 87 rfl rfl ?_
                  refine zr_iload zSm 88 rfl rfl ?_
                  refine zr_iload_n zSm 89 rfl rfl ?_
                  refine zr_iload_n zSm 90 rfl rfl ?_
                  refine zr_inv0 91 185 3 [.int l4, .int l2, .int l3] rfl rfl zk_11_364 zms_185 rfl ⟨_, _, _, _, rfl, rfl⟩ (Nat.le_of_ble_eq_true rfl) ?_
                  refine zcv h (fun I2 J2 D2 h => ?_)
                  refine zr_iload zSm 92 rfl rfl ?_
                  refine zr_istore zSm 93 (ll' := [(4, .int (l4 + 1)), (5, .int (l4 + 1)), (0, .ref 28), (1, .int l1), (2, .int l2), (3, .int l3)]) rfl (by decide) rfl ?_
                  refine zr_goto zSm 94 3 rfl rfl ?_
                  refine zr_sub [2, 3, 4, 5, 0] rfl ?_
                  exact h
theorem wl_186_140 {RO : zRo} {d : Nat} {P : zP} {I : zI} {J : zJ} {D : zD} {bc bs : Nat} {l1 l2 l3 l4 l5 l6 : Int32} (h : (((I 28 30) < l6 → (vp_in l4 1350 ∧ zw RO d 186 P 3 [(0, .ref 28), (1, .int l1), (2, .int l2), (3, .int l3), (4, .int (I 44 l4.toNatClampNeg))] [] I J D bc bs)) ∧ (¬ ((I 28 30) < l6) → (¬ (I 28 30) = 0 ∧ (zz RO d 186 [.ref 28, .int (l4 + 1), .int l2, .int ((l2 + l6) - (l2 + l6) / (I 28 30) * (I 28 30))] I J D 0 0 (zNv P fun I1 J1 D1 => zw RO d 186 P 140 [(0, .ref 28), (1, .int l1), (2, .int l2), (3, .int l3), (4, .int l4), (5, .int l5), (6, .int (l6 + 1))] [] I1 J1 D1 bc bs)))))) : zw RO d 186 P 140 [(0, .ref 28), (1, .int l1), (2, .int l2), (3, .int l3), (4, .int l4), (5, .int l5), (6, .int l6)] [] I J D bc bs := by
  refine zr_iload zSm 46 rfl rfl ?_
  refine zr_aload_n zSm 47 rfl rfl ?_
  refine zr_getI zSm 48 rfl zf_11_161 rfl rfl (by decide) ?_
  refine zr_ic zSm 49 173 rfl rfl (fun q1 => ?_) (fun q1 => ?_)
  · have h := h.1 q1
    refine zr_aload_n zSm 64 rfl rfl ?_
    refine zr_getR zSm 65 rfl zf_11_56 rfl rfl (by decide) ?_
    refine zr_iload zSm 66 rfl rfl ?_
    obtain ⟨b67, h⟩ := h
    refine zr_iald zSm 67 rfl rfl b67 ?_
    refine zr_istore zSm 68 (ll' := [(5, .int (I 44 l4.toNatClampNeg)), (0, .ref 28), (1, .int l1), (2, .int l2), (3, .int l3), (4, .int l4), (6, .int l6)]) rfl (by decide) rfl ?_
    refine zr_goto zSm 69 226 rfl rfl ?_
    refine zr_iload zSm 92 rfl rfl ?_
    refine zr_istore zSm 93 (ll' := [(4, .int (I 44 l4.toNatClampNeg)), (5, .int (I 44 l4.toNatClampNeg)), (0, .ref 28), (1, .int l1), (2, .int l2), (3, .int l3), (6, .int l6)]) rfl (by decide) rfl ?_
    refine zr_goto zSm 94 3 rfl rfl ?_
    refine zr_sub [2, 3, 4, 5, 0] rfl ?_
    exact h
  · have h := h.2 q1
    refine zr_aload_n zSm 50 rfl rfl ?_
    refine zr_iload zSm 51 rfl rfl ?_
    refine zr_s zSm 52 rfl rfl ?_
    refine zr_s zSm 53 rfl rfl ?_
    refine zr_iload_n zSm 54 rfl rfl ?_
    refine zr_iload_n zSm 55 rfl rfl ?_
    refine zr_iload zSm 56 rfl rfl ?_
    refine zr_s zSm 57 rfl rfl ?_
    refine zr_aload_n zSm 58 rfl rfl ?_
    refine zr_getI zSm 59 rfl zf_11_161 rfl rfl (by decide) ?_
    obtain ⟨b60, h⟩ := h
    refine zr_irem zSm 60 rfl b60 ?_
    refine zr_inv0 61 186 3 [.int (l4 + 1), .int l2, .int ((l2 + l6) - (l2 + l6) / (I 28 30) * (I 28 30))] rfl rfl zk_11_352 zms_186 rfl ⟨_, _, _, _, rfl, rfl⟩ (Nat.le_of_ble_eq_true rfl) ?_
    refine zcv h (fun I1 J1 D1 h => ?_)
    refine zr_iinc zSm 62 (v := l6 + 1) (ll' := [(6, .int (l6 + 1)), (0, .ref 28), (1, .int l1), (2, .int l2), (3, .int l3), (4, .int l4), (5, .int l5)]) rfl rfl (by decide) rfl rfl ?_
    refine zr_goto zSm 63 140 rfl rfl ?_
    refine zr_sub [1, 2, 3, 4, 5, 6, 0] rfl ?_
    exact h
theorem w_187 {RO : zRo} {d : Nat} {P : zP} {I : zI} {J : zJ} {D : zD} {bc bs : Nat}  (h : zw RO (d + 1) 187 P 2 [(0, .ref 28), (1, .int 0)] [] I J D bc bs) : zz RO (d + 2) 187 [.ref 28] I J D bc bs P := by
  refine zT_of (Nat.le_of_ble_eq_true rfl) rfl ?_
  show zw RO (d + 1) 187 P 0 [(0, .ref 28)] [] I J D bc bs
  refine zr_s zSm 0 rfl rfl ?_
  refine zr_istore_n zSm 1 (ll' := [(1, .int 0), (0, .ref 28)]) rfl (by decide) rfl ?_
  refine zr_sub [1, 0] rfl ?_
  exact h
theorem wl_187_2 {RO : zRo} {d : Nat} {P : zP} {I : zI} {J : zJ} {D : zD} {bc bs : Nat} {l1 : Int32} (h : (((I 28 30) ≤ l1 → P (.inl (some (.int 0))) I J D) ∧ (¬ ((I 28 30) ≤ l1) → (¬ (I 28 30) = 0 ∧ (zo_179 I J (((I 28 35) + l1) - ((I 28 35) + l1) / (I 28 30) * (I 28 30)) ∧ (zz RO (d + 1) 180 [.ref 28, .int (I 28 18), .int (((I 28 35) + l1) - ((I 28 35) + l1) / (I 28 30) * (I 28 30)), .int (zv_179 I J (((I 28 35) + l1) - ((I 28 35) + l1) / (I 28 30) * (I 28 30)))] I J D 0 0 (zNl P fun v1 I1 J1 D1 => ((¬ v1 = 0 → P (.inl (some (.int 1))) (zu (zu I1 28 39 (((I 28 35) + l1) - ((I 28 35) + l1) / (I 28 30) * (I 28 30))) 28 33 1) J1 D1) ∧ (¬ (¬ v1 = 0) → zw RO (d + 1) 187 P 2 [(0, .ref 28), (1, .int (l1 + 1))] [] I1 J1 D1 bc bs))))))))) : zw RO (d + 1) 187 P 2 [(0, .ref 28), (1, .int l1)] [] I J D bc bs := by
  refine zr_iload_n zSm 2 rfl rfl ?_
  refine zr_aload_n zSm 3 rfl rfl ?_
  refine zr_getI zSm 4 rfl zf_11_161 rfl rfl (by decide) ?_
  refine zr_ic zSm 5 62 rfl rfl (fun q1 => ?_) (fun q1 => ?_)
  · have h := h.1 q1
    refine zr_s zSm 36 rfl rfl ?_
    refine zr_iret zSm 37 rfl rfl (zn_b (Or.inl rfl)) ?_
    exact h
  · have h := h.2 q1
    refine zr_aload_n zSm 6 rfl rfl ?_
    refine zr_getI zSm 7 rfl zf_11_366 rfl rfl (by decide) ?_
    refine zr_iload_n zSm 8 rfl rfl ?_
    refine zr_s zSm 9 rfl rfl ?_
    refine zr_aload_n zSm 10 rfl rfl ?_
    refine zr_getI zSm 11 rfl zf_11_161 rfl rfl (by decide) ?_
    obtain ⟨b12, h⟩ := h
    refine zr_irem zSm 12 rfl b12 ?_
    refine zr_istore_n zSm 13 (ll' := [(2, .int (((I 28 35) + l1) - ((I 28 35) + l1) / (I 28 30) * (I 28 30))), (0, .ref 28), (1, .int l1)]) rfl (by decide) rfl ?_
    refine zr_aload_n zSm 14 rfl rfl ?_
    refine zr_aload_n zSm 15 rfl rfl ?_
    refine zr_getI zSm 16 rfl zf_11_272 rfl rfl (by decide) ?_
    refine zr_iload_n zSm 17 rfl rfl ?_
    refine zr_aload_n zSm 18 rfl rfl ?_
    refine zr_iload_n zSm 19 rfl rfl ?_
    obtain ⟨b20, h⟩ := h
    refine zr_inv0 20 179 1 [.int (((I 28 35) + l1) - ((I 28 35) + l1) / (I 28 30) * (I 28 30))] rfl rfl zk_11_369 zms_179 rfl ⟨_, _, _, _, rfl, rfl⟩ (Nat.le_of_ble_eq_true rfl) ?_
    refine ze_179 b20 ?_
    refine zNx_i ?_
    refine zr_inv0 21 180 3 [.int (I 28 18), .int (((I 28 35) + l1) - ((I 28 35) + l1) / (I 28 30) * (I 28 30)), .int (zv_179 I J (((I 28 35) + l1) - ((I 28 35) + l1) / (I 28 30) * (I 28 30)))] rfl rfl zk_11_348 zms_180 rfl ⟨_, _, _, _, rfl, rfl⟩ (Nat.le_of_ble_eq_true rfl) ?_
    refine zcl h (fun v1 I1 J1 D1 h => ?_)
    refine zr_s zSm 22 rfl rfl ?_
    refine zr_s zSm 23 rfl rfl ?_
    refine zr_if zSm 24 44 rfl rfl (fun q2 => ?_) (fun q2 => ?_)
    · have q2 := zq_ne.mp q2
      have h := h.1 q2
      refine zr_aload_n zSm 26 rfl rfl ?_
      refine zr_iload_n zSm 27 rfl rfl ?_
      refine zr_putI zSm 28 rfl zf_11_372 rfl rfl (by decide) zp_11_39 ?_
      refine zr_aload_n zSm 29 rfl rfl ?_
      refine zr_s zSm 30 rfl rfl ?_
      refine zr_putI zSm 31 rfl zf_11_375 rfl rfl (by decide) zp_11_33 ?_
      refine zr_s zSm 32 rfl rfl ?_
      refine zr_iret zSm 33 rfl rfl (zn_b (Or.inr rfl)) ?_
      exact h
    · have q2 := (fun z => q2 (zq_ne.mpr z))
      have h := h.2 q2
      refine zr_goto zSm 25 56 rfl rfl ?_
      refine zr_iinc zSm 34 (v := l1 + 1) (ll' := [(1, .int (l1 + 1)), (2, .int (((I 28 35) + l1) - ((I 28 35) + l1) / (I 28 30) * (I 28 30))), (0, .ref 28)]) rfl rfl (by decide) rfl rfl ?_
      refine zr_goto zSm 35 2 rfl rfl ?_
      refine zr_sub [2, 0] rfl ?_
      exact h

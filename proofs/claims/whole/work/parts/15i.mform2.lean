/-! ===== written by wip/whole/lay15.py: walks, a formula each ===== -/
theorem w_168 {RO : zRo} {d : Nat} {P : zP} {I : zI} {J : zJ} {D : zD} {bc bs : Nat}  (h : (vp_in (I 28 24) 452 ∧ (vp_in (I 28 24) 452 ∧ (((I 31 ((I 28 24).toNatClampNeg)) = 0 → zw RO (d + 1) 168 P 49 [(0, .ref 28), (1, .int (I 31 ((I 28 24).toNatClampNeg))), (2, .int (I 32 ((I 28 24).toNatClampNeg))), (3, .int 1)] [] I J D bc bs) ∧ (¬ ((I 31 ((I 28 24).toNatClampNeg)) = 0) → (((I 31 ((I 28 24).toNatClampNeg)) = 1 → zw RO (d + 1) 168 P 49 [(0, .ref 28), (1, .int (I 31 ((I 28 24).toNatClampNeg))), (2, .int (I 32 ((I 28 24).toNatClampNeg))), (3, .int 1)] [] I J D bc bs) ∧ (¬ ((I 31 ((I 28 24).toNatClampNeg)) = 1) → (((zv_136 I J ((I 31 ((I 28 24).toNatClampNeg)).toInt64) 4 8) = 0 → zw RO (d + 1) 168 P 49 [(0, .ref 28), (1, .int (I 31 ((I 28 24).toNatClampNeg))), (2, .int (I 32 ((I 28 24).toNatClampNeg))), (3, .int 0)] [] I J D bc bs) ∧ (¬ ((zv_136 I J ((I 31 ((I 28 24).toNatClampNeg)).toInt64) 4 8) = 0) → zw RO (d + 1) 168 P 49 [(0, .ref 28), (1, .int (I 31 ((I 28 24).toNatClampNeg))), (2, .int (I 32 ((I 28 24).toNatClampNeg))), (3, .int 1)] [] I J D bc bs))))))))) : zz RO (d + 2) 168 [.ref 28] I J D bc bs P := by
  refine zT_of (Nat.le_of_ble_eq_true rfl) rfl ?_
  show zw RO (d + 1) 168 P 0 [(0, .ref 28)] [] I J D bc bs
  refine zr_aload_n zSm 0 rfl rfl ?_
  refine zr_getR zSm 1 rfl zf_11_17 rfl rfl (by decide) ?_
  refine zr_aload_n zSm 2 rfl rfl ?_
  refine zr_getI zSm 3 rfl zf_11_170 rfl rfl (by decide) ?_
  obtain ⟨b4, h⟩ := h
  refine zr_iald zSm 4 rfl rfl b4 ?_
  refine zr_istore_n zSm 5 (ll' := [(1, .int (I 31 ((I 28 24).toNatClampNeg))), (0, .ref 28)]) rfl (by decide) rfl ?_
  refine zr_aload_n zSm 6 rfl rfl ?_
  refine zr_getR zSm 7 rfl zf_11_20 rfl rfl (by decide) ?_
  refine zr_aload_n zSm 8 rfl rfl ?_
  refine zr_getI zSm 9 rfl zf_11_170 rfl rfl (by decide) ?_
  obtain ⟨b10, h⟩ := h
  refine zr_iald zSm 10 rfl rfl b10 ?_
  refine zr_istore_n zSm 11 (ll' := [(2, .int (I 32 ((I 28 24).toNatClampNeg))), (1, .int (I 31 ((I 28 24).toNatClampNeg))), (0, .ref 28)]) rfl (by decide) rfl ?_
  refine zr_iload_n zSm 12 rfl rfl ?_
  refine zr_if zSm 13 43 rfl rfl (fun q1 => ?_) (fun q1 => ?_)
  · have h := h.1 q1
    refine zr_s zSm 23 rfl rfl ?_
    refine zr_goto zSm 24 48 rfl rfl ?_
    refine zr_istore_n zSm 26 (ll' := [(3, .int 1), (2, .int (I 32 ((I 28 24).toNatClampNeg))), (1, .int (I 31 ((I 28 24).toNatClampNeg))), (0, .ref 28)]) rfl (by decide) rfl ?_
    refine zr_sub [3, 2, 1, 0] rfl ?_
    exact h
  · have h := h.2 q1
    refine zr_iload_n zSm 14 rfl rfl ?_
    refine zr_s zSm 15 rfl rfl ?_
    refine zr_ic zSm 16 43 rfl rfl (fun q2 => ?_) (fun q2 => ?_)
    · have h := h.1 q2
      refine zr_s zSm 23 rfl rfl ?_
      refine zr_goto zSm 24 48 rfl rfl ?_
      refine zr_istore_n zSm 26 (ll' := [(3, .int 1), (2, .int (I 32 ((I 28 24).toNatClampNeg))), (1, .int (I 31 ((I 28 24).toNatClampNeg))), (0, .ref 28)]) rfl (by decide) rfl ?_
      refine zr_sub [3, 2, 1, 0] rfl ?_
      exact h
    · have h := h.2 q2
      refine zr_iload_n zSm 17 rfl rfl ?_
      refine zr_s zSm 18 rfl rfl ?_
      refine zr_ldc2 zSm 19 rfl zc_11_247 ?_
      refine zr_ldc2 zSm 20 rfl zc_11_249 ?_
      refine zr_ins0 21 136 3 [.long ((I 31 ((I 28 24).toNatClampNeg)).toInt64), .long 4, .long 8] rfl rfl zk_11_110 zms_136 rfl (Nat.le_of_ble_eq_true rfl) ?_
      refine ze_136 ?_
      refine zNx_i ?_
      refine zr_if zSm 22 47 rfl rfl (fun q3 => ?_) (fun q3 => ?_)
      · have h := h.1 q3
        refine zr_s zSm 25 rfl rfl ?_
        refine zr_istore_n zSm 26 (ll' := [(3, .int 0), (2, .int (I 32 ((I 28 24).toNatClampNeg))), (1, .int (I 31 ((I 28 24).toNatClampNeg))), (0, .ref 28)]) rfl (by decide) rfl ?_
        refine zr_sub [3, 2, 1, 0] rfl ?_
        exact h
      · have h := h.2 q3
        refine zr_s zSm 23 rfl rfl ?_
        refine zr_goto zSm 24 48 rfl rfl ?_
        refine zr_istore_n zSm 26 (ll' := [(3, .int 1), (2, .int (I 32 ((I 28 24).toNatClampNeg))), (1, .int (I 31 ((I 28 24).toNatClampNeg))), (0, .ref 28)]) rfl (by decide) rfl ?_
        refine zr_sub [3, 2, 1, 0] rfl ?_
        exact h
theorem wl_168_49 {RO : zRo} {d : Nat} {P : zP} {I : zI} {J : zJ} {D : zD} {bc bs : Nat} {l1 l2 l3 : Int32} (hRO : zROk RO) (h : ((¬ l3 = 0 → (vp_in l1 9 ∧ (vp_in l1 9 ∧ (((zM1 l1.toNatClampNeg) ≤ (I 37 l1.toNatClampNeg) → zw RO (d + 1) 168 P 88 [(0, .ref 28), (1, .int l1), (2, .int l2), (3, .int l3)] [.int 0, .ref 28] (zu I 28 24 ((I 28 24) + 1)) J D bc bs) ∧ (¬ ((zM1 l1.toNatClampNeg) ≤ (I 37 l1.toNatClampNeg)) → zw RO (d + 1) 168 P 88 [(0, .ref 28), (1, .int l1), (2, .int l2), (3, .int l3)] [.int 1, .ref 28] (zu I 28 24 ((I 28 24) + 1)) J D bc bs))))) ∧ (¬ (¬ l3 = 0) → ((1 ≤ bc ∧ 8 ≤ bs) ∧ vp_in (I 28 24) 452 ∧ P (.inr (3, 1, I 32 ((I 28 24).toNatClampNeg))) I J D)))) : zw RO (d + 1) 168 P 49 [(0, .ref 28), (1, .int l1), (2, .int l2), (3, .int l3)] [] I J D bc bs := by
  refine zr_iload_n zSm 27 rfl rfl ?_
  refine zr_if zSm 28 58 rfl rfl (fun q1 => ?_) (fun q1 => ?_)
  · have h := h.1 q1
    refine zr_aload_n zSm 32 rfl rfl ?_
    refine zr_s zSm 33 rfl rfl ?_
    refine zr_getI zSm 34 rfl zf_11_170 rfl rfl (by decide) ?_
    refine zr_s zSm 35 rfl rfl ?_
    refine zr_s zSm 36 rfl rfl ?_
    refine zr_putI zSm 37 rfl zf_11_170 rfl rfl (by decide) zp_11_24 ?_
    refine zr_aload_n zSm 38 rfl rfl ?_
    refine zr_aload_n zSm 39 rfl rfl ?_
    refine zr_getR zSm 40 rfl zf_11_35 rfl rfl (by decide) ?_
    refine zr_iload_n zSm 41 rfl rfl ?_
    obtain ⟨b42, h⟩ := h
    refine zr_iald zSm 42 rfl rfl b42 ?_
    refine zr_gets zSm 43 (q := ("RuleStackModel", "MOST", "[I", 101)) rfl (by decide) (zmem6 183 (by decide +kernel) (by decide +kernel)) ?_
    refine zr_iload_n zSm 44 rfl rfl ?_
    obtain ⟨b45, h⟩ := h
    refine zr_sald zSm 45 rfl hRO.2 b45 ?_
    refine zr_ic zSm 46 87 rfl rfl (fun q2 => ?_) (fun q2 => ?_)
    · have h := h.1 q2
      refine zr_s zSm 49 rfl rfl ?_
      exact h
    · have h := h.2 q2
      refine zr_s zSm 47 rfl rfl ?_
      refine zr_goto zSm 48 88 rfl rfl ?_
      exact h
  · have h := h.2 q1
    refine zr_wrong 184 ⟨List.mem_of_getElem? (i := 29) rfl, List.mem_of_getElem? (i := 30) rfl, zk_11_184, List.mem_of_getElem? (i := 31) rfl⟩ rfl rfl (by decide) rfl h.1 h.2.1 ?_
    exact h.2.2
theorem wl_168_88 {RO : zRo} {d : Nat} {P : zP} {I : zI} {J : zJ} {D : zD} {bc bs : Nat} {l1 l2 l3 s0 : Int32} (h : (∃ c1 s1, c1 ≤ bc ∧ s1 ≤ bs ∧ zz RO (d + 1) 150 [.ref 28, .int s0, .int 4, .int l2] I J D c1 s1 (zNv P fun I1 J1 D1 => zw RO (d + 1) 168 P 93 [(0, .ref 28), (1, .int l1), (2, .int l2), (3, .int l3)] [] I1 J1 D1 (bc - c1) (bs - s1)))) : zw RO (d + 1) 168 P 88 [(0, .ref 28), (1, .int l1), (2, .int l2), (3, .int l3)] [.int s0, .ref 28] I J D bc bs := by
  refine zr_s zSm 50 rfl rfl ?_
  refine zr_iload_n zSm 51 rfl rfl ?_
  obtain ⟨c1, s1, g1, f1, h⟩ := h
  refine zr_inv zSm 52 150 3 c1 s1 [.int s0, .int 4, .int l2] rfl rfl zk_11_239 zms_150 rfl ⟨_, _, _, _, rfl, rfl⟩ (Nat.le_of_ble_eq_true rfl) g1 f1 ?_
  refine zcv h (fun I1 J1 D1 h => ?_)
  exact h
theorem wl_168_93 {RO : zRo} {d : Nat} {P : zP} {I : zI} {J : zJ} {D : zD} {bc bs : Nat} {l1 l2 l3 : Int32} (h : ((l1 = 8 → (((l1 = 0 ∨ l1 = 1) → (∃ c1 s1, c1 ≤ bc ∧ s1 ≤ bs ∧ zz RO (d + 1) 169 [.ref 28, .int l1] I J D c1 s1 (zNv P fun I1 J1 D1 => (((I1 28 25) = 0 → P (.inl none) I1 J1 D1) ∧ (¬ ((I1 28 25) = 0) → (vp_in l1 9 ∧ (vp_in l1 9 ∧ P (.inl none) (zu I1 37 l1.toNatClampNeg ((I1 37 l1.toNatClampNeg) + 1)) J1 D1))))))) ∧ (¬ ((l1 = 0 ∨ l1 = 1)) → ((l1 = 4 → (∃ c2 s2, c2 ≤ bc ∧ s2 ≤ bs ∧ zz RO (d + 1) 170 [.ref 28] I J D c2 s2 (zNv P fun I2 J2 D2 => (((I2 28 25) = 0 → P (.inl none) I2 J2 D2) ∧ (¬ ((I2 28 25) = 0) → (vp_in l1 9 ∧ (vp_in l1 9 ∧ P (.inl none) (zu I2 37 l1.toNatClampNeg ((I2 37 l1.toNatClampNeg) + 1)) J2 D2))))))) ∧ (¬ (l1 = 4) → ((l1 = 5 → (∃ c3 s3, c3 ≤ bc ∧ s3 ≤ bs ∧ zz RO (d + 1) 171 [.ref 28, .int 0] I J D c3 s3 (zNv P fun I3 J3 D3 => (((I3 28 25) = 0 → P (.inl none) I3 J3 D3) ∧ (¬ ((I3 28 25) = 0) → (vp_in l1 9 ∧ (vp_in l1 9 ∧ P (.inl none) (zu I3 37 l1.toNatClampNeg ((I3 37 l1.toNatClampNeg) + 1)) J3 D3))))))) ∧ (¬ (l1 = 5) → ((l1 = 6 → (∃ c4 s4, c4 ≤ bc ∧ s4 ≤ bs ∧ zz RO (d + 1) 171 [.ref 28, .int 12] I J D c4 s4 (zNv P fun I4 J4 D4 => (((I4 28 25) = 0 → P (.inl none) I4 J4 D4) ∧ (¬ ((I4 28 25) = 0) → (vp_in l1 9 ∧ (vp_in l1 9 ∧ P (.inl none) (zu I4 37 l1.toNatClampNeg ((I4 37 l1.toNatClampNeg) + 1)) J4 D4))))))) ∧ (¬ (l1 = 6) → ((l1 = 7 → (∃ c5 s5, c5 ≤ bc ∧ s5 ≤ bs ∧ zz RO (d + 1) 151 [.ref 28, .int 3] I J D c5 s5 (zNv P fun I5 J5 D5 => (∃ c6 s6, c6 ≤ (bc - c5) ∧ s6 ≤ (bs - s5) ∧ zz RO (d + 1) 165 [.ref 28, .int 4] I5 J5 D5 c6 s6 (zNi P fun v6 I6 J6 D6 => (((I6 28 25) = 0 → (∃ c7 s7, c7 ≤ ((bc - c5) - c6) ∧ s7 ≤ ((bs - s5) - s6) ∧ zz RO (d + 1) 171 [.ref 28, .int 20] I6 J6 D6 c7 s7 (zNv P fun I7 J7 D7 => (((I7 28 25) = 0 → P (.inl none) I7 J7 D7) ∧ (¬ ((I7 28 25) = 0) → (vp_in l1 9 ∧ (vp_in l1 9 ∧ P (.inl none) (zu I7 37 l1.toNatClampNeg ((I7 37 l1.toNatClampNeg) + 1)) J7 D7))))))) ∧ (¬ ((I6 28 25) = 0) → (vp_in (I6 37 7) 8 ∧ (∃ c8 s8, c8 ≤ ((bc - c5) - c6) ∧ s8 ≤ ((bs - s5) - s6) ∧ zz RO (d + 1) 171 [.ref 28, .int 20] (zu I6 42 ((I6 37 7).toNatClampNeg) v6) J6 D6 c8 s8 (zNv P fun I8 J8 D8 => (((I8 28 25) = 0 → P (.inl none) I8 J8 D8) ∧ (¬ ((I8 28 25) = 0) → (vp_in l1 9 ∧ (vp_in l1 9 ∧ P (.inl none) (zu I8 37 l1.toNatClampNeg ((I8 37 l1.toNatClampNeg) + 1)) J8 D8)))))))))))))) ∧ (¬ (l1 = 7) → (∃ c9 s9, c9 ≤ bc ∧ s9 ≤ bs ∧ zz RO (d + 1) 156 [.ref 28] (zu I 28 26 0) J D c9 s9 (zNi P fun v9 I9 J9 D9 => (((I9 28 25) = 0 → (∃ c10 s10, c10 ≤ (bc - c9) ∧ s10 ≤ (bs - s9) ∧ zz RO (d + 1) 151 [.ref 28, .int 103] I9 J9 D9 c10 s10 (zNv P fun I10 J10 D10 => (((I10 28 25) = 0 → P (.inl none) I10 J10 D10) ∧ (¬ ((I10 28 25) = 0) → (vp_in l1 9 ∧ (vp_in l1 9 ∧ P (.inl none) (zu I10 37 l1.toNatClampNeg ((I10 37 l1.toNatClampNeg) + 1)) J10 D10))))))) ∧ (¬ ((I9 28 25) = 0) → (∃ c11 s11, c11 ≤ (bc - c9) ∧ s11 ≤ (bs - s9) ∧ zz RO (d + 1) 151 [.ref 28, .int 103] (zu I9 28 18 v9) J9 D9 c11 s11 (zNv P fun I11 J11 D11 => (((I11 28 25) = 0 → P (.inl none) I11 J11 D11) ∧ (¬ ((I11 28 25) = 0) → (vp_in l1 9 ∧ (vp_in l1 9 ∧ P (.inl none) (zu I11 37 l1.toNatClampNeg ((I11 37 l1.toNatClampNeg) + 1)) J11 D11))))))))))))))))))))) ∧ (¬ (l1 = 8) → (∃ c12 s12, c12 ≤ bc ∧ s12 ≤ bs ∧ zz RO (d + 1) 166 [.ref 28, .int l1] I J D c12 s12 (zNv P fun I12 J12 D12 => (((l1 = 0 ∨ l1 = 1) → (∃ c13 s13, c13 ≤ (bc - c12) ∧ s13 ≤ (bs - s12) ∧ zz RO (d + 1) 169 [.ref 28, .int l1] I12 J12 D12 c13 s13 (zNv P fun I13 J13 D13 => (((I13 28 25) = 0 → P (.inl none) I13 J13 D13) ∧ (¬ ((I13 28 25) = 0) → (vp_in l1 9 ∧ (vp_in l1 9 ∧ P (.inl none) (zu I13 37 l1.toNatClampNeg ((I13 37 l1.toNatClampNeg) + 1)) J13 D13))))))) ∧ (¬ ((l1 = 0 ∨ l1 = 1)) → ((l1 = 4 → (∃ c14 s14, c14 ≤ (bc - c12) ∧ s14 ≤ (bs - s12) ∧ zz RO (d + 1) 170 [.ref 28] I12 J12 D12 c14 s14 (zNv P fun I14 J14 D14 => (((I14 28 25) = 0 → P (.inl none) I14 J14 D14) ∧ (¬ ((I14 28 25) = 0) → (vp_in l1 9 ∧ (vp_in l1 9 ∧ P (.inl none) (zu I14 37 l1.toNatClampNeg ((I14 37 l1.toNatClampNeg) + 1)) J14 D14))))))) ∧ (¬ (l1 = 4) → ((l1 = 5 → (∃ c15 s15, c15 ≤ (bc - c12) ∧ s15 ≤ (bs - s12) ∧ zz RO (d + 1) 171 [.ref 28, .int 0] I12 J12 D12 c15 s15 (zNv P fun I15 J15 D15 => (((I15 28 25) = 0 → P (.inl none) I15 J15 D15) ∧ (¬ ((I15 28 25) = 0) → (vp_in l1 9 ∧ (vp_in l1 9 ∧ P (.inl none) (zu I15 37 l1.toNatClampNeg ((I15 37 l1.toNatClampNeg) + 1)) J15 D15))))))) ∧ (¬ (l1 = 5) → ((l1 = 6 → (∃ c16 s16, c16 ≤ (bc - c12) ∧ s16 ≤ (bs - s12) ∧ zz RO (d + 1) 171 [.ref 28, .int 12] I12 J12 D12 c16 s16 (zNv P fun I16 J16 D16 => (((I16 28 25) = 0 → P (.inl none) I16 J16 D16) ∧ (¬ ((I16 28 25) = 0) → (vp_in l1 9 ∧ (vp_in l1 9 ∧ P (.inl none) (zu I16 37 l1.toNatClampNeg ((I16 37 l1.toNatClampNeg) + 1)) J16 D16))))))) ∧ (¬ (l1 = 6) → ((l1 = 7 → (∃ c17 s17, c17 ≤ (bc - c12) ∧ s17 ≤ (bs - s12) ∧ zz RO (d + 1) 151 [.ref 28, .int 3] I12 J12 D12 c17 s17 (zNv P fun I17 J17 D17 => (∃ c18 s18, c18 ≤ ((bc - c12) - c17) ∧ s18 ≤ ((bs - s12) - s17) ∧ zz RO (d + 1) 165 [.ref 28, .int 4] I17 J17 D17 c18 s18 (zNi P fun v18 I18 J18 D18 => (((I18 28 25) = 0 → (∃ c19 s19, c19 ≤ (((bc - c12) - c17) - c18) ∧ s19 ≤ (((bs - s12) - s17) - s18) ∧ zz RO (d + 1) 171 [.ref 28, .int 20] I18 J18 D18 c19 s19 (zNv P fun I19 J19 D19 => (((I19 28 25) = 0 → P (.inl none) I19 J19 D19) ∧ (¬ ((I19 28 25) = 0) → (vp_in l1 9 ∧ (vp_in l1 9 ∧ P (.inl none) (zu I19 37 l1.toNatClampNeg ((I19 37 l1.toNatClampNeg) + 1)) J19 D19))))))) ∧ (¬ ((I18 28 25) = 0) → (vp_in (I18 37 7) 8 ∧ (∃ c20 s20, c20 ≤ (((bc - c12) - c17) - c18) ∧ s20 ≤ (((bs - s12) - s17) - s18) ∧ zz RO (d + 1) 171 [.ref 28, .int 20] (zu I18 42 ((I18 37 7).toNatClampNeg) v18) J18 D18 c20 s20 (zNv P fun I20 J20 D20 => (((I20 28 25) = 0 → P (.inl none) I20 J20 D20) ∧ (¬ ((I20 28 25) = 0) → (vp_in l1 9 ∧ (vp_in l1 9 ∧ P (.inl none) (zu I20 37 l1.toNatClampNeg ((I20 37 l1.toNatClampNeg) + 1)) J20 D20)))))))))))))) ∧ (¬ (l1 = 7) → (∃ c21 s21, c21 ≤ (bc - c12) ∧ s21 ≤ (bs - s12) ∧ zz RO (d + 1) 156 [.ref 28] (zu I12 28 26 0) J12 D12 c21 s21 (zNi P fun v21 I21 J21 D21 => (((I21 28 25) = 0 → (∃ c22 s22, c22 ≤ ((bc - c12) - c21) ∧ s22 ≤ ((bs - s12) - s21) ∧ zz RO (d + 1) 151 [.ref 28, .int 103] I21 J21 D21 c22 s22 (zNv P fun I22 J22 D22 => (((I22 28 25) = 0 → P (.inl none) I22 J22 D22) ∧ (¬ ((I22 28 25) = 0) → (vp_in l1 9 ∧ (vp_in l1 9 ∧ P (.inl none) (zu I22 37 l1.toNatClampNeg ((I22 37 l1.toNatClampNeg) + 1)) J22 D22))))))) ∧ (¬ ((I21 28 25) = 0) → (∃ c23 s23, c23 ≤ ((bc - c12) - c21) ∧ s23 ≤ ((bs - s12) - s21) ∧ zz RO (d + 1) 151 [.ref 28, .int 103] (zu I21 28 18 v21) J21 D21 c23 s23 (zNv P fun I23 J23 D23 => (((I23 28 25) = 0 → P (.inl none) I23 J23 D23) ∧ (¬ ((I23 28 25) = 0) → (vp_in l1 9 ∧ (vp_in l1 9 ∧ P (.inl none) (zu I23 37 l1.toNatClampNeg ((I23 37 l1.toNatClampNeg) + 1)) J23 D23))))))))))))))))))))))))) : zw RO (d + 1) 168 P 93 [(0, .ref 28), (1, .int l1), (2, .int l2), (3, .int l3)] [] I J D bc bs := by
  refine zr_iload_n zSm 53 rfl rfl ?_
  refine zr_bipush zSm 54 8 rfl rfl ?_
  refine zr_ic zSm 55 104 rfl rfl (fun q1 => ?_) (fun q1 => ?_)
  · have h := h.1 q1
    refine zr_iload_n zSm 59 rfl rfl ?_
    by_cases q2 : (l1 = 0 ∨ l1 = 1)
    · have h := h.1 q2
      refine zr_tsG 60 152 [0, 1] rfl (by simp only [List.mem_cons, List.not_mem_nil, or_false]; exact q2) (by decide) ?_
      refine zr_aload_n zSm 61 rfl rfl ?_
      refine zr_iload_n zSm 62 rfl rfl ?_
      obtain ⟨c1, s1, g1, f1, h⟩ := h
      refine zr_inv zSm 63 169 1 c1 s1 [.int l1] rfl rfl zk_11_257 zms_169 rfl ⟨_, _, _, _, rfl, rfl⟩ (Nat.le_of_ble_eq_true rfl) g1 f1 ?_
      refine zcv h (fun I1 J1 D1 h => ?_)
      refine zr_goto zSm 64 256 rfl rfl ?_
      refine zr_aload_n zSm 113 rfl rfl ?_
      refine zr_getZ zSm 114 rfl zf_11_178 rfl rfl (by decide) ?_
      refine zr_if zSm 115 273 rfl rfl (fun q3 => ?_) (fun q3 => ?_)
      · have h := h.1 q3
        refine zr_vret zSm 124 rfl rfl ?_
        exact h
      · have h := h.2 q3
        refine zr_aload_n zSm 116 rfl rfl ?_
        refine zr_getR zSm 117 rfl zf_11_35 rfl rfl (by decide) ?_
        refine zr_iload_n zSm 118 rfl rfl ?_
        refine zr_s zSm 119 rfl rfl ?_
        obtain ⟨b120, h⟩ := h
        refine zr_iald zSm 120 rfl rfl b120 ?_
        refine zr_s zSm 121 rfl rfl ?_
        refine zr_s zSm 122 rfl rfl ?_
        obtain ⟨b123, h⟩ := h
        refine zr_iast zSm 123 rfl rfl b123 ?_
        refine zr_vret zSm 124 rfl rfl ?_
        exact h
    · have h := h.2 q2
      by_cases q4 : l1 = 4
      · have h := h.1 q4
        refine zr_tsG 60 160 [4] rfl (by simp only [List.mem_cons, List.not_mem_nil, or_false]; exact q4) (by decide) ?_
        refine zr_aload_n zSm 65 rfl rfl ?_
        obtain ⟨c2, s2, g2, f2, h⟩ := h
        refine zr_inv zSm 66 170 0 c2 s2 [] rfl rfl zk_11_260 zms_170 rfl ⟨_, _, _, _, rfl, rfl⟩ (Nat.le_of_ble_eq_true rfl) g2 f2 ?_
        refine zcv h (fun I2 J2 D2 h => ?_)
        refine zr_goto zSm 67 256 rfl rfl ?_
        refine zr_aload_n zSm 113 rfl rfl ?_
        refine zr_getZ zSm 114 rfl zf_11_178 rfl rfl (by decide) ?_
        refine zr_if zSm 115 273 rfl rfl (fun q5 => ?_) (fun q5 => ?_)
        · have h := h.1 q5
          refine zr_vret zSm 124 rfl rfl ?_
          exact h
        · have h := h.2 q5
          refine zr_aload_n zSm 116 rfl rfl ?_
          refine zr_getR zSm 117 rfl zf_11_35 rfl rfl (by decide) ?_
          refine zr_iload_n zSm 118 rfl rfl ?_
          refine zr_s zSm 119 rfl rfl ?_
          obtain ⟨b120, h⟩ := h
          refine zr_iald zSm 120 rfl rfl b120 ?_
          refine zr_s zSm 121 rfl rfl ?_
          refine zr_s zSm 122 rfl rfl ?_
          obtain ⟨b123, h⟩ := h
          refine zr_iast zSm 123 rfl rfl b123 ?_
          refine zr_vret zSm 124 rfl rfl ?_
          exact h
      · have h := h.2 q4
        by_cases q6 : l1 = 5
        · have h := h.1 q6
          refine zr_tsG 60 167 [5] rfl (by simp only [List.mem_cons, List.not_mem_nil, or_false]; exact q6) (by decide) ?_
          refine zr_aload_n zSm 68 rfl rfl ?_
          refine zr_s zSm 69 rfl rfl ?_
          obtain ⟨c3, s3, g3, f3, h⟩ := h
          refine zr_inv zSm 70 171 1 c3 s3 [.int 0] rfl rfl zk_11_263 zms_171 rfl ⟨_, _, _, _, rfl, rfl⟩ (Nat.le_of_ble_eq_true rfl) g3 f3 ?_
          refine zcv h (fun I3 J3 D3 h => ?_)
          refine zr_goto zSm 71 256 rfl rfl ?_
          refine zr_aload_n zSm 113 rfl rfl ?_
          refine zr_getZ zSm 114 rfl zf_11_178 rfl rfl (by decide) ?_
          refine zr_if zSm 115 273 rfl rfl (fun q7 => ?_) (fun q7 => ?_)
          · have h := h.1 q7
            refine zr_vret zSm 124 rfl rfl ?_
            exact h
          · have h := h.2 q7
            refine zr_aload_n zSm 116 rfl rfl ?_
            refine zr_getR zSm 117 rfl zf_11_35 rfl rfl (by decide) ?_
            refine zr_iload_n zSm 118 rfl rfl ?_
            refine zr_s zSm 119 rfl rfl ?_
            obtain ⟨b120, h⟩ := h
            refine zr_iald zSm 120 rfl rfl b120 ?_
            refine zr_s zSm 121 rfl rfl ?_
            refine zr_s zSm 122 rfl rfl ?_
            obtain ⟨b123, h⟩ := h
            refine zr_iast zSm 123 rfl rfl b123 ?_
            refine zr_vret zSm 124 rfl rfl ?_
            exact h
        · have h := h.2 q6
          by_cases q8 : l1 = 6
          · have h := h.1 q8
            refine zr_tsG 60 175 [6] rfl (by simp only [List.mem_cons, List.not_mem_nil, or_false]; exact q8) (by decide) ?_
            refine zr_aload_n zSm 72 rfl rfl ?_
            refine zr_bipush zSm 73 12 rfl rfl ?_
            obtain ⟨c4, s4, g4, f4, h⟩ := h
            refine zr_inv zSm 74 171 1 c4 s4 [.int 12] rfl rfl zk_11_263 zms_171 rfl ⟨_, _, _, _, rfl, rfl⟩ (Nat.le_of_ble_eq_true rfl) g4 f4 ?_
            refine zcv h (fun I4 J4 D4 h => ?_)
            refine zr_goto zSm 75 256 rfl rfl ?_
            refine zr_aload_n zSm 113 rfl rfl ?_
            refine zr_getZ zSm 114 rfl zf_11_178 rfl rfl (by decide) ?_
            refine zr_if zSm 115 273 rfl rfl (fun q9 => ?_) (fun q9 => ?_)
            · have h := h.1 q9
              refine zr_vret zSm 124 rfl rfl ?_
              exact h
            · have h := h.2 q9
              refine zr_aload_n zSm 116 rfl rfl ?_
              refine zr_getR zSm 117 rfl zf_11_35 rfl rfl (by decide) ?_
              refine zr_iload_n zSm 118 rfl rfl ?_
              refine zr_s zSm 119 rfl rfl ?_
              obtain ⟨b120, h⟩ := h
              refine zr_iald zSm 120 rfl rfl b120 ?_
              refine zr_s zSm 121 rfl rfl ?_
              refine zr_s zSm 122 rfl rfl ?_
              obtain ⟨b123, h⟩ := h
              refine zr_iast zSm 123 rfl rfl b123 ?_
              refine zr_vret zSm 124 rfl rfl ?_
              exact h
          · have h := h.2 q8
            by_cases q10 : l1 = 7
            · have h := h.1 q10
              refine zr_tsG 60 184 [7] rfl (by simp only [List.mem_cons, List.not_mem_nil, or_false]; exact q10) (by decide) ?_
              refine zr_aload_n zSm 76 rfl rfl ?_
              refine zr_s zSm 77 rfl rfl ?_
              obtain ⟨c5, s5, g5, f5, h⟩ := h
              refine zr_inv zSm 78 151 1 c5 s5 [.int 3] rfl rfl zk_11_233 zms_151 rfl ⟨_, _, _, _, rfl, rfl⟩ (Nat.le_of_ble_eq_true rfl) g5 f5 ?_
              refine zcv h (fun I5 J5 D5 h => ?_)
              refine zr_aload_n zSm 79 rfl rfl ?_
              refine zr_s zSm 80 rfl rfl ?_
              obtain ⟨c6, s6, g6, f6, h⟩ := h
              refine zr_inv zSm 81 165 1 c6 s6 [.int 4] rfl rfl zk_11_266 zms_165 rfl ⟨_, _, _, _, rfl, rfl⟩ (Nat.le_of_ble_eq_true rfl) g6 f6 ?_
              refine zci h (fun v6 I6 J6 D6 h => ?_)
              refine zr_istore zSm 82 (ll' := [(4, .int v6), (0, .ref 28), (1, .int l1), (2, .int l2), (3, .int l3)]) rfl (by decide) rfl ?_
              refine zr_aload_n zSm 83 rfl rfl ?_
              refine zr_getZ zSm 84 rfl zf_11_178 rfl rfl (by decide) ?_
              refine zr_if zSm 85 217 rfl rfl (fun q11 => ?_) (fun q11 => ?_)
              · have h := h.1 q11
                refine zr_aload_n zSm 94 rfl rfl ?_
                refine zr_bipush zSm 95 20 rfl rfl ?_
                obtain ⟨c7, s7, g7, f7, h⟩ := h
                refine zr_inv zSm 96 171 1 c7 s7 [.int 20] rfl rfl zk_11_263 zms_171 rfl ⟨_, _, _, _, rfl, rfl⟩ (Nat.le_of_ble_eq_true rfl) g7 f7 ?_
                refine zcv h (fun I7 J7 D7 h => ?_)
                refine zr_goto zSm 97 256 rfl rfl ?_
                refine zr_aload_n zSm 113 rfl rfl ?_
                refine zr_getZ zSm 114 rfl zf_11_178 rfl rfl (by decide) ?_
                refine zr_if zSm 115 273 rfl rfl (fun q12 => ?_) (fun q12 => ?_)
                · have h := h.1 q12
                  refine zr_vret zSm 124 rfl rfl ?_
                  exact h
                · have h := h.2 q12
                  refine zr_aload_n zSm 116 rfl rfl ?_
                  refine zr_getR zSm 117 rfl zf_11_35 rfl rfl (by decide) ?_
                  refine zr_iload_n zSm 118 rfl rfl ?_
                  refine zr_s zSm 119 rfl rfl ?_
                  obtain ⟨b120, h⟩ := h
                  refine zr_iald zSm 120 rfl rfl b120 ?_
                  refine zr_s zSm 121 rfl rfl ?_
                  refine zr_s zSm 122 rfl rfl ?_
                  obtain ⟨b123, h⟩ := h
                  refine zr_iast zSm 123 rfl rfl b123 ?_
                  refine zr_vret zSm 124 rfl rfl ?_
                  exact h
              · have h := h.2 q11
                refine zr_aload_n zSm 86 rfl rfl ?_
                refine zr_getR zSm 87 rfl zf_11_50 rfl rfl (by decide) ?_
                refine zr_aload_n zSm 88 rfl rfl ?_
                refine zr_getR zSm 89 rfl zf_11_35 rfl rfl (by decide) ?_
                refine zr_bipush zSm 90 7 rfl rfl ?_
                refine zr_iald zSm 91 rfl rfl (zin_lit (by decide) (by decide)) ?_
                refine zr_iload zSm 92 rfl rfl ?_
                obtain ⟨b93, h⟩ := h
                refine zr_iast zSm 93 rfl rfl b93 ?_
                refine zr_aload_n zSm 94 rfl rfl ?_
                refine zr_bipush zSm 95 20 rfl rfl ?_
                obtain ⟨c8, s8, g8, f8, h⟩ := h
                refine zr_inv zSm 96 171 1 c8 s8 [.int 20] rfl rfl zk_11_263 zms_171 rfl ⟨_, _, _, _, rfl, rfl⟩ (Nat.le_of_ble_eq_true rfl) g8 f8 ?_
                refine zcv h (fun I8 J8 D8 h => ?_)
                refine zr_goto zSm 97 256 rfl rfl ?_
                refine zr_aload_n zSm 113 rfl rfl ?_
                refine zr_getZ zSm 114 rfl zf_11_178 rfl rfl (by decide) ?_
                refine zr_if zSm 115 273 rfl rfl (fun q13 => ?_) (fun q13 => ?_)
                · have h := h.1 q13
                  refine zr_vret zSm 124 rfl rfl ?_
                  exact h
                · have h := h.2 q13
                  refine zr_aload_n zSm 116 rfl rfl ?_
                  refine zr_getR zSm 117 rfl zf_11_35 rfl rfl (by decide) ?_
                  refine zr_iload_n zSm 118 rfl rfl ?_
                  refine zr_s zSm 119 rfl rfl ?_
                  obtain ⟨b120, h⟩ := h
                  refine zr_iald zSm 120 rfl rfl b120 ?_
                  refine zr_s zSm 121 rfl rfl ?_
                  refine zr_s zSm 122 rfl rfl ?_
                  obtain ⟨b123, h⟩ := h
                  refine zr_iast zSm 123 rfl rfl b123 ?_
                  refine zr_vret zSm 124 rfl rfl ?_
                  exact h
            · have h := h.2 q10
              refine zr_tsD 60 226 [0, 1, 4, 5, 6, 7] rfl ?_ (by decide) rfl ?_
              · intro hx
                simp only [List.mem_cons, List.not_mem_nil, or_false] at hx
                rcases hx with e | e | e | e | e | e
                · exact q2 (Or.inl e)
                · exact q2 (Or.inr (e))
                · exact q4 e
                · exact q6 e
                · exact q8 e
                · exact q10 e
              · refine zr_aload_n zSm 98 rfl rfl ?_
                refine zr_s zSm 99 rfl rfl ?_
                refine zr_putZ zSm 100 rfl zf_11_236 rfl rfl (by decide) zp_11_26 (Or.inl rfl) ?_
                refine zr_aload_n zSm 101 rfl rfl ?_
                obtain ⟨c9, s9, g9, f9, h⟩ := h
                refine zr_inv zSm 102 156 0 c9 s9 [] rfl rfl zk_11_269 zms_156 rfl ⟨_, _, _, _, rfl, rfl⟩ (Nat.le_of_ble_eq_true rfl) g9 f9 ?_
                refine zci h (fun v9 I9 J9 D9 h => ?_)
                refine zr_istore zSm 103 (ll' := [(5, .int v9), (0, .ref 28), (1, .int l1), (2, .int l2), (3, .int l3)]) rfl (by decide) rfl ?_
                refine zr_aload_n zSm 104 rfl rfl ?_
                refine zr_getZ zSm 105 rfl zf_11_178 rfl rfl (by decide) ?_
                refine zr_if zSm 106 250 rfl rfl (fun q14 => ?_) (fun q14 => ?_)
                · have h := h.1 q14
                  refine zr_aload_n zSm 110 rfl rfl ?_
                  refine zr_bipush zSm 111 103 rfl rfl ?_
                  obtain ⟨c10, s10, g10, f10, h⟩ := h
                  refine zr_inv zSm 112 151 1 c10 s10 [.int 103] rfl rfl zk_11_233 zms_151 rfl ⟨_, _, _, _, rfl, rfl⟩ (Nat.le_of_ble_eq_true rfl) g10 f10 ?_
                  refine zcv h (fun I10 J10 D10 h => ?_)
                  refine zr_aload_n zSm 113 rfl rfl ?_
                  refine zr_getZ zSm 114 rfl zf_11_178 rfl rfl (by decide) ?_
                  refine zr_if zSm 115 273 rfl rfl (fun q15 => ?_) (fun q15 => ?_)
                  · have h := h.1 q15
                    refine zr_vret zSm 124 rfl rfl ?_
                    exact h
                  · have h := h.2 q15
                    refine zr_aload_n zSm 116 rfl rfl ?_
                    refine zr_getR zSm 117 rfl zf_11_35 rfl rfl (by decide) ?_
                    refine zr_iload_n zSm 118 rfl rfl ?_
                    refine zr_s zSm 119 rfl rfl ?_
                    obtain ⟨b120, h⟩ := h
                    refine zr_iald zSm 120 rfl rfl b120 ?_
                    refine zr_s zSm 121 rfl rfl ?_
                    refine zr_s zSm 122 rfl rfl ?_
                    obtain ⟨b123, h⟩ := h
                    refine zr_iast zSm 123 rfl rfl b123 ?_
                    refine zr_vret zSm 124 rfl rfl ?_
                    exact h
                · have h := h.2 q14
                  refine zr_aload_n zSm 107 rfl rfl ?_
                  refine zr_iload zSm 108 rfl rfl ?_
                  refine zr_putI zSm 109 rfl zf_11_272 rfl rfl (by decide) zp_11_18 ?_
                  refine zr_aload_n zSm 110 rfl rfl ?_
                  refine zr_bipush zSm 111 103 rfl rfl ?_
                  obtain ⟨c11, s11, g11, f11, h⟩ := h
                  refine zr_inv zSm 112 151 1 c11 s11 [.int 103] rfl rfl zk_11_233 zms_151 rfl ⟨_, _, _, _, rfl, rfl⟩ (Nat.le_of_ble_eq_true rfl) g11 f11 ?_
                  refine zcv h (fun I11 J11 D11 h => ?_)
                  refine zr_aload_n zSm 113 rfl rfl ?_
                  refine zr_getZ zSm 114 rfl zf_11_178 rfl rfl (by decide) ?_
                  refine zr_if zSm 115 273 rfl rfl (fun q16 => ?_) (fun q16 => ?_)
                  · have h := h.1 q16
                    refine zr_vret zSm 124 rfl rfl ?_
                    exact h
                  · have h := h.2 q16
                    refine zr_aload_n zSm 116 rfl rfl ?_
                    refine zr_getR zSm 117 rfl zf_11_35 rfl rfl (by decide) ?_
                    refine zr_iload_n zSm 118 rfl rfl ?_
                    refine zr_s zSm 119 rfl rfl ?_
                    obtain ⟨b120, h⟩ := h
                    refine zr_iald zSm 120 rfl rfl b120 ?_
                    refine zr_s zSm 121 rfl rfl ?_
                    refine zr_s zSm 122 rfl rfl ?_
                    obtain ⟨b123, h⟩ := h
                    refine zr_iast zSm 123 rfl rfl b123 ?_
                    refine zr_vret zSm 124 rfl rfl ?_
                    exact h
  · have h := h.2 q1
    refine zr_aload_n zSm 56 rfl rfl ?_
    refine zr_iload_n zSm 57 rfl rfl ?_
    obtain ⟨c12, s12, g12, f12, h⟩ := h
    refine zr_inv zSm 58 166 1 c12 s12 [.int l1] rfl rfl zk_11_254 zms_166 rfl ⟨_, _, _, _, rfl, rfl⟩ (Nat.le_of_ble_eq_true rfl) g12 f12 ?_
    refine zcv h (fun I12 J12 D12 h => ?_)
    refine zr_iload_n zSm 59 rfl rfl ?_
    by_cases q17 : (l1 = 0 ∨ l1 = 1)
    · have h := h.1 q17
      refine zr_tsG 60 152 [0, 1] rfl (by simp only [List.mem_cons, List.not_mem_nil, or_false]; exact q17) (by decide) ?_
      refine zr_aload_n zSm 61 rfl rfl ?_
      refine zr_iload_n zSm 62 rfl rfl ?_
      obtain ⟨c13, s13, g13, f13, h⟩ := h
      refine zr_inv zSm 63 169 1 c13 s13 [.int l1] rfl rfl zk_11_257 zms_169 rfl ⟨_, _, _, _, rfl, rfl⟩ (Nat.le_of_ble_eq_true rfl) g13 f13 ?_
      refine zcv h (fun I13 J13 D13 h => ?_)
      refine zr_goto zSm 64 256 rfl rfl ?_
      refine zr_aload_n zSm 113 rfl rfl ?_
      refine zr_getZ zSm 114 rfl zf_11_178 rfl rfl (by decide) ?_
      refine zr_if zSm 115 273 rfl rfl (fun q18 => ?_) (fun q18 => ?_)
      · have h := h.1 q18
        refine zr_vret zSm 124 rfl rfl ?_
        exact h
      · have h := h.2 q18
        refine zr_aload_n zSm 116 rfl rfl ?_
        refine zr_getR zSm 117 rfl zf_11_35 rfl rfl (by decide) ?_
        refine zr_iload_n zSm 118 rfl rfl ?_
        refine zr_s zSm 119 rfl rfl ?_
        obtain ⟨b120, h⟩ := h
        refine zr_iald zSm 120 rfl rfl b120 ?_
        refine zr_s zSm 121 rfl rfl ?_
        refine zr_s zSm 122 rfl rfl ?_
        obtain ⟨b123, h⟩ := h
        refine zr_iast zSm 123 rfl rfl b123 ?_
        refine zr_vret zSm 124 rfl rfl ?_
        exact h
    · have h := h.2 q17
      by_cases q19 : l1 = 4
      · have h := h.1 q19
        refine zr_tsG 60 160 [4] rfl (by simp only [List.mem_cons, List.not_mem_nil, or_false]; exact q19) (by decide) ?_
        refine zr_aload_n zSm 65 rfl rfl ?_
        obtain ⟨c14, s14, g14, f14, h⟩ := h
        refine zr_inv zSm 66 170 0 c14 s14 [] rfl rfl zk_11_260 zms_170 rfl ⟨_, _, _, _, rfl, rfl⟩ (Nat.le_of_ble_eq_true rfl) g14 f14 ?_
        refine zcv h (fun I14 J14 D14 h => ?_)
        refine zr_goto zSm 67 256 rfl rfl ?_
        refine zr_aload_n zSm 113 rfl rfl ?_
        refine zr_getZ zSm 114 rfl zf_11_178 rfl rfl (by decide) ?_
        refine zr_if zSm 115 273 rfl rfl (fun q20 => ?_) (fun q20 => ?_)
        · have h := h.1 q20
          refine zr_vret zSm 124 rfl rfl ?_
          exact h
        · have h := h.2 q20
          refine zr_aload_n zSm 116 rfl rfl ?_
          refine zr_getR zSm 117 rfl zf_11_35 rfl rfl (by decide) ?_
          refine zr_iload_n zSm 118 rfl rfl ?_
          refine zr_s zSm 119 rfl rfl ?_
          obtain ⟨b120, h⟩ := h
          refine zr_iald zSm 120 rfl rfl b120 ?_
          refine zr_s zSm 121 rfl rfl ?_
          refine zr_s zSm 122 rfl rfl ?_
          obtain ⟨b123, h⟩ := h
          refine zr_iast zSm 123 rfl rfl b123 ?_
          refine zr_vret zSm 124 rfl rfl ?_
          exact h
      · have h := h.2 q19
        by_cases q21 : l1 = 5
        · have h := h.1 q21
          refine zr_tsG 60 167 [5] rfl (by simp only [List.mem_cons, List.not_mem_nil, or_false]; exact q21) (by decide) ?_
          refine zr_aload_n zSm 68 rfl rfl ?_
          refine zr_s zSm 69 rfl rfl ?_
          obtain ⟨c15, s15, g15, f15, h⟩ := h
          refine zr_inv zSm 70 171 1 c15 s15 [.int 0] rfl rfl zk_11_263 zms_171 rfl ⟨_, _, _, _, rfl, rfl⟩ (Nat.le_of_ble_eq_true rfl) g15 f15 ?_
          refine zcv h (fun I15 J15 D15 h => ?_)
          refine zr_goto zSm 71 256 rfl rfl ?_
          refine zr_aload_n zSm 113 rfl rfl ?_
          refine zr_getZ zSm 114 rfl zf_11_178 rfl rfl (by decide) ?_
          refine zr_if zSm 115 273 rfl rfl (fun q22 => ?_) (fun q22 => ?_)
          · have h := h.1 q22
            refine zr_vret zSm 124 rfl rfl ?_
            exact h
          · have h := h.2 q22
            refine zr_aload_n zSm 116 rfl rfl ?_
            refine zr_getR zSm 117 rfl zf_11_35 rfl rfl (by decide) ?_
            refine zr_iload_n zSm 118 rfl rfl ?_
            refine zr_s zSm 119 rfl rfl ?_
            obtain ⟨b120, h⟩ := h
            refine zr_iald zSm 120 rfl rfl b120 ?_
            refine zr_s zSm 121 rfl rfl ?_
            refine zr_s zSm 122 rfl rfl ?_
            obtain ⟨b123, h⟩ := h
            refine zr_iast zSm 123 rfl rfl b123 ?_
            refine zr_vret zSm 124 rfl rfl ?_
            exact h
        · have h := h.2 q21
          by_cases q23 : l1 = 6
          · have h := h.1 q23
            refine zr_tsG 60 175 [6] rfl (by simp only [List.mem_cons, List.not_mem_nil, or_false]; exact q23) (by decide) ?_
            refine zr_aload_n zSm 72 rfl rfl ?_
            refine zr_bipush zSm 73 12 rfl rfl ?_
            obtain ⟨c16, s16, g16, f16, h⟩ := h
            refine zr_inv zSm 74 171 1 c16 s16 [.int 12] rfl rfl zk_11_263 zms_171 rfl ⟨_, _, _, _, rfl, rfl⟩ (Nat.le_of_ble_eq_true rfl) g16 f16 ?_
            refine zcv h (fun I16 J16 D16 h => ?_)
            refine zr_goto zSm 75 256 rfl rfl ?_
            refine zr_aload_n zSm 113 rfl rfl ?_
            refine zr_getZ zSm 114 rfl zf_11_178 rfl rfl (by decide) ?_
            refine zr_if zSm 115 273 rfl rfl (fun q24 => ?_) (fun q24 => ?_)
            · have h := h.1 q24
              refine zr_vret zSm 124 rfl rfl ?_
              exact h
            · have h := h.2 q24
              refine zr_aload_n zSm 116 rfl rfl ?_
              refine zr_getR zSm 117 rfl zf_11_35 rfl rfl (by decide) ?_
              refine zr_iload_n zSm 118 rfl rfl ?_
              refine zr_s zSm 119 rfl rfl ?_
              obtain ⟨b120, h⟩ := h
              refine zr_iald zSm 120 rfl rfl b120 ?_
              refine zr_s zSm 121 rfl rfl ?_
              refine zr_s zSm 122 rfl rfl ?_
              obtain ⟨b123, h⟩ := h
              refine zr_iast zSm 123 rfl rfl b123 ?_
              refine zr_vret zSm 124 rfl rfl ?_
              exact h
          · have h := h.2 q23
            by_cases q25 : l1 = 7
            · have h := h.1 q25
              refine zr_tsG 60 184 [7] rfl (by simp only [List.mem_cons, List.not_mem_nil, or_false]; exact q25) (by decide) ?_
              refine zr_aload_n zSm 76 rfl rfl ?_
              refine zr_s zSm 77 rfl rfl ?_
              obtain ⟨c17, s17, g17, f17, h⟩ := h
              refine zr_inv zSm 78 151 1 c17 s17 [.int 3] rfl rfl zk_11_233 zms_151 rfl ⟨_, _, _, _, rfl, rfl⟩ (Nat.le_of_ble_eq_true rfl) g17 f17 ?_
              refine zcv h (fun I17 J17 D17 h => ?_)
              refine zr_aload_n zSm 79 rfl rfl ?_
              refine zr_s zSm 80 rfl rfl ?_
              obtain ⟨c18, s18, g18, f18, h⟩ := h
              refine zr_inv zSm 81 165 1 c18 s18 [.int 4] rfl rfl zk_11_266 zms_165 rfl ⟨_, _, _, _, rfl, rfl⟩ (Nat.le_of_ble_eq_true rfl) g18 f18 ?_
              refine zci h (fun v18 I18 J18 D18 h => ?_)
              refine zr_istore zSm 82 (ll' := [(4, .int v18), (0, .ref 28), (1, .int l1), (2, .int l2), (3, .int l3)]) rfl (by decide) rfl ?_
              refine zr_aload_n zSm 83 rfl rfl ?_
              refine zr_getZ zSm 84 rfl zf_11_178 rfl rfl (by decide) ?_
              refine zr_if zSm 85 217 rfl rfl (fun q26 => ?_) (fun q26 => ?_)
              · have h := h.1 q26
                refine zr_aload_n zSm 94 rfl rfl ?_
                refine zr_bipush zSm 95 20 rfl rfl ?_
                obtain ⟨c19, s19, g19, f19, h⟩ := h
                refine zr_inv zSm 96 171 1 c19 s19 [.int 20] rfl rfl zk_11_263 zms_171 rfl ⟨_, _, _, _, rfl, rfl⟩ (Nat.le_of_ble_eq_true rfl) g19 f19 ?_
                refine zcv h (fun I19 J19 D19 h => ?_)
                refine zr_goto zSm 97 256 rfl rfl ?_
                refine zr_aload_n zSm 113 rfl rfl ?_
                refine zr_getZ zSm 114 rfl zf_11_178 rfl rfl (by decide) ?_
                refine zr_if zSm 115 273 rfl rfl (fun q27 => ?_) (fun q27 => ?_)
                · have h := h.1 q27
                  refine zr_vret zSm 124 rfl rfl ?_
                  exact h
                · have h := h.2 q27
                  refine zr_aload_n zSm 116 rfl rfl ?_
                  refine zr_getR zSm 117 rfl zf_11_35 rfl rfl (by decide) ?_
                  refine zr_iload_n zSm 118 rfl rfl ?_
                  refine zr_s zSm 119 rfl rfl ?_
                  obtain ⟨b120, h⟩ := h
                  refine zr_iald zSm 120 rfl rfl b120 ?_
                  refine zr_s zSm 121 rfl rfl ?_
                  refine zr_s zSm 122 rfl rfl ?_
                  obtain ⟨b123, h⟩ := h
                  refine zr_iast zSm 123 rfl rfl b123 ?_
                  refine zr_vret zSm 124 rfl rfl ?_
                  exact h
              · have h := h.2 q26
                refine zr_aload_n zSm 86 rfl rfl ?_
                refine zr_getR zSm 87 rfl zf_11_50 rfl rfl (by decide) ?_
                refine zr_aload_n zSm 88 rfl rfl ?_
                refine zr_getR zSm 89 rfl zf_11_35 rfl rfl (by decide) ?_
                refine zr_bipush zSm 90 7 rfl rfl ?_
                refine zr_iald zSm 91 rfl rfl (zin_lit (by decide) (by decide)) ?_
                refine zr_iload zSm 92 rfl rfl ?_
                obtain ⟨b93, h⟩ := h
                refine zr_iast zSm 93 rfl rfl b93 ?_
                refine zr_aload_n zSm 94 rfl rfl ?_
                refine zr_bipush zSm 95 20 rfl rfl ?_
                obtain ⟨c20, s20, g20, f20, h⟩ := h
                refine zr_inv zSm 96 171 1 c20 s20 [.int 20] rfl rfl zk_11_263 zms_171 rfl ⟨_, _, _, _, rfl, rfl⟩ (Nat.le_of_ble_eq_true rfl) g20 f20 ?_
                refine zcv h (fun I20 J20 D20 h => ?_)
                refine zr_goto zSm 97 256 rfl rfl ?_
                refine zr_aload_n zSm 113 rfl rfl ?_
                refine zr_getZ zSm 114 rfl zf_11_178 rfl rfl (by decide) ?_
                refine zr_if zSm 115 273 rfl rfl (fun q28 => ?_) (fun q28 => ?_)
                · have h := h.1 q28
                  refine zr_vret zSm 124 rfl rfl ?_
                  exact h
                · have h := h.2 q28
                  refine zr_aload_n zSm 116 rfl rfl ?_
                  refine zr_getR zSm 117 rfl zf_11_35 rfl rfl (by decide) ?_
                  refine zr_iload_n zSm 118 rfl rfl ?_
                  refine zr_s zSm 119 rfl rfl ?_
                  obtain ⟨b120, h⟩ := h
                  refine zr_iald zSm 120 rfl rfl b120 ?_
                  refine zr_s zSm 121 rfl rfl ?_
                  refine zr_s zSm 122 rfl rfl ?_
                  obtain ⟨b123, h⟩ := h
                  refine zr_iast zSm 123 rfl rfl b123 ?_
                  refine zr_vret zSm 124 rfl rfl ?_
                  exact h
            · have h := h.2 q25
              refine zr_tsD 60 226 [0, 1, 4, 5, 6, 7] rfl ?_ (by decide) rfl ?_
              · intro hx
                simp only [List.mem_cons, List.not_mem_nil, or_false] at hx
                rcases hx with e | e | e | e | e | e
                · exact q17 (Or.inl e)
                · exact q17 (Or.inr (e))
                · exact q19 e
                · exact q21 e
                · exact q23 e
                · exact q25 e
              · refine zr_aload_n zSm 98 rfl rfl ?_
                refine zr_s zSm 99 rfl rfl ?_
                refine zr_putZ zSm 100 rfl zf_11_236 rfl rfl (by decide) zp_11_26 (Or.inl rfl) ?_
                refine zr_aload_n zSm 101 rfl rfl ?_
                obtain ⟨c21, s21, g21, f21, h⟩ := h
                refine zr_inv zSm 102 156 0 c21 s21 [] rfl rfl zk_11_269 zms_156 rfl ⟨_, _, _, _, rfl, rfl⟩ (Nat.le_of_ble_eq_true rfl) g21 f21 ?_
                refine zci h (fun v21 I21 J21 D21 h => ?_)
                refine zr_istore zSm 103 (ll' := [(5, .int v21), (0, .ref 28), (1, .int l1), (2, .int l2), (3, .int l3)]) rfl (by decide) rfl ?_
                refine zr_aload_n zSm 104 rfl rfl ?_
                refine zr_getZ zSm 105 rfl zf_11_178 rfl rfl (by decide) ?_
                refine zr_if zSm 106 250 rfl rfl (fun q29 => ?_) (fun q29 => ?_)
                · have h := h.1 q29
                  refine zr_aload_n zSm 110 rfl rfl ?_
                  refine zr_bipush zSm 111 103 rfl rfl ?_
                  obtain ⟨c22, s22, g22, f22, h⟩ := h
                  refine zr_inv zSm 112 151 1 c22 s22 [.int 103] rfl rfl zk_11_233 zms_151 rfl ⟨_, _, _, _, rfl, rfl⟩ (Nat.le_of_ble_eq_true rfl) g22 f22 ?_
                  refine zcv h (fun I22 J22 D22 h => ?_)
                  refine zr_aload_n zSm 113 rfl rfl ?_
                  refine zr_getZ zSm 114 rfl zf_11_178 rfl rfl (by decide) ?_
                  refine zr_if zSm 115 273 rfl rfl (fun q30 => ?_) (fun q30 => ?_)
                  · have h := h.1 q30
                    refine zr_vret zSm 124 rfl rfl ?_
                    exact h
                  · have h := h.2 q30
                    refine zr_aload_n zSm 116 rfl rfl ?_
                    refine zr_getR zSm 117 rfl zf_11_35 rfl rfl (by decide) ?_
                    refine zr_iload_n zSm 118 rfl rfl ?_
                    refine zr_s zSm 119 rfl rfl ?_
                    obtain ⟨b120, h⟩ := h
                    refine zr_iald zSm 120 rfl rfl b120 ?_
                    refine zr_s zSm 121 rfl rfl ?_
                    refine zr_s zSm 122 rfl rfl ?_
                    obtain ⟨b123, h⟩ := h
                    refine zr_iast zSm 123 rfl rfl b123 ?_
                    refine zr_vret zSm 124 rfl rfl ?_
                    exact h
                · have h := h.2 q29
                  refine zr_aload_n zSm 107 rfl rfl ?_
                  refine zr_iload zSm 108 rfl rfl ?_
                  refine zr_putI zSm 109 rfl zf_11_272 rfl rfl (by decide) zp_11_18 ?_
                  refine zr_aload_n zSm 110 rfl rfl ?_
                  refine zr_bipush zSm 111 103 rfl rfl ?_
                  obtain ⟨c23, s23, g23, f23, h⟩ := h
                  refine zr_inv zSm 112 151 1 c23 s23 [.int 103] rfl rfl zk_11_233 zms_151 rfl ⟨_, _, _, _, rfl, rfl⟩ (Nat.le_of_ble_eq_true rfl) g23 f23 ?_
                  refine zcv h (fun I23 J23 D23 h => ?_)
                  refine zr_aload_n zSm 113 rfl rfl ?_
                  refine zr_getZ zSm 114 rfl zf_11_178 rfl rfl (by decide) ?_
                  refine zr_if zSm 115 273 rfl rfl (fun q31 => ?_) (fun q31 => ?_)
                  · have h := h.1 q31
                    refine zr_vret zSm 124 rfl rfl ?_
                    exact h
                  · have h := h.2 q31
                    refine zr_aload_n zSm 116 rfl rfl ?_
                    refine zr_getR zSm 117 rfl zf_11_35 rfl rfl (by decide) ?_
                    refine zr_iload_n zSm 118 rfl rfl ?_
                    refine zr_s zSm 119 rfl rfl ?_
                    obtain ⟨b120, h⟩ := h
                    refine zr_iald zSm 120 rfl rfl b120 ?_
                    refine zr_s zSm 121 rfl rfl ?_
                    refine zr_s zSm 122 rfl rfl ?_
                    obtain ⟨b123, h⟩ := h
                    refine zr_iast zSm 123 rfl rfl b123 ?_
                    refine zr_vret zSm 124 rfl rfl ?_
                    exact h
theorem w_169 {RO : zRo} {d : Nat} {P : zP} {I : zI} {J : zJ} {D : zD} {bc bs : Nat} {p0 : Int32} (h : (∃ c1 s1, c1 ≤ bc ∧ s1 ≤ bs ∧ zz RO d 167 [.ref 28, .int (-999), .int 999] I J D c1 s1 (zNi P fun v1 I1 J1 D1 => (∃ c2 s2, c2 ≤ (bc - c1) ∧ s2 ≤ (bs - s1) ∧ zz RO d 151 [.ref 28, .int 2] I1 J1 D1 c2 s2 (zNv P fun I2 J2 D2 => (∃ c3 s3, c3 ≤ ((bc - c1) - c2) ∧ s3 ≤ ((bs - s1) - s2) ∧ zz RO d 167 [.ref 28, .int v1, .int 999] I2 J2 D2 c3 s3 (zNi P fun v3 I3 J3 D3 => (∃ c4 s4, c4 ≤ (((bc - c1) - c2) - c3) ∧ s4 ≤ (((bs - s1) - s2) - s3) ∧ zz RO d 151 [.ref 28, .int 3] I3 J3 D3 c4 s4 (zNv P fun I4 J4 D4 => (∃ c5 s5, c5 ≤ ((((bc - c1) - c2) - c3) - c4) ∧ s5 ≤ ((((bs - s1) - s2) - s3) - s4) ∧ zz RO d 167 [.ref 28, .int v1, .int v3] I4 J4 D4 c5 s5 (zNi P fun v5 I5 J5 D5 => (∃ c6 s6, c6 ≤ (((((bc - c1) - c2) - c3) - c4) - c5) ∧ s6 ≤ (((((bs - s1) - s2) - s3) - s4) - s5) ∧ zz RO d 151 [.ref 28, .int 103] I5 J5 D5 c6 s6 (zNv P fun I6 J6 D6 => ((¬ (I6 28 25) = 0 → ((¬ p0 = 0 → (vp_in (3 * (6 + (I6 37 1))) 36 ∧ (vp_in ((3 * (6 + (I6 37 1))) + 1) 36 ∧ (vp_in ((3 * (6 + (I6 37 1))) + 2) 36 ∧ P (.inl none) (zu (zu (zu I6 38 ((3 * (6 + (I6 37 1))).toNatClampNeg) v1) 38 (((3 * (6 + (I6 37 1))) + 1).toNatClampNeg) v3) 38 (((3 * (6 + (I6 37 1))) + 2).toNatClampNeg) v5) J6 D6)))) ∧ (¬ (¬ p0 = 0) → (vp_in (3 * (I6 37 0)) 36 ∧ (vp_in ((3 * (I6 37 0)) + 1) 36 ∧ (vp_in ((3 * (I6 37 0)) + 2) 36 ∧ P (.inl none) (zu (zu (zu I6 38 ((3 * (I6 37 0)).toNatClampNeg) v1) 38 (((3 * (I6 37 0)) + 1).toNatClampNeg) v3) 38 (((3 * (I6 37 0)) + 2).toNatClampNeg) v5) J6 D6)))))) ∧ (¬ (¬ (I6 28 25) = 0) → P (.inl none) I6 J6 D6))))))))))))))) : zz RO (d + 1) 169 [.ref 28, .int p0] I J D bc bs P := by
  refine zT_of (Nat.le_of_ble_eq_true rfl) rfl ?_
  show zw RO d 169 P 0 [(0, .ref 28), (1, .int p0)] [] I J D bc bs
  refine zr_aload_n zSm 0 rfl rfl ?_
  refine zr_sipush zSm 1 (-999) rfl rfl ?_
  refine zr_sipush zSm 2 999 rfl rfl ?_
  obtain ⟨c1, s1, g1, f1, h⟩ := h
  refine zr_inv zSm 3 167 2 c1 s1 [.int (-999), .int 999] rfl rfl zk_11_275 zms_167 rfl ⟨_, _, _, _, rfl, rfl⟩ (Nat.le_of_ble_eq_true rfl) g1 f1 ?_
  refine zci h (fun v1 I1 J1 D1 h => ?_)
  refine zr_istore_n zSm 4 (ll' := [(2, .int v1), (0, .ref 28), (1, .int p0)]) rfl (by decide) rfl ?_
  refine zr_aload_n zSm 5 rfl rfl ?_
  refine zr_s zSm 6 rfl rfl ?_
  obtain ⟨c2, s2, g2, f2, h⟩ := h
  refine zr_inv zSm 7 151 1 c2 s2 [.int 2] rfl rfl zk_11_233 zms_151 rfl ⟨_, _, _, _, rfl, rfl⟩ (Nat.le_of_ble_eq_true rfl) g2 f2 ?_
  refine zcv h (fun I2 J2 D2 h => ?_)
  refine zr_aload_n zSm 8 rfl rfl ?_
  refine zr_iload_n zSm 9 rfl rfl ?_
  refine zr_sipush zSm 10 999 rfl rfl ?_
  obtain ⟨c3, s3, g3, f3, h⟩ := h
  refine zr_inv zSm 11 167 2 c3 s3 [.int v1, .int 999] rfl rfl zk_11_275 zms_167 rfl ⟨_, _, _, _, rfl, rfl⟩ (Nat.le_of_ble_eq_true rfl) g3 f3 ?_
  refine zci h (fun v3 I3 J3 D3 h => ?_)
  refine zr_istore_n zSm 12 (ll' := [(3, .int v3), (2, .int v1), (0, .ref 28), (1, .int p0)]) rfl (by decide) rfl ?_
  refine zr_aload_n zSm 13 rfl rfl ?_
  refine zr_s zSm 14 rfl rfl ?_
  obtain ⟨c4, s4, g4, f4, h⟩ := h
  refine zr_inv zSm 15 151 1 c4 s4 [.int 3] rfl rfl zk_11_233 zms_151 rfl ⟨_, _, _, _, rfl, rfl⟩ (Nat.le_of_ble_eq_true rfl) g4 f4 ?_
  refine zcv h (fun I4 J4 D4 h => ?_)
  refine zr_aload_n zSm 16 rfl rfl ?_
  refine zr_iload_n zSm 17 rfl rfl ?_
  refine zr_iload_n zSm 18 rfl rfl ?_
  obtain ⟨c5, s5, g5, f5, h⟩ := h
  refine zr_inv zSm 19 167 2 c5 s5 [.int v1, .int v3] rfl rfl zk_11_275 zms_167 rfl ⟨_, _, _, _, rfl, rfl⟩ (Nat.le_of_ble_eq_true rfl) g5 f5 ?_
  refine zci h (fun v5 I5 J5 D5 h => ?_)
  refine zr_istore zSm 20 (ll' := [(4, .int v5), (3, .int v3), (2, .int v1), (0, .ref 28), (1, .int p0)]) rfl (by decide) rfl ?_
  refine zr_aload_n zSm 21 rfl rfl ?_
  refine zr_bipush zSm 22 103 rfl rfl ?_
  obtain ⟨c6, s6, g6, f6, h⟩ := h
  refine zr_inv zSm 23 151 1 c6 s6 [.int 103] rfl rfl zk_11_233 zms_151 rfl ⟨_, _, _, _, rfl, rfl⟩ (Nat.le_of_ble_eq_true rfl) g6 f6 ?_
  refine zcv h (fun I6 J6 D6 h => ?_)
  refine zr_aload_n zSm 24 rfl rfl ?_
  refine zr_getZ zSm 25 rfl zf_11_178 rfl rfl (by decide) ?_
  refine zr_if zSm 26 52 rfl rfl (fun q1 => ?_) (fun q1 => ?_)
  · have h := h.1 q1
    refine zr_s zSm 28 rfl rfl ?_
    refine zr_iload_n zSm 29 rfl rfl ?_
    refine zr_if zSm 30 66 rfl rfl (fun q2 => ?_) (fun q2 => ?_)
    · have h := h.1 q2
      refine zr_bipush zSm 36 6 rfl rfl ?_
      refine zr_aload_n zSm 37 rfl rfl ?_
      refine zr_getR zSm 38 rfl zf_11_35 rfl rfl (by decide) ?_
      refine zr_s zSm 39 rfl rfl ?_
      refine zr_iald zSm 40 rfl rfl (zin_lit (by decide) (by decide)) ?_
      refine zr_s zSm 41 rfl rfl ?_
      refine zr_s zSm 42 rfl rfl ?_
      refine zr_istore zSm 43 (ll' := [(5, .int (3 * (6 + (I6 37 1)))), (4, .int v5), (3, .int v3), (2, .int v1), (0, .ref 28), (1, .int p0)]) rfl (by decide) rfl ?_
      refine zr_aload_n zSm 44 rfl rfl ?_
      refine zr_getR zSm 45 rfl zf_11_38 rfl rfl (by decide) ?_
      refine zr_iload zSm 46 rfl rfl ?_
      refine zr_iload_n zSm 47 rfl rfl ?_
      obtain ⟨b48, h⟩ := h
      refine zr_iast zSm 48 rfl rfl b48 ?_
      refine zr_aload_n zSm 49 rfl rfl ?_
      refine zr_getR zSm 50 rfl zf_11_38 rfl rfl (by decide) ?_
      refine zr_iload zSm 51 rfl rfl ?_
      refine zr_s zSm 52 rfl rfl ?_
      refine zr_s zSm 53 rfl rfl ?_
      refine zr_iload_n zSm 54 rfl rfl ?_
      obtain ⟨b55, h⟩ := h
      refine zr_iast zSm 55 rfl rfl b55 ?_
      refine zr_aload_n zSm 56 rfl rfl ?_
      refine zr_getR zSm 57 rfl zf_11_38 rfl rfl (by decide) ?_
      refine zr_iload zSm 58 rfl rfl ?_
      refine zr_s zSm 59 rfl rfl ?_
      refine zr_s zSm 60 rfl rfl ?_
      refine zr_iload zSm 61 rfl rfl ?_
      obtain ⟨b62, h⟩ := h
      refine zr_iast zSm 62 rfl rfl b62 ?_
      refine zr_vret zSm 63 rfl rfl ?_
      exact h
    · have h := h.2 q2
      refine zr_aload_n zSm 31 rfl rfl ?_
      refine zr_getR zSm 32 rfl zf_11_35 rfl rfl (by decide) ?_
      refine zr_s zSm 33 rfl rfl ?_
      refine zr_iald zSm 34 rfl rfl (zin_lit (by decide) (by decide)) ?_
      refine zr_goto zSm 35 75 rfl rfl ?_
      refine zr_s zSm 42 rfl rfl ?_
      refine zr_istore zSm 43 (ll' := [(5, .int (3 * (I6 37 0))), (4, .int v5), (3, .int v3), (2, .int v1), (0, .ref 28), (1, .int p0)]) rfl (by decide) rfl ?_
      refine zr_aload_n zSm 44 rfl rfl ?_
      refine zr_getR zSm 45 rfl zf_11_38 rfl rfl (by decide) ?_
      refine zr_iload zSm 46 rfl rfl ?_
      refine zr_iload_n zSm 47 rfl rfl ?_
      obtain ⟨b48, h⟩ := h
      refine zr_iast zSm 48 rfl rfl b48 ?_
      refine zr_aload_n zSm 49 rfl rfl ?_
      refine zr_getR zSm 50 rfl zf_11_38 rfl rfl (by decide) ?_
      refine zr_iload zSm 51 rfl rfl ?_
      refine zr_s zSm 52 rfl rfl ?_
      refine zr_s zSm 53 rfl rfl ?_
      refine zr_iload_n zSm 54 rfl rfl ?_
      obtain ⟨b55, h⟩ := h
      refine zr_iast zSm 55 rfl rfl b55 ?_
      refine zr_aload_n zSm 56 rfl rfl ?_
      refine zr_getR zSm 57 rfl zf_11_38 rfl rfl (by decide) ?_
      refine zr_iload zSm 58 rfl rfl ?_
      refine zr_s zSm 59 rfl rfl ?_
      refine zr_s zSm 60 rfl rfl ?_
      refine zr_iload zSm 61 rfl rfl ?_
      obtain ⟨b62, h⟩ := h
      refine zr_iast zSm 62 rfl rfl b62 ?_
      refine zr_vret zSm 63 rfl rfl ?_
      exact h
  · have h := h.2 q1
    refine zr_vret zSm 27 rfl rfl ?_
    exact h
theorem w_170 {RO : zRo} {d : Nat} {P : zP} {I : zI} {J : zJ} {D : zD} {bc bs : Nat}  (h : (∃ c1 s1, c1 ≤ bc ∧ s1 ≤ bs ∧ zz RO d 151 [.ref 28, .int 104] I J D c1 s1 (zNv P fun I1 J1 D1 => zw RO d 170 P 6 [(0, .ref 28)] [] I1 J1 D1 (bc - c1) (bs - s1)))) : zz RO (d + 1) 170 [.ref 28] I J D bc bs P := by
  refine zT_of (Nat.le_of_ble_eq_true rfl) rfl ?_
  show zw RO d 170 P 0 [(0, .ref 28)] [] I J D bc bs
  refine zr_aload_n zSm 0 rfl rfl ?_
  refine zr_bipush zSm 1 104 rfl rfl ?_
  obtain ⟨c1, s1, g1, f1, h⟩ := h
  refine zr_inv zSm 2 151 1 c1 s1 [.int 104] rfl rfl zk_11_233 zms_151 rfl ⟨_, _, _, _, rfl, rfl⟩ (Nat.le_of_ble_eq_true rfl) g1 f1 ?_
  refine zcv h (fun I1 J1 D1 h => ?_)
  exact h
theorem wl_170_6 {RO : zRo} {d : Nat} {P : zP} {I : zI} {J : zJ} {D : zD} {bc bs : Nat}  (h : (∃ c1 s1, c1 ≤ bc ∧ s1 ≤ bs ∧ zz RO d 165 [.ref 28, .int 5] I J D c1 s1 (zNi P fun v1 I1 J1 D1 => (((I1 28 25) = 0 → (zz RO d 152 [.ref 28, .int 102] I1 J1 D1 0 0 (zNi P fun v2 I2 J2 D2 => ((¬ v2 = 0 → zw RO d 170 P 6 [(0, .ref 28)] [] I2 J2 D2 (bc - c1) (bs - s1)) ∧ (¬ (¬ v2 = 0) → (∃ c3 s3, c3 ≤ (bc - c1) ∧ s3 ≤ (bs - s1) ∧ zz RO d 151 [.ref 28, .int 103] I2 J2 D2 c3 s3 (zNv P fun I3 J3 D3 => P (.inl none) I3 J3 D3))))))) ∧ (¬ ((I1 28 25) = 0) → (vp_in (I1 37 4) 6 ∧ (vp_in (I1 37 4) 6 ∧ (zz RO d 152 [.ref 28, .int 102] (zu I1 39 ((I1 37 4).toNatClampNeg) ((I1 39 ((I1 37 4).toNatClampNeg)) ||| (1 <<< (v1 &&& 31)))) J1 D1 0 0 (zNi P fun v4 I4 J4 D4 => ((¬ v4 = 0 → zw RO d 170 P 6 [(0, .ref 28)] [] I4 J4 D4 (bc - c1) (bs - s1)) ∧ (¬ (¬ v4 = 0) → (∃ c5 s5, c5 ≤ (bc - c1) ∧ s5 ≤ (bs - s1) ∧ zz RO d 151 [.ref 28, .int 103] I4 J4 D4 c5 s5 (zNv P fun I5 J5 D5 => P (.inl none) I5 J5 D5))))))))))))) : zw RO d 170 P 6 [(0, .ref 28)] [] I J D bc bs := by
  refine zr_aload_n zSm 3 rfl rfl ?_
  refine zr_s zSm 4 rfl rfl ?_
  obtain ⟨c1, s1, g1, f1, h⟩ := h
  refine zr_inv zSm 5 165 1 c1 s1 [.int 5] rfl rfl zk_11_266 zms_165 rfl ⟨_, _, _, _, rfl, rfl⟩ (Nat.le_of_ble_eq_true rfl) g1 f1 ?_
  refine zci h (fun v1 I1 J1 D1 h => ?_)
  refine zr_istore_n zSm 6 (ll' := [(1, .int v1), (0, .ref 28)]) rfl (by decide) rfl ?_
  refine zr_aload_n zSm 7 rfl rfl ?_
  refine zr_getZ zSm 8 rfl zf_11_178 rfl rfl (by decide) ?_
  refine zr_if zSm 9 36 rfl rfl (fun q1 => ?_) (fun q1 => ?_)
  · have h := h.1 q1
    refine zr_aload_n zSm 23 rfl rfl ?_
    refine zr_bipush zSm 24 102 rfl rfl ?_
    refine zr_inv0 25 152 1 [.int 102] rfl rfl zk_11_203 zms_152 rfl ⟨_, _, _, _, rfl, rfl⟩ (Nat.le_of_ble_eq_true rfl) ?_
    refine zci h (fun v2 I2 J2 D2 h => ?_)
    refine zr_if zSm 26 6 rfl rfl (fun q2 => ?_) (fun q2 => ?_)
    · have h := h.1 q2
      refine zr_sub [1] rfl ?_
      exact h
    · have h := h.2 q2
      refine zr_aload_n zSm 27 rfl rfl ?_
      refine zr_bipush zSm 28 103 rfl rfl ?_
      obtain ⟨c3, s3, g3, f3, h⟩ := h
      refine zr_inv zSm 29 151 1 c3 s3 [.int 103] rfl rfl zk_11_233 zms_151 rfl ⟨_, _, _, _, rfl, rfl⟩ (Nat.le_of_ble_eq_true rfl) g3 f3 ?_
      refine zcv h (fun I3 J3 D3 h => ?_)
      refine zr_vret zSm 30 rfl rfl ?_
      exact h
  · have h := h.2 q1
    refine zr_aload_n zSm 10 rfl rfl ?_
    refine zr_getR zSm 11 rfl zf_11_41 rfl rfl (by decide) ?_
    refine zr_aload_n zSm 12 rfl rfl ?_
    refine zr_getR zSm 13 rfl zf_11_35 rfl rfl (by decide) ?_
    refine zr_s zSm 14 rfl rfl ?_
    refine zr_iald zSm 15 rfl rfl (zin_lit (by decide) (by decide)) ?_
    refine zr_s zSm 16 rfl rfl ?_
    obtain ⟨b17, h⟩ := h
    refine zr_iald zSm 17 rfl rfl b17 ?_
    refine zr_s zSm 18 rfl rfl ?_
    refine zr_iload_n zSm 19 rfl rfl ?_
    refine zr_s zSm 20 rfl rfl ?_
    refine zr_s zSm 21 rfl rfl ?_
    obtain ⟨b22, h⟩ := h
    refine zr_iast zSm 22 rfl rfl b22 ?_
    refine zr_aload_n zSm 23 rfl rfl ?_
    refine zr_bipush zSm 24 102 rfl rfl ?_
    refine zr_inv0 25 152 1 [.int 102] rfl rfl zk_11_203 zms_152 rfl ⟨_, _, _, _, rfl, rfl⟩ (Nat.le_of_ble_eq_true rfl) ?_
    refine zci h (fun v4 I4 J4 D4 h => ?_)
    refine zr_if zSm 26 6 rfl rfl (fun q3 => ?_) (fun q3 => ?_)
    · have h := h.1 q3
      refine zr_sub [1] rfl ?_
      exact h
    · have h := h.2 q3
      refine zr_aload_n zSm 27 rfl rfl ?_
      refine zr_bipush zSm 28 103 rfl rfl ?_
      obtain ⟨c5, s5, g5, f5, h⟩ := h
      refine zr_inv zSm 29 151 1 c5 s5 [.int 103] rfl rfl zk_11_233 zms_151 rfl ⟨_, _, _, _, rfl, rfl⟩ (Nat.le_of_ble_eq_true rfl) g5 f5 ?_
      refine zcv h (fun I5 J5 D5 h => ?_)
      refine zr_vret zSm 30 rfl rfl ?_
      exact h
theorem w_171 {RO : zRo} {d : Nat} {P : zP} {I : zI} {J : zJ} {D : zD} {bc bs : Nat} {p0 : Int32} (h : ((¬ p0 = 0 → ((¬ p0 = 12 → (zz RO (d + 1) 152 [.ref 28, .int 9] (zu I 28 26 0) J D 0 0 (zNi P fun v1 I1 J1 D1 => ((v1 = 0 → (∃ c2 s2, c2 ≤ bc ∧ s2 ≤ bs ∧ zz RO (d + 1) 151 [.ref 28, .int 10] (zu I1 28 26 1) J1 D1 c2 s2 (zNv P fun I2 J2 D2 => zw RO (d + 1) 171 P 82 [(0, .ref 28), (1, .int p0), (2, .int (p0 + (I 37 7))), (3, .int (-1)), (4, .int (I2 28 19))] [] (zu I2 28 28 0) J2 D2 (bc - c2) (bs - s2)))) ∧ (¬ (v1 = 0) → (∃ c3 s3, c3 ≤ bc ∧ s3 ≤ bs ∧ zz RO (d + 1) 156 [.ref 28] I1 J1 D1 c3 s3 (zNi P fun v3 I3 J3 D3 => (∃ c4 s4, c4 ≤ (bc - c3) ∧ s4 ≤ (bs - s3) ∧ zz RO (d + 1) 151 [.ref 28, .int 10] (zu I3 28 26 1) J3 D3 c4 s4 (zNv P fun I4 J4 D4 => zw RO (d + 1) 171 P 82 [(0, .ref 28), (1, .int p0), (2, .int (p0 + (I 37 7))), (3, .int v3), (4, .int (I4 28 19))] [] (zu I4 28 28 0) J4 D4 ((bc - c3) - c4) ((bs - s3) - s4)))))))))) ∧ (¬ (¬ p0 = 12) → (zz RO (d + 1) 152 [.ref 28, .int 9] (zu I 28 26 0) J D 0 0 (zNi P fun v5 I5 J5 D5 => ((v5 = 0 → (∃ c6 s6, c6 ≤ bc ∧ s6 ≤ bs ∧ zz RO (d + 1) 151 [.ref 28, .int 10] (zu I5 28 26 1) J5 D5 c6 s6 (zNv P fun I6 J6 D6 => zw RO (d + 1) 171 P 82 [(0, .ref 28), (1, .int p0), (2, .int (p0 + (I 37 6))), (3, .int (-1)), (4, .int (I6 28 19))] [] (zu I6 28 28 0) J6 D6 (bc - c6) (bs - s6)))) ∧ (¬ (v5 = 0) → (∃ c7 s7, c7 ≤ bc ∧ s7 ≤ bs ∧ zz RO (d + 1) 156 [.ref 28] I5 J5 D5 c7 s7 (zNi P fun v7 I7 J7 D7 => (∃ c8 s8, c8 ≤ (bc - c7) ∧ s8 ≤ (bs - s7) ∧ zz RO (d + 1) 151 [.ref 28, .int 10] (zu I7 28 26 1) J7 D7 c8 s8 (zNv P fun I8 J8 D8 => zw RO (d + 1) 171 P 82 [(0, .ref 28), (1, .int p0), (2, .int (p0 + (I 37 6))), (3, .int v7), (4, .int (I8 28 19))] [] (zu I8 28 28 0) J8 D8 ((bc - c7) - c8) ((bs - s7) - s8)))))))))))) ∧ (¬ (¬ p0 = 0) → (zz RO (d + 1) 152 [.ref 28, .int 9] (zu I 28 26 0) J D 0 0 (zNi P fun v9 I9 J9 D9 => ((v9 = 0 → (∃ c10 s10, c10 ≤ bc ∧ s10 ≤ bs ∧ zz RO (d + 1) 151 [.ref 28, .int 10] (zu I9 28 26 1) J9 D9 c10 s10 (zNv P fun I10 J10 D10 => zw RO (d + 1) 171 P 82 [(0, .ref 28), (1, .int p0), (2, .int (p0 + (I 37 5))), (3, .int (-1)), (4, .int (I10 28 19))] [] (zu I10 28 28 0) J10 D10 (bc - c10) (bs - s10)))) ∧ (¬ (v9 = 0) → (∃ c11 s11, c11 ≤ bc ∧ s11 ≤ bs ∧ zz RO (d + 1) 156 [.ref 28] I9 J9 D9 c11 s11 (zNi P fun v11 I11 J11 D11 => (∃ c12 s12, c12 ≤ (bc - c11) ∧ s12 ≤ (bs - s11) ∧ zz RO (d + 1) 151 [.ref 28, .int 10] (zu I11 28 26 1) J11 D11 c12 s12 (zNv P fun I12 J12 D12 => zw RO (d + 1) 171 P 82 [(0, .ref 28), (1, .int p0), (2, .int (p0 + (I 37 5))), (3, .int v11), (4, .int (I12 28 19))] [] (zu I12 28 28 0) J12 D12 ((bc - c11) - c12) ((bs - s11) - s12)))))))))))) : zz RO (d + 2) 171 [.ref 28, .int p0] I J D bc bs P := by
  refine zT_of (Nat.le_of_ble_eq_true rfl) rfl ?_
  show zw RO (d + 1) 171 P 0 [(0, .ref 28), (1, .int p0)] [] I J D bc bs
  refine zr_iload_n zSm 0 rfl rfl ?_
  refine zr_iload_n zSm 1 rfl rfl ?_
  refine zr_if zSm 2 14 rfl rfl (fun q1 => ?_) (fun q1 => ?_)
  · have h := h.1 q1
    refine zr_iload_n zSm 8 rfl rfl ?_
    refine zr_bipush zSm 9 12 rfl rfl ?_
    refine zr_ic zSm 10 30 rfl rfl (fun q2 => ?_) (fun q2 => ?_)
    · have h := h.1 q2
      refine zr_aload_n zSm 16 rfl rfl ?_
      refine zr_getR zSm 17 rfl zf_11_35 rfl rfl (by decide) ?_
      refine zr_bipush zSm 18 7 rfl rfl ?_
      refine zr_iald zSm 19 rfl rfl (zin_lit (by decide) (by decide)) ?_
      refine zr_s zSm 20 rfl rfl ?_
      refine zr_istore_n zSm 21 (ll' := [(2, .int (p0 + (I 37 7))), (0, .ref 28), (1, .int p0)]) rfl (by decide) rfl ?_
      refine zr_s zSm 22 rfl rfl ?_
      refine zr_istore_n zSm 23 (ll' := [(3, .int (-1)), (2, .int (p0 + (I 37 7))), (0, .ref 28), (1, .int p0)]) rfl (by decide) rfl ?_
      refine zr_aload_n zSm 24 rfl rfl ?_
      refine zr_s zSm 25 rfl rfl ?_
      refine zr_putZ zSm 26 rfl zf_11_236 rfl rfl (by decide) zp_11_26 (Or.inl rfl) ?_
      refine zr_aload_n zSm 27 rfl rfl ?_
      refine zr_bipush zSm 28 9 rfl rfl ?_
      refine zr_inv0 29 152 1 [.int 9] rfl rfl zk_11_203 zms_152 rfl ⟨_, _, _, _, rfl, rfl⟩ (Nat.le_of_ble_eq_true rfl) ?_
      refine zci h (fun v1 I1 J1 D1 h => ?_)
      refine zr_if zSm 30 60 rfl rfl (fun q3 => ?_) (fun q3 => ?_)
      · have h := h.1 q3
        refine zr_aload_n zSm 34 rfl rfl ?_
        refine zr_s zSm 35 rfl rfl ?_
        refine zr_putZ zSm 36 rfl zf_11_236 rfl rfl (by decide) zp_11_26 (Or.inr rfl) ?_
        refine zr_aload_n zSm 37 rfl rfl ?_
        refine zr_bipush zSm 38 10 rfl rfl ?_
        obtain ⟨c2, s2, g2, f2, h⟩ := h
        refine zr_inv zSm 39 151 1 c2 s2 [.int 10] rfl rfl zk_11_233 zms_151 rfl ⟨_, _, _, _, rfl, rfl⟩ (Nat.le_of_ble_eq_true rfl) g2 f2 ?_
        refine zcv h (fun I2 J2 D2 h => ?_)
        refine zr_aload_n zSm 40 rfl rfl ?_
        refine zr_getI zSm 41 rfl zf_11_154 rfl rfl (by decide) ?_
        refine zr_istore zSm 42 (ll' := [(4, .int (I2 28 19)), (3, .int (-1)), (2, .int (p0 + (I 37 7))), (0, .ref 28), (1, .int p0)]) rfl (by decide) rfl ?_
        refine zr_aload_n zSm 43 rfl rfl ?_
        refine zr_s zSm 44 rfl rfl ?_
        refine zr_putI zSm 45 rfl zf_11_278 rfl rfl (by decide) zp_11_28 ?_
        refine zr_sub [3, 4, 2, 1, 0] rfl ?_
        exact h
      · have h := h.2 q3
        refine zr_aload_n zSm 31 rfl rfl ?_
        obtain ⟨c3, s3, g3, f3, h⟩ := h
        refine zr_inv zSm 32 156 0 c3 s3 [] rfl rfl zk_11_269 zms_156 rfl ⟨_, _, _, _, rfl, rfl⟩ (Nat.le_of_ble_eq_true rfl) g3 f3 ?_
        refine zci h (fun v3 I3 J3 D3 h => ?_)
        refine zr_istore_n zSm 33 (ll' := [(3, .int v3), (2, .int (p0 + (I 37 7))), (0, .ref 28), (1, .int p0)]) rfl (by decide) rfl ?_
        refine zr_aload_n zSm 34 rfl rfl ?_
        refine zr_s zSm 35 rfl rfl ?_
        refine zr_putZ zSm 36 rfl zf_11_236 rfl rfl (by decide) zp_11_26 (Or.inr rfl) ?_
        refine zr_aload_n zSm 37 rfl rfl ?_
        refine zr_bipush zSm 38 10 rfl rfl ?_
        obtain ⟨c4, s4, g4, f4, h⟩ := h
        refine zr_inv zSm 39 151 1 c4 s4 [.int 10] rfl rfl zk_11_233 zms_151 rfl ⟨_, _, _, _, rfl, rfl⟩ (Nat.le_of_ble_eq_true rfl) g4 f4 ?_
        refine zcv h (fun I4 J4 D4 h => ?_)
        refine zr_aload_n zSm 40 rfl rfl ?_
        refine zr_getI zSm 41 rfl zf_11_154 rfl rfl (by decide) ?_
        refine zr_istore zSm 42 (ll' := [(4, .int (I4 28 19)), (3, .int v3), (2, .int (p0 + (I 37 7))), (0, .ref 28), (1, .int p0)]) rfl (by decide) rfl ?_
        refine zr_aload_n zSm 43 rfl rfl ?_
        refine zr_s zSm 44 rfl rfl ?_
        refine zr_putI zSm 45 rfl zf_11_278 rfl rfl (by decide) zp_11_28 ?_
        refine zr_sub [3, 4, 2, 1, 0] rfl ?_
        exact h
    · have h := h.2 q2
      refine zr_aload_n zSm 11 rfl rfl ?_
      refine zr_getR zSm 12 rfl zf_11_35 rfl rfl (by decide) ?_
      refine zr_bipush zSm 13 6 rfl rfl ?_
      refine zr_iald zSm 14 rfl rfl (zin_lit (by decide) (by decide)) ?_
      refine zr_goto zSm 15 37 rfl rfl ?_
      refine zr_s zSm 20 rfl rfl ?_
      refine zr_istore_n zSm 21 (ll' := [(2, .int (p0 + (I 37 6))), (0, .ref 28), (1, .int p0)]) rfl (by decide) rfl ?_
      refine zr_s zSm 22 rfl rfl ?_
      refine zr_istore_n zSm 23 (ll' := [(3, .int (-1)), (2, .int (p0 + (I 37 6))), (0, .ref 28), (1, .int p0)]) rfl (by decide) rfl ?_
      refine zr_aload_n zSm 24 rfl rfl ?_
      refine zr_s zSm 25 rfl rfl ?_
      refine zr_putZ zSm 26 rfl zf_11_236 rfl rfl (by decide) zp_11_26 (Or.inl rfl) ?_
      refine zr_aload_n zSm 27 rfl rfl ?_
      refine zr_bipush zSm 28 9 rfl rfl ?_
      refine zr_inv0 29 152 1 [.int 9] rfl rfl zk_11_203 zms_152 rfl ⟨_, _, _, _, rfl, rfl⟩ (Nat.le_of_ble_eq_true rfl) ?_
      refine zci h (fun v5 I5 J5 D5 h => ?_)
      refine zr_if zSm 30 60 rfl rfl (fun q4 => ?_) (fun q4 => ?_)
      · have h := h.1 q4
        refine zr_aload_n zSm 34 rfl rfl ?_
        refine zr_s zSm 35 rfl rfl ?_
        refine zr_putZ zSm 36 rfl zf_11_236 rfl rfl (by decide) zp_11_26 (Or.inr rfl) ?_
        refine zr_aload_n zSm 37 rfl rfl ?_
        refine zr_bipush zSm 38 10 rfl rfl ?_
        obtain ⟨c6, s6, g6, f6, h⟩ := h
        refine zr_inv zSm 39 151 1 c6 s6 [.int 10] rfl rfl zk_11_233 zms_151 rfl ⟨_, _, _, _, rfl, rfl⟩ (Nat.le_of_ble_eq_true rfl) g6 f6 ?_
        refine zcv h (fun I6 J6 D6 h => ?_)
        refine zr_aload_n zSm 40 rfl rfl ?_
        refine zr_getI zSm 41 rfl zf_11_154 rfl rfl (by decide) ?_
        refine zr_istore zSm 42 (ll' := [(4, .int (I6 28 19)), (3, .int (-1)), (2, .int (p0 + (I 37 6))), (0, .ref 28), (1, .int p0)]) rfl (by decide) rfl ?_
        refine zr_aload_n zSm 43 rfl rfl ?_
        refine zr_s zSm 44 rfl rfl ?_
        refine zr_putI zSm 45 rfl zf_11_278 rfl rfl (by decide) zp_11_28 ?_
        refine zr_sub [3, 4, 2, 1, 0] rfl ?_
        exact h
      · have h := h.2 q4
        refine zr_aload_n zSm 31 rfl rfl ?_
        obtain ⟨c7, s7, g7, f7, h⟩ := h
        refine zr_inv zSm 32 156 0 c7 s7 [] rfl rfl zk_11_269 zms_156 rfl ⟨_, _, _, _, rfl, rfl⟩ (Nat.le_of_ble_eq_true rfl) g7 f7 ?_
        refine zci h (fun v7 I7 J7 D7 h => ?_)
        refine zr_istore_n zSm 33 (ll' := [(3, .int v7), (2, .int (p0 + (I 37 6))), (0, .ref 28), (1, .int p0)]) rfl (by decide) rfl ?_
        refine zr_aload_n zSm 34 rfl rfl ?_
        refine zr_s zSm 35 rfl rfl ?_
        refine zr_putZ zSm 36 rfl zf_11_236 rfl rfl (by decide) zp_11_26 (Or.inr rfl) ?_
        refine zr_aload_n zSm 37 rfl rfl ?_
        refine zr_bipush zSm 38 10 rfl rfl ?_
        obtain ⟨c8, s8, g8, f8, h⟩ := h
        refine zr_inv zSm 39 151 1 c8 s8 [.int 10] rfl rfl zk_11_233 zms_151 rfl ⟨_, _, _, _, rfl, rfl⟩ (Nat.le_of_ble_eq_true rfl) g8 f8 ?_
        refine zcv h (fun I8 J8 D8 h => ?_)
        refine zr_aload_n zSm 40 rfl rfl ?_
        refine zr_getI zSm 41 rfl zf_11_154 rfl rfl (by decide) ?_
        refine zr_istore zSm 42 (ll' := [(4, .int (I8 28 19)), (3, .int v7), (2, .int (p0 + (I 37 6))), (0, .ref 28), (1, .int p0)]) rfl (by decide) rfl ?_
        refine zr_aload_n zSm 43 rfl rfl ?_
        refine zr_s zSm 44 rfl rfl ?_
        refine zr_putI zSm 45 rfl zf_11_278 rfl rfl (by decide) zp_11_28 ?_
        refine zr_sub [3, 4, 2, 1, 0] rfl ?_
        exact h
  · have h := h.2 q1
    refine zr_aload_n zSm 3 rfl rfl ?_
    refine zr_getR zSm 4 rfl zf_11_35 rfl rfl (by decide) ?_
    refine zr_s zSm 5 rfl rfl ?_
    refine zr_iald zSm 6 rfl rfl (zin_lit (by decide) (by decide)) ?_
    refine zr_goto zSm 7 37 rfl rfl ?_
    refine zr_s zSm 20 rfl rfl ?_
    refine zr_istore_n zSm 21 (ll' := [(2, .int (p0 + (I 37 5))), (0, .ref 28), (1, .int p0)]) rfl (by decide) rfl ?_
    refine zr_s zSm 22 rfl rfl ?_
    refine zr_istore_n zSm 23 (ll' := [(3, .int (-1)), (2, .int (p0 + (I 37 5))), (0, .ref 28), (1, .int p0)]) rfl (by decide) rfl ?_
    refine zr_aload_n zSm 24 rfl rfl ?_
    refine zr_s zSm 25 rfl rfl ?_
    refine zr_putZ zSm 26 rfl zf_11_236 rfl rfl (by decide) zp_11_26 (Or.inl rfl) ?_
    refine zr_aload_n zSm 27 rfl rfl ?_
    refine zr_bipush zSm 28 9 rfl rfl ?_
    refine zr_inv0 29 152 1 [.int 9] rfl rfl zk_11_203 zms_152 rfl ⟨_, _, _, _, rfl, rfl⟩ (Nat.le_of_ble_eq_true rfl) ?_
    refine zci h (fun v9 I9 J9 D9 h => ?_)
    refine zr_if zSm 30 60 rfl rfl (fun q5 => ?_) (fun q5 => ?_)
    · have h := h.1 q5
      refine zr_aload_n zSm 34 rfl rfl ?_
      refine zr_s zSm 35 rfl rfl ?_
      refine zr_putZ zSm 36 rfl zf_11_236 rfl rfl (by decide) zp_11_26 (Or.inr rfl) ?_
      refine zr_aload_n zSm 37 rfl rfl ?_
      refine zr_bipush zSm 38 10 rfl rfl ?_
      obtain ⟨c10, s10, g10, f10, h⟩ := h
      refine zr_inv zSm 39 151 1 c10 s10 [.int 10] rfl rfl zk_11_233 zms_151 rfl ⟨_, _, _, _, rfl, rfl⟩ (Nat.le_of_ble_eq_true rfl) g10 f10 ?_
      refine zcv h (fun I10 J10 D10 h => ?_)
      refine zr_aload_n zSm 40 rfl rfl ?_
      refine zr_getI zSm 41 rfl zf_11_154 rfl rfl (by decide) ?_
      refine zr_istore zSm 42 (ll' := [(4, .int (I10 28 19)), (3, .int (-1)), (2, .int (p0 + (I 37 5))), (0, .ref 28), (1, .int p0)]) rfl (by decide) rfl ?_
      refine zr_aload_n zSm 43 rfl rfl ?_
      refine zr_s zSm 44 rfl rfl ?_
      refine zr_putI zSm 45 rfl zf_11_278 rfl rfl (by decide) zp_11_28 ?_
      refine zr_sub [3, 4, 2, 1, 0] rfl ?_
      exact h
    · have h := h.2 q5
      refine zr_aload_n zSm 31 rfl rfl ?_
      obtain ⟨c11, s11, g11, f11, h⟩ := h
      refine zr_inv zSm 32 156 0 c11 s11 [] rfl rfl zk_11_269 zms_156 rfl ⟨_, _, _, _, rfl, rfl⟩ (Nat.le_of_ble_eq_true rfl) g11 f11 ?_
      refine zci h (fun v11 I11 J11 D11 h => ?_)
      refine zr_istore_n zSm 33 (ll' := [(3, .int v11), (2, .int (p0 + (I 37 5))), (0, .ref 28), (1, .int p0)]) rfl (by decide) rfl ?_
      refine zr_aload_n zSm 34 rfl rfl ?_
      refine zr_s zSm 35 rfl rfl ?_
      refine zr_putZ zSm 36 rfl zf_11_236 rfl rfl (by decide) zp_11_26 (Or.inr rfl) ?_
      refine zr_aload_n zSm 37 rfl rfl ?_
      refine zr_bipush zSm 38 10 rfl rfl ?_
      obtain ⟨c12, s12, g12, f12, h⟩ := h
      refine zr_inv zSm 39 151 1 c12 s12 [.int 10] rfl rfl zk_11_233 zms_151 rfl ⟨_, _, _, _, rfl, rfl⟩ (Nat.le_of_ble_eq_true rfl) g12 f12 ?_
      refine zcv h (fun I12 J12 D12 h => ?_)
      refine zr_aload_n zSm 40 rfl rfl ?_
      refine zr_getI zSm 41 rfl zf_11_154 rfl rfl (by decide) ?_
      refine zr_istore zSm 42 (ll' := [(4, .int (I12 28 19)), (3, .int v11), (2, .int (p0 + (I 37 5))), (0, .ref 28), (1, .int p0)]) rfl (by decide) rfl ?_
      refine zr_aload_n zSm 43 rfl rfl ?_
      refine zr_s zSm 44 rfl rfl ?_
      refine zr_putI zSm 45 rfl zf_11_278 rfl rfl (by decide) zp_11_28 ?_
      refine zr_sub [3, 4, 2, 1, 0] rfl ?_
      exact h
theorem wl_171_82 {RO : zRo} {d : Nat} {P : zP} {I : zI} {J : zJ} {D : zD} {bc bs : Nat} {l1 l2 l3 l4 : Int32} (h : (zo_148 I J 11 ∧ ((¬ (zv_148 I J 11) = 0 → (∃ c1 s1, c1 ≤ bc ∧ s1 ≤ bs ∧ zz RO (d + 1) 151 [.ref 28, .int 11] I J D c1 s1 (zNv P fun I1 J1 D1 => (zz RO (d + 1) 155 [.ref 28, .int 303] I1 J1 D1 0 0 (zNv P fun I2 J2 D2 => ((¬ (I2 28 25) = 0 → (vp_in l2 28 ∧ (vp_in l2 28 ∧ P (.inl none) (zu (zu I2 40 l2.toNatClampNeg l3) 41 l2.toNatClampNeg l4) J2 D2))) ∧ (¬ (¬ (I2 28 25) = 0) → P (.inl none) I2 J2 D2))))))) ∧ (¬ (¬ (zv_148 I J 11) = 0) → (∃ c3 s3, c3 ≤ bc ∧ s3 ≤ bs ∧ zz RO (d + 1) 172 [.ref 28] I J D c3 s3 (zNv P fun I3 J3 D3 => zw RO (d + 1) 171 P 82 [(0, .ref 28), (1, .int l1), (2, .int l2), (3, .int l3), (4, .int l4)] [] I3 J3 D3 (bc - c3) (bs - s3))))))) : zw RO (d + 1) 171 P 82 [(0, .ref 28), (1, .int l1), (2, .int l2), (3, .int l3), (4, .int l4)] [] I J D bc bs := by
  refine zr_aload_n zSm 46 rfl rfl ?_
  refine zr_bipush zSm 47 11 rfl rfl ?_
  obtain ⟨b48, h⟩ := h
  refine zr_inv0 48 148 1 [.int 11] rfl rfl zk_11_181 zms_148 rfl ⟨_, _, _, _, rfl, rfl⟩ (Nat.le_of_ble_eq_true rfl) ?_
  refine ze_148 b48 ?_
  refine zNx_i ?_
  refine zr_if zSm 49 98 rfl rfl (fun q1 => ?_) (fun q1 => ?_)
  · have h := h.1 q1
    refine zr_aload_n zSm 53 rfl rfl ?_
    refine zr_bipush zSm 54 11 rfl rfl ?_
    obtain ⟨c1, s1, g1, f1, h⟩ := h
    refine zr_inv zSm 55 151 1 c1 s1 [.int 11] rfl rfl zk_11_233 zms_151 rfl ⟨_, _, _, _, rfl, rfl⟩ (Nat.le_of_ble_eq_true rfl) g1 f1 ?_
    refine zcv h (fun I1 J1 D1 h => ?_)
    refine zr_aload_n zSm 56 rfl rfl ?_
    refine zr_sipush zSm 57 303 rfl rfl ?_
    refine zr_inv0 58 155 1 [.int 303] rfl rfl zk_11_198 zms_155 rfl ⟨_, _, _, _, rfl, rfl⟩ (Nat.le_of_ble_eq_true rfl) ?_
    refine zcv h (fun I2 J2 D2 h => ?_)
    refine zr_aload_n zSm 59 rfl rfl ?_
    refine zr_getZ zSm 60 rfl zf_11_178 rfl rfl (by decide) ?_
    refine zr_if zSm 61 119 rfl rfl (fun q2 => ?_) (fun q2 => ?_)
    · have h := h.1 q2
      refine zr_aload_n zSm 63 rfl rfl ?_
      refine zr_getR zSm 64 rfl zf_11_44 rfl rfl (by decide) ?_
      refine zr_iload_n zSm 65 rfl rfl ?_
      refine zr_iload_n zSm 66 rfl rfl ?_
      obtain ⟨b67, h⟩ := h
      refine zr_iast zSm 67 rfl rfl b67 ?_
      refine zr_aload_n zSm 68 rfl rfl ?_
      refine zr_getR zSm 69 rfl zf_11_47 rfl rfl (by decide) ?_
      refine zr_iload_n zSm 70 rfl rfl ?_
      refine zr_iload zSm 71 rfl rfl ?_
      obtain ⟨b72, h⟩ := h
      refine zr_iast zSm 72 rfl rfl b72 ?_
      refine zr_vret zSm 73 rfl rfl ?_
      exact h
    · have h := h.2 q2
      refine zr_vret zSm 62 rfl rfl ?_
      exact h
  · have h := h.2 q1
    refine zr_aload_n zSm 50 rfl rfl ?_
    obtain ⟨c3, s3, g3, f3, h⟩ := h
    refine zr_inv zSm 51 172 0 c3 s3 [] rfl rfl zk_11_281 zms_172 rfl ⟨_, _, _, _, rfl, rfl⟩ (Nat.le_of_ble_eq_true rfl) g3 f3 ?_
    refine zcv h (fun I3 J3 D3 h => ?_)
    refine zr_goto zSm 52 82 rfl rfl ?_
    exact h
theorem w_172 {RO : zRo} {d : Nat} {P : zP} {I : zI} {J : zJ} {D : zD} {bc bs : Nat}  (h : (vp_in (I 28 24) 452 ∧ (((I 31 ((I 28 24).toNatClampNeg)) = 14 → ((¬ (I 28 28) = 4 → (∃ c1 s1, c1 ≤ bc ∧ s1 ≤ bs ∧ zz RO (d + 1) 174 [.ref 28] (zu (zu I 28 24 ((I 28 24) + 1)) 28 28 ((I 28 28) + 1)) J D c1 s1 (zNv P fun I1 J1 D1 => P (.inl none) (zu I1 28 28 ((I1 28 28) - 1)) J1 D1))) ∧ (¬ (¬ (I 28 28) = 4) → ((1 ≤ bc ∧ 8 ≤ bs) ∧ vp_in (I 28 24) 452 ∧ P (.inr (3, 1, I 32 ((I 28 24).toNatClampNeg))) I J D)))) ∧ (¬ ((I 31 ((I 28 24).toNatClampNeg)) = 14) → ((¬ (I 31 ((I 28 24).toNatClampNeg)) = 20 → (((I 31 ((I 28 24).toNatClampNeg)) = 12 → (∃ c2 s2, c2 ≤ bc ∧ s2 ≤ bs ∧ zz RO (d + 1) 173 [.ref 28, .int (I 31 ((I 28 24).toNatClampNeg))] (zu I 28 24 ((I 28 24) + 1)) J D c2 s2 (zNv P fun I2 J2 D2 => (∃ c3 s3, c3 ≤ (bc - c2) ∧ s3 ≤ (bs - s2) ∧ zz RO (d + 1) 151 [.ref 28, .int 103] I2 J2 D2 c3 s3 (zNv P fun I3 J3 D3 => P (.inl none) I3 J3 D3))))) ∧ (¬ ((I 31 ((I 28 24).toNatClampNeg)) = 12) → (((I 31 ((I 28 24).toNatClampNeg)) = 13 → (∃ c4 s4, c4 ≤ bc ∧ s4 ≤ bs ∧ zz RO (d + 1) 173 [.ref 28, .int (I 31 ((I 28 24).toNatClampNeg))] (zu I 28 24 ((I 28 24) + 1)) J D c4 s4 (zNv P fun I4 J4 D4 => (∃ c5 s5, c5 ≤ (bc - c4) ∧ s5 ≤ (bs - s4) ∧ zz RO (d + 1) 151 [.ref 28, .int 103] I4 J4 D4 c5 s5 (zNv P fun I5 J5 D5 => P (.inl none) I5 J5 D5))))) ∧ (¬ ((I 31 ((I 28 24).toNatClampNeg)) = 13) → (((zv_136 I J ((I 31 ((I 28 24).toNatClampNeg)).toInt64) 17 19) = 0 → ((1 ≤ bc ∧ 8 ≤ bs) ∧ vp_in (I 28 24) 452 ∧ P (.inr (3, 1, I 32 ((I 28 24).toNatClampNeg))) I J D)) ∧ (¬ ((zv_136 I J ((I 31 ((I 28 24).toNatClampNeg)).toInt64) 17 19) = 0) → (zz RO (d + 1) 155 [.ref 28, .int (I 31 ((I 28 24).toNatClampNeg))] (zu I 28 24 ((I 28 24) + 1)) J D 0 0 (zNv P fun I6 J6 D6 => (∃ c7 s7, c7 ≤ bc ∧ s7 ≤ bs ∧ zz RO (d + 1) 151 [.ref 28, .int 103] I6 J6 D6 c7 s7 (zNv P fun I7 J7 D7 => P (.inl none) I7 J7 D7))))))))))) ∧ (¬ (¬ (I 31 ((I 28 24).toNatClampNeg)) = 20) → ((¬ (I 28 28) = 4 → (∃ c8 s8, c8 ≤ bc ∧ s8 ≤ bs ∧ zz RO (d + 1) 175 [.ref 28] (zu (zu I 28 24 ((I 28 24) + 1)) 28 28 ((I 28 28) + 1)) J D c8 s8 (zNv P fun I8 J8 D8 => P (.inl none) (zu I8 28 28 ((I8 28 28) - 1)) J8 D8))) ∧ (¬ (¬ (I 28 28) = 4) → ((1 ≤ bc ∧ 8 ≤ bs) ∧ vp_in (I 28 24) 452 ∧ P (.inr (3, 1, I 32 ((I 28 24).toNatClampNeg))) I J D))))))))) : zz RO (d + 2) 172 [.ref 28] I J D bc bs P := by
  refine zT_of (Nat.le_of_ble_eq_true rfl) rfl ?_
  show zw RO (d + 1) 172 P 0 [(0, .ref 28)] [] I J D bc bs
  refine zr_aload_n zSm 0 rfl rfl ?_
  refine zr_getR zSm 1 rfl zf_11_17 rfl rfl (by decide) ?_
  refine zr_aload_n zSm 2 rfl rfl ?_
  refine zr_getI zSm 3 rfl zf_11_170 rfl rfl (by decide) ?_
  obtain ⟨b4, h⟩ := h
  refine zr_iald zSm 4 rfl rfl b4 ?_
  refine zr_istore_n zSm 5 (ll' := [(1, .int (I 31 ((I 28 24).toNatClampNeg))), (0, .ref 28)]) rfl (by decide) rfl ?_
  refine zr_iload_n zSm 6 rfl rfl ?_
  refine zr_bipush zSm 7 14 rfl rfl ?_
  refine zr_ic zSm 8 22 rfl rfl (fun q1 => ?_) (fun q1 => ?_)
  · have h := h.1 q1
    refine zr_s zSm 12 rfl rfl ?_
    refine zr_goto zSm 13 27 rfl rfl ?_
    refine zr_istore_n zSm 15 (ll' := [(2, .int 1), (1, .int (I 31 ((I 28 24).toNatClampNeg))), (0, .ref 28)]) rfl (by decide) rfl ?_
    refine zr_iload_n zSm 16 rfl rfl ?_
    refine zr_if zSm 17 58 rfl rfl (fun q2 => ?_) (fun q2 => ?_)
    · refine zr_iload_n zSm 30 rfl rfl ?_
      refine zr_if zSm 31 75 rfl rfl (fun q3 => ?_) (fun q3 => ?_)
      · exact absurd q3 (by show ¬ ((1 : Int32) = 0); decide)
      · refine zr_aload_n zSm 32 rfl rfl ?_
        refine zr_getI zSm 33 rfl zf_11_278 rfl rfl (by decide) ?_
        refine zr_s zSm 34 rfl rfl ?_
        refine zr_ic zSm 35 75 rfl rfl (fun q4 => ?_) (fun q4 => ?_)
        · have h := h.1 q4
          refine zr_aload_n zSm 39 rfl rfl ?_
          refine zr_s zSm 40 rfl rfl ?_
          refine zr_getI zSm 41 rfl zf_11_170 rfl rfl (by decide) ?_
          refine zr_s zSm 42 rfl rfl ?_
          refine zr_s zSm 43 rfl rfl ?_
          refine zr_putI zSm 44 rfl zf_11_170 rfl rfl (by decide) zp_11_24 ?_
          refine zr_iload_n zSm 45 rfl rfl ?_
          refine zr_if zSm 46 127 rfl rfl (fun q5 => ?_) (fun q5 => ?_)
          · exact absurd q5 (by show ¬ ((1 : Int32) = 0); decide)
          · refine zr_aload_n zSm 47 rfl rfl ?_
            refine zr_s zSm 48 rfl rfl ?_
            refine zr_getI zSm 49 rfl zf_11_278 rfl rfl (by decide) ?_
            refine zr_s zSm 50 rfl rfl ?_
            refine zr_s zSm 51 rfl rfl ?_
            refine zr_putI zSm 52 rfl zf_11_278 rfl rfl (by decide) zp_11_28 ?_
            refine zr_iload_n zSm 53 rfl rfl ?_
            refine zr_bipush zSm 54 14 rfl rfl ?_
            refine zr_ic zSm 55 112 rfl rfl (fun q6 => ?_) (fun q6 => ?_)
            · first | exact absurd q6 q1 | exact absurd q1 q6 | exact absurd (Int32.not_lt.mp q6) q1 | exact absurd (Int32.not_lt.mp q1) q6 | exact absurd (Int32.not_le.mp q6) q1 | exact absurd (Int32.not_le.mp q1) q6 | exact absurd q6 (Int32.not_lt.mpr q1) | exact absurd q1 (Int32.not_lt.mpr q6) | exact absurd q6 (Int32.not_le.mpr q1) | exact absurd q1 (Int32.not_le.mpr q6)
            · refine zr_aload_n zSm 56 rfl rfl ?_
              obtain ⟨c1, s1, g1, f1, h⟩ := h
              refine zr_inv zSm 57 174 0 c1 s1 [] rfl rfl zk_11_288 zms_174 rfl ⟨_, _, _, _, rfl, rfl⟩ (Nat.le_of_ble_eq_true rfl) g1 f1 ?_
              refine zcv h (fun I1 J1 D1 h => ?_)
              refine zr_goto zSm 58 116 rfl rfl ?_
              refine zr_aload_n zSm 61 rfl rfl ?_
              refine zr_s zSm 62 rfl rfl ?_
              refine zr_getI zSm 63 rfl zf_11_278 rfl rfl (by decide) ?_
              refine zr_s zSm 64 rfl rfl ?_
              refine zr_s zSm 65 rfl rfl ?_
              refine zr_putI zSm 66 rfl zf_11_278 rfl rfl (by decide) zp_11_28 ?_
              refine zr_vret zSm 67 rfl rfl ?_
              exact h
        · have h := h.2 q4
          refine zr_wrong 184 ⟨List.mem_of_getElem? (i := 36) rfl, List.mem_of_getElem? (i := 37) rfl, zk_11_184, List.mem_of_getElem? (i := 38) rfl⟩ rfl rfl (by decide) rfl h.1 h.2.1 ?_
          exact h.2.2
    · exact absurd q2 (by show ¬ ¬ (¬ ((1 : Int32) = 0)); decide)
  · have h := h.2 q1
    refine zr_iload_n zSm 9 rfl rfl ?_
    refine zr_bipush zSm 10 20 rfl rfl ?_
    refine zr_ic zSm 11 26 rfl rfl (fun q7 => ?_) (fun q7 => ?_)
    · have h := h.1 q7
      refine zr_s zSm 14 rfl rfl ?_
      refine zr_istore_n zSm 15 (ll' := [(2, .int 0), (1, .int (I 31 ((I 28 24).toNatClampNeg))), (0, .ref 28)]) rfl (by decide) rfl ?_
      refine zr_iload_n zSm 16 rfl rfl ?_
      refine zr_if zSm 17 58 rfl rfl (fun q8 => ?_) (fun q8 => ?_)
      · exact absurd q8 (by show ¬ (¬ ((0 : Int32) = 0)); decide)
      · refine zr_iload_n zSm 18 rfl rfl ?_
        refine zr_bipush zSm 19 12 rfl rfl ?_
        refine zr_ic zSm 20 58 rfl rfl (fun q9 => ?_) (fun q9 => ?_)
        · have h := h.1 q9
          refine zr_iload_n zSm 30 rfl rfl ?_
          refine zr_if zSm 31 75 rfl rfl (fun q10 => ?_) (fun q10 => ?_)
          · refine zr_aload_n zSm 39 rfl rfl ?_
            refine zr_s zSm 40 rfl rfl ?_
            refine zr_getI zSm 41 rfl zf_11_170 rfl rfl (by decide) ?_
            refine zr_s zSm 42 rfl rfl ?_
            refine zr_s zSm 43 rfl rfl ?_
            refine zr_putI zSm 44 rfl zf_11_170 rfl rfl (by decide) zp_11_24 ?_
            refine zr_iload_n zSm 45 rfl rfl ?_
            refine zr_if zSm 46 127 rfl rfl (fun q11 => ?_) (fun q11 => ?_)
            · refine zr_iload_n zSm 68 rfl rfl ?_
              refine zr_bipush zSm 69 12 rfl rfl ?_
              refine zr_ic zSm 70 139 rfl rfl (fun q12 => ?_) (fun q12 => ?_)
              · refine zr_aload_n zSm 74 rfl rfl ?_
                refine zr_iload_n zSm 75 rfl rfl ?_
                obtain ⟨c2, s2, g2, f2, h⟩ := h
                refine zr_inv zSm 76 173 1 c2 s2 [.int (I 31 ((I 28 24).toNatClampNeg))] rfl rfl zk_11_294 zms_173 rfl ⟨_, _, _, _, rfl, rfl⟩ (Nat.le_of_ble_eq_true rfl) g2 f2 ?_
                refine zcv h (fun I2 J2 D2 h => ?_)
                refine zr_goto zSm 77 152 rfl rfl ?_
                refine zr_aload_n zSm 81 rfl rfl ?_
                refine zr_bipush zSm 82 103 rfl rfl ?_
                obtain ⟨c3, s3, g3, f3, h⟩ := h
                refine zr_inv zSm 83 151 1 c3 s3 [.int 103] rfl rfl zk_11_233 zms_151 rfl ⟨_, _, _, _, rfl, rfl⟩ (Nat.le_of_ble_eq_true rfl) g3 f3 ?_
                refine zcv h (fun I3 J3 D3 h => ?_)
                refine zr_vret zSm 84 rfl rfl ?_
                exact h
              · exact absurd q9 q12
            · exact absurd q11 (by show ¬ ¬ ((0 : Int32) = 0); decide)
          · exact absurd q10 (by show ¬ ¬ ((0 : Int32) = 0); decide)
        · have h := h.2 q9
          refine zr_iload_n zSm 21 rfl rfl ?_
          refine zr_bipush zSm 22 13 rfl rfl ?_
          refine zr_ic zSm 23 58 rfl rfl (fun q13 => ?_) (fun q13 => ?_)
          · have h := h.1 q13
            refine zr_iload_n zSm 30 rfl rfl ?_
            refine zr_if zSm 31 75 rfl rfl (fun q14 => ?_) (fun q14 => ?_)
            · refine zr_aload_n zSm 39 rfl rfl ?_
              refine zr_s zSm 40 rfl rfl ?_
              refine zr_getI zSm 41 rfl zf_11_170 rfl rfl (by decide) ?_
              refine zr_s zSm 42 rfl rfl ?_
              refine zr_s zSm 43 rfl rfl ?_
              refine zr_putI zSm 44 rfl zf_11_170 rfl rfl (by decide) zp_11_24 ?_
              refine zr_iload_n zSm 45 rfl rfl ?_
              refine zr_if zSm 46 127 rfl rfl (fun q15 => ?_) (fun q15 => ?_)
              · refine zr_iload_n zSm 68 rfl rfl ?_
                refine zr_bipush zSm 69 12 rfl rfl ?_
                refine zr_ic zSm 70 139 rfl rfl (fun q16 => ?_) (fun q16 => ?_)
                · exact absurd q16 q9
                · refine zr_iload_n zSm 71 rfl rfl ?_
                  refine zr_bipush zSm 72 13 rfl rfl ?_
                  refine zr_ic zSm 73 147 rfl rfl (fun q17 => ?_) (fun q17 => ?_)
                  · first | exact absurd q17 q13 | exact absurd q13 q17 | exact absurd (Int32.not_lt.mp q17) q13 | exact absurd (Int32.not_lt.mp q13) q17 | exact absurd (Int32.not_le.mp q17) q13 | exact absurd (Int32.not_le.mp q13) q17 | exact absurd q17 (Int32.not_lt.mpr q13) | exact absurd q13 (Int32.not_lt.mpr q17) | exact absurd q17 (Int32.not_le.mpr q13) | exact absurd q13 (Int32.not_le.mpr q17)
                  · refine zr_aload_n zSm 74 rfl rfl ?_
                    refine zr_iload_n zSm 75 rfl rfl ?_
                    obtain ⟨c4, s4, g4, f4, h⟩ := h
                    refine zr_inv zSm 76 173 1 c4 s4 [.int (I 31 ((I 28 24).toNatClampNeg))] rfl rfl zk_11_294 zms_173 rfl ⟨_, _, _, _, rfl, rfl⟩ (Nat.le_of_ble_eq_true rfl) g4 f4 ?_
                    refine zcv h (fun I4 J4 D4 h => ?_)
                    refine zr_goto zSm 77 152 rfl rfl ?_
                    refine zr_aload_n zSm 81 rfl rfl ?_
                    refine zr_bipush zSm 82 103 rfl rfl ?_
                    obtain ⟨c5, s5, g5, f5, h⟩ := h
                    refine zr_inv zSm 83 151 1 c5 s5 [.int 103] rfl rfl zk_11_233 zms_151 rfl ⟨_, _, _, _, rfl, rfl⟩ (Nat.le_of_ble_eq_true rfl) g5 f5 ?_
                    refine zcv h (fun I5 J5 D5 h => ?_)
                    refine zr_vret zSm 84 rfl rfl ?_
                    exact h
              · exact absurd q15 (by show ¬ ¬ ((0 : Int32) = 0); decide)
            · exact absurd q14 (by show ¬ ¬ ((0 : Int32) = 0); decide)
          · have h := h.2 q13
            refine zr_iload_n zSm 24 rfl rfl ?_
            refine zr_s zSm 25 rfl rfl ?_
            refine zr_ldc2 zSm 26 rfl zc_11_284 ?_
            refine zr_ldc2 zSm 27 rfl zc_11_286 ?_
            refine zr_ins0 28 136 3 [.long ((I 31 ((I 28 24).toNatClampNeg)).toInt64), .long 17, .long 19] rfl rfl zk_11_110 zms_136 rfl (Nat.le_of_ble_eq_true rfl) ?_
            refine ze_136 ?_
            refine zNx_i ?_
            refine zr_if zSm 29 70 rfl rfl (fun q18 => ?_) (fun q18 => ?_)
            · have h := h.1 q18
              refine zr_wrong 184 ⟨List.mem_of_getElem? (i := 36) rfl, List.mem_of_getElem? (i := 37) rfl, zk_11_184, List.mem_of_getElem? (i := 38) rfl⟩ rfl rfl (by decide) rfl h.1 h.2.1 ?_
              exact h.2.2
            · have h := h.2 q18
              refine zr_iload_n zSm 30 rfl rfl ?_
              refine zr_if zSm 31 75 rfl rfl (fun q19 => ?_) (fun q19 => ?_)
              · refine zr_aload_n zSm 39 rfl rfl ?_
                refine zr_s zSm 40 rfl rfl ?_
                refine zr_getI zSm 41 rfl zf_11_170 rfl rfl (by decide) ?_
                refine zr_s zSm 42 rfl rfl ?_
                refine zr_s zSm 43 rfl rfl ?_
                refine zr_putI zSm 44 rfl zf_11_170 rfl rfl (by decide) zp_11_24 ?_
                refine zr_iload_n zSm 45 rfl rfl ?_
                refine zr_if zSm 46 127 rfl rfl (fun q20 => ?_) (fun q20 => ?_)
                · refine zr_iload_n zSm 68 rfl rfl ?_
                  refine zr_bipush zSm 69 12 rfl rfl ?_
                  refine zr_ic zSm 70 139 rfl rfl (fun q21 => ?_) (fun q21 => ?_)
                  · exact absurd q21 q9
                  · refine zr_iload_n zSm 71 rfl rfl ?_
                    refine zr_bipush zSm 72 13 rfl rfl ?_
                    refine zr_ic zSm 73 147 rfl rfl (fun q22 => ?_) (fun q22 => ?_)
                    · refine zr_aload_n zSm 78 rfl rfl ?_
                      refine zr_iload_n zSm 79 rfl rfl ?_
                      refine zr_inv0 80 155 1 [.int (I 31 ((I 28 24).toNatClampNeg))] rfl rfl zk_11_198 zms_155 rfl ⟨_, _, _, _, rfl, rfl⟩ (Nat.le_of_ble_eq_true rfl) ?_
                      refine zcv h (fun I6 J6 D6 h => ?_)
                      refine zr_aload_n zSm 81 rfl rfl ?_
                      refine zr_bipush zSm 82 103 rfl rfl ?_
                      obtain ⟨c7, s7, g7, f7, h⟩ := h
                      refine zr_inv zSm 83 151 1 c7 s7 [.int 103] rfl rfl zk_11_233 zms_151 rfl ⟨_, _, _, _, rfl, rfl⟩ (Nat.le_of_ble_eq_true rfl) g7 f7 ?_
                      refine zcv h (fun I7 J7 D7 h => ?_)
                      refine zr_vret zSm 84 rfl rfl ?_
                      exact h
                    · first | exact absurd q22 q13 | exact absurd q13 q22 | exact absurd (Int32.not_lt.mp q22) q13 | exact absurd (Int32.not_lt.mp q13) q22 | exact absurd (Int32.not_le.mp q22) q13 | exact absurd (Int32.not_le.mp q13) q22 | exact absurd q22 (Int32.not_lt.mpr q13) | exact absurd q13 (Int32.not_lt.mpr q22) | exact absurd q22 (Int32.not_le.mpr q13) | exact absurd q13 (Int32.not_le.mpr q22)
                · exact absurd q20 (by show ¬ ¬ ((0 : Int32) = 0); decide)
              · exact absurd q19 (by show ¬ ¬ ((0 : Int32) = 0); decide)
    · have h := h.2 q7
      refine zr_s zSm 12 rfl rfl ?_
      refine zr_goto zSm 13 27 rfl rfl ?_
      refine zr_istore_n zSm 15 (ll' := [(2, .int 1), (1, .int (I 31 ((I 28 24).toNatClampNeg))), (0, .ref 28)]) rfl (by decide) rfl ?_
      refine zr_iload_n zSm 16 rfl rfl ?_
      refine zr_if zSm 17 58 rfl rfl (fun q23 => ?_) (fun q23 => ?_)
      · refine zr_iload_n zSm 30 rfl rfl ?_
        refine zr_if zSm 31 75 rfl rfl (fun q24 => ?_) (fun q24 => ?_)
        · exact absurd q24 (by show ¬ ((1 : Int32) = 0); decide)
        · refine zr_aload_n zSm 32 rfl rfl ?_
          refine zr_getI zSm 33 rfl zf_11_278 rfl rfl (by decide) ?_
          refine zr_s zSm 34 rfl rfl ?_
          refine zr_ic zSm 35 75 rfl rfl (fun q25 => ?_) (fun q25 => ?_)
          · have h := h.1 q25
            refine zr_aload_n zSm 39 rfl rfl ?_
            refine zr_s zSm 40 rfl rfl ?_
            refine zr_getI zSm 41 rfl zf_11_170 rfl rfl (by decide) ?_
            refine zr_s zSm 42 rfl rfl ?_
            refine zr_s zSm 43 rfl rfl ?_
            refine zr_putI zSm 44 rfl zf_11_170 rfl rfl (by decide) zp_11_24 ?_
            refine zr_iload_n zSm 45 rfl rfl ?_
            refine zr_if zSm 46 127 rfl rfl (fun q26 => ?_) (fun q26 => ?_)
            · exact absurd q26 (by show ¬ ((1 : Int32) = 0); decide)
            · refine zr_aload_n zSm 47 rfl rfl ?_
              refine zr_s zSm 48 rfl rfl ?_
              refine zr_getI zSm 49 rfl zf_11_278 rfl rfl (by decide) ?_
              refine zr_s zSm 50 rfl rfl ?_
              refine zr_s zSm 51 rfl rfl ?_
              refine zr_putI zSm 52 rfl zf_11_278 rfl rfl (by decide) zp_11_28 ?_
              refine zr_iload_n zSm 53 rfl rfl ?_
              refine zr_bipush zSm 54 14 rfl rfl ?_
              refine zr_ic zSm 55 112 rfl rfl (fun q27 => ?_) (fun q27 => ?_)
              · refine zr_aload_n zSm 59 rfl rfl ?_
                obtain ⟨c8, s8, g8, f8, h⟩ := h
                refine zr_inv zSm 60 175 0 c8 s8 [] rfl rfl zk_11_291 zms_175 rfl ⟨_, _, _, _, rfl, rfl⟩ (Nat.le_of_ble_eq_true rfl) g8 f8 ?_
                refine zcv h (fun I8 J8 D8 h => ?_)
                refine zr_aload_n zSm 61 rfl rfl ?_
                refine zr_s zSm 62 rfl rfl ?_
                refine zr_getI zSm 63 rfl zf_11_278 rfl rfl (by decide) ?_
                refine zr_s zSm 64 rfl rfl ?_
                refine zr_s zSm 65 rfl rfl ?_
                refine zr_putI zSm 66 rfl zf_11_278 rfl rfl (by decide) zp_11_28 ?_
                refine zr_vret zSm 67 rfl rfl ?_
                exact h
              · first | exact absurd q27 q1 | exact absurd q1 q27 | exact absurd (Int32.not_lt.mp q27) q1 | exact absurd (Int32.not_lt.mp q1) q27 | exact absurd (Int32.not_le.mp q27) q1 | exact absurd (Int32.not_le.mp q1) q27 | exact absurd q27 (Int32.not_lt.mpr q1) | exact absurd q1 (Int32.not_lt.mpr q27) | exact absurd q27 (Int32.not_le.mpr q1) | exact absurd q1 (Int32.not_le.mpr q27)
          · have h := h.2 q25
            refine zr_wrong 184 ⟨List.mem_of_getElem? (i := 36) rfl, List.mem_of_getElem? (i := 37) rfl, zk_11_184, List.mem_of_getElem? (i := 38) rfl⟩ rfl rfl (by decide) rfl h.1 h.2.1 ?_
            exact h.2.2
      · exact absurd q23 (by show ¬ ¬ (¬ ((1 : Int32) = 0)); decide)
theorem w_173 {RO : zRo} {d : Nat} {P : zP} {I : zI} {J : zJ} {D : zD} {bc bs : Nat} {p0 : Int32} (h : (zo_148 I J 21 ∧ (((zv_148 I J 21) = 0 → (zo_148 I J 22 ∧ (((zv_148 I J 22) = 0 → (∃ c1 s1, c1 ≤ bc ∧ s1 ≤ bs ∧ zz RO (d + 1) 164 [.ref 28] I J D c1 s1 (zNi P fun v1 I1 J1 D1 => (∃ c2 s2, c2 ≤ (bc - c1) ∧ s2 ≤ (bs - s1) ∧ zz RO (d + 1) 156 [.ref 28] I1 J1 D1 c2 s2 (zNi P fun v2 I2 J2 D2 => (zz RO (d + 1) 154 [.ref 28, .int p0, .int ((4 * v1) + 2), .int v2] I2 J2 D2 0 0 (zNi P fun v3 I3 J3 D3 => P (.inl none) I3 J3 D3))))))) ∧ (¬ ((zv_148 I J 22) = 0) → (∃ c4 s4, c4 ≤ bc ∧ s4 ≤ bs ∧ zz RO (d + 1) 164 [.ref 28] I J D c4 s4 (zNi P fun v4 I4 J4 D4 => (∃ c5 s5, c5 ≤ (bc - c4) ∧ s5 ≤ (bs - s4) ∧ zz RO (d + 1) 156 [.ref 28] I4 J4 D4 c5 s5 (zNi P fun v5 I5 J5 D5 => (zz RO (d + 1) 154 [.ref 28, .int p0, .int ((4 * v4) + 1), .int v5] I5 J5 D5 0 0 (zNi P fun v6 I6 J6 D6 => P (.inl none) I6 J6 D6)))))))))) ∧ (¬ ((zv_148 I J 21) = 0) → (∃ c7 s7, c7 ≤ bc ∧ s7 ≤ bs ∧ zz RO (d + 1) 164 [.ref 28] I J D c7 s7 (zNi P fun v7 I7 J7 D7 => (∃ c8 s8, c8 ≤ (bc - c7) ∧ s8 ≤ (bs - s7) ∧ zz RO (d + 1) 156 [.ref 28] I7 J7 D7 c8 s8 (zNi P fun v8 I8 J8 D8 => (zz RO (d + 1) 154 [.ref 28, .int p0, .int ((4 * v7) + 0), .int v8] I8 J8 D8 0 0 (zNi P fun v9 I9 J9 D9 => P (.inl none) I9 J9 D9)))))))))) : zz RO (d + 2) 173 [.ref 28, .int p0] I J D bc bs P := by
  refine zT_of (Nat.le_of_ble_eq_true rfl) rfl ?_
  show zw RO (d + 1) 173 P 0 [(0, .ref 28), (1, .int p0)] [] I J D bc bs
  refine zr_aload_n zSm 0 rfl rfl ?_
  refine zr_bipush zSm 1 21 rfl rfl ?_
  obtain ⟨b2, h⟩ := h
  refine zr_inv0 2 148 1 [.int 21] rfl rfl zk_11_181 zms_148 rfl ⟨_, _, _, _, rfl, rfl⟩ (Nat.le_of_ble_eq_true rfl) ?_
  refine ze_148 b2 ?_
  refine zNx_i ?_
  refine zr_if zSm 3 13 rfl rfl (fun q1 => ?_) (fun q1 => ?_)
  · have h := h.1 q1
    refine zr_aload_n zSm 6 rfl rfl ?_
    refine zr_bipush zSm 7 22 rfl rfl ?_
    obtain ⟨b8, h⟩ := h
    refine zr_inv0 8 148 1 [.int 22] rfl rfl zk_11_181 zms_148 rfl ⟨_, _, _, _, rfl, rfl⟩ (Nat.le_of_ble_eq_true rfl) ?_
    refine ze_148 b8 ?_
    refine zNx_i ?_
    refine zr_if zSm 9 26 rfl rfl (fun q2 => ?_) (fun q2 => ?_)
    · have h := h.1 q2
      refine zr_s zSm 12 rfl rfl ?_
      refine zr_istore_n zSm 13 (ll' := [(2, .int 2), (0, .ref 28), (1, .int p0)]) rfl (by decide) rfl ?_
      refine zr_aload_n zSm 14 rfl rfl ?_
      obtain ⟨c1, s1, g1, f1, h⟩ := h
      refine zr_inv zSm 15 164 0 c1 s1 [] rfl rfl zk_11_222 zms_164 rfl ⟨_, _, _, _, rfl, rfl⟩ (Nat.le_of_ble_eq_true rfl) g1 f1 ?_
      refine zci h (fun v1 I1 J1 D1 h => ?_)
      refine zr_istore_n zSm 16 (ll' := [(3, .int v1), (2, .int 2), (0, .ref 28), (1, .int p0)]) rfl (by decide) rfl ?_
      refine zr_aload_n zSm 17 rfl rfl ?_
      obtain ⟨c2, s2, g2, f2, h⟩ := h
      refine zr_inv zSm 18 156 0 c2 s2 [] rfl rfl zk_11_269 zms_156 rfl ⟨_, _, _, _, rfl, rfl⟩ (Nat.le_of_ble_eq_true rfl) g2 f2 ?_
      refine zci h (fun v2 I2 J2 D2 h => ?_)
      refine zr_istore zSm 19 (ll' := [(4, .int v2), (3, .int v1), (2, .int 2), (0, .ref 28), (1, .int p0)]) rfl (by decide) rfl ?_
      refine zr_aload_n zSm 20 rfl rfl ?_
      refine zr_iload_n zSm 21 rfl rfl ?_
      refine zr_s zSm 22 rfl rfl ?_
      refine zr_iload_n zSm 23 rfl rfl ?_
      refine zr_s zSm 24 rfl rfl ?_
      refine zr_iload_n zSm 25 rfl rfl ?_
      refine zr_s zSm 26 rfl rfl ?_
      refine zr_iload zSm 27 rfl rfl ?_
      refine zr_inv0 28 154 3 [.int p0, .int ((4 * v1) + 2), .int v2] rfl rfl zk_11_191 zms_154 rfl ⟨_, _, _, _, rfl, rfl⟩ (Nat.le_of_ble_eq_true rfl) ?_
      refine zci h (fun v3 I3 J3 D3 h => ?_)
      refine zr_s zSm 29 rfl rfl ?_
      refine zr_vret zSm 30 rfl rfl ?_
      exact h
    · have h := h.2 q2
      refine zr_s zSm 10 rfl rfl ?_
      refine zr_goto zSm 11 27 rfl rfl ?_
      refine zr_istore_n zSm 13 (ll' := [(2, .int 1), (0, .ref 28), (1, .int p0)]) rfl (by decide) rfl ?_
      refine zr_aload_n zSm 14 rfl rfl ?_
      obtain ⟨c4, s4, g4, f4, h⟩ := h
      refine zr_inv zSm 15 164 0 c4 s4 [] rfl rfl zk_11_222 zms_164 rfl ⟨_, _, _, _, rfl, rfl⟩ (Nat.le_of_ble_eq_true rfl) g4 f4 ?_
      refine zci h (fun v4 I4 J4 D4 h => ?_)
      refine zr_istore_n zSm 16 (ll' := [(3, .int v4), (2, .int 1), (0, .ref 28), (1, .int p0)]) rfl (by decide) rfl ?_
      refine zr_aload_n zSm 17 rfl rfl ?_
      obtain ⟨c5, s5, g5, f5, h⟩ := h
      refine zr_inv zSm 18 156 0 c5 s5 [] rfl rfl zk_11_269 zms_156 rfl ⟨_, _, _, _, rfl, rfl⟩ (Nat.le_of_ble_eq_true rfl) g5 f5 ?_
      refine zci h (fun v5 I5 J5 D5 h => ?_)
      refine zr_istore zSm 19 (ll' := [(4, .int v5), (3, .int v4), (2, .int 1), (0, .ref 28), (1, .int p0)]) rfl (by decide) rfl ?_
      refine zr_aload_n zSm 20 rfl rfl ?_
      refine zr_iload_n zSm 21 rfl rfl ?_
      refine zr_s zSm 22 rfl rfl ?_
      refine zr_iload_n zSm 23 rfl rfl ?_
      refine zr_s zSm 24 rfl rfl ?_
      refine zr_iload_n zSm 25 rfl rfl ?_
      refine zr_s zSm 26 rfl rfl ?_
      refine zr_iload zSm 27 rfl rfl ?_
      refine zr_inv0 28 154 3 [.int p0, .int ((4 * v4) + 1), .int v5] rfl rfl zk_11_191 zms_154 rfl ⟨_, _, _, _, rfl, rfl⟩ (Nat.le_of_ble_eq_true rfl) ?_
      refine zci h (fun v6 I6 J6 D6 h => ?_)
      refine zr_s zSm 29 rfl rfl ?_
      refine zr_vret zSm 30 rfl rfl ?_
      exact h
  · have h := h.2 q1
    refine zr_s zSm 4 rfl rfl ?_
    refine zr_goto zSm 5 27 rfl rfl ?_
    refine zr_istore_n zSm 13 (ll' := [(2, .int 0), (0, .ref 28), (1, .int p0)]) rfl (by decide) rfl ?_
    refine zr_aload_n zSm 14 rfl rfl ?_
    obtain ⟨c7, s7, g7, f7, h⟩ := h
    refine zr_inv zSm 15 164 0 c7 s7 [] rfl rfl zk_11_222 zms_164 rfl ⟨_, _, _, _, rfl, rfl⟩ (Nat.le_of_ble_eq_true rfl) g7 f7 ?_
    refine zci h (fun v7 I7 J7 D7 h => ?_)
    refine zr_istore_n zSm 16 (ll' := [(3, .int v7), (2, .int 0), (0, .ref 28), (1, .int p0)]) rfl (by decide) rfl ?_
    refine zr_aload_n zSm 17 rfl rfl ?_
    obtain ⟨c8, s8, g8, f8, h⟩ := h
    refine zr_inv zSm 18 156 0 c8 s8 [] rfl rfl zk_11_269 zms_156 rfl ⟨_, _, _, _, rfl, rfl⟩ (Nat.le_of_ble_eq_true rfl) g8 f8 ?_
    refine zci h (fun v8 I8 J8 D8 h => ?_)
    refine zr_istore zSm 19 (ll' := [(4, .int v8), (3, .int v7), (2, .int 0), (0, .ref 28), (1, .int p0)]) rfl (by decide) rfl ?_
    refine zr_aload_n zSm 20 rfl rfl ?_
    refine zr_iload_n zSm 21 rfl rfl ?_
    refine zr_s zSm 22 rfl rfl ?_
    refine zr_iload_n zSm 23 rfl rfl ?_
    refine zr_s zSm 24 rfl rfl ?_
    refine zr_iload_n zSm 25 rfl rfl ?_
    refine zr_s zSm 26 rfl rfl ?_
    refine zr_iload zSm 27 rfl rfl ?_
    refine zr_inv0 28 154 3 [.int p0, .int ((4 * v7) + 0), .int v8] rfl rfl zk_11_191 zms_154 rfl ⟨_, _, _, _, rfl, rfl⟩ (Nat.le_of_ble_eq_true rfl) ?_
    refine zci h (fun v9 I9 J9 D9 h => ?_)
    refine zr_s zSm 29 rfl rfl ?_
    refine zr_vret zSm 30 rfl rfl ?_
    exact h
theorem w_174 {RO : zRo} {d : Nat} {P : zP} {I : zI} {J : zJ} {D : zD} {bc bs : Nat}  (h : (∃ c1 s1, c1 ≤ bc ∧ s1 ≤ bs ∧ zz RO (d + 1) 156 [.ref 28] I J D c1 s1 (zNi P fun v1 I1 J1 D1 => (∃ c2 s2, c2 ≤ (bc - c1) ∧ s2 ≤ (bs - s1) ∧ zz RO (d + 1) 151 [.ref 28, .int 15] I1 J1 D1 c2 s2 (zNv P fun I2 J2 D2 => (zz RO (d + 1) 154 [.ref 28, .int 300, .int 0, .int v1] I2 J2 D2 0 0 (zNi P fun v3 I3 J3 D3 => zw RO (d + 1) 174 P 21 [(0, .ref 28), (1, .int v1), (2, .int v3)] [] I3 J3 D3 ((bc - c1) - c2) ((bs - s1) - s2)))))))) : zz RO (d + 2) 174 [.ref 28] I J D bc bs P := by
  refine zT_of (Nat.le_of_ble_eq_true rfl) rfl ?_
  show zw RO (d + 1) 174 P 0 [(0, .ref 28)] [] I J D bc bs
  refine zr_aload_n zSm 0 rfl rfl ?_
  obtain ⟨c1, s1, g1, f1, h⟩ := h
  refine zr_inv zSm 1 156 0 c1 s1 [] rfl rfl zk_11_269 zms_156 rfl ⟨_, _, _, _, rfl, rfl⟩ (Nat.le_of_ble_eq_true rfl) g1 f1 ?_
  refine zci h (fun v1 I1 J1 D1 h => ?_)
  refine zr_istore_n zSm 2 (ll' := [(1, .int v1), (0, .ref 28)]) rfl (by decide) rfl ?_
  refine zr_aload_n zSm 3 rfl rfl ?_
  refine zr_bipush zSm 4 15 rfl rfl ?_
  obtain ⟨c2, s2, g2, f2, h⟩ := h
  refine zr_inv zSm 5 151 1 c2 s2 [.int 15] rfl rfl zk_11_233 zms_151 rfl ⟨_, _, _, _, rfl, rfl⟩ (Nat.le_of_ble_eq_true rfl) g2 f2 ?_
  refine zcv h (fun I2 J2 D2 h => ?_)
  refine zr_aload_n zSm 6 rfl rfl ?_
  refine zr_sipush zSm 7 300 rfl rfl ?_
  refine zr_s zSm 8 rfl rfl ?_
  refine zr_iload_n zSm 9 rfl rfl ?_
  refine zr_inv0 10 154 3 [.int 300, .int 0, .int v1] rfl rfl zk_11_191 zms_154 rfl ⟨_, _, _, _, rfl, rfl⟩ (Nat.le_of_ble_eq_true rfl) ?_
  refine zci h (fun v3 I3 J3 D3 h => ?_)
  refine zr_istore_n zSm 11 (ll' := [(2, .int v3), (1, .int v1), (0, .ref 28)]) rfl (by decide) rfl ?_
  refine zr_sub [2, 1, 0] rfl ?_
  exact h
theorem wl_174_21 {RO : zRo} {d : Nat} {P : zP} {I : zI} {J : zJ} {D : zD} {bc bs : Nat} {l1 l2 : Int32} (h : (zo_148 I J 11 ∧ ((¬ (zv_148 I J 11) = 0 → (zz RO (d + 1) 152 [.ref 28, .int 16] I J D 0 0 (zNi P fun v1 I1 J1 D1 => ((v1 = 0 → (((I1 28 25) = 0 → (∃ c2 s2, c2 ≤ bc ∧ s2 ≤ bs ∧ zz RO (d + 1) 151 [.ref 28, .int 11] I1 J1 D1 c2 s2 (zNv P fun I2 J2 D2 => P (.inl none) I2 J2 D2))) ∧ (¬ ((I1 28 25) = 0) → (vp_in l2 1350 ∧ (∃ c3 s3, c3 ≤ bc ∧ s3 ≤ bs ∧ zz RO (d + 1) 151 [.ref 28, .int 11] (zu I1 44 l2.toNatClampNeg (I1 28 19)) J1 D1 c3 s3 (zNv P fun I3 J3 D3 => P (.inl none) I3 J3 D3)))))) ∧ (¬ (v1 = 0) → (zz RO (d + 1) 154 [.ref 28, .int 301, .int 0, .int 0] I1 J1 D1 0 0 (zNi P fun v4 I4 J4 D4 => (((I4 28 25) = 0 → zw RO (d + 1) 174 P 82 [(0, .ref 28), (1, .int l1), (2, .int l2), (3, .int v4)] [] I4 J4 D4 bc bs) ∧ (¬ ((I4 28 25) = 0) → (vp_in l2 1350 ∧ zw RO (d + 1) 174 P 82 [(0, .ref 28), (1, .int l1), (2, .int l2), (3, .int v4)] [] (zu I4 44 l2.toNatClampNeg (I4 28 19)) J4 D4 bc bs)))))))))) ∧ (¬ (¬ (zv_148 I J 11) = 0) → (zo_148 I J 16 ∧ ((¬ (zv_148 I J 16) = 0 → (zz RO (d + 1) 152 [.ref 28, .int 16] I J D 0 0 (zNi P fun v5 I5 J5 D5 => ((v5 = 0 → (((I5 28 25) = 0 → (∃ c6 s6, c6 ≤ bc ∧ s6 ≤ bs ∧ zz RO (d + 1) 151 [.ref 28, .int 11] I5 J5 D5 c6 s6 (zNv P fun I6 J6 D6 => P (.inl none) I6 J6 D6))) ∧ (¬ ((I5 28 25) = 0) → (vp_in l2 1350 ∧ (∃ c7 s7, c7 ≤ bc ∧ s7 ≤ bs ∧ zz RO (d + 1) 151 [.ref 28, .int 11] (zu I5 44 l2.toNatClampNeg (I5 28 19)) J5 D5 c7 s7 (zNv P fun I7 J7 D7 => P (.inl none) I7 J7 D7)))))) ∧ (¬ (v5 = 0) → (zz RO (d + 1) 154 [.ref 28, .int 301, .int 0, .int 0] I5 J5 D5 0 0 (zNi P fun v8 I8 J8 D8 => (((I8 28 25) = 0 → zw RO (d + 1) 174 P 82 [(0, .ref 28), (1, .int l1), (2, .int l2), (3, .int v8)] [] I8 J8 D8 bc bs) ∧ (¬ ((I8 28 25) = 0) → (vp_in l2 1350 ∧ zw RO (d + 1) 174 P 82 [(0, .ref 28), (1, .int l1), (2, .int l2), (3, .int v8)] [] (zu I8 44 l2.toNatClampNeg (I8 28 19)) J8 D8 bc bs)))))))))) ∧ (¬ (¬ (zv_148 I J 16) = 0) → (∃ c9 s9, c9 ≤ bc ∧ s9 ≤ bs ∧ zz RO (d + 1) 172 [.ref 28] I J D c9 s9 (zNv P fun I9 J9 D9 => zw RO (d + 1) 174 P 21 [(0, .ref 28), (1, .int l1), (2, .int l2)] [] I9 J9 D9 (bc - c9) (bs - s9)))))))))) : zw RO (d + 1) 174 P 21 [(0, .ref 28), (1, .int l1), (2, .int l2)] [] I J D bc bs := by
  refine zr_aload_n zSm 12 rfl rfl ?_
  refine zr_bipush zSm 13 11 rfl rfl ?_
  obtain ⟨b14, h⟩ := h
  refine zr_inv0 14 148 1 [.int 11] rfl rfl zk_11_181 zms_148 rfl ⟨_, _, _, _, rfl, rfl⟩ (Nat.le_of_ble_eq_true rfl) ?_
  refine ze_148 b14 ?_
  refine zNx_i ?_
  refine zr_if zSm 15 46 rfl rfl (fun q1 => ?_) (fun q1 => ?_)
  · have h := h.1 q1
    refine zr_aload_n zSm 23 rfl rfl ?_
    refine zr_bipush zSm 24 16 rfl rfl ?_
    refine zr_inv0 25 152 1 [.int 16] rfl rfl zk_11_203 zms_152 rfl ⟨_, _, _, _, rfl, rfl⟩ (Nat.le_of_ble_eq_true rfl) ?_
    refine zci h (fun v1 I1 J1 D1 h => ?_)
    refine zr_if zSm 26 118 rfl rfl (fun q2 => ?_) (fun q2 => ?_)
    · have h := h.1 q2
      refine zr_aload_n zSm 59 rfl rfl ?_
      refine zr_getZ zSm 60 rfl zf_11_178 rfl rfl (by decide) ?_
      refine zr_if zSm 61 135 rfl rfl (fun q3 => ?_) (fun q3 => ?_)
      · have h := h.1 q3
        refine zr_aload_n zSm 68 rfl rfl ?_
        refine zr_bipush zSm 69 11 rfl rfl ?_
        obtain ⟨c2, s2, g2, f2, h⟩ := h
        refine zr_inv zSm 70 151 1 c2 s2 [.int 11] rfl rfl zk_11_233 zms_151 rfl ⟨_, _, _, _, rfl, rfl⟩ (Nat.le_of_ble_eq_true rfl) g2 f2 ?_
        refine zcv h (fun I2 J2 D2 h => ?_)
        refine zr_vret zSm 71 rfl rfl ?_
        exact h
      · have h := h.2 q3
        refine zr_aload_n zSm 62 rfl rfl ?_
        refine zr_getR zSm 63 rfl zf_11_56 rfl rfl (by decide) ?_
        refine zr_iload_n zSm 64 rfl rfl ?_
        refine zr_aload_n zSm 65 rfl rfl ?_
        refine zr_getI zSm 66 rfl zf_11_154 rfl rfl (by decide) ?_
        obtain ⟨b67, h⟩ := h
        refine zr_iast zSm 67 rfl rfl b67 ?_
        refine zr_aload_n zSm 68 rfl rfl ?_
        refine zr_bipush zSm 69 11 rfl rfl ?_
        obtain ⟨c3, s3, g3, f3, h⟩ := h
        refine zr_inv zSm 70 151 1 c3 s3 [.int 11] rfl rfl zk_11_233 zms_151 rfl ⟨_, _, _, _, rfl, rfl⟩ (Nat.le_of_ble_eq_true rfl) g3 f3 ?_
        refine zcv h (fun I3 J3 D3 h => ?_)
        refine zr_vret zSm 71 rfl rfl ?_
        exact h
    · have h := h.2 q2
      refine zr_aload_n zSm 27 rfl rfl ?_
      refine zr_sipush zSm 28 301 rfl rfl ?_
      refine zr_s zSm 29 rfl rfl ?_
      refine zr_s zSm 30 rfl rfl ?_
      refine zr_inv0 31 154 3 [.int 301, .int 0, .int 0] rfl rfl zk_11_191 zms_154 rfl ⟨_, _, _, _, rfl, rfl⟩ (Nat.le_of_ble_eq_true rfl) ?_
      refine zci h (fun v4 I4 J4 D4 h => ?_)
      refine zr_istore_n zSm 32 (ll' := [(3, .int v4), (0, .ref 28), (1, .int l1), (2, .int l2)]) rfl (by decide) rfl ?_
      refine zr_aload_n zSm 33 rfl rfl ?_
      refine zr_getZ zSm 34 rfl zf_11_178 rfl rfl (by decide) ?_
      refine zr_if zSm 35 82 rfl rfl (fun q4 => ?_) (fun q4 => ?_)
      · have h := h.1 q4
        refine zr_sub [1, 2, 3, 0] rfl ?_
        exact h
      · have h := h.2 q4
        refine zr_aload_n zSm 36 rfl rfl ?_
        refine zr_getR zSm 37 rfl zf_11_56 rfl rfl (by decide) ?_
        refine zr_iload_n zSm 38 rfl rfl ?_
        refine zr_aload_n zSm 39 rfl rfl ?_
        refine zr_getI zSm 40 rfl zf_11_154 rfl rfl (by decide) ?_
        obtain ⟨b41, h⟩ := h
        refine zr_iast zSm 41 rfl rfl b41 ?_
        refine zr_sub [1, 2, 3, 0] rfl ?_
        exact h
  · have h := h.2 q1
    refine zr_aload_n zSm 16 rfl rfl ?_
    refine zr_bipush zSm 17 16 rfl rfl ?_
    obtain ⟨b18, h⟩ := h
    refine zr_inv0 18 148 1 [.int 16] rfl rfl zk_11_181 zms_148 rfl ⟨_, _, _, _, rfl, rfl⟩ (Nat.le_of_ble_eq_true rfl) ?_
    refine ze_148 b18 ?_
    refine zNx_i ?_
    refine zr_if zSm 19 46 rfl rfl (fun q5 => ?_) (fun q5 => ?_)
    · have h := h.1 q5
      refine zr_aload_n zSm 23 rfl rfl ?_
      refine zr_bipush zSm 24 16 rfl rfl ?_
      refine zr_inv0 25 152 1 [.int 16] rfl rfl zk_11_203 zms_152 rfl ⟨_, _, _, _, rfl, rfl⟩ (Nat.le_of_ble_eq_true rfl) ?_
      refine zci h (fun v5 I5 J5 D5 h => ?_)
      refine zr_if zSm 26 118 rfl rfl (fun q6 => ?_) (fun q6 => ?_)
      · have h := h.1 q6
        refine zr_aload_n zSm 59 rfl rfl ?_
        refine zr_getZ zSm 60 rfl zf_11_178 rfl rfl (by decide) ?_
        refine zr_if zSm 61 135 rfl rfl (fun q7 => ?_) (fun q7 => ?_)
        · have h := h.1 q7
          refine zr_aload_n zSm 68 rfl rfl ?_
          refine zr_bipush zSm 69 11 rfl rfl ?_
          obtain ⟨c6, s6, g6, f6, h⟩ := h
          refine zr_inv zSm 70 151 1 c6 s6 [.int 11] rfl rfl zk_11_233 zms_151 rfl ⟨_, _, _, _, rfl, rfl⟩ (Nat.le_of_ble_eq_true rfl) g6 f6 ?_
          refine zcv h (fun I6 J6 D6 h => ?_)
          refine zr_vret zSm 71 rfl rfl ?_
          exact h
        · have h := h.2 q7
          refine zr_aload_n zSm 62 rfl rfl ?_
          refine zr_getR zSm 63 rfl zf_11_56 rfl rfl (by decide) ?_
          refine zr_iload_n zSm 64 rfl rfl ?_
          refine zr_aload_n zSm 65 rfl rfl ?_
          refine zr_getI zSm 66 rfl zf_11_154 rfl rfl (by decide) ?_
          obtain ⟨b67, h⟩ := h
          refine zr_iast zSm 67 rfl rfl b67 ?_
          refine zr_aload_n zSm 68 rfl rfl ?_
          refine zr_bipush zSm 69 11 rfl rfl ?_
          obtain ⟨c7, s7, g7, f7, h⟩ := h
          refine zr_inv zSm 70 151 1 c7 s7 [.int 11] rfl rfl zk_11_233 zms_151 rfl ⟨_, _, _, _, rfl, rfl⟩ (Nat.le_of_ble_eq_true rfl) g7 f7 ?_
          refine zcv h (fun I7 J7 D7 h => ?_)
          refine zr_vret zSm 71 rfl rfl ?_
          exact h
      · have h := h.2 q6
        refine zr_aload_n zSm 27 rfl rfl ?_
        refine zr_sipush zSm 28 301 rfl rfl ?_
        refine zr_s zSm 29 rfl rfl ?_
        refine zr_s zSm 30 rfl rfl ?_
        refine zr_inv0 31 154 3 [.int 301, .int 0, .int 0] rfl rfl zk_11_191 zms_154 rfl ⟨_, _, _, _, rfl, rfl⟩ (Nat.le_of_ble_eq_true rfl) ?_
        refine zci h (fun v8 I8 J8 D8 h => ?_)
        refine zr_istore_n zSm 32 (ll' := [(3, .int v8), (0, .ref 28), (1, .int l1), (2, .int l2)]) rfl (by decide) rfl ?_
        refine zr_aload_n zSm 33 rfl rfl ?_
        refine zr_getZ zSm 34 rfl zf_11_178 rfl rfl (by decide) ?_
        refine zr_if zSm 35 82 rfl rfl (fun q8 => ?_) (fun q8 => ?_)
        · have h := h.1 q8
          refine zr_sub [1, 2, 3, 0] rfl ?_
          exact h
        · have h := h.2 q8
          refine zr_aload_n zSm 36 rfl rfl ?_
          refine zr_getR zSm 37 rfl zf_11_56 rfl rfl (by decide) ?_
          refine zr_iload_n zSm 38 rfl rfl ?_
          refine zr_aload_n zSm 39 rfl rfl ?_
          refine zr_getI zSm 40 rfl zf_11_154 rfl rfl (by decide) ?_
          obtain ⟨b41, h⟩ := h
          refine zr_iast zSm 41 rfl rfl b41 ?_
          refine zr_sub [1, 2, 3, 0] rfl ?_
          exact h
    · have h := h.2 q5
      refine zr_aload_n zSm 20 rfl rfl ?_
      obtain ⟨c9, s9, g9, f9, h⟩ := h
      refine zr_inv zSm 21 172 0 c9 s9 [] rfl rfl zk_11_281 zms_172 rfl ⟨_, _, _, _, rfl, rfl⟩ (Nat.le_of_ble_eq_true rfl) g9 f9 ?_
      refine zcv h (fun I9 J9 D9 h => ?_)
      refine zr_goto zSm 22 21 rfl rfl ?_
      exact h
theorem wl_174_82 {RO : zRo} {d : Nat} {P : zP} {I : zI} {J : zJ} {D : zD} {bc bs : Nat} {l1 l2 l3 : Int32} (h : (zo_148 I J 11 ∧ ((¬ (zv_148 I J 11) = 0 → (((I 28 25) = 0 → (∃ c1 s1, c1 ≤ bc ∧ s1 ≤ bs ∧ zz RO (d + 1) 151 [.ref 28, .int 11] I J D c1 s1 (zNv P fun I1 J1 D1 => P (.inl none) I1 J1 D1))) ∧ (¬ ((I 28 25) = 0) → (vp_in l3 1350 ∧ (∃ c2 s2, c2 ≤ bc ∧ s2 ≤ bs ∧ zz RO (d + 1) 151 [.ref 28, .int 11] (zu I 44 l3.toNatClampNeg (I 28 19)) J D c2 s2 (zNv P fun I2 J2 D2 => P (.inl none) I2 J2 D2)))))) ∧ (¬ (¬ (zv_148 I J 11) = 0) → (∃ c3 s3, c3 ≤ bc ∧ s3 ≤ bs ∧ zz RO (d + 1) 172 [.ref 28] I J D c3 s3 (zNv P fun I3 J3 D3 => zw RO (d + 1) 174 P 82 [(0, .ref 28), (1, .int l1), (2, .int l2), (3, .int l3)] [] I3 J3 D3 (bc - c3) (bs - s3))))))) : zw RO (d + 1) 174 P 82 [(0, .ref 28), (1, .int l1), (2, .int l2), (3, .int l3)] [] I J D bc bs := by
  refine zr_aload_n zSm 42 rfl rfl ?_
  refine zr_bipush zSm 43 11 rfl rfl ?_
  obtain ⟨b44, h⟩ := h
  refine zr_inv0 44 148 1 [.int 11] rfl rfl zk_11_181 zms_148 rfl ⟨_, _, _, _, rfl, rfl⟩ (Nat.le_of_ble_eq_true rfl) ?_
  refine ze_148 b44 ?_
  refine zNx_i ?_
  refine zr_if zSm 45 98 rfl rfl (fun q1 => ?_) (fun q1 => ?_)
  · have h := h.1 q1
    refine zr_aload_n zSm 49 rfl rfl ?_
    refine zr_getZ zSm 50 rfl zf_11_178 rfl rfl (by decide) ?_
    refine zr_if zSm 51 115 rfl rfl (fun q2 => ?_) (fun q2 => ?_)
    · have h := h.1 q2
      refine zr_goto zSm 58 135 rfl rfl ?_
      refine zr_aload_n zSm 68 rfl rfl ?_
      refine zr_bipush zSm 69 11 rfl rfl ?_
      obtain ⟨c1, s1, g1, f1, h⟩ := h
      refine zr_inv zSm 70 151 1 c1 s1 [.int 11] rfl rfl zk_11_233 zms_151 rfl ⟨_, _, _, _, rfl, rfl⟩ (Nat.le_of_ble_eq_true rfl) g1 f1 ?_
      refine zcv h (fun I1 J1 D1 h => ?_)
      refine zr_vret zSm 71 rfl rfl ?_
      exact h
    · have h := h.2 q2
      refine zr_aload_n zSm 52 rfl rfl ?_
      refine zr_getR zSm 53 rfl zf_11_56 rfl rfl (by decide) ?_
      refine zr_iload_n zSm 54 rfl rfl ?_
      refine zr_aload_n zSm 55 rfl rfl ?_
      refine zr_getI zSm 56 rfl zf_11_154 rfl rfl (by decide) ?_
      obtain ⟨b57, h⟩ := h
      refine zr_iast zSm 57 rfl rfl b57 ?_
      refine zr_goto zSm 58 135 rfl rfl ?_
      refine zr_aload_n zSm 68 rfl rfl ?_
      refine zr_bipush zSm 69 11 rfl rfl ?_
      obtain ⟨c2, s2, g2, f2, h⟩ := h
      refine zr_inv zSm 70 151 1 c2 s2 [.int 11] rfl rfl zk_11_233 zms_151 rfl ⟨_, _, _, _, rfl, rfl⟩ (Nat.le_of_ble_eq_true rfl) g2 f2 ?_
      refine zcv h (fun I2 J2 D2 h => ?_)
      refine zr_vret zSm 71 rfl rfl ?_
      exact h
  · have h := h.2 q1
    refine zr_aload_n zSm 46 rfl rfl ?_
    obtain ⟨c3, s3, g3, f3, h⟩ := h
    refine zr_inv zSm 47 172 0 c3 s3 [] rfl rfl zk_11_281 zms_172 rfl ⟨_, _, _, _, rfl, rfl⟩ (Nat.le_of_ble_eq_true rfl) g3 f3 ?_
    refine zcv h (fun I3 J3 D3 h => ?_)
    refine zr_goto zSm 48 82 rfl rfl ?_
    exact h
theorem w_175 {RO : zRo} {d : Nat} {P : zP} {I : zI} {J : zJ} {D : zD} {bc bs : Nat}  (h : (zz RO (d + 1) 154 [.ref 28, .int 302, .int 0, .int 0] I J D 0 0 (zNi P fun v1 I1 J1 D1 => zw RO (d + 1) 175 P 10 [(0, .ref 28), (1, .int v1)] [] I1 J1 D1 bc bs))) : zz RO (d + 2) 175 [.ref 28] I J D bc bs P := by
  refine zT_of (Nat.le_of_ble_eq_true rfl) rfl ?_
  show zw RO (d + 1) 175 P 0 [(0, .ref 28)] [] I J D bc bs
  refine zr_aload_n zSm 0 rfl rfl ?_
  refine zr_sipush zSm 1 302 rfl rfl ?_
  refine zr_s zSm 2 rfl rfl ?_
  refine zr_s zSm 3 rfl rfl ?_
  refine zr_inv0 4 154 3 [.int 302, .int 0, .int 0] rfl rfl zk_11_191 zms_154 rfl ⟨_, _, _, _, rfl, rfl⟩ (Nat.le_of_ble_eq_true rfl) ?_
  refine zci h (fun v1 I1 J1 D1 h => ?_)
  refine zr_istore_n zSm 5 (ll' := [(1, .int v1), (0, .ref 28)]) rfl (by decide) rfl ?_
  refine zr_sub [1, 0] rfl ?_
  exact h
theorem wl_175_10 {RO : zRo} {d : Nat} {P : zP} {I : zI} {J : zJ} {D : zD} {bc bs : Nat} {l1 : Int32} (h : (zo_148 I J 11 ∧ ((¬ (zv_148 I J 11) = 0 → (∃ c1 s1, c1 ≤ bc ∧ s1 ≤ bs ∧ zz RO (d + 1) 151 [.ref 28, .int 11] I J D c1 s1 (zNv P fun I1 J1 D1 => (zz RO (d + 1) 155 [.ref 28, .int 303] I1 J1 D1 0 0 (zNv P fun I2 J2 D2 => (((I2 28 25) = 0 → P (.inl none) I2 J2 D2) ∧ (¬ ((I2 28 25) = 0) → (vp_in l1 1350 ∧ P (.inl none) (zu I2 44 l1.toNatClampNeg (I2 28 19)) J2 D2)))))))) ∧ (¬ (¬ (zv_148 I J 11) = 0) → (∃ c3 s3, c3 ≤ bc ∧ s3 ≤ bs ∧ zz RO (d + 1) 172 [.ref 28] I J D c3 s3 (zNv P fun I3 J3 D3 => zw RO (d + 1) 175 P 10 [(0, .ref 28), (1, .int l1)] [] I3 J3 D3 (bc - c3) (bs - s3))))))) : zw RO (d + 1) 175 P 10 [(0, .ref 28), (1, .int l1)] [] I J D bc bs := by
  refine zr_aload_n zSm 6 rfl rfl ?_
  refine zr_bipush zSm 7 11 rfl rfl ?_
  obtain ⟨b8, h⟩ := h
  refine zr_inv0 8 148 1 [.int 11] rfl rfl zk_11_181 zms_148 rfl ⟨_, _, _, _, rfl, rfl⟩ (Nat.le_of_ble_eq_true rfl) ?_
  refine ze_148 b8 ?_
  refine zNx_i ?_
  refine zr_if zSm 9 26 rfl rfl (fun q1 => ?_) (fun q1 => ?_)
  · have h := h.1 q1
    refine zr_aload_n zSm 13 rfl rfl ?_
    refine zr_bipush zSm 14 11 rfl rfl ?_
    obtain ⟨c1, s1, g1, f1, h⟩ := h
    refine zr_inv zSm 15 151 1 c1 s1 [.int 11] rfl rfl zk_11_233 zms_151 rfl ⟨_, _, _, _, rfl, rfl⟩ (Nat.le_of_ble_eq_true rfl) g1 f1 ?_
    refine zcv h (fun I1 J1 D1 h => ?_)
    refine zr_aload_n zSm 16 rfl rfl ?_
    refine zr_sipush zSm 17 303 rfl rfl ?_
    refine zr_inv0 18 155 1 [.int 303] rfl rfl zk_11_198 zms_155 rfl ⟨_, _, _, _, rfl, rfl⟩ (Nat.le_of_ble_eq_true rfl) ?_
    refine zcv h (fun I2 J2 D2 h => ?_)
    refine zr_aload_n zSm 19 rfl rfl ?_
    refine zr_getZ zSm 20 rfl zf_11_178 rfl rfl (by decide) ?_
    refine zr_if zSm 21 56 rfl rfl (fun q2 => ?_) (fun q2 => ?_)
    · have h := h.1 q2
      refine zr_vret zSm 28 rfl rfl ?_
      exact h
    · have h := h.2 q2
      refine zr_aload_n zSm 22 rfl rfl ?_
      refine zr_getR zSm 23 rfl zf_11_56 rfl rfl (by decide) ?_
      refine zr_iload_n zSm 24 rfl rfl ?_
      refine zr_aload_n zSm 25 rfl rfl ?_
      refine zr_getI zSm 26 rfl zf_11_154 rfl rfl (by decide) ?_
      obtain ⟨b27, h⟩ := h
      refine zr_iast zSm 27 rfl rfl b27 ?_
      refine zr_vret zSm 28 rfl rfl ?_
      exact h
  · have h := h.2 q1
    refine zr_aload_n zSm 10 rfl rfl ?_
    obtain ⟨c3, s3, g3, f3, h⟩ := h
    refine zr_inv zSm 11 172 0 c3 s3 [] rfl rfl zk_11_281 zms_172 rfl ⟨_, _, _, _, rfl, rfl⟩ (Nat.le_of_ble_eq_true rfl) g3 f3 ?_
    refine zcv h (fun I3 J3 D3 h => ?_)
    refine zr_goto zSm 12 10 rfl rfl ?_
    exact h
theorem w_176 {RO : zRo} {d : Nat} {P : zP} {I : zI} {J : zJ} {D : zD} {bc bs : Nat}  (h : (∃ c1 s1, c1 ≤ bc ∧ s1 ≤ bs ∧ zz RO (d + 1) 168 [.ref 28] (zu I 28 24 0) J D c1 s1 (zNv P fun I1 J1 D1 => zw RO (d + 1) 176 P 9 [(0, .ref 28)] [] I1 J1 D1 (bc - c1) (bs - s1)))) : zz RO (d + 2) 176 [.ref 28] I J D bc bs P := by
  refine zT_of (Nat.le_of_ble_eq_true rfl) rfl ?_
  show zw RO (d + 1) 176 P 0 [(0, .ref 28)] [] I J D bc bs
  refine zr_aload_n zSm 0 rfl rfl ?_
  refine zr_s zSm 1 rfl rfl ?_
  refine zr_putI zSm 2 rfl zf_11_170 rfl rfl (by decide) zp_11_24 ?_
  refine zr_aload_n zSm 3 rfl rfl ?_
  obtain ⟨c1, s1, g1, f1, h⟩ := h
  refine zr_inv zSm 4 168 0 c1 s1 [] rfl rfl zk_11_297 zms_168 rfl ⟨_, _, _, _, rfl, rfl⟩ (Nat.le_of_ble_eq_true rfl) g1 f1 ?_
  refine zcv h (fun I1 J1 D1 h => ?_)
  exact h
theorem wl_176_9 {RO : zRo} {d : Nat} {P : zP} {I : zI} {J : zJ} {D : zD} {bc bs : Nat}  (h : (zo_148 I J 202 ∧ ((¬ (zv_148 I J 202) = 0 → P (.inl none) I J D) ∧ (¬ (¬ (zv_148 I J 202) = 0) → (∃ c1 s1, c1 ≤ bc ∧ s1 ≤ bs ∧ zz RO (d + 1) 168 [.ref 28] I J D c1 s1 (zNv P fun I1 J1 D1 => zw RO (d + 1) 176 P 9 [(0, .ref 28)] [] I1 J1 D1 (bc - c1) (bs - s1))))))) : zw RO (d + 1) 176 P 9 [(0, .ref 28)] [] I J D bc bs := by
  refine zr_aload_n zSm 5 rfl rfl ?_
  refine zr_sipush zSm 6 202 rfl rfl ?_
  obtain ⟨b7, h⟩ := h
  refine zr_inv0 7 148 1 [.int 202] rfl rfl zk_11_181 zms_148 rfl ⟨_, _, _, _, rfl, rfl⟩ (Nat.le_of_ble_eq_true rfl) ?_
  refine ze_148 b7 ?_
  refine zNx_i ?_
  refine zr_if zSm 8 26 rfl rfl (fun q1 => ?_) (fun q1 => ?_)
  · have h := h.1 q1
    refine zr_vret zSm 12 rfl rfl ?_
    exact h
  · have h := h.2 q1
    refine zr_aload_n zSm 9 rfl rfl ?_
    obtain ⟨c1, s1, g1, f1, h⟩ := h
    refine zr_inv zSm 10 168 0 c1 s1 [] rfl rfl zk_11_297 zms_168 rfl ⟨_, _, _, _, rfl, rfl⟩ (Nat.le_of_ble_eq_true rfl) g1 f1 ?_
    refine zcv h (fun I1 J1 D1 h => ?_)
    refine zr_goto zSm 11 9 rfl rfl ?_
    exact h
theorem w_177 {RO : zRo} {d : Nat} {P : zP} {I : zI} {J : zJ} {D : zD} {bc bs : Nat}  (h : (zz RO d 145 [.ref 28] (zu I 28 0 0) J D 0 0 (zNv (zPn 177 P) fun I1 J1 D1 => (zz RO d 147 [.ref 28] I1 J1 D1 0 0 (zNv (zPn 177 P) fun I2 J2 D2 => (∃ c3 s3, c3 ≤ bc ∧ s3 ≤ bs ∧ zz RO d 176 [.ref 28] (zu (zu I2 28 29 (-1)) 28 25 0) J2 D2 c3 s3 (zNt (fun I3 J3 D3 => (∃ c4 s4, c4 ≤ (bc - c3) ∧ s4 ≤ (bs - s3) ∧ zz RO d 176 [.ref 28] (zu I3 28 25 1) J3 D3 c4 s4 (zNt (fun I4 J4 D4 => (((I4 37 4) ≤ 0 → (∃ c5 s5, c5 ≤ ((bc - c3) - c4) ∧ s5 ≤ ((bs - s3) - s4) ∧ zz RO d 150 [.ref 28, .int 0, .int 7, .int (I4 28 3)] I4 J4 D4 c5 s5 (zNt (fun I5 J5 D5 => P (.inl (some (.int 0))) (zu (zu I5 28 23 1) 28 3 0) J5 D5) (fun a q I5 J5 D5 => zw RO d 177 (zPn 177 P) 94 [(0, .ref 28), (1, .int a)] [] (zu I5 28 29 q) J5 D5 (((bc - c3) - c4) - c5) (((bs - s3) - s4) - s5))))) ∧ (¬ ((I4 37 4) ≤ 0) → (((I4 37 8) ≤ 0 → (∃ c6 s6, c6 ≤ ((bc - c3) - c4) ∧ s6 ≤ ((bs - s3) - s4) ∧ zz RO d 150 [.ref 28, .int 0, .int 7, .int (I4 28 3)] I4 J4 D4 c6 s6 (zNt (fun I6 J6 D6 => P (.inl (some (.int 0))) (zu (zu I6 28 23 1) 28 3 0) J6 D6) (fun a q I6 J6 D6 => zw RO d 177 (zPn 177 P) 94 [(0, .ref 28), (1, .int a)] [] (zu I6 28 29 q) J6 D6 (((bc - c3) - c4) - c6) (((bs - s3) - s4) - s6))))) ∧ (¬ ((I4 37 8) ≤ 0) → (∃ c7 s7, c7 ≤ ((bc - c3) - c4) ∧ s7 ≤ ((bs - s3) - s4) ∧ zz RO d 150 [.ref 28, .int 1, .int 7, .int (I4 28 3)] I4 J4 D4 c7 s7 (zNt (fun I7 J7 D7 => P (.inl (some (.int 0))) (zu (zu I7 28 23 1) 28 3 0) J7 D7) (fun a q I7 J7 D7 => zw RO d 177 (zPn 177 P) 94 [(0, .ref 28), (1, .int a)] [] (zu I7 28 29 q) J7 D7 (((bc - c3) - c4) - c7) (((bs - s3) - s4) - s7))))))))) (fun a q I4 J4 D4 => zw RO d 177 (zPn 177 P) 94 [(0, .ref 28), (1, .int a)] [] (zu I4 28 29 q) J4 D4 ((bc - c3) - c4) ((bs - s3) - s4))))) (fun a q I3 J3 D3 => zw RO d 177 (zPn 177 P) 94 [(0, .ref 28), (1, .int a)] [] (zu I3 28 29 q) J3 D3 (bc - c3) (bs - s3))))))))) : zz RO (d + 1) 177 [.ref 28] I J D bc bs P := by
  refine zT_ofW (Nat.le_of_ble_eq_true rfl) zmw_177 ?_
  show zw RO d 177 (zPn 177 P) 0 [(0, .ref 28)] [] I J D bc bs
  refine zr_aload_n zSm 0 rfl rfl ?_
  refine zr_s zSm 1 rfl rfl ?_
  refine zr_putI zSm 2 rfl zf_11_96 rfl rfl (by decide) zp_11_0 ?_
  refine zr_aload_n zSm 3 rfl rfl ?_
  refine zr_inv0 4 145 0 [] rfl rfl zk_11_300 zms_145 rfl ⟨_, _, _, _, rfl, rfl⟩ (Nat.le_of_ble_eq_true rfl) ?_
  refine zcv h (fun I1 J1 D1 h => ?_)
  refine zr_aload_n zSm 5 rfl rfl ?_
  refine zr_inv0 6 147 0 [] rfl rfl zk_11_303 zms_147 rfl ⟨_, _, _, _, rfl, rfl⟩ (Nat.le_of_ble_eq_true rfl) ?_
  refine zcv h (fun I2 J2 D2 h => ?_)
  refine zr_aload_n zSm 7 rfl rfl ?_
  refine zr_s zSm 8 rfl rfl ?_
  refine zr_putI zSm 9 rfl zf_11_62 rfl rfl (by decide) zp_11_29 ?_
  refine zr_s zSm 10 rfl rfl ?_
  refine zr_istore_n zSm 11 (ll' := [(1, .int 0), (0, .ref 28)]) rfl (by decide) rfl ?_
  refine zr_aload_n zSm 12 rfl rfl ?_
  refine zr_s zSm 13 rfl rfl ?_
  refine zr_putZ zSm 14 rfl zf_11_178 rfl rfl (by decide) zp_11_25 (Or.inl rfl) ?_
  refine zr_aload_n zSm 15 rfl rfl ?_
  obtain ⟨c3, s3, g3, f3, h⟩ := h
  refine zr_try 16 176 0 c3 s3 [] rfl (by decide) rfl zk_11_306 zms_176 rfl ⟨_, _, _, _, rfl, rfl⟩ g3 f3 rfl h (fun I3 J3 D3 h => ?_) (fun a q I3 J3 D3 h => h)
  refine zr_aload_n zSm 17 rfl rfl ?_
  refine zr_s zSm 18 rfl rfl ?_
  refine zr_putZ zSm 19 rfl zf_11_178 rfl rfl (by decide) zp_11_25 (Or.inr rfl) ?_
  refine zr_aload_n zSm 20 rfl rfl ?_
  obtain ⟨c4, s4, g4, f4, h⟩ := h
  refine zr_try 21 176 0 c4 s4 [] rfl (by decide) rfl zk_11_306 zms_176 rfl ⟨_, _, _, _, rfl, rfl⟩ g4 f4 rfl h (fun I4 J4 D4 h => ?_) (fun a q I4 J4 D4 h => h)
  refine zr_aload_n zSm 22 rfl rfl ?_
  refine zr_aload_n zSm 23 rfl rfl ?_
  refine zr_getR zSm 24 rfl zf_11_35 rfl rfl (by decide) ?_
  refine zr_s zSm 25 rfl rfl ?_
  refine zr_iald zSm 26 rfl rfl (zin_lit (by decide) (by decide)) ?_
  refine zr_if zSm 27 62 rfl rfl (fun q1 => ?_) (fun q1 => ?_)
  · have h := h.1 q1
    refine zr_s zSm 35 rfl rfl ?_
    refine zr_bipush zSm 36 7 rfl rfl ?_
    refine zr_aload_n zSm 37 rfl rfl ?_
    refine zr_getI zSm 38 rfl zf_11_99 rfl rfl (by decide) ?_
    obtain ⟨c5, s5, g5, f5, h⟩ := h
    refine zr_try 39 150 3 c5 s5 [.int 0, .int 7, .int (I4 28 3)] rfl (by decide) rfl zk_11_239 zms_150 rfl ⟨_, _, _, _, rfl, rfl⟩ g5 f5 rfl h (fun I5 J5 D5 h => ?_) (fun a q I5 J5 D5 h => h)
    refine zr_aload_n zSm 40 rfl rfl ?_
    refine zr_s zSm 41 rfl rfl ?_
    refine zr_putZ zSm 42 rfl zf_11_157 rfl rfl (by decide) zp_11_23 (Or.inr rfl) ?_
    refine zr_goto zSm 43 98 rfl rfl ?_
    refine zr_aload_n zSm 54 rfl rfl ?_
    refine zr_s zSm 55 rfl rfl ?_
    refine zr_putI zSm 56 rfl zf_11_99 rfl rfl (by decide) zp_11_3 ?_
    refine zr_iload_n zSm 57 rfl rfl ?_
    refine zr_iret zSm 58 rfl rfl rfl ?_
    exact zPn_v h
  · have h := h.2 q1
    refine zr_aload_n zSm 28 rfl rfl ?_
    refine zr_getR zSm 29 rfl zf_11_35 rfl rfl (by decide) ?_
    refine zr_bipush zSm 30 8 rfl rfl ?_
    refine zr_iald zSm 31 rfl rfl (zin_lit (by decide) (by decide)) ?_
    refine zr_if zSm 32 62 rfl rfl (fun q2 => ?_) (fun q2 => ?_)
    · have h := h.1 q2
      refine zr_s zSm 35 rfl rfl ?_
      refine zr_bipush zSm 36 7 rfl rfl ?_
      refine zr_aload_n zSm 37 rfl rfl ?_
      refine zr_getI zSm 38 rfl zf_11_99 rfl rfl (by decide) ?_
      obtain ⟨c6, s6, g6, f6, h⟩ := h
      refine zr_try 39 150 3 c6 s6 [.int 0, .int 7, .int (I4 28 3)] rfl (by decide) rfl zk_11_239 zms_150 rfl ⟨_, _, _, _, rfl, rfl⟩ g6 f6 rfl h (fun I6 J6 D6 h => ?_) (fun a q I6 J6 D6 h => h)
      refine zr_aload_n zSm 40 rfl rfl ?_
      refine zr_s zSm 41 rfl rfl ?_
      refine zr_putZ zSm 42 rfl zf_11_157 rfl rfl (by decide) zp_11_23 (Or.inr rfl) ?_
      refine zr_goto zSm 43 98 rfl rfl ?_
      refine zr_aload_n zSm 54 rfl rfl ?_
      refine zr_s zSm 55 rfl rfl ?_
      refine zr_putI zSm 56 rfl zf_11_99 rfl rfl (by decide) zp_11_3 ?_
      refine zr_iload_n zSm 57 rfl rfl ?_
      refine zr_iret zSm 58 rfl rfl rfl ?_
      exact zPn_v h
    · have h := h.2 q2
      refine zr_s zSm 33 rfl rfl ?_
      refine zr_goto zSm 34 63 rfl rfl ?_
      refine zr_bipush zSm 36 7 rfl rfl ?_
      refine zr_aload_n zSm 37 rfl rfl ?_
      refine zr_getI zSm 38 rfl zf_11_99 rfl rfl (by decide) ?_
      obtain ⟨c7, s7, g7, f7, h⟩ := h
      refine zr_try 39 150 3 c7 s7 [.int 1, .int 7, .int (I4 28 3)] rfl (by decide) rfl zk_11_239 zms_150 rfl ⟨_, _, _, _, rfl, rfl⟩ g7 f7 rfl h (fun I7 J7 D7 h => ?_) (fun a q I7 J7 D7 h => h)
      refine zr_aload_n zSm 40 rfl rfl ?_
      refine zr_s zSm 41 rfl rfl ?_
      refine zr_putZ zSm 42 rfl zf_11_157 rfl rfl (by decide) zp_11_23 (Or.inr rfl) ?_
      refine zr_goto zSm 43 98 rfl rfl ?_
      refine zr_aload_n zSm 54 rfl rfl ?_
      refine zr_s zSm 55 rfl rfl ?_
      refine zr_putI zSm 56 rfl zf_11_99 rfl rfl (by decide) zp_11_3 ?_
      refine zr_iload_n zSm 57 rfl rfl ?_
      refine zr_iret zSm 58 rfl rfl rfl ?_
      exact zPn_v h
theorem wl_177_94 {RO : zRo} {d : Nat} {P : zP} {I : zI} {J : zJ} {D : zD} {bc bs : Nat} {l1 : Int32} (h : (zz RO d 147 [.ref 28] I J D 0 0 (zNv (zPn 177 P) fun I1 J1 D1 => P (.inl (some (.int l1))) (zu I1 28 3 0) J1 D1))) : zw RO d 177 (zPn 177 P) 94 [(0, .ref 28), (1, .int l1)] [] I J D bc bs := by
  refine zr_aload_n zSm 52 rfl rfl ?_
  refine zr_inv0 53 147 0 [] rfl rfl zk_11_303 zms_147 rfl ⟨_, _, _, _, rfl, rfl⟩ (Nat.le_of_ble_eq_true rfl) ?_
  refine zcv h (fun I1 J1 D1 h => ?_)
  refine zr_aload_n zSm 54 rfl rfl ?_
  refine zr_s zSm 55 rfl rfl ?_
  refine zr_putI zSm 56 rfl zf_11_99 rfl rfl (by decide) zp_11_3 ?_
  refine zr_iload_n zSm 57 rfl rfl ?_
  refine zr_iret zSm 58 rfl rfl rfl ?_
  exact zPn_v h

/-! ===== written by wip/whole/lay15.py: walks, a formula each ===== -/
theorem w_220 {RO : zRo} {d : Nat} {P : zP} {I : zI} {J : zJ} {D : zD} {bc bs : Nat} {p0 p1 p2 p3 p4 : Int32} (h : (∃ c1 s1, c1 ≤ bc ∧ s1 ≤ bs ∧ zz RO d 107 [.ref 0, .int p0, .int p1, .int p2, .int p3, .int p4] I J D c1 s1 (zHi (fun v1 I1 J1 D1 => P (.inl (some (.int 0))) I1 (zu J1 52 0 v1.toInt64) D1) (fun k I1 J1 D1 => (k = 0 ∧ P (.inl (some (.int 1))) I1 J1 D1))))) : zz RO (d + 1) 220 [.ref 0, .int p0, .int p1, .int p2, .int p3, .int p4, .ref 52] I J D bc bs P := by
  refine zT_ofW (Nat.le_of_ble_eq_true rfl) zmw_220 ?_
  show zw RO d 220 (zPn 220 P) 0 [(0, .ref 0), (1, .int p0), (2, .int p1), (3, .int p2), (4, .int p3), (5, .int p4), (6, .ref 52)] [] I J D bc bs
  refine zr_aload zSm 0 rfl rfl ?_
  refine zr_s zSm 1 rfl rfl ?_
  refine zr_aload_n zSm 2 rfl rfl ?_
  refine zr_iload_n zSm 3 rfl rfl ?_
  refine zr_iload_n zSm 4 rfl rfl ?_
  refine zr_iload_n zSm 5 rfl rfl ?_
  refine zr_iload zSm 6 rfl rfl ?_
  refine zr_iload zSm 7 rfl rfl ?_
  obtain ⟨c1, s1, g1, f1, h⟩ := h
  refine zr_catI 8 107 5 c1 s1 [.int p0, .int p1, .int p2, .int p3, .int p4] rfl rfl zk_L_7 zms_107 rfl ⟨_, _, _, _, rfl, rfl⟩ (Nat.le_of_ble_eq_true rfl) g1 f1 h (fun v1 I1 J1 D1 h => ?_) (fun k I1 J1 D1 h => by obtain ⟨rfl, h⟩ := h; exact ⟨_, zhc_220_0, zPn_v h⟩)
  refine zr_s zSm 9 rfl rfl ?_
  refine zr_last zSm 10 rfl rfl (zin_lit (by decide) (by decide)) ?_
  refine zr_goto zSm 11 23 rfl rfl ?_
  refine zr_s zSm 15 rfl rfl ?_
  refine zr_iret zSm 16 rfl rfl rfl ?_
  exact zPn_v h
theorem w_221 {RO : zRo} {d : Nat} {P : zP} {I : zI} {J : zJ} {D : zD} {bc bs : Nat} {p0 : Int32} (h : (∃ c1 s1, c1 ≤ bc ∧ s1 ≤ bs ∧ zz RO d 108 [.ref 0, .int p0] I J D c1 s1 (zHi (fun v1 I1 J1 D1 => P (.inl (some (.int 0))) I1 (zu J1 52 0 v1.toInt64) D1) (fun k I1 J1 D1 => (k = 1 ∧ P (.inl (some (.int 1))) I1 J1 D1))))) : zz RO (d + 1) 221 [.ref 0, .int p0, .ref 52] I J D bc bs P := by
  refine zT_ofW (Nat.le_of_ble_eq_true rfl) zmw_221 ?_
  show zw RO d 221 (zPn 221 P) 0 [(0, .ref 0), (1, .int p0), (2, .ref 52)] [] I J D bc bs
  refine zr_aload_n zSm 0 rfl rfl ?_
  refine zr_s zSm 1 rfl rfl ?_
  refine zr_aload_n zSm 2 rfl rfl ?_
  refine zr_iload_n zSm 3 rfl rfl ?_
  obtain ⟨c1, s1, g1, f1, h⟩ := h
  refine zr_catI 4 108 1 c1 s1 [.int p0] rfl rfl zk_L_15 zms_108 rfl ⟨_, _, _, _, rfl, rfl⟩ (Nat.le_of_ble_eq_true rfl) g1 f1 h (fun v1 I1 J1 D1 h => ?_) (fun k I1 J1 D1 h => by obtain ⟨rfl, h⟩ := h; exact ⟨_, zhc_221_1, zPn_v h⟩)
  refine zr_s zSm 5 rfl rfl ?_
  refine zr_last zSm 6 rfl rfl (zin_lit (by decide) (by decide)) ?_
  refine zr_goto zSm 7 15 rfl rfl ?_
  refine zr_s zSm 11 rfl rfl ?_
  refine zr_iret zSm 12 rfl rfl rfl ?_
  exact zPn_v h
theorem w_222 {RO : zRo} {d : Nat} {P : zP} {I : zI} {J : zJ} {D : zD} {bc bs : Nat} {p0 : Int32} (h : (∃ c1 s1, c1 ≤ bc ∧ s1 ≤ bs ∧ zz RO d 111 [.ref 0, .int p0] I J D c1 s1 (zHi (fun v1 I1 J1 D1 => P (.inl (some (.int 0))) I1 (zu J1 52 0 v1.toInt64) D1) (fun k I1 J1 D1 => (k = 2 ∧ P (.inl (some (.int 1))) I1 J1 D1))))) : zz RO (d + 1) 222 [.ref 0, .int p0, .ref 52] I J D bc bs P := by
  refine zT_ofW (Nat.le_of_ble_eq_true rfl) zmw_222 ?_
  show zw RO d 222 (zPn 222 P) 0 [(0, .ref 0), (1, .int p0), (2, .ref 52)] [] I J D bc bs
  refine zr_aload_n zSm 0 rfl rfl ?_
  refine zr_s zSm 1 rfl rfl ?_
  refine zr_aload_n zSm 2 rfl rfl ?_
  refine zr_iload_n zSm 3 rfl rfl ?_
  obtain ⟨c1, s1, g1, f1, h⟩ := h
  refine zr_catI 4 111 1 c1 s1 [.int p0] rfl rfl zk_L_21 zms_111 rfl ⟨_, _, _, _, rfl, rfl⟩ (Nat.le_of_ble_eq_true rfl) g1 f1 h (fun v1 I1 J1 D1 h => ?_) (fun k I1 J1 D1 h => by obtain ⟨rfl, h⟩ := h; exact ⟨_, zhc_222_2, zPn_v h⟩)
  refine zr_s zSm 5 rfl rfl ?_
  refine zr_last zSm 6 rfl rfl (zin_lit (by decide) (by decide)) ?_
  refine zr_goto zSm 7 15 rfl rfl ?_
  refine zr_s zSm 11 rfl rfl ?_
  refine zr_iret zSm 12 rfl rfl rfl ?_
  exact zPn_v h
theorem w_223 {RO : zRo} {d : Nat} {P : zP} {I : zI} {J : zJ} {D : zD} {bc bs : Nat} {p0 : Int32} {p1 : Int64} (h : (∃ c1 s1, c1 ≤ bc ∧ s1 ≤ bs ∧ zz RO d 113 [.ref 0, .int p0, .long p1] I J D c1 s1 (zHi (fun v1 I1 J1 D1 => P (.inl (some (.int 0))) I1 (zu J1 52 0 v1.toInt64) D1) (fun k I1 J1 D1 => (k = 1 ∧ P (.inl (some (.int 1))) I1 J1 D1) ∨ (k = 0 ∧ P (.inl (some (.int 2))) I1 J1 D1))))) : zz RO (d + 1) 223 [.ref 0, .int p0, .long p1, .ref 52] I J D bc bs P := by
  refine zT_ofW (Nat.le_of_ble_eq_true rfl) zmw_223 ?_
  show zw RO d 223 (zPn 223 P) 0 [(0, .ref 0), (1, .int p0), (2, .long p1), (4, .ref 52)] [] I J D bc bs
  refine zr_aload zSm 0 rfl rfl ?_
  refine zr_s zSm 1 rfl rfl ?_
  refine zr_aload_n zSm 2 rfl rfl ?_
  refine zr_iload_n zSm 3 rfl rfl ?_
  refine zr_lload_n zSm 4 rfl rfl ?_
  obtain ⟨c1, s1, g1, f1, h⟩ := h
  refine zr_catI 5 113 2 c1 s1 [.int p0, .long p1] rfl rfl zk_L_26 zms_113 rfl ⟨_, _, _, _, rfl, rfl⟩ (Nat.le_of_ble_eq_true rfl) g1 f1 h (fun v1 I1 J1 D1 h => ?_) (fun k I1 J1 D1 h => by rcases h with ⟨rfl, h⟩ | ⟨rfl, h⟩ <;> first | exact ⟨_, zhc_223_1, zPn_v h⟩ | exact ⟨_, zhc_223_0, zPn_v h⟩)
  refine zr_s zSm 6 rfl rfl ?_
  refine zr_last zSm 7 rfl rfl (zin_lit (by decide) (by decide)) ?_
  refine zr_goto zSm 8 22 rfl rfl ?_
  refine zr_s zSm 15 rfl rfl ?_
  refine zr_iret zSm 16 rfl rfl rfl ?_
  exact zPn_v h
theorem w_224 {RO : zRo} {d : Nat} {P : zP} {I : zI} {J : zJ} {D : zD} {bc bs : Nat} {p0 p1 : Int32} (h : (∃ c1 s1, c1 ≤ bc ∧ s1 ≤ bs ∧ zz RO d 114 [.ref 0, .int p0, .int p1] I J D c1 s1 (zHi (fun v1 I1 J1 D1 => P (.inl (some (.int 0))) I1 (zu J1 52 0 v1.toInt64) D1) (fun k I1 J1 D1 => (k = 2 ∧ P (.inl (some (.int 1))) I1 J1 D1) ∨ (k = 0 ∧ P (.inl (some (.int 2))) I1 J1 D1))))) : zz RO (d + 1) 224 [.ref 0, .int p0, .int p1, .ref 52] I J D bc bs P := by
  refine zT_ofW (Nat.le_of_ble_eq_true rfl) zmw_224 ?_
  show zw RO d 224 (zPn 224 P) 0 [(0, .ref 0), (1, .int p0), (2, .int p1), (3, .ref 52)] [] I J D bc bs
  refine zr_aload_n zSm 0 rfl rfl ?_
  refine zr_s zSm 1 rfl rfl ?_
  refine zr_aload_n zSm 2 rfl rfl ?_
  refine zr_iload_n zSm 3 rfl rfl ?_
  refine zr_iload_n zSm 4 rfl rfl ?_
  obtain ⟨c1, s1, g1, f1, h⟩ := h
  refine zr_catI 5 114 2 c1 s1 [.int p0, .int p1] rfl rfl zk_L_30 zms_114 rfl ⟨_, _, _, _, rfl, rfl⟩ (Nat.le_of_ble_eq_true rfl) g1 f1 h (fun v1 I1 J1 D1 h => ?_) (fun k I1 J1 D1 h => by rcases h with ⟨rfl, h⟩ | ⟨rfl, h⟩ <;> first | exact ⟨_, zhc_224_2, zPn_v h⟩ | exact ⟨_, zhc_224_0, zPn_v h⟩)
  refine zr_s zSm 6 rfl rfl ?_
  refine zr_last zSm 7 rfl rfl (zin_lit (by decide) (by decide)) ?_
  refine zr_goto zSm 8 21 rfl rfl ?_
  refine zr_s zSm 15 rfl rfl ?_
  refine zr_iret zSm 16 rfl rfl rfl ?_
  exact zPn_v h
theorem w_225 {RO : zRo} {d : Nat} {P : zP} {I : zI} {J : zJ} {D : zD} {bc bs : Nat} {p0 p1 : Int32} (h : (∃ c1 s1, c1 ≤ bc ∧ s1 ≤ bs ∧ zz RO d 115 [.ref 0, .int p0, .int p1] I J D c1 s1 (zHi (fun v1 I1 J1 D1 => P (.inl (some (.int 0))) I1 (zu J1 52 0 v1.toInt64) D1) (fun k I1 J1 D1 => (k = 2 ∧ P (.inl (some (.int 1))) I1 J1 D1) ∨ (k = 0 ∧ P (.inl (some (.int 2))) I1 J1 D1))))) : zz RO (d + 1) 225 [.ref 0, .int p0, .int p1, .ref 52] I J D bc bs P := by
  refine zT_ofW (Nat.le_of_ble_eq_true rfl) zmw_225 ?_
  show zw RO d 225 (zPn 225 P) 0 [(0, .ref 0), (1, .int p0), (2, .int p1), (3, .ref 52)] [] I J D bc bs
  refine zr_aload_n zSm 0 rfl rfl ?_
  refine zr_s zSm 1 rfl rfl ?_
  refine zr_aload_n zSm 2 rfl rfl ?_
  refine zr_iload_n zSm 3 rfl rfl ?_
  refine zr_iload_n zSm 4 rfl rfl ?_
  obtain ⟨c1, s1, g1, f1, h⟩ := h
  refine zr_catI 5 115 2 c1 s1 [.int p0, .int p1] rfl rfl zk_L_34 zms_115 rfl ⟨_, _, _, _, rfl, rfl⟩ (Nat.le_of_ble_eq_true rfl) g1 f1 h (fun v1 I1 J1 D1 h => ?_) (fun k I1 J1 D1 h => by rcases h with ⟨rfl, h⟩ | ⟨rfl, h⟩ <;> first | exact ⟨_, zhc_225_2, zPn_v h⟩ | exact ⟨_, zhc_225_0, zPn_v h⟩)
  refine zr_s zSm 6 rfl rfl ?_
  refine zr_last zSm 7 rfl rfl (zin_lit (by decide) (by decide)) ?_
  refine zr_goto zSm 8 21 rfl rfl ?_
  refine zr_s zSm 15 rfl rfl ?_
  refine zr_iret zSm 16 rfl rfl rfl ?_
  exact zPn_v h
theorem w_226 {RO : zRo} {d : Nat} {P : zP} {I : zI} {J : zJ} {D : zD} {bc bs : Nat}  (h : (∃ c1 s1, c1 ≤ bc ∧ s1 ≤ bs ∧ zz RO d 116 [.ref 0] I J D c1 s1 (zHi (fun v1 I1 J1 D1 => P (.inl (some (.int 0))) I1 (zu J1 52 0 v1.toInt64) D1) (fun k I1 J1 D1 => (k = 0 ∧ P (.inl (some (.int 1))) I1 J1 D1))))) : zz RO (d + 1) 226 [.ref 0, .ref 52] I J D bc bs P := by
  refine zT_ofW (Nat.le_of_ble_eq_true rfl) zmw_226 ?_
  show zw RO d 226 (zPn 226 P) 0 [(0, .ref 0), (1, .ref 52)] [] I J D bc bs
  refine zr_aload_n zSm 0 rfl rfl ?_
  refine zr_s zSm 1 rfl rfl ?_
  refine zr_aload_n zSm 2 rfl rfl ?_
  obtain ⟨c1, s1, g1, f1, h⟩ := h
  refine zr_catI 3 116 0 c1 s1 [] rfl rfl zk_L_37 zms_116 rfl ⟨_, _, _, _, rfl, rfl⟩ (Nat.le_of_ble_eq_true rfl) g1 f1 h (fun v1 I1 J1 D1 h => ?_) (fun k I1 J1 D1 h => by obtain ⟨rfl, h⟩ := h; exact ⟨_, zhc_226_0, zPn_v h⟩)
  refine zr_s zSm 4 rfl rfl ?_
  refine zr_last zSm 5 rfl rfl (zin_lit (by decide) (by decide)) ?_
  refine zr_goto zSm 6 14 rfl rfl ?_
  refine zr_s zSm 10 rfl rfl ?_
  refine zr_iret zSm 11 rfl rfl rfl ?_
  exact zPn_v h
theorem w_227 {RO : zRo} {d : Nat} {P : zP} {I : zI} {J : zJ} {D : zD} {bc bs : Nat} {p0 p1 p2 : Int32} (h : (∃ c1 s1, c1 ≤ bc ∧ s1 ≤ bs ∧ zz RO d 117 [.ref 0, .int p0, .int p1, .int p2] I J D c1 s1 (zHi (fun v1 I1 J1 D1 => ((v1 = 0 → P (.inl (some (.int 0))) I1 (zu J1 52 0 0) D1) ∧ (¬ (v1 = 0) → P (.inl (some (.int 0))) I1 (zu J1 52 0 1) D1))) (fun k I1 J1 D1 => (k = 2 ∧ P (.inl (some (.int 1))) I1 J1 D1))))) : zz RO (d + 1) 227 [.ref 0, .int p0, .int p1, .int p2, .ref 52] I J D bc bs P := by
  refine zT_ofW (Nat.le_of_ble_eq_true rfl) zmw_227 ?_
  show zw RO d 227 (zPn 227 P) 0 [(0, .ref 0), (1, .int p0), (2, .int p1), (3, .int p2), (4, .ref 52)] [] I J D bc bs
  refine zr_aload zSm 0 rfl rfl ?_
  refine zr_s zSm 1 rfl rfl ?_
  refine zr_aload_n zSm 2 rfl rfl ?_
  refine zr_iload_n zSm 3 rfl rfl ?_
  refine zr_iload_n zSm 4 rfl rfl ?_
  refine zr_iload_n zSm 5 rfl rfl ?_
  obtain ⟨c1, s1, g1, f1, h⟩ := h
  refine zr_catI 6 117 3 c1 s1 [.int p0, .int p1, .int p2] rfl rfl zk_L_41 zms_117 rfl ⟨_, _, _, _, rfl, rfl⟩ (Nat.le_of_ble_eq_true rfl) g1 f1 h (fun v1 I1 J1 D1 h => ?_) (fun k I1 J1 D1 h => by obtain ⟨rfl, h⟩ := h; exact ⟨_, zhc_227_2, zPn_v h⟩)
  refine zr_if zSm 7 17 rfl rfl (fun q1 => ?_) (fun q1 => ?_)
  · have h := h.1 q1
    refine zr_s zSm 10 rfl rfl ?_
    refine zr_last zSm 11 rfl rfl (zin_lit (by decide) (by decide)) ?_
    refine zr_goto zSm 12 26 rfl rfl ?_
    refine zr_s zSm 16 rfl rfl ?_
    refine zr_iret zSm 17 rfl rfl rfl ?_
    exact zPn_v h
  · have h := h.2 q1
    refine zr_s zSm 8 rfl rfl ?_
    refine zr_goto zSm 9 18 rfl rfl ?_
    refine zr_last zSm 11 rfl rfl (zin_lit (by decide) (by decide)) ?_
    refine zr_goto zSm 12 26 rfl rfl ?_
    refine zr_s zSm 16 rfl rfl ?_
    refine zr_iret zSm 17 rfl rfl rfl ?_
    exact zPn_v h
theorem w_228 {RO : zRo} {d : Nat} {P : zP} {I : zI} {J : zJ} {D : zD} {bc bs : Nat} {p0 : Int32} (h : (∃ c1 s1, c1 ≤ bc ∧ s1 ≤ bs ∧ zz RO d 120 [.ref 0, .int p0] I J D c1 s1 (zHi (fun v1 I1 J1 D1 => P (.inl (some (.int 0))) I1 (zu J1 52 0 v1.toInt64) D1) (fun k I1 J1 D1 => (k = 2 ∧ P (.inl (some (.int 1))) I1 J1 D1))))) : zz RO (d + 1) 228 [.ref 0, .int p0, .ref 52] I J D bc bs P := by
  refine zT_ofW (Nat.le_of_ble_eq_true rfl) zmw_228 ?_
  show zw RO d 228 (zPn 228 P) 0 [(0, .ref 0), (1, .int p0), (2, .ref 52)] [] I J D bc bs
  refine zr_aload_n zSm 0 rfl rfl ?_
  refine zr_s zSm 1 rfl rfl ?_
  refine zr_aload_n zSm 2 rfl rfl ?_
  refine zr_iload_n zSm 3 rfl rfl ?_
  obtain ⟨c1, s1, g1, f1, h⟩ := h
  refine zr_catI 4 120 1 c1 s1 [.int p0] rfl rfl zk_L_45 zms_120 rfl ⟨_, _, _, _, rfl, rfl⟩ (Nat.le_of_ble_eq_true rfl) g1 f1 h (fun v1 I1 J1 D1 h => ?_) (fun k I1 J1 D1 h => by obtain ⟨rfl, h⟩ := h; exact ⟨_, zhc_228_2, zPn_v h⟩)
  refine zr_s zSm 5 rfl rfl ?_
  refine zr_last zSm 6 rfl rfl (zin_lit (by decide) (by decide)) ?_
  refine zr_goto zSm 7 15 rfl rfl ?_
  refine zr_s zSm 11 rfl rfl ?_
  refine zr_iret zSm 12 rfl rfl rfl ?_
  exact zPn_v h
theorem w_229 {RO : zRo} {d : Nat} {P : zP} {I : zI} {J : zJ} {D : zD} {bc bs : Nat} {p0 p1 : Int32} (h : (∃ c1 s1, c1 ≤ bc ∧ s1 ≤ bs ∧ zz RO d 121 [.ref 0, .int p0, .int p1] I J D c1 s1 (zHi (fun v1 I1 J1 D1 => P (.inl (some (.int 0))) I1 (zu J1 52 0 v1.toInt64) D1) (fun k I1 J1 D1 => (k = 2 ∧ P (.inl (some (.int 1))) I1 J1 D1))))) : zz RO (d + 1) 229 [.ref 0, .int p0, .int p1, .ref 52] I J D bc bs P := by
  refine zT_ofW (Nat.le_of_ble_eq_true rfl) zmw_229 ?_
  show zw RO d 229 (zPn 229 P) 0 [(0, .ref 0), (1, .int p0), (2, .int p1), (3, .ref 52)] [] I J D bc bs
  refine zr_aload_n zSm 0 rfl rfl ?_
  refine zr_s zSm 1 rfl rfl ?_
  refine zr_aload_n zSm 2 rfl rfl ?_
  refine zr_iload_n zSm 3 rfl rfl ?_
  refine zr_iload_n zSm 4 rfl rfl ?_
  obtain ⟨c1, s1, g1, f1, h⟩ := h
  refine zr_catI 5 121 2 c1 s1 [.int p0, .int p1] rfl rfl zk_L_48 zms_121 rfl ⟨_, _, _, _, rfl, rfl⟩ (Nat.le_of_ble_eq_true rfl) g1 f1 h (fun v1 I1 J1 D1 h => ?_) (fun k I1 J1 D1 h => by obtain ⟨rfl, h⟩ := h; exact ⟨_, zhc_229_2, zPn_v h⟩)
  refine zr_s zSm 6 rfl rfl ?_
  refine zr_last zSm 7 rfl rfl (zin_lit (by decide) (by decide)) ?_
  refine zr_goto zSm 8 17 rfl rfl ?_
  refine zr_s zSm 12 rfl rfl ?_
  refine zr_iret zSm 13 rfl rfl rfl ?_
  exact zPn_v h
theorem w_230 {RO : zRo} {d : Nat} {P : zP} {I : zI} {J : zJ} {D : zD} {bc bs : Nat} {p0 : Int32} (h : (∃ c1 s1, c1 ≤ bc ∧ s1 ≤ bs ∧ zz RO d 122 [.ref 0, .int p0] I J D c1 s1 (zHi (fun v1 I1 J1 D1 => P (.inl (some (.int 0))) I1 (zu J1 52 0 v1.toInt64) D1) (fun k I1 J1 D1 => (k = 2 ∧ P (.inl (some (.int 1))) I1 J1 D1))))) : zz RO (d + 1) 230 [.ref 0, .int p0, .ref 52] I J D bc bs P := by
  refine zT_ofW (Nat.le_of_ble_eq_true rfl) zmw_230 ?_
  show zw RO d 230 (zPn 230 P) 0 [(0, .ref 0), (1, .int p0), (2, .ref 52)] [] I J D bc bs
  refine zr_aload_n zSm 0 rfl rfl ?_
  refine zr_s zSm 1 rfl rfl ?_
  refine zr_aload_n zSm 2 rfl rfl ?_
  refine zr_iload_n zSm 3 rfl rfl ?_
  obtain ⟨c1, s1, g1, f1, h⟩ := h
  refine zr_catI 4 122 1 c1 s1 [.int p0] rfl rfl zk_L_51 zms_122 rfl ⟨_, _, _, _, rfl, rfl⟩ (Nat.le_of_ble_eq_true rfl) g1 f1 h (fun v1 I1 J1 D1 h => ?_) (fun k I1 J1 D1 h => by obtain ⟨rfl, h⟩ := h; exact ⟨_, zhc_230_2, zPn_v h⟩)
  refine zr_s zSm 5 rfl rfl ?_
  refine zr_last zSm 6 rfl rfl (zin_lit (by decide) (by decide)) ?_
  refine zr_goto zSm 7 15 rfl rfl ?_
  refine zr_s zSm 11 rfl rfl ?_
  refine zr_iret zSm 12 rfl rfl rfl ?_
  exact zPn_v h
theorem w_231 {RO : zRo} {d : Nat} {P : zP} {I : zI} {J : zJ} {D : zD} {bc bs : Nat} {p0 p1 : Int32} (h : (∃ c1 s1, c1 ≤ bc ∧ s1 ≤ bs ∧ zz RO d 123 [.ref 0, .int p0, .int p1] I J D c1 s1 (zHi (fun v1 I1 J1 D1 => P (.inl (some (.int 0))) I1 (zu J1 52 0 v1.toInt64) D1) (fun k I1 J1 D1 => (k = 2 ∧ P (.inl (some (.int 1))) I1 J1 D1))))) : zz RO (d + 1) 231 [.ref 0, .int p0, .int p1, .ref 52] I J D bc bs P := by
  refine zT_ofW (Nat.le_of_ble_eq_true rfl) zmw_231 ?_
  show zw RO d 231 (zPn 231 P) 0 [(0, .ref 0), (1, .int p0), (2, .int p1), (3, .ref 52)] [] I J D bc bs
  refine zr_aload_n zSm 0 rfl rfl ?_
  refine zr_s zSm 1 rfl rfl ?_
  refine zr_aload_n zSm 2 rfl rfl ?_
  refine zr_iload_n zSm 3 rfl rfl ?_
  refine zr_iload_n zSm 4 rfl rfl ?_
  obtain ⟨c1, s1, g1, f1, h⟩ := h
  refine zr_catI 5 123 2 c1 s1 [.int p0, .int p1] rfl rfl zk_L_54 zms_123 rfl ⟨_, _, _, _, rfl, rfl⟩ (Nat.le_of_ble_eq_true rfl) g1 f1 h (fun v1 I1 J1 D1 h => ?_) (fun k I1 J1 D1 h => by obtain ⟨rfl, h⟩ := h; exact ⟨_, zhc_231_2, zPn_v h⟩)
  refine zr_s zSm 6 rfl rfl ?_
  refine zr_last zSm 7 rfl rfl (zin_lit (by decide) (by decide)) ?_
  refine zr_goto zSm 8 17 rfl rfl ?_
  refine zr_s zSm 12 rfl rfl ?_
  refine zr_iret zSm 13 rfl rfl rfl ?_
  exact zPn_v h
theorem w_232 {RO : zRo} {d : Nat} {P : zP} {I : zI} {J : zJ} {D : zD} {bc bs : Nat} {p0 p1 : Int32} (h : (∃ c1 s1, c1 ≤ bc ∧ s1 ≤ bs ∧ zz RO d 124 [.ref 0, .int p0, .int p1] I J D c1 s1 (zHi (fun v1 I1 J1 D1 => P (.inl (some (.int 0))) I1 (zu J1 52 0 v1.toInt64) D1) (fun k I1 J1 D1 => (k = 2 ∧ P (.inl (some (.int 1))) I1 J1 D1))))) : zz RO (d + 1) 232 [.ref 0, .int p0, .int p1, .ref 52] I J D bc bs P := by
  refine zT_ofW (Nat.le_of_ble_eq_true rfl) zmw_232 ?_
  show zw RO d 232 (zPn 232 P) 0 [(0, .ref 0), (1, .int p0), (2, .int p1), (3, .ref 52)] [] I J D bc bs
  refine zr_aload_n zSm 0 rfl rfl ?_
  refine zr_s zSm 1 rfl rfl ?_
  refine zr_aload_n zSm 2 rfl rfl ?_
  refine zr_iload_n zSm 3 rfl rfl ?_
  refine zr_iload_n zSm 4 rfl rfl ?_
  obtain ⟨c1, s1, g1, f1, h⟩ := h
  refine zr_catI 5 124 2 c1 s1 [.int p0, .int p1] rfl rfl zk_L_57 zms_124 rfl ⟨_, _, _, _, rfl, rfl⟩ (Nat.le_of_ble_eq_true rfl) g1 f1 h (fun v1 I1 J1 D1 h => ?_) (fun k I1 J1 D1 h => by obtain ⟨rfl, h⟩ := h; exact ⟨_, zhc_232_2, zPn_v h⟩)
  refine zr_s zSm 6 rfl rfl ?_
  refine zr_last zSm 7 rfl rfl (zin_lit (by decide) (by decide)) ?_
  refine zr_goto zSm 8 17 rfl rfl ?_
  refine zr_s zSm 12 rfl rfl ?_
  refine zr_iret zSm 13 rfl rfl rfl ?_
  exact zPn_v h
theorem w_233 {RO : zRo} {d : Nat} {P : zP} {I : zI} {J : zJ} {D : zD} {bc bs : Nat} {p0 : Int32} (h : (∃ c1 s1, c1 ≤ bc ∧ s1 ≤ bs ∧ zz RO d 125 [.ref 0, .int p0] I J D c1 s1 (zHi (fun v1 I1 J1 D1 => P (.inl (some (.int 0))) I1 (zu J1 52 0 v1.toInt64) D1) (fun k I1 J1 D1 => (k = 1 ∧ P (.inl (some (.int 1))) I1 J1 D1) ∨ (k = 0 ∧ P (.inl (some (.int 2))) I1 J1 D1))))) : zz RO (d + 1) 233 [.ref 0, .int p0, .ref 52] I J D bc bs P := by
  refine zT_ofW (Nat.le_of_ble_eq_true rfl) zmw_233 ?_
  show zw RO d 233 (zPn 233 P) 0 [(0, .ref 0), (1, .int p0), (2, .ref 52)] [] I J D bc bs
  refine zr_aload_n zSm 0 rfl rfl ?_
  refine zr_s zSm 1 rfl rfl ?_
  refine zr_aload_n zSm 2 rfl rfl ?_
  refine zr_iload_n zSm 3 rfl rfl ?_
  obtain ⟨c1, s1, g1, f1, h⟩ := h
  refine zr_catI 4 125 1 c1 s1 [.int p0] rfl rfl zk_L_60 zms_125 rfl ⟨_, _, _, _, rfl, rfl⟩ (Nat.le_of_ble_eq_true rfl) g1 f1 h (fun v1 I1 J1 D1 h => ?_) (fun k I1 J1 D1 h => by rcases h with ⟨rfl, h⟩ | ⟨rfl, h⟩ <;> first | exact ⟨_, zhc_233_1, zPn_v h⟩ | exact ⟨_, zhc_233_0, zPn_v h⟩)
  refine zr_s zSm 5 rfl rfl ?_
  refine zr_last zSm 6 rfl rfl (zin_lit (by decide) (by decide)) ?_
  refine zr_goto zSm 7 18 rfl rfl ?_
  refine zr_s zSm 14 rfl rfl ?_
  refine zr_iret zSm 15 rfl rfl rfl ?_
  exact zPn_v h
theorem w_234 {RO : zRo} {d : Nat} {P : zP} {I : zI} {J : zJ} {D : zD} {bc bs : Nat} {p0 : Int32} (h : (∃ c1 s1, c1 ≤ bc ∧ s1 ≤ bs ∧ zz RO d 127 [.ref 0, .int p0] I J D c1 s1 (zHd (fun v1 I1 J1 D1 => P (.inl (some (.int 0))) I1 J1 (zu D1 53 0 v1)) (fun k I1 J1 D1 => (k = 2 ∧ P (.inl (some (.int 1))) I1 J1 D1))))) : zz RO (d + 1) 234 [.ref 0, .int p0, .ref 53] I J D bc bs P := by
  refine zT_ofW (Nat.le_of_ble_eq_true rfl) zmw_234 ?_
  show zw RO d 234 (zPn 234 P) 0 [(0, .ref 0), (1, .int p0), (2, .ref 53)] [] I J D bc bs
  refine zr_aload_n zSm 0 rfl rfl ?_
  refine zr_s zSm 1 rfl rfl ?_
  refine zr_aload_n zSm 2 rfl rfl ?_
  refine zr_iload_n zSm 3 rfl rfl ?_
  obtain ⟨c1, s1, g1, f1, h⟩ := h
  refine zr_catD 4 127 1 c1 s1 [.int p0] rfl rfl zk_L_63 zms_127 rfl ⟨_, _, _, _, rfl, rfl⟩ (Nat.le_of_ble_eq_true rfl) g1 f1 h (fun v1 I1 J1 D1 h => ?_) (fun k I1 J1 D1 h => by obtain ⟨rfl, h⟩ := h; exact ⟨_, zhc_234_2, zPn_v h⟩)
  refine zr_dast zSm 5 rfl rfl (zin_lit (by decide) (by decide)) ?_
  refine zr_goto zSm 6 14 rfl rfl ?_
  refine zr_s zSm 10 rfl rfl ?_
  refine zr_iret zSm 11 rfl rfl rfl ?_
  exact zPn_v h

/-! ===== the constructor of the class ===== -/
theorem zd106_0 : decode (zcc 106) 0 = .ok (.aload_n 0, 1) := by
  show decode cX9_init 0 = _
  decide +kernel
theorem zd106_1 : decode (zcc 106) 1 = .ok (.invokespecial 1, 3) := by
  show decode cX9_init 1 = _
  decide +kernel
theorem zd106_4 : decode (zcc 106) 4 = .ok (.aload_n 0, 1) := by
  show decode cX9_init 4 = _
  decide +kernel
theorem zd106_5 : decode (zcc 106) 5 = .ok (.new 7, 3) := by
  show decode cX9_init 5 = _
  decide +kernel
theorem zd106_8 : decode (zcc 106) 8 = .ok (.dup, 1) := by
  show decode cX9_init 8 = _
  decide +kernel
theorem zd106_9 : decode (zcc 106) 9 = .ok (.invokespecial 9, 3) := by
  show decode cX9_init 9 = _
  decide +kernel
theorem zd106_12 : decode (zcc 106) 12 = .ok (.putfield 10, 3) := by
  show decode cX9_init 12 = _
  decide +kernel
theorem zd106_15 : decode (zcc 106) 15 = .ok (.aload_n 0, 1) := by
  show decode cX9_init 15 = _
  decide +kernel
theorem zd106_16 : decode (zcc 106) 16 = .ok (.new 16, 3) := by
  show decode cX9_init 16 = _
  decide +kernel
theorem zd106_19 : decode (zcc 106) 19 = .ok (.dup, 1) := by
  show decode cX9_init 19 = _
  decide +kernel
theorem zd106_20 : decode (zcc 106) 20 = .ok (.invokespecial 18, 3) := by
  show decode cX9_init 20 = _
  decide +kernel
theorem zd106_23 : decode (zcc 106) 23 = .ok (.putfield 19, 3) := by
  show decode cX9_init 23 = _
  decide +kernel
theorem zd106_26 : decode (zcc 106) 26 = .ok (.aload_n 0, 1) := by
  show decode cX9_init 26 = _
  decide +kernel
theorem zd106_27 : decode (zcc 106) 27 = .ok (.new 23, 3) := by
  show decode cX9_init 27 = _
  decide +kernel
theorem zd106_30 : decode (zcc 106) 30 = .ok (.dup, 1) := by
  show decode cX9_init 30 = _
  decide +kernel
theorem zd106_31 : decode (zcc 106) 31 = .ok (.invokespecial 25, 3) := by
  show decode cX9_init 31 = _
  decide +kernel
theorem zd106_34 : decode (zcc 106) 34 = .ok (.putfield 26, 3) := by
  show decode cX9_init 34 = _
  decide +kernel
theorem zd106_37 : decode (zcc 106) 37 = .ok (.aload_n 0, 1) := by
  show decode cX9_init 37 = _
  decide +kernel
theorem zd106_38 : decode (zcc 106) 38 = .ok (.new 30, 3) := by
  show decode cX9_init 38 = _
  decide +kernel
theorem zd106_41 : decode (zcc 106) 41 = .ok (.dup, 1) := by
  show decode cX9_init 41 = _
  decide +kernel
theorem zd106_42 : decode (zcc 106) 42 = .ok (.aload_n 0, 1) := by
  show decode cX9_init 42 = _
  decide +kernel
theorem zd106_43 : decode (zcc 106) 43 = .ok (.getfield 19, 3) := by
  show decode cX9_init 43 = _
  decide +kernel
theorem zd106_46 : decode (zcc 106) 46 = .ok (.aload_n 0, 1) := by
  show decode cX9_init 46 = _
  decide +kernel
theorem zd106_47 : decode (zcc 106) 47 = .ok (.getfield 26, 3) := by
  show decode cX9_init 47 = _
  decide +kernel
theorem zd106_50 : decode (zcc 106) 50 = .ok (.invokespecial 32, 3) := by
  show decode cX9_init 50 = _
  decide +kernel
theorem zd106_53 : decode (zcc 106) 53 = .ok (.putfield 35, 3) := by
  show decode cX9_init 53 = _
  decide +kernel
theorem zd106_56 : decode (zcc 106) 56 = .ok (.aload_n 0, 1) := by
  show decode cX9_init 56 = _
  decide +kernel
theorem zd106_57 : decode (zcc 106) 57 = .ok (.new 39, 3) := by
  show decode cX9_init 57 = _
  decide +kernel
theorem zd106_60 : decode (zcc 106) 60 = .ok (.dup, 1) := by
  show decode cX9_init 60 = _
  decide +kernel
theorem zd106_61 : decode (zcc 106) 61 = .ok (.invokespecial 41, 3) := by
  show decode cX9_init 61 = _
  decide +kernel
theorem zd106_64 : decode (zcc 106) 64 = .ok (.putfield 42, 3) := by
  show decode cX9_init 64 = _
  decide +kernel
theorem zd106_67 : decode (zcc 106) 67 = .ok (.aload_n 0, 1) := by
  show decode cX9_init 67 = _
  decide +kernel
theorem zd106_68 : decode (zcc 106) 68 = .ok (.new 46, 3) := by
  show decode cX9_init 68 = _
  decide +kernel
theorem zd106_71 : decode (zcc 106) 71 = .ok (.dup, 1) := by
  show decode cX9_init 71 = _
  decide +kernel
theorem zd106_72 : decode (zcc 106) 72 = .ok (.aload_n 0, 1) := by
  show decode cX9_init 72 = _
  decide +kernel
theorem zd106_73 : decode (zcc 106) 73 = .ok (.getfield 19, 3) := by
  show decode cX9_init 73 = _
  decide +kernel
theorem zd106_76 : decode (zcc 106) 76 = .ok (.aload_n 0, 1) := by
  show decode cX9_init 76 = _
  decide +kernel
theorem zd106_77 : decode (zcc 106) 77 = .ok (.getfield 42, 3) := by
  show decode cX9_init 77 = _
  decide +kernel
theorem zd106_80 : decode (zcc 106) 80 = .ok (.invokespecial 48, 3) := by
  show decode cX9_init 80 = _
  decide +kernel
theorem zd106_83 : decode (zcc 106) 83 = .ok (.putfield 51, 3) := by
  show decode cX9_init 83 = _
  decide +kernel
theorem zd106_86 : decode (zcc 106) 86 = .ok (.aload_n 0, 1) := by
  show decode cX9_init 86 = _
  decide +kernel
theorem zd106_87 : decode (zcc 106) 87 = .ok (.new 55, 3) := by
  show decode cX9_init 87 = _
  decide +kernel
theorem zd106_90 : decode (zcc 106) 90 = .ok (.dup, 1) := by
  show decode cX9_init 90 = _
  decide +kernel
theorem zd106_91 : decode (zcc 106) 91 = .ok (.invokespecial 57, 3) := by
  show decode cX9_init 91 = _
  decide +kernel
theorem zd106_94 : decode (zcc 106) 94 = .ok (.putfield 58, 3) := by
  show decode cX9_init 94 = _
  decide +kernel
theorem zd106_97 : decode (zcc 106) 97 = .ok (.aload_n 0, 1) := by
  show decode cX9_init 97 = _
  decide +kernel
theorem zd106_98 : decode (zcc 106) 98 = .ok (.new 62, 3) := by
  show decode cX9_init 98 = _
  decide +kernel
theorem zd106_101 : decode (zcc 106) 101 = .ok (.dup, 1) := by
  show decode cX9_init 101 = _
  decide +kernel
theorem zd106_102 : decode (zcc 106) 102 = .ok (.aload_n 0, 1) := by
  show decode cX9_init 102 = _
  decide +kernel
theorem zd106_103 : decode (zcc 106) 103 = .ok (.getfield 42, 3) := by
  show decode cX9_init 103 = _
  decide +kernel
theorem zd106_106 : decode (zcc 106) 106 = .ok (.aload_n 0, 1) := by
  show decode cX9_init 106 = _
  decide +kernel
theorem zd106_107 : decode (zcc 106) 107 = .ok (.getfield 58, 3) := by
  show decode cX9_init 107 = _
  decide +kernel
theorem zd106_110 : decode (zcc 106) 110 = .ok (.new 64, 3) := by
  show decode cX9_init 110 = _
  decide +kernel
theorem zd106_113 : decode (zcc 106) 113 = .ok (.dup, 1) := by
  show decode cX9_init 113 = _
  decide +kernel
theorem zd106_114 : decode (zcc 106) 114 = .ok (.aload_n 0, 1) := by
  show decode cX9_init 114 = _
  decide +kernel
theorem zd106_115 : decode (zcc 106) 115 = .ok (.getfield 26, 3) := by
  show decode cX9_init 115 = _
  decide +kernel
theorem zd106_118 : decode (zcc 106) 118 = .ok (.aload_n 0, 1) := by
  show decode cX9_init 118 = _
  decide +kernel
theorem zd106_119 : decode (zcc 106) 119 = .ok (.getfield 42, 3) := by
  show decode cX9_init 119 = _
  decide +kernel
theorem zd106_122 : decode (zcc 106) 122 = .ok (.aload_n 0, 1) := by
  show decode cX9_init 122 = _
  decide +kernel
theorem zd106_123 : decode (zcc 106) 123 = .ok (.getfield 58, 3) := by
  show decode cX9_init 123 = _
  decide +kernel
theorem zd106_126 : decode (zcc 106) 126 = .ok (.invokespecial 66, 3) := by
  show decode cX9_init 126 = _
  decide +kernel
theorem zd106_129 : decode (zcc 106) 129 = .ok (.invokespecial 69, 3) := by
  show decode cX9_init 129 = _
  decide +kernel
theorem zd106_132 : decode (zcc 106) 132 = .ok (.putfield 72, 3) := by
  show decode cX9_init 132 = _
  decide +kernel
theorem zd106_135 : decode (zcc 106) 135 = .ok (.aload_n 0, 1) := by
  show decode cX9_init 135 = _
  decide +kernel
theorem zd106_136 : decode (zcc 106) 136 = .ok (.iconst (-1), 1) := by
  show decode cX9_init 136 = _
  decide +kernel
theorem zd106_137 : decode (zcc 106) 137 = .ok (.putfield 76, 3) := by
  show decode cX9_init 137 = _
  decide +kernel
theorem zd106_140 : decode (zcc 106) 140 = .ok (.return_, 1) := by
  show decode cX9_init 140 = _
  decide +kernel
theorem zol_9 : Cond.methodLink RX9 1 Lib.objectInit ∈ zAL := zmem1 31 (by decide +kernel) (by decide +kernel)
theorem zff_9_0 : zFf RX9 9 0 (.object "RuleStack$Tape") := ⟨_, _, _, rfl, rfl, rfl, by decide +kernel⟩
theorem zff_9_1 : zFf RX9 9 1 (.object "RuleStack$Tokens") := ⟨_, _, _, rfl, rfl, rfl, by decide +kernel⟩
theorem zff_9_2 : zFf RX9 9 2 (.object "RuleStack$Code") := ⟨_, _, _, rfl, rfl, rfl, by decide +kernel⟩
theorem zff_9_3 : zFf RX9 9 3 (.object "RuleStack$Form") := ⟨_, _, _, rfl, rfl, rfl, by decide +kernel⟩
theorem zff_9_4 : zFf RX9 9 4 (.object "RuleStack$Program") := ⟨_, _, _, rfl, rfl, rfl, by decide +kernel⟩
theorem zff_9_5 : zFf RX9 9 5 (.object "RuleStack$Meaning") := ⟨_, _, _, rfl, rfl, rfl, by decide +kernel⟩
theorem zff_9_6 : zFf RX9 9 6 (.object "RuleStack$Table") := ⟨_, _, _, rfl, rfl, rfl, by decide +kernel⟩
theorem zff_9_7 : zFf RX9 9 7 (.object "RuleStack$Game") := ⟨_, _, _, rfl, rfl, rfl, by decide +kernel⟩
def kTp (ca : Nat → Nat) (o a1 : Nat) : va_W := [(o, .inr (7, [.ref a1, .int 0])), (a1, .inl (ca 3, zZr 3 2000))]
def kCd (ca : Nat → Nat) (o a1 a2 : Nat) : va_W := [(o, .inr (0, [.ref a1, .ref a2, .int 0])), (a1, .inl (ca 0, zZr 0 450)), (a2, .inl (ca 0, zZr 0 450))]
def kFm (ca : Nat → Nat) (o b1 b2 : Nat) : va_W := [(o, .inr (1, [.ref b1, .ref b2, .int 0, .int 0]))]
def kPr (ca : Nat → Nat) (o a1 a2 a3 a4 a5 a6 : Nat) : va_W := [(o, .inr (5, [.ref a1, .ref a2, .ref a3, .ref a4, .ref a5, .ref a6, .int 0, .int 0])), (a1, .inl (ca 0, zZr 0 7)), (a2, .inl (ca 0, zZr 0 36)), (a3, .inl (ca 0, zZr 0 6)), (a4, .inl (ca 0, zZr 0 8)), (a5, .inl (ca 0, zZr 0 28)), (a6, .inl (ca 0, zZr 0 28))]
def kMn (ca : Nat → Nat) (o b1 b2 : Nat) : va_W := [(o, .inr (4, [.ref b1, .ref b2, .int 0, .int 0, .int 0, .int 0, .int 0, .int 0]))]
def kTb (ca : Nat → Nat) (o a1 a2 : Nat) : va_W := [(o, .inr (6, [.ref a1, .ref a2, .int 0, .int 0, .int 0, .int 0, .int 0, .int 0, .int 0, .long 0])), (a1, .inl (ca 0, zZr 0 30)), (a2, .inl (ca 0, zZr 0 40))]
def kMa (ca : Nat → Nat) (o b1 b2 b3 a1 a2 : Nat) : va_W := [(o, .inr (3, [.ref b1, .ref b2, .ref b3, .ref a1, .ref a2, .int 0, .int 0, .int 0, .int 0])), (a1, .inl (ca 1, zZr 1 64)), (a2, .inl (ca 0, zZr 0 4))]
def kGm (ca : Nat → Nat) (o b1 b2 b3 a1 : Nat) : va_W := [(o, .inr (2, [.ref b1, .ref b2, .ref b3, .ref a1, .int 0, .int (-1), .int 0, .int 0, .int 0, .long 0])), (a1, .inl (ca 0, zZr 0 1000))]
def wsC (ca : Nat → Nat) (f : Nat → Int64) (q o1 o2 o3 o4 o5 o6 o7 o8 o9 t1 u1 u2 u3 u4 c1 c2 p1 p2 p3 p4 p5 p6 b1 b2 m1 m2 g1 : Nat) : va_W := (q, .inr (9, [.ref o1, .ref o2, .ref o3, .ref o4, .ref o5, .ref o6, .ref o7, .ref o8, .int (-1)])) :: ((((((((([] ++ kTp ca o1 t1) ++ wsT ca o2 u1 u2 u3 u4 f) ++ kCd ca o3 c1 c2) ++ kFm ca o4 o2 o3) ++ kPr ca o5 p1 p2 p3 p4 p5 p6) ++ kMn ca o6 o2 o5) ++ kTb ca o7 b1 b2) ++ kMa ca o9 o3 o5 o7 m1 m2) ++ kGm ca o8 o5 o7 o9 g1)
set_option maxHeartbeats 1000000 in
theorem kc_106 {l : Launch} {G : va_G} {ad ca : Nat → Nat} {q sz : Nat} : vx_Met l (zym 106) (zws 106) { frames := 16, cells := 27, slots := 5595, locals := 530 } (zPx G ad ca 9 [.null, .null, .null, .null, .null, .null, .null, .null, .int 0] q sz []) (zQo q sz (fun H => ∃ o1 o2 o3 o4 o5 o6 o7 o8 o9 t1 u1 u2 u3 u4 c1 c2 p1 p2 p3 p4 p5 p6 b1 b2 m1 m2 g1 : Nat, va_P G vwCl (wsC ca (tkN 148).2 q o1 o2 o3 o4 o5 o6 o7 o8 o9 t1 u1 u2 u3 u4 c1 c2 p1 p2 p3 p4 p5 p6 b1 b2 m1 m2 g1) H ∧ va_D (zFq q sz) (wsC ca (tkN 148).2 q o1 o2 o3 o4 o5 o6 o7 o8 o9 t1 u1 u2 u3 u4 c1 c2 p1 p2 p3 p4 p5 p6 b1 b2 m1 m2 g1))) zNo 27 5595 (zFq q sz) := by
  refine vx_ofW (cc := zcc 106) (maxL := 1) (ret := none) (by decide) rfl ?_
  intro p e s m args below meth c s₁ B hml ht hv
  obtain ⟨rfl, hsz, hq, hP, hK, hEX⟩ := hv
  subst hsz
  have hts := atoms_spec (ws := zws 106) B.pre
  have hts2 : ∀ w ∈ zAL, w.before [Value.ref q].toArray s = true := fun w hw => hts w (List.mem_cons_of_mem _ hw)
  have hown : s.vm.findClass RX9 = some m.cls := findClass_of_methodNamed B.named
  have hin : meth.name = "<init>" := (name_of_methodNamed B.named B.method).1
  have hx := B.exec
  have hb := B.bytes
  have hA : ∀ x : Nat, s.heap.size ≤ x → zFq q s.heap.size x := fun x h => Or.inr h
  have hlv := lv_entry [Value.ref q] (n := 1) (by show 1 ≤ 1; omega)
  rw [lg_entry_eq]
  generalize (lg_sl [Value.ref q] ++ List.replicate (1 - (lg_sl [Value.ref q]).length) Slot.unset).toArray = ls at hlv ⊢
  have l0 := hlv.2.2 (0, .ref q) List.mem_cons_self
  have hml2 : ls.size = c.maxLocals := hlv.1.trans hml.symm
  refine lv_aload_n (i := 0) (x := q) hx hb zd106_0 rfl l0 ?_
  refine W.objInit hx hb hown (hts2 _ zol_9) (hts2 _ zoi_1) (hts2 _ zoi_2) rfl hml2 rfl zd106_1 (by show 1 ≤ 16; omega) (by show 2 * 0 + 0 + 12 ≤ 530; omega) ?_
  refine W.eq (g2 := F0 m 4 ls []) rfl ?_
  have hP0 : va_P G vwCl ((q, .inr (9, [.null, .null, .null, .null, .null, .null, .null, .null, .int 0])) :: []) s.heap := hP
  have hD0 : va_D (zFq q s.heap.size) ((q, .inr (9, [.null, .null, .null, .null, .null, .null, .null, .null, .int 0])) :: []) := zD1
  have hS0 : va_S (zFq q s.heap.size) s.heap s.heap [] := va_S.rf
  refine z_part (A := zFq q s.heap.size) (G := G) (ca := ca) (k := 0) (pc2 := 9) (df := [.null, .int 0]) (As := []) (Pc := fun o sz => zPo G ca 7 [.null, .int 0] o sz []) (rs := fun O L => ∃ t1 : Nat, L = kTp ca O t1) (fun o sz => kc_88) (fun o sz => zPo_blind) ⟨rfl, rfl⟩ ⟨rfl, rfl⟩ hx hb hml2 hown hin hts2 hK hP0 hD0 hS0 hA l0 zcl_7 zcn_88 zdv_7 zcw_88 rfl (by decide) zcd_88 (by show _ ≤ 16; decide) (by show _ ≤ 530; decide) (by show 0 + 1 + 1 ≤ 27; omega) (by show 0 + 2 + 2000 ≤ 5595; omega) zf_9_10 zff_9_0 (by decide) (by show 0 < 9; omega) zd106_4 zd106_5 zd106_8 (fun o H9 c9 s9 hP9 k9 => k9) zd106_9 zd106_12 (fun o H9 hP9 _ _ U hU hW => z_preo hK hP9 hU hW) (fun o sz H9 h => by
    obtain ⟨t1, h1, h2⟩ := h
    exact ⟨_, ⟨t1, rfl⟩, h1, h2⟩) (fun o1 L1 H1 locs1 hr1 hP1 hD1 hS1 => ?_)
  obtain ⟨t1, rfl⟩ := hr1
  replace hP1 : va_P G vwCl ((q, .inr (9, [.ref o1, .null, .null, .null, .null, .null, .null, .null, .int 0])) :: ([] ++ kTp ca o1 t1)) H1 := hP1
  replace hD1 : va_D (zFq q s.heap.size) ((q, .inr (9, [.ref o1, .null, .null, .null, .null, .null, .null, .null, .int 0])) :: ([] ++ kTp ca o1 t1)) := hD1
  clear hP0 hD0 hS0
  refine z_part (A := zFq q s.heap.size) (G := G) (ca := ca) (k := 1) (pc2 := 20) (df := [.null, .null, .null, .null, .int 0]) (As := []) (Pc := fun o sz => zPx G ad ca 8 [.null, .null, .null, .null, .int 0] o sz []) (rs := fun O L => ∃ u1 u2 u3 u4 : Nat, L = wsT ca O u1 u2 u3 u4 (tkN 148).2) (fun o sz => kc_91) (fun o sz => zPx_blind) ⟨rfl, rfl⟩ ⟨rfl, rfl⟩ hx hb hml2 hown hin hts2 hK hP1 hD1 hS1 hA l0 zcl_8 zcn_91 zdv_8 zcw_91 rfl (by decide) zcd_91 (by show _ ≤ 16; decide) (by show _ ≤ 530; decide) (by show 2 + 1 + 4 ≤ 27; omega) (by show 2002 + 5 + 1385 ≤ 5595; omega) zf_9_19 zff_9_1 (by decide) (by show 1 < 9; omega) zd106_15 zd106_16 zd106_19 (fun o H9 c9 s9 hP9 k9 => k9) zd106_20 zd106_23 (fun o H9 hP9 hS9 ho9 U hU hW => z_prex (A := zFq q s.heap.size) hK hEX hS9 (fun y hy9 => hy9.elim (fun h => by rw [h]; exact ho9) (fun h => Or.inr (Nat.le_trans hS9.1 h))) hP9 hU hW) (fun o sz H9 h => by
    obtain ⟨u1, u2, u3, u4, h1, h2⟩ := h
    exact ⟨_, ⟨u1, u2, u3, u4, rfl⟩, h1, h2⟩) (fun o2 L2 H2 locs2 hr2 hP2 hD2 hS2 => ?_)
  obtain ⟨u1, u2, u3, u4, rfl⟩ := hr2
  replace hP2 : va_P G vwCl ((q, .inr (9, [.ref o1, .ref o2, .null, .null, .null, .null, .null, .null, .int 0])) :: (([] ++ kTp ca o1 t1) ++ wsT ca o2 u1 u2 u3 u4 (tkN 148).2)) H2 := hP2
  replace hD2 : va_D (zFq q s.heap.size) ((q, .inr (9, [.ref o1, .ref o2, .null, .null, .null, .null, .null, .null, .int 0])) :: (([] ++ kTp ca o1 t1) ++ wsT ca o2 u1 u2 u3 u4 (tkN 148).2)) := hD2
  clear hP1 hD1 hS1
  refine z_part (A := zFq q s.heap.size) (G := G) (ca := ca) (k := 2) (pc2 := 31) (df := [.null, .null, .int 0]) (As := []) (Pc := fun o sz => zPo G ca 0 [.null, .null, .int 0] o sz []) (rs := fun O L => ∃ c1 c2 : Nat, L = kCd ca O c1 c2) (fun o sz => kc_0) (fun o sz => zPo_blind) ⟨rfl, rfl⟩ ⟨rfl, rfl⟩ hx hb hml2 hown hin hts2 hK hP2 hD2 hS2 hA l0 zcl_0 zcn_0 zdv_0 zcw_0 rfl (by decide) zcd_0 (by show _ ≤ 16; decide) (by show _ ≤ 530; decide) (by show 7 + 1 + 2 ≤ 27; omega) (by show 3392 + 3 + 900 ≤ 5595; omega) zf_9_26 zff_9_2 (by decide) (by show 2 < 9; omega) zd106_26 zd106_27 zd106_30 (fun o H9 c9 s9 hP9 k9 => k9) zd106_31 zd106_34 (fun o H9 hP9 _ _ U hU hW => z_preo hK hP9 hU hW) (fun o sz H9 h => by
    obtain ⟨c1, c2, h1, h2⟩ := h
    exact ⟨_, ⟨c1, c2, rfl⟩, h1, h2⟩) (fun o3 L3 H3 locs3 hr3 hP3 hD3 hS3 => ?_)
  obtain ⟨c1, c2, rfl⟩ := hr3
  replace hP3 : va_P G vwCl ((q, .inr (9, [.ref o1, .ref o2, .ref o3, .null, .null, .null, .null, .null, .int 0])) :: ((([] ++ kTp ca o1 t1) ++ wsT ca o2 u1 u2 u3 u4 (tkN 148).2) ++ kCd ca o3 c1 c2)) H3 := hP3
  replace hD3 : va_D (zFq q s.heap.size) ((q, .inr (9, [.ref o1, .ref o2, .ref o3, .null, .null, .null, .null, .null, .int 0])) :: ((([] ++ kTp ca o1 t1) ++ wsT ca o2 u1 u2 u3 u4 (tkN 148).2) ++ kCd ca o3 c1 c2)) := hD3
  clear hP2 hD2 hS2
  refine z_part (A := zFq q s.heap.size) (G := G) (ca := ca) (k := 3) (pc2 := 50) (df := [.null, .null, .int 0, .int 0]) (As := [.ref o2, .ref o3]) (Pc := fun o sz => zPo G ca 1 [.null, .null, .int 0, .int 0] o sz [.ref o2, .ref o3]) (rs := fun O L => L = kFm ca O o2 o3) (fun o sz => kc_6) (fun o sz => zPo_blind) ⟨rfl, rfl⟩ ⟨rfl, rfl⟩ hx hb hml2 hown hin hts2 hK hP3 hD3 hS3 hA l0 zcl_1 zcn_6 zdv_1 zcw_6 rfl (by decide) zcd_6 (by show _ ≤ 16; decide) (by show _ ≤ 530; decide) (by show 10 + 1 + 0 ≤ 27; omega) (by show 4295 + 4 + 0 ≤ 5595; omega) zf_9_35 zff_9_3 (by decide) (by show 3 < 9; omega) zd106_37 zd106_38 zd106_41 (fun o H9 c9 s9 hP9 k9 => by
    refine z_getP hx hb hts2 hown hK hP9 (by decide) zf_9_19 rfl l0 zd106_42 zd106_43 ?_
    refine z_getP hx hb hts2 hown hK hP9 (by decide) zf_9_26 rfl l0 zd106_46 zd106_47 ?_
    exact k9) zd106_50 zd106_53 (fun o H9 hP9 _ _ U hU hW => z_preo hK hP9 hU hW) (fun o sz H9 h => ⟨_, rfl, h.1, h.2⟩) (fun o4 L4 H4 locs4 hr4 hP4 hD4 hS4 => ?_)
  subst hr4
  replace hP4 : va_P G vwCl ((q, .inr (9, [.ref o1, .ref o2, .ref o3, .ref o4, .null, .null, .null, .null, .int 0])) :: (((([] ++ kTp ca o1 t1) ++ wsT ca o2 u1 u2 u3 u4 (tkN 148).2) ++ kCd ca o3 c1 c2) ++ kFm ca o4 o2 o3)) H4 := hP4
  replace hD4 : va_D (zFq q s.heap.size) ((q, .inr (9, [.ref o1, .ref o2, .ref o3, .ref o4, .null, .null, .null, .null, .int 0])) :: (((([] ++ kTp ca o1 t1) ++ wsT ca o2 u1 u2 u3 u4 (tkN 148).2) ++ kCd ca o3 c1 c2) ++ kFm ca o4 o2 o3)) := hD4
  clear hP3 hD3 hS3
  refine z_part (A := zFq q s.heap.size) (G := G) (ca := ca) (k := 4) (pc2 := 61) (df := [.null, .null, .null, .null, .null, .null, .int 0, .int 0]) (As := []) (Pc := fun o sz => zPo G ca 5 [.null, .null, .null, .null, .null, .null, .int 0, .int 0] o sz []) (rs := fun O L => ∃ p1 p2 p3 p4 p5 p6 : Nat, L = kPr ca O p1 p2 p3 p4 p5 p6) (fun o sz => kc_73) (fun o sz => zPo_blind) ⟨rfl, rfl⟩ ⟨rfl, rfl⟩ hx hb hml2 hown hin hts2 hK hP4 hD4 hS4 hA l0 zcl_5 zcn_73 zdv_5 zcw_73 rfl (by decide) zcd_73 (by show _ ≤ 16; decide) (by show _ ≤ 530; decide) (by show 11 + 1 + 6 ≤ 27; omega) (by show 4299 + 8 + 113 ≤ 5595; omega) zf_9_42 zff_9_4 (by decide) (by show 4 < 9; omega) zd106_56 zd106_57 zd106_60 (fun o H9 c9 s9 hP9 k9 => k9) zd106_61 zd106_64 (fun o H9 hP9 _ _ U hU hW => z_preo hK hP9 hU hW) (fun o sz H9 h => by
    obtain ⟨p1, p2, p3, p4, p5, p6, h1, h2⟩ := h
    exact ⟨_, ⟨p1, p2, p3, p4, p5, p6, rfl⟩, h1, h2⟩) (fun o5 L5 H5 locs5 hr5 hP5 hD5 hS5 => ?_)
  obtain ⟨p1, p2, p3, p4, p5, p6, rfl⟩ := hr5
  replace hP5 : va_P G vwCl ((q, .inr (9, [.ref o1, .ref o2, .ref o3, .ref o4, .ref o5, .null, .null, .null, .int 0])) :: ((((([] ++ kTp ca o1 t1) ++ wsT ca o2 u1 u2 u3 u4 (tkN 148).2) ++ kCd ca o3 c1 c2) ++ kFm ca o4 o2 o3) ++ kPr ca o5 p1 p2 p3 p4 p5 p6)) H5 := hP5
  replace hD5 : va_D (zFq q s.heap.size) ((q, .inr (9, [.ref o1, .ref o2, .ref o3, .ref o4, .ref o5, .null, .null, .null, .int 0])) :: ((((([] ++ kTp ca o1 t1) ++ wsT ca o2 u1 u2 u3 u4 (tkN 148).2) ++ kCd ca o3 c1 c2) ++ kFm ca o4 o2 o3) ++ kPr ca o5 p1 p2 p3 p4 p5 p6)) := hD5
  clear hP4 hD4 hS4
  refine z_part (A := zFq q s.heap.size) (G := G) (ca := ca) (k := 5) (pc2 := 80) (df := [.null, .null, .int 0, .int 0, .int 0, .int 0, .int 0, .int 0]) (As := [.ref o2, .ref o5]) (Pc := fun o sz => zPo G ca 4 [.null, .null, .int 0, .int 0, .int 0, .int 0, .int 0, .int 0] o sz [.ref o2, .ref o5]) (rs := fun O L => L = kMn ca O o2 o5) (fun o sz => kc_59) (fun o sz => zPo_blind) ⟨rfl, rfl⟩ ⟨rfl, rfl⟩ hx hb hml2 hown hin hts2 hK hP5 hD5 hS5 hA l0 zcl_4 zcn_59 zdv_4 zcw_59 rfl (by decide) zcd_59 (by show _ ≤ 16; decide) (by show _ ≤ 530; decide) (by show 18 + 1 + 0 ≤ 27; omega) (by show 4420 + 8 + 0 ≤ 5595; omega) zf_9_51 zff_9_5 (by decide) (by show 5 < 9; omega) zd106_67 zd106_68 zd106_71 (fun o H9 c9 s9 hP9 k9 => by
    refine z_getP hx hb hts2 hown hK hP9 (by decide) zf_9_19 rfl l0 zd106_72 zd106_73 ?_
    refine z_getP hx hb hts2 hown hK hP9 (by decide) zf_9_42 rfl l0 zd106_76 zd106_77 ?_
    exact k9) zd106_80 zd106_83 (fun o H9 hP9 _ _ U hU hW => z_preo hK hP9 hU hW) (fun o sz H9 h => ⟨_, rfl, h.1, h.2⟩) (fun o6 L6 H6 locs6 hr6 hP6 hD6 hS6 => ?_)
  subst hr6
  replace hP6 : va_P G vwCl ((q, .inr (9, [.ref o1, .ref o2, .ref o3, .ref o4, .ref o5, .ref o6, .null, .null, .int 0])) :: (((((([] ++ kTp ca o1 t1) ++ wsT ca o2 u1 u2 u3 u4 (tkN 148).2) ++ kCd ca o3 c1 c2) ++ kFm ca o4 o2 o3) ++ kPr ca o5 p1 p2 p3 p4 p5 p6) ++ kMn ca o6 o2 o5)) H6 := hP6
  replace hD6 : va_D (zFq q s.heap.size) ((q, .inr (9, [.ref o1, .ref o2, .ref o3, .ref o4, .ref o5, .ref o6, .null, .null, .int 0])) :: (((((([] ++ kTp ca o1 t1) ++ wsT ca o2 u1 u2 u3 u4 (tkN 148).2) ++ kCd ca o3 c1 c2) ++ kFm ca o4 o2 o3) ++ kPr ca o5 p1 p2 p3 p4 p5 p6) ++ kMn ca o6 o2 o5)) := hD6
  clear hP5 hD5 hS5
  refine z_part (A := zFq q s.heap.size) (G := G) (ca := ca) (k := 6) (pc2 := 91) (df := [.null, .null, .int 0, .int 0, .int 0, .int 0, .int 0, .int 0, .int 0, .long 0]) (As := []) (Pc := fun o sz => zPo G ca 6 [.null, .null, .int 0, .int 0, .int 0, .int 0, .int 0, .int 0, .int 0, .long 0] o sz []) (rs := fun O L => ∃ b1 b2 : Nat, L = kTb ca O b1 b2) (fun o sz => kc_82) (fun o sz => zPo_blind) ⟨rfl, rfl⟩ ⟨rfl, rfl⟩ hx hb hml2 hown hin hts2 hK hP6 hD6 hS6 hA l0 zcl_6 zcn_82 zdv_6 zcw_82 rfl (by decide) zcd_82 (by show _ ≤ 16; decide) (by show _ ≤ 530; decide) (by show 19 + 1 + 2 ≤ 27; omega) (by show 4428 + 10 + 70 ≤ 5595; omega) zf_9_58 zff_9_6 (by decide) (by show 6 < 9; omega) zd106_86 zd106_87 zd106_90 (fun o H9 c9 s9 hP9 k9 => k9) zd106_91 zd106_94 (fun o H9 hP9 _ _ U hU hW => z_preo hK hP9 hU hW) (fun o sz H9 h => by
    obtain ⟨b1, b2, h1, h2⟩ := h
    exact ⟨_, ⟨b1, b2, rfl⟩, h1, h2⟩) (fun o7 L7 H7 locs7 hr7 hP7 hD7 hS7 => ?_)
  obtain ⟨b1, b2, rfl⟩ := hr7
  replace hP7 : va_P G vwCl ((q, .inr (9, [.ref o1, .ref o2, .ref o3, .ref o4, .ref o5, .ref o6, .ref o7, .null, .int 0])) :: ((((((([] ++ kTp ca o1 t1) ++ wsT ca o2 u1 u2 u3 u4 (tkN 148).2) ++ kCd ca o3 c1 c2) ++ kFm ca o4 o2 o3) ++ kPr ca o5 p1 p2 p3 p4 p5 p6) ++ kMn ca o6 o2 o5) ++ kTb ca o7 b1 b2)) H7 := hP7
  replace hD7 : va_D (zFq q s.heap.size) ((q, .inr (9, [.ref o1, .ref o2, .ref o3, .ref o4, .ref o5, .ref o6, .ref o7, .null, .int 0])) :: ((((((([] ++ kTp ca o1 t1) ++ wsT ca o2 u1 u2 u3 u4 (tkN 148).2) ++ kCd ca o3 c1 c2) ++ kFm ca o4 o2 o3) ++ kPr ca o5 p1 p2 p3 p4 p5 p6) ++ kMn ca o6 o2 o5) ++ kTb ca o7 b1 b2)) := hD7
  clear hP6 hD6 hS6
  refine lv_aload_n (i := 0) (x := q) hx hb zd106_97 rfl l0 ?_
  refine z_newP (A := zFq q s.heap.size) (fs := [.null, .null, .null, .null, .int 0, .int 0, .int 0, .int 0, .int 0, .long 0]) zcl_2 zcn_26 zdv_2 hx hb hts2 hown hK hP7 hD7 hS7 hA (by show 22 + 1 ≤ 27; omega) (by show 4508 + 10 ≤ 5595; omega) zd106_98 (fun o8 H8 hP8 hD8 hS8 => ?_)
  refine lv_dup hx hb zd106_101 rfl ?_
  refine z_getP hx hb hts2 hown hK hP8 (by decide) zf_9_42 rfl l0 zd106_102 zd106_103 ?_
  refine z_getP hx hb hts2 hown hK hP8 (by decide) zf_9_58 rfl l0 zd106_106 zd106_107 ?_
  refine z_newP (A := zFq q s.heap.size) (fs := [.null, .null, .null, .null, .null, .int 0, .int 0, .int 0, .int 0]) zcl_3 zcn_42 zdv_3 hx hb hts2 hown hK hP8 hD8 hS8 hA (by show 23 + 1 ≤ 27; omega) (by show 4518 + 9 ≤ 5595; omega) zd106_110 (fun o9 H9 hP9 hD9 hS9 => ?_)
  refine lv_dup hx hb zd106_113 rfl ?_
  refine z_getP hx hb hts2 hown hK hP9 (by decide) zf_9_26 rfl l0 zd106_114 zd106_115 ?_
  refine z_getP hx hb hts2 hown hK hP9 (by decide) zf_9_42 rfl l0 zd106_118 zd106_119 ?_
  refine z_getP hx hb hts2 hown hK hP9 (by decide) zf_9_58 rfl l0 zd106_122 zd106_123 ?_
  have ho9 : zFq q s.heap.size o9 := hD9.2 _ _ (zat_end _ _)
  have hA9 : ∀ y, zFq o9 H9.size y → zFq q s.heap.size y := fun y hy9 => hy9.elim (fun h => by rw [h]; exact ho9) (fun h => Or.inr (Nat.le_trans hS9.1 h))
  refine z_callC (A := zFq q s.heap.size) (As := [.ref o3, .ref o5, .ref o7]) (kc_42 (G := G) (ca := ca) (b1 := o3) (b2 := o5) (b3 := o7)) zPo_blind ⟨rfl, rfl⟩ ⟨rfl, rfl⟩ hx hb hml2 hown hts2 hS9 ho9 hA zcw_42 rfl (by decide) zcd_42 (by show _ ≤ 16; decide) (by show _ ≤ 530; decide) (by show 24 + 2 ≤ 27; omega) (by show 4527 + 68 ≤ 5595; omega) (by show (1 + (1 + (1 + (1 + (1 + (1 + 0)))))) ≤ 8; omega) zd106_126 (fun U hU hW => z_preo hK hP9 hU hW) (fun H10 locs10 hr10 hS10 hk10 => ?_)
  obtain ⟨m1, m2, hr1, hr2⟩ := hr10
  obtain ⟨hP10, hD10⟩ := z_join hP9 hD9 hA9 hk10 hr1 hr2
  have ho8 : zFq q s.heap.size o8 := hD8.2 _ _ (zat_end _ _)
  have hA10 : ∀ y, zFq o8 H10.size y → zFq q s.heap.size y := fun y hy9 => hy9.elim (fun h => by rw [h]; exact ho8) (fun h => Or.inr (Nat.le_trans hS10.1 h))
  replace hP10 : va_P G vwCl ((((q, .inr (9, [.ref o1, .ref o2, .ref o3, .ref o4, .ref o5, .ref o6, .ref o7, .null, .int 0])) :: ((((((([] ++ kTp ca o1 t1) ++ wsT ca o2 u1 u2 u3 u4 (tkN 148).2) ++ kCd ca o3 c1 c2) ++ kFm ca o4 o2 o3) ++ kPr ca o5 p1 p2 p3 p4 p5 p6) ++ kMn ca o6 o2 o5) ++ kTb ca o7 b1 b2)) ++ [(o8, .inr (2, [.null, .null, .null, .null, .int 0, .int 0, .int 0, .int 0, .int 0, .long 0]))]) ++ kMa ca o9 o3 o5 o7 m1 m2) H10 := hP10
  replace hD10 : va_D (zFq q s.heap.size) ((((q, .inr (9, [.ref o1, .ref o2, .ref o3, .ref o4, .ref o5, .ref o6, .ref o7, .null, .int 0])) :: ((((((([] ++ kTp ca o1 t1) ++ wsT ca o2 u1 u2 u3 u4 (tkN 148).2) ++ kCd ca o3 c1 c2) ++ kFm ca o4 o2 o3) ++ kPr ca o5 p1 p2 p3 p4 p5 p6) ++ kMn ca o6 o2 o5) ++ kTb ca o7 b1 b2)) ++ [(o8, .inr (2, [.null, .null, .null, .null, .int 0, .int 0, .int 0, .int 0, .int 0, .long 0]))]) ++ kMa ca o9 o3 o5 o7 m1 m2) := hD10
  have hz8 : ((((q, .inr (9, [.ref o1, .ref o2, .ref o3, .ref o4, .ref o5, .ref o6, .ref o7, .null, .int 0])) :: ((((((([] ++ kTp ca o1 t1) ++ wsT ca o2 u1 u2 u3 u4 (tkN 148).2) ++ kCd ca o3 c1 c2) ++ kFm ca o4 o2 o3) ++ kPr ca o5 p1 p2 p3 p4 p5 p6) ++ kMn ca o6 o2 o5) ++ kTb ca o7 b1 b2)) ++ [(o8, (.inr (2, [.null, .null, .null, .null, .int 0, .int 0, .int 0, .int 0, .int 0, .long 0]) : va_E))]) ++ kMa ca o9 o3 o5 o7 m1 m2)[(((q, .inr (9, [.ref o1, .ref o2, .ref o3, .ref o4, .ref o5, .ref o6, .ref o7, .null, .int 0])) :: ((((((([] ++ kTp ca o1 t1) ++ wsT ca o2 u1 u2 u3 u4 (tkN 148).2) ++ kCd ca o3 c1 c2) ++ kFm ca o4 o2 o3) ++ kPr ca o5 p1 p2 p3 p4 p5 p6) ++ kMn ca o6 o2 o5) ++ kTb ca o7 b1 b2))).length]? = some (o8, .inr (2, [.null, .null, .null, .null, .int 0, .int 0, .int 0, .int 0, .int 0, .long 0])) := zat_app (zat_end _ _)
  have hpr8 : ∀ U : State, U.heap = H10 → s.WarmedH U.vm → zPo G ca 2 [.null, .null, .null, .null, .int 0, .int 0, .int 0, .int 0, .int 0, .long 0] o8 H10.size [.ref o5, .ref o7, .ref o9] (.ref o8 :: [.ref o5, .ref o7, .ref o9]).toArray U := by
    intro U hU hW
    have h2 := hP10 _ _ hz8
    refine ⟨rfl, by rw [hU], h2.lt, ?_, va_K.moved hW.alike hK⟩
    rw [hU]
    intro k y hy
    cases k with
    | zero => cases hy; exact h2
    | succ k => cases hy
  refine z_callC (A := zFq q s.heap.size) (As := [.ref o5, .ref o7, .ref o9]) (kc_26 (G := G) (ca := ca) (b1 := o5) (b2 := o7) (b3 := o9)) zPo_blind ⟨rfl, rfl⟩ ⟨rfl, rfl⟩ hx hb hml2 hown hts2 hS10 ho8 hA zcw_26 rfl (by decide) zcd_26 (by show _ ≤ 16; decide) (by show _ ≤ 530; decide) (by show 26 + 1 ≤ 27; omega) (by show 4595 + 1000 ≤ 5595; omega) (by show (1 + (1 + 0)) ≤ 8; omega) zd106_129 hpr8 (fun H11 locs11 hr11 hS11 hk11 => ?_)
  obtain ⟨g1, hr3, hr4⟩ := hr11
  obtain ⟨hP11, hD11⟩ := z_joinm hP10 hD10 hA10 hk11 hr3 hr4
  replace hP11 : va_P G vwCl ((q, .inr (9, [.ref o1, .ref o2, .ref o3, .ref o4, .ref o5, .ref o6, .ref o7, .null, .int 0])) :: ((((((((([] ++ kTp ca o1 t1) ++ wsT ca o2 u1 u2 u3 u4 (tkN 148).2) ++ kCd ca o3 c1 c2) ++ kFm ca o4 o2 o3) ++ kPr ca o5 p1 p2 p3 p4 p5 p6) ++ kMn ca o6 o2 o5) ++ kTb ca o7 b1 b2) ++ kMa ca o9 o3 o5 o7 m1 m2) ++ kGm ca o8 o5 o7 o9 g1)) H11 := hP11
  replace hD11 : va_D (zFq q s.heap.size) ((q, .inr (9, [.ref o1, .ref o2, .ref o3, .ref o4, .ref o5, .ref o6, .ref o7, .null, .int 0])) :: ((((((((([] ++ kTp ca o1 t1) ++ wsT ca o2 u1 u2 u3 u4 (tkN 148).2) ++ kCd ca o3 c1 c2) ++ kFm ca o4 o2 o3) ++ kPr ca o5 p1 p2 p3 p4 p5 p6) ++ kMn ca o6 o2 o5) ++ kTb ca o7 b1 b2) ++ kMa ca o9 o3 o5 o7 m1 m2) ++ kGm ca o8 o5 o7 o9 g1)) := hD11
  refine z_pF (k := 7) hx hb hts2 hown hin hK hP11 hD11 hS11 0 rfl zf_9_72 zff_9_7 (by decide) rfl rfl (by show 7 < 9; omega) zd106_132 (fun H12 locs12 hP12 hD12 hS12 => ?_)
  replace hP12 : va_P G vwCl ((q, .inr (9, [.ref o1, .ref o2, .ref o3, .ref o4, .ref o5, .ref o6, .ref o7, .ref o8, .int 0])) :: ((((((((([] ++ kTp ca o1 t1) ++ wsT ca o2 u1 u2 u3 u4 (tkN 148).2) ++ kCd ca o3 c1 c2) ++ kFm ca o4 o2 o3) ++ kPr ca o5 p1 p2 p3 p4 p5 p6) ++ kMn ca o6 o2 o5) ++ kTb ca o7 b1 b2) ++ kMa ca o9 o3 o5 o7 m1 m2) ++ kGm ca o8 o5 o7 o9 g1)) H12 := hP12
  replace hD12 : va_D (zFq q s.heap.size) ((q, .inr (9, [.ref o1, .ref o2, .ref o3, .ref o4, .ref o5, .ref o6, .ref o7, .ref o8, .int 0])) :: ((((((((([] ++ kTp ca o1 t1) ++ wsT ca o2 u1 u2 u3 u4 (tkN 148).2) ++ kCd ca o3 c1 c2) ++ kFm ca o4 o2 o3) ++ kPr ca o5 p1 p2 p3 p4 p5 p6) ++ kMn ca o6 o2 o5) ++ kTb ca o7 b1 b2) ++ kMa ca o9 o3 o5 o7 m1 m2) ++ kGm ca o8 o5 o7 o9 g1)) := hD12
  refine z_segi (k := 8) (v := -1) hx hb hts2 hown hK hP12 hD12 hS12 l0 (pc2 := 137) zf_9_76 zp_9_8 (by decide) (by show 8 < 9; omega) zd106_135 (fun st k => lv_iconst (v := -1) hx hb zd106_136 (show Int32.ofInt (-1) = -1 from rfl) k) zd106_137 (fun H13 locs13 hP13 hD13 hS13 => ?_)
  refine W.widen (Nat.le_refl _) (Nat.le_refl _) (vx_ret ?_)
  exact W.vret hx hb B.returns (fun t ht9 _ => ⟨rfl, ⟨o1, o2, o3, o4, o5, o6, o7, o8, o9, t1, u1, u2, u3, u4, c1, c2, p1, p2, p3, p4, p5, p6, b1, b2, m1, m2, g1, by rw [ht9]; exact hP13, hD13⟩, hS13.F ht9⟩) hS13.2.2 zd106_140

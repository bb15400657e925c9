/-! ===== the small constructors, a contract each ===== -/
theorem zoi_1 : Cond.instanceMethod Lib.objectInit ∈ zAL := zmem1 32 (by decide +kernel) (by decide +kernel)
theorem zoi_2 : Cond.code Lib.objectInit ⟨#[0xb1]⟩ 1 none ∈ zAL := zmem1 33 (by decide +kernel) (by decide +kernel)
theorem zd88_0 : decode (zcc 88) 0 = .ok (.aload_n 0, 1) := by
  show decode cX7_init 0 = _
  decide +kernel
theorem zd88_1 : decode (zcc 88) 1 = .ok (.invokespecial 3, 3) := by
  show decode cX7_init 1 = _
  decide +kernel
theorem zd88_4 : decode (zcc 88) 4 = .ok (.aload_n 0, 1) := by
  show decode cX7_init 4 = _
  decide +kernel
theorem zd88_5 : decode (zcc 88) 5 = .ok (.sipush 2000, 3) := by
  show decode cX7_init 5 = _
  decide +kernel
theorem zd88_8 : decode (zcc 88) 8 = .ok (.newarray .byte, 2) := by
  show decode cX7_init 8 = _
  decide +kernel
theorem zd88_10 : decode (zcc 88) 10 = .ok (.putfield 9, 3) := by
  show decode cX7_init 10 = _
  decide +kernel
theorem zd88_13 : decode (zcc 88) 13 = .ok (.return_, 1) := by
  show decode cX7_init 13 = _
  decide +kernel
theorem zol_7 : Cond.methodLink RX7 3 Lib.objectInit ∈ zAL := zmem1 39 (by decide +kernel) (by decide +kernel)
theorem zff_7_0 : zFf RX7 7 0 (.array .byte) := ⟨_, _, _, rfl, rfl, rfl, by decide +kernel⟩
set_option maxHeartbeats 400000 in
/-- the constructor of RuleStack$Tape -/
theorem kc_88 {l : Launch} {G : va_G} {ca : Nat → Nat} {q sz : Nat} : vx_Met l (zym 88) (zws 88) { frames := 1, cells := 1, slots := 2000, locals := 12 } (zPo G ca 7 [.null, .int 0] q sz []) (zQo q sz (fun H => ∃ a1 : Nat, va_P G vwCl [(q, .inr (7, [.ref a1, .int 0])), (a1, .inl (ca 3, zZr 3 2000))] H ∧ va_D (zFq q sz) [(q, .inr (7, [.ref a1, .int 0])), (a1, .inl (ca 3, zZr 3 2000))])) zNo 1 2000 (zFq q sz) := by
  refine vx_ofW (cc := zcc 88) (maxL := 1) (ret := none) (by decide) rfl ?_
  intro p e s m args below meth c s₁ B hml ht hv
  obtain ⟨rfl, hsz, hq, hP, hK⟩ := hv
  subst hsz
  have hts := atoms_spec (ws := zws 88) B.pre
  have hts2 : ∀ w ∈ zAL, w.before [Value.ref q].toArray s = true := fun w hw => hts w (List.mem_cons_of_mem _ hw)
  have hown : s.vm.findClass RX7 = some m.cls := findClass_of_methodNamed B.named
  have hin : meth.name = "<init>" := (name_of_methodNamed B.named B.method).1
  have hx := B.exec
  have hb := B.bytes
  have hA : ∀ x : Nat, s.heap.size ≤ x → zFq q s.heap.size x := fun x h => Or.inr h
  have hlv := lv_entry [Value.ref q] (n := 1) (by show 1 ≤ 1; omega)
  rw [lg_entry_eq]
  generalize (lg_sl [Value.ref q] ++ List.replicate (1 - (lg_sl [Value.ref q]).length) Slot.unset).toArray = ls at hlv ⊢
  have l0 := hlv.2.2 (0, .ref q) List.mem_cons_self
  refine lv_aload_n (i := 0) (x := q) hx hb zd88_0 rfl l0 ?_
  refine W.objInit hx hb hown (hts2 _ zol_7) (hts2 _ zoi_1) (hts2 _ zoi_2) rfl (hlv.1.trans hml.symm) rfl zd88_1 (by show 1 ≤ 1; omega) (by show 2 * 0 + 0 + 12 ≤ 12; omega) ?_
  refine W.eq (g2 := F0 m 4 ls []) rfl ?_
  refine z_seg (A := zFq q s.heap.size) 3 (by decide) 2000 (n := 2000) (aty := .byte) hx hb hts2 hown hin hK hP zD1 va_S.rf hA (by decide) rfl (by decide) (by show 0 + 1 ≤ 1; omega) (by show 0 + 2000 ≤ 2000; omega) l0 (pc2 := 8) zf_7_9 zff_7_0 (by decide) (by show 0 < 2; omega) zd88_4 (fun st k => lv_sipush hx hb zd88_5 rfl k) zd88_8 zd88_10 (fun a1 H1 L1 hP1 hD1 hS1 => ?_)
  refine W.widen (Nat.le_refl _) (Nat.le_refl _) (vx_ret ?_)
  exact W.vret hx hb B.returns (fun t ht9 _ => ⟨rfl, ⟨a1, by rw [ht9]; exact hP1, hD1⟩, hS1.F ht9⟩) hS1.2.2 zd88_13
theorem zd0_0 : decode (zcc 0) 0 = .ok (.aload_n 0, 1) := by
  show decode cX0_init 0 = _
  decide +kernel
theorem zd0_1 : decode (zcc 0) 1 = .ok (.invokespecial 3, 3) := by
  show decode cX0_init 1 = _
  decide +kernel
theorem zd0_4 : decode (zcc 0) 4 = .ok (.aload_n 0, 1) := by
  show decode cX0_init 4 = _
  decide +kernel
theorem zd0_5 : decode (zcc 0) 5 = .ok (.sipush 450, 3) := by
  show decode cX0_init 5 = _
  decide +kernel
theorem zd0_8 : decode (zcc 0) 8 = .ok (.newarray .int, 2) := by
  show decode cX0_init 8 = _
  decide +kernel
theorem zd0_10 : decode (zcc 0) 10 = .ok (.putfield 9, 3) := by
  show decode cX0_init 10 = _
  decide +kernel
theorem zd0_13 : decode (zcc 0) 13 = .ok (.aload_n 0, 1) := by
  show decode cX0_init 13 = _
  decide +kernel
theorem zd0_14 : decode (zcc 0) 14 = .ok (.sipush 450, 3) := by
  show decode cX0_init 14 = _
  decide +kernel
theorem zd0_17 : decode (zcc 0) 17 = .ok (.newarray .int, 2) := by
  show decode cX0_init 17 = _
  decide +kernel
theorem zd0_19 : decode (zcc 0) 19 = .ok (.putfield 15, 3) := by
  show decode cX0_init 19 = _
  decide +kernel
theorem zd0_22 : decode (zcc 0) 22 = .ok (.return_, 1) := by
  show decode cX0_init 22 = _
  decide +kernel
theorem zol_0 : Cond.methodLink RX0 3 Lib.objectInit ∈ zAL := zmem1 129 (by decide +kernel) (by decide +kernel)
theorem zff_0_0 : zFf RX0 0 0 (.array .int) := ⟨_, _, _, rfl, rfl, rfl, by decide +kernel⟩
theorem zff_0_1 : zFf RX0 0 1 (.array .int) := ⟨_, _, _, rfl, rfl, rfl, by decide +kernel⟩
set_option maxHeartbeats 400000 in
/-- the constructor of RuleStack$Code -/
theorem kc_0 {l : Launch} {G : va_G} {ca : Nat → Nat} {q sz : Nat} : vx_Met l (zym 0) (zws 0) { frames := 1, cells := 2, slots := 900, locals := 12 } (zPo G ca 0 [.null, .null, .int 0] q sz []) (zQo q sz (fun H => ∃ a1 a2 : Nat, va_P G vwCl [(q, .inr (0, [.ref a1, .ref a2, .int 0])), (a1, .inl (ca 0, zZr 0 450)), (a2, .inl (ca 0, zZr 0 450))] H ∧ va_D (zFq q sz) [(q, .inr (0, [.ref a1, .ref a2, .int 0])), (a1, .inl (ca 0, zZr 0 450)), (a2, .inl (ca 0, zZr 0 450))])) zNo 2 900 (zFq q sz) := by
  refine vx_ofW (cc := zcc 0) (maxL := 1) (ret := none) (by decide) rfl ?_
  intro p e s m args below meth c s₁ B hml ht hv
  obtain ⟨rfl, hsz, hq, hP, hK⟩ := hv
  subst hsz
  have hts := atoms_spec (ws := zws 0) B.pre
  have hts2 : ∀ w ∈ zAL, w.before [Value.ref q].toArray s = true := fun w hw => hts w (List.mem_cons_of_mem _ hw)
  have hown : s.vm.findClass RX0 = some m.cls := findClass_of_methodNamed B.named
  have hin : meth.name = "<init>" := (name_of_methodNamed B.named B.method).1
  have hx := B.exec
  have hb := B.bytes
  have hA : ∀ x : Nat, s.heap.size ≤ x → zFq q s.heap.size x := fun x h => Or.inr h
  have hlv := lv_entry [Value.ref q] (n := 1) (by show 1 ≤ 1; omega)
  rw [lg_entry_eq]
  generalize (lg_sl [Value.ref q] ++ List.replicate (1 - (lg_sl [Value.ref q]).length) Slot.unset).toArray = ls at hlv ⊢
  have l0 := hlv.2.2 (0, .ref q) List.mem_cons_self
  refine lv_aload_n (i := 0) (x := q) hx hb zd0_0 rfl l0 ?_
  refine W.objInit hx hb hown (hts2 _ zol_0) (hts2 _ zoi_1) (hts2 _ zoi_2) rfl (hlv.1.trans hml.symm) rfl zd0_1 (by show 1 ≤ 1; omega) (by show 2 * 0 + 0 + 12 ≤ 12; omega) ?_
  refine W.eq (g2 := F0 m 4 ls []) rfl ?_
  refine z_seg (A := zFq q s.heap.size) 0 (by decide) 450 (n := 450) (aty := .int) hx hb hts2 hown hin hK hP zD1 va_S.rf hA (by decide) rfl (by decide) (by show 0 + 1 ≤ 2; omega) (by show 0 + 450 ≤ 900; omega) l0 (pc2 := 8) zf_0_9 zff_0_0 (by decide) (by show 0 < 3; omega) zd0_4 (fun st k => lv_sipush hx hb zd0_5 rfl k) zd0_8 zd0_10 (fun a1 H1 L1 hP1 hD1 hS1 => ?_)
  refine z_seg (A := zFq q s.heap.size) 0 (by decide) 450 (n := 450) (aty := .int) hx hb hts2 hown hin hK hP1 hD1 hS1 hA (by decide) rfl (by decide) (by show 1 + 1 ≤ 2; omega) (by show 450 + 450 ≤ 900; omega) l0 (pc2 := 17) zf_0_15 zff_0_1 (by decide) (by show 1 < 3; omega) zd0_13 (fun st k => lv_sipush hx hb zd0_14 rfl k) zd0_17 zd0_19 (fun a2 H2 L2 hP2 hD2 hS2 => ?_)
  refine W.widen (Nat.le_refl _) (Nat.le_refl _) (vx_ret ?_)
  exact W.vret hx hb B.returns (fun t ht9 _ => ⟨rfl, ⟨a1, a2, by rw [ht9]; exact hP2, hD2⟩, hS2.F ht9⟩) hS2.2.2 zd0_22
theorem zd6_0 : decode (zcc 6) 0 = .ok (.aload_n 0, 1) := by
  show decode cX1_init 0 = _
  decide +kernel
theorem zd6_1 : decode (zcc 6) 1 = .ok (.invokespecial 3, 3) := by
  show decode cX1_init 1 = _
  decide +kernel
theorem zd6_4 : decode (zcc 6) 4 = .ok (.aload_n 0, 1) := by
  show decode cX1_init 4 = _
  decide +kernel
theorem zd6_5 : decode (zcc 6) 5 = .ok (.aload_n 1, 1) := by
  show decode cX1_init 5 = _
  decide +kernel
theorem zd6_6 : decode (zcc 6) 6 = .ok (.putfield 9, 3) := by
  show decode cX1_init 6 = _
  decide +kernel
theorem zd6_9 : decode (zcc 6) 9 = .ok (.aload_n 0, 1) := by
  show decode cX1_init 9 = _
  decide +kernel
theorem zd6_10 : decode (zcc 6) 10 = .ok (.aload_n 2, 1) := by
  show decode cX1_init 10 = _
  decide +kernel
theorem zd6_11 : decode (zcc 6) 11 = .ok (.putfield 15, 3) := by
  show decode cX1_init 11 = _
  decide +kernel
theorem zd6_14 : decode (zcc 6) 14 = .ok (.return_, 1) := by
  show decode cX1_init 14 = _
  decide +kernel
theorem zol_1 : Cond.methodLink RX1 3 Lib.objectInit ∈ zAL := zmem1 146 (by decide +kernel) (by decide +kernel)
theorem zff_1_0 : zFf RX1 1 0 (.object "RuleStack$Tokens") := ⟨_, _, _, rfl, rfl, rfl, by decide +kernel⟩
theorem zff_1_1 : zFf RX1 1 1 (.object "RuleStack$Code") := ⟨_, _, _, rfl, rfl, rfl, by decide +kernel⟩
set_option maxHeartbeats 400000 in
/-- the constructor of RuleStack$Form -/
theorem kc_6 {l : Launch} {G : va_G} {ca : Nat → Nat} {q sz b1 b2 : Nat} : vx_Met l (zym 6) (zws 6) { frames := 1, cells := 0, slots := 0, locals := 12 } (zPo G ca 1 [.null, .null, .int 0, .int 0] q sz [.ref b1, .ref b2]) (zQo q sz (fun H => va_P G vwCl [(q, .inr (1, [.ref b1, .ref b2, .int 0, .int 0]))] H ∧ va_D (zFq q sz) [(q, .inr (1, [.ref b1, .ref b2, .int 0, .int 0]))])) zNo 0 0 (zFq q sz) := by
  refine vx_ofW (cc := zcc 6) (maxL := 3) (ret := none) (by decide) rfl ?_
  intro p e s m args below meth c s₁ B hml ht hv
  obtain ⟨rfl, hsz, hq, hP, hK⟩ := hv
  subst hsz
  have hts := atoms_spec (ws := zws 6) B.pre
  have hts2 : ∀ w ∈ zAL, w.before [Value.ref q, .ref b1, .ref b2].toArray s = true := fun w hw => hts w (List.mem_cons_of_mem _ hw)
  have hown : s.vm.findClass RX1 = some m.cls := findClass_of_methodNamed B.named
  have hin : meth.name = "<init>" := (name_of_methodNamed B.named B.method).1
  have hx := B.exec
  have hb := B.bytes
  have hA : ∀ x : Nat, s.heap.size ≤ x → zFq q s.heap.size x := fun x h => Or.inr h
  have hlv := lv_entry [Value.ref q, .ref b1, .ref b2] (n := 3) (by show 3 ≤ 3; omega)
  rw [lg_entry_eq]
  generalize (lg_sl [Value.ref q, .ref b1, .ref b2] ++ List.replicate (3 - (lg_sl [Value.ref q, .ref b1, .ref b2]).length) Slot.unset).toArray = ls at hlv ⊢
  have l0 := hlv.2.2 (0, .ref q) List.mem_cons_self
  have l1 := hlv.2.2 (1, .ref b1) (List.mem_cons_of_mem _ List.mem_cons_self)
  have l2 := hlv.2.2 (2, .ref b2) (List.mem_cons_of_mem _ (List.mem_cons_of_mem _ List.mem_cons_self))
  refine lv_aload_n (i := 0) (x := q) hx hb zd6_0 rfl l0 ?_
  refine W.objInit hx hb hown (hts2 _ zol_1) (hts2 _ zoi_1) (hts2 _ zoi_2) rfl (hlv.1.trans hml.symm) rfl zd6_1 (by show 1 ≤ 1; omega) (by show 2 * 0 + 0 + 12 ≤ 12; omega) ?_
  refine W.eq (g2 := F0 m 4 ls []) rfl ?_
  refine z_segr (A := zFq q s.heap.size) (j := 1) (b := b1) hx hb hts2 hown hin hK hP zD1 va_S.rf l0 rfl l1 zf_1_9 zff_1_0 (by decide) (by show 0 < 4; omega) zd6_4 zd6_5 zd6_6 (fun H1 L1 hP1 hD1 hS1 => ?_)
  refine z_segr (A := zFq q s.heap.size) (j := 2) (b := b2) hx hb hts2 hown hin hK hP1 hD1 hS1 l0 rfl l2 zf_1_15 zff_1_1 (by decide) (by show 1 < 4; omega) zd6_9 zd6_10 zd6_11 (fun H2 L2 hP2 hD2 hS2 => ?_)
  refine W.widen (Nat.le_refl _) (Nat.le_refl _) (vx_ret ?_)
  exact W.vret hx hb B.returns (fun t ht9 _ => ⟨rfl, ⟨by rw [ht9]; exact hP2, hD2⟩, hS2.F ht9⟩) hS2.2.2 zd6_14
theorem zd73_0 : decode (zcc 73) 0 = .ok (.aload_n 0, 1) := by
  show decode cX5_init 0 = _
  decide +kernel
theorem zd73_1 : decode (zcc 73) 1 = .ok (.invokespecial 3, 3) := by
  show decode cX5_init 1 = _
  decide +kernel
theorem zd73_4 : decode (zcc 73) 4 = .ok (.aload_n 0, 1) := by
  show decode cX5_init 4 = _
  decide +kernel
theorem zd73_5 : decode (zcc 73) 5 = .ok (.bipush 7, 2) := by
  show decode cX5_init 5 = _
  decide +kernel
theorem zd73_7 : decode (zcc 73) 7 = .ok (.newarray .int, 2) := by
  show decode cX5_init 7 = _
  decide +kernel
theorem zd73_9 : decode (zcc 73) 9 = .ok (.putfield 9, 3) := by
  show decode cX5_init 9 = _
  decide +kernel
theorem zd73_12 : decode (zcc 73) 12 = .ok (.aload_n 0, 1) := by
  show decode cX5_init 12 = _
  decide +kernel
theorem zd73_13 : decode (zcc 73) 13 = .ok (.bipush 36, 2) := by
  show decode cX5_init 13 = _
  decide +kernel
theorem zd73_15 : decode (zcc 73) 15 = .ok (.newarray .int, 2) := by
  show decode cX5_init 15 = _
  decide +kernel
theorem zd73_17 : decode (zcc 73) 17 = .ok (.putfield 15, 3) := by
  show decode cX5_init 17 = _
  decide +kernel
theorem zd73_20 : decode (zcc 73) 20 = .ok (.aload_n 0, 1) := by
  show decode cX5_init 20 = _
  decide +kernel
theorem zd73_21 : decode (zcc 73) 21 = .ok (.bipush 6, 2) := by
  show decode cX5_init 21 = _
  decide +kernel
theorem zd73_23 : decode (zcc 73) 23 = .ok (.newarray .int, 2) := by
  show decode cX5_init 23 = _
  decide +kernel
theorem zd73_25 : decode (zcc 73) 25 = .ok (.putfield 18, 3) := by
  show decode cX5_init 25 = _
  decide +kernel
theorem zd73_28 : decode (zcc 73) 28 = .ok (.aload_n 0, 1) := by
  show decode cX5_init 28 = _
  decide +kernel
theorem zd73_29 : decode (zcc 73) 29 = .ok (.bipush 8, 2) := by
  show decode cX5_init 29 = _
  decide +kernel
theorem zd73_31 : decode (zcc 73) 31 = .ok (.newarray .int, 2) := by
  show decode cX5_init 31 = _
  decide +kernel
theorem zd73_33 : decode (zcc 73) 33 = .ok (.putfield 21, 3) := by
  show decode cX5_init 33 = _
  decide +kernel
theorem zd73_36 : decode (zcc 73) 36 = .ok (.aload_n 0, 1) := by
  show decode cX5_init 36 = _
  decide +kernel
theorem zd73_37 : decode (zcc 73) 37 = .ok (.bipush 28, 2) := by
  show decode cX5_init 37 = _
  decide +kernel
theorem zd73_39 : decode (zcc 73) 39 = .ok (.newarray .int, 2) := by
  show decode cX5_init 39 = _
  decide +kernel
theorem zd73_41 : decode (zcc 73) 41 = .ok (.putfield 24, 3) := by
  show decode cX5_init 41 = _
  decide +kernel
theorem zd73_44 : decode (zcc 73) 44 = .ok (.aload_n 0, 1) := by
  show decode cX5_init 44 = _
  decide +kernel
theorem zd73_45 : decode (zcc 73) 45 = .ok (.bipush 28, 2) := by
  show decode cX5_init 45 = _
  decide +kernel
theorem zd73_47 : decode (zcc 73) 47 = .ok (.newarray .int, 2) := by
  show decode cX5_init 47 = _
  decide +kernel
theorem zd73_49 : decode (zcc 73) 49 = .ok (.putfield 27, 3) := by
  show decode cX5_init 49 = _
  decide +kernel
theorem zd73_52 : decode (zcc 73) 52 = .ok (.return_, 1) := by
  show decode cX5_init 52 = _
  decide +kernel
theorem zol_5 : Cond.methodLink RX5 3 Lib.objectInit ∈ zAL := zmem1 165 (by decide +kernel) (by decide +kernel)
theorem zff_5_0 : zFf RX5 5 0 (.array .int) := ⟨_, _, _, rfl, rfl, rfl, by decide +kernel⟩
theorem zff_5_1 : zFf RX5 5 1 (.array .int) := ⟨_, _, _, rfl, rfl, rfl, by decide +kernel⟩
theorem zff_5_2 : zFf RX5 5 2 (.array .int) := ⟨_, _, _, rfl, rfl, rfl, by decide +kernel⟩
theorem zff_5_3 : zFf RX5 5 3 (.array .int) := ⟨_, _, _, rfl, rfl, rfl, by decide +kernel⟩
theorem zff_5_4 : zFf RX5 5 4 (.array .int) := ⟨_, _, _, rfl, rfl, rfl, by decide +kernel⟩
theorem zff_5_5 : zFf RX5 5 5 (.array .int) := ⟨_, _, _, rfl, rfl, rfl, by decide +kernel⟩
set_option maxHeartbeats 400000 in
/-- the constructor of RuleStack$Program -/
theorem kc_73 {l : Launch} {G : va_G} {ca : Nat → Nat} {q sz : Nat} : vx_Met l (zym 73) (zws 73) { frames := 1, cells := 6, slots := 113, locals := 12 } (zPo G ca 5 [.null, .null, .null, .null, .null, .null, .int 0, .int 0] q sz []) (zQo q sz (fun H => ∃ a1 a2 a3 a4 a5 a6 : Nat, va_P G vwCl [(q, .inr (5, [.ref a1, .ref a2, .ref a3, .ref a4, .ref a5, .ref a6, .int 0, .int 0])), (a1, .inl (ca 0, zZr 0 7)), (a2, .inl (ca 0, zZr 0 36)), (a3, .inl (ca 0, zZr 0 6)), (a4, .inl (ca 0, zZr 0 8)), (a5, .inl (ca 0, zZr 0 28)), (a6, .inl (ca 0, zZr 0 28))] H ∧ va_D (zFq q sz) [(q, .inr (5, [.ref a1, .ref a2, .ref a3, .ref a4, .ref a5, .ref a6, .int 0, .int 0])), (a1, .inl (ca 0, zZr 0 7)), (a2, .inl (ca 0, zZr 0 36)), (a3, .inl (ca 0, zZr 0 6)), (a4, .inl (ca 0, zZr 0 8)), (a5, .inl (ca 0, zZr 0 28)), (a6, .inl (ca 0, zZr 0 28))])) zNo 6 113 (zFq q sz) := by
  refine vx_ofW (cc := zcc 73) (maxL := 1) (ret := none) (by decide) rfl ?_
  intro p e s m args below meth c s₁ B hml ht hv
  obtain ⟨rfl, hsz, hq, hP, hK⟩ := hv
  subst hsz
  have hts := atoms_spec (ws := zws 73) B.pre
  have hts2 : ∀ w ∈ zAL, w.before [Value.ref q].toArray s = true := fun w hw => hts w (List.mem_cons_of_mem _ hw)
  have hown : s.vm.findClass RX5 = some m.cls := findClass_of_methodNamed B.named
  have hin : meth.name = "<init>" := (name_of_methodNamed B.named B.method).1
  have hx := B.exec
  have hb := B.bytes
  have hA : ∀ x : Nat, s.heap.size ≤ x → zFq q s.heap.size x := fun x h => Or.inr h
  have hlv := lv_entry [Value.ref q] (n := 1) (by show 1 ≤ 1; omega)
  rw [lg_entry_eq]
  generalize (lg_sl [Value.ref q] ++ List.replicate (1 - (lg_sl [Value.ref q]).length) Slot.unset).toArray = ls at hlv ⊢
  have l0 := hlv.2.2 (0, .ref q) List.mem_cons_self
  refine lv_aload_n (i := 0) (x := q) hx hb zd73_0 rfl l0 ?_
  refine W.objInit hx hb hown (hts2 _ zol_5) (hts2 _ zoi_1) (hts2 _ zoi_2) rfl (hlv.1.trans hml.symm) rfl zd73_1 (by show 1 ≤ 1; omega) (by show 2 * 0 + 0 + 12 ≤ 12; omega) ?_
  refine W.eq (g2 := F0 m 4 ls []) rfl ?_
  refine z_seg (A := zFq q s.heap.size) 0 (by decide) 7 (n := 7) (aty := .int) hx hb hts2 hown hin hK hP zD1 va_S.rf hA (by decide) rfl (by decide) (by show 0 + 1 ≤ 6; omega) (by show 0 + 7 ≤ 113; omega) l0 (pc2 := 7) zf_5_9 zff_5_0 (by decide) (by show 0 < 8; omega) zd73_4 (fun st k => lv_bipush hx hb zd73_5 rfl k) zd73_7 zd73_9 (fun a1 H1 L1 hP1 hD1 hS1 => ?_)
  refine z_seg (A := zFq q s.heap.size) 0 (by decide) 36 (n := 36) (aty := .int) hx hb hts2 hown hin hK hP1 hD1 hS1 hA (by decide) rfl (by decide) (by show 1 + 1 ≤ 6; omega) (by show 7 + 36 ≤ 113; omega) l0 (pc2 := 15) zf_5_15 zff_5_1 (by decide) (by show 1 < 8; omega) zd73_12 (fun st k => lv_bipush hx hb zd73_13 rfl k) zd73_15 zd73_17 (fun a2 H2 L2 hP2 hD2 hS2 => ?_)
  refine z_seg (A := zFq q s.heap.size) 0 (by decide) 6 (n := 6) (aty := .int) hx hb hts2 hown hin hK hP2 hD2 hS2 hA (by decide) rfl (by decide) (by show 2 + 1 ≤ 6; omega) (by show 43 + 6 ≤ 113; omega) l0 (pc2 := 23) zf_5_18 zff_5_2 (by decide) (by show 2 < 8; omega) zd73_20 (fun st k => lv_bipush hx hb zd73_21 rfl k) zd73_23 zd73_25 (fun a3 H3 L3 hP3 hD3 hS3 => ?_)
  refine z_seg (A := zFq q s.heap.size) 0 (by decide) 8 (n := 8) (aty := .int) hx hb hts2 hown hin hK hP3 hD3 hS3 hA (by decide) rfl (by decide) (by show 3 + 1 ≤ 6; omega) (by show 49 + 8 ≤ 113; omega) l0 (pc2 := 31) zf_5_21 zff_5_3 (by decide) (by show 3 < 8; omega) zd73_28 (fun st k => lv_bipush hx hb zd73_29 rfl k) zd73_31 zd73_33 (fun a4 H4 L4 hP4 hD4 hS4 => ?_)
  refine z_seg (A := zFq q s.heap.size) 0 (by decide) 28 (n := 28) (aty := .int) hx hb hts2 hown hin hK hP4 hD4 hS4 hA (by decide) rfl (by decide) (by show 4 + 1 ≤ 6; omega) (by show 57 + 28 ≤ 113; omega) l0 (pc2 := 39) zf_5_24 zff_5_4 (by decide) (by show 4 < 8; omega) zd73_36 (fun st k => lv_bipush hx hb zd73_37 rfl k) zd73_39 zd73_41 (fun a5 H5 L5 hP5 hD5 hS5 => ?_)
  refine z_seg (A := zFq q s.heap.size) 0 (by decide) 28 (n := 28) (aty := .int) hx hb hts2 hown hin hK hP5 hD5 hS5 hA (by decide) rfl (by decide) (by show 5 + 1 ≤ 6; omega) (by show 85 + 28 ≤ 113; omega) l0 (pc2 := 47) zf_5_27 zff_5_5 (by decide) (by show 5 < 8; omega) zd73_44 (fun st k => lv_bipush hx hb zd73_45 rfl k) zd73_47 zd73_49 (fun a6 H6 L6 hP6 hD6 hS6 => ?_)
  refine W.widen (Nat.le_refl _) (Nat.le_refl _) (vx_ret ?_)
  exact W.vret hx hb B.returns (fun t ht9 _ => ⟨rfl, ⟨a1, a2, a3, a4, a5, a6, by rw [ht9]; exact hP6, hD6⟩, hS6.F ht9⟩) hS6.2.2 zd73_52
theorem zd59_0 : decode (zcc 59) 0 = .ok (.aload_n 0, 1) := by
  show decode cX4_init 0 = _
  decide +kernel
theorem zd59_1 : decode (zcc 59) 1 = .ok (.invokespecial 3, 3) := by
  show decode cX4_init 1 = _
  decide +kernel
theorem zd59_4 : decode (zcc 59) 4 = .ok (.aload_n 0, 1) := by
  show decode cX4_init 4 = _
  decide +kernel
theorem zd59_5 : decode (zcc 59) 5 = .ok (.aload_n 1, 1) := by
  show decode cX4_init 5 = _
  decide +kernel
theorem zd59_6 : decode (zcc 59) 6 = .ok (.putfield 9, 3) := by
  show decode cX4_init 6 = _
  decide +kernel
theorem zd59_9 : decode (zcc 59) 9 = .ok (.aload_n 0, 1) := by
  show decode cX4_init 9 = _
  decide +kernel
theorem zd59_10 : decode (zcc 59) 10 = .ok (.aload_n 2, 1) := by
  show decode cX4_init 10 = _
  decide +kernel
theorem zd59_11 : decode (zcc 59) 11 = .ok (.putfield 15, 3) := by
  show decode cX4_init 11 = _
  decide +kernel
theorem zd59_14 : decode (zcc 59) 14 = .ok (.return_, 1) := by
  show decode cX4_init 14 = _
  decide +kernel
theorem zol_4 : Cond.methodLink RX4 3 Lib.objectInit ∈ zAL := zmem1 203 (by decide +kernel) (by decide +kernel)
theorem zff_4_0 : zFf RX4 4 0 (.object "RuleStack$Tokens") := ⟨_, _, _, rfl, rfl, rfl, by decide +kernel⟩
theorem zff_4_1 : zFf RX4 4 1 (.object "RuleStack$Program") := ⟨_, _, _, rfl, rfl, rfl, by decide +kernel⟩
set_option maxHeartbeats 400000 in
/-- the constructor of RuleStack$Meaning -/
theorem kc_59 {l : Launch} {G : va_G} {ca : Nat → Nat} {q sz b1 b2 : Nat} : vx_Met l (zym 59) (zws 59) { frames := 1, cells := 0, slots := 0, locals := 12 } (zPo G ca 4 [.null, .null, .int 0, .int 0, .int 0, .int 0, .int 0, .int 0] q sz [.ref b1, .ref b2]) (zQo q sz (fun H => va_P G vwCl [(q, .inr (4, [.ref b1, .ref b2, .int 0, .int 0, .int 0, .int 0, .int 0, .int 0]))] H ∧ va_D (zFq q sz) [(q, .inr (4, [.ref b1, .ref b2, .int 0, .int 0, .int 0, .int 0, .int 0, .int 0]))])) zNo 0 0 (zFq q sz) := by
  refine vx_ofW (cc := zcc 59) (maxL := 3) (ret := none) (by decide) rfl ?_
  intro p e s m args below meth c s₁ B hml ht hv
  obtain ⟨rfl, hsz, hq, hP, hK⟩ := hv
  subst hsz
  have hts := atoms_spec (ws := zws 59) B.pre
  have hts2 : ∀ w ∈ zAL, w.before [Value.ref q, .ref b1, .ref b2].toArray s = true := fun w hw => hts w (List.mem_cons_of_mem _ hw)
  have hown : s.vm.findClass RX4 = some m.cls := findClass_of_methodNamed B.named
  have hin : meth.name = "<init>" := (name_of_methodNamed B.named B.method).1
  have hx := B.exec
  have hb := B.bytes
  have hA : ∀ x : Nat, s.heap.size ≤ x → zFq q s.heap.size x := fun x h => Or.inr h
  have hlv := lv_entry [Value.ref q, .ref b1, .ref b2] (n := 3) (by show 3 ≤ 3; omega)
  rw [lg_entry_eq]
  generalize (lg_sl [Value.ref q, .ref b1, .ref b2] ++ List.replicate (3 - (lg_sl [Value.ref q, .ref b1, .ref b2]).length) Slot.unset).toArray = ls at hlv ⊢
  have l0 := hlv.2.2 (0, .ref q) List.mem_cons_self
  have l1 := hlv.2.2 (1, .ref b1) (List.mem_cons_of_mem _ List.mem_cons_self)
  have l2 := hlv.2.2 (2, .ref b2) (List.mem_cons_of_mem _ (List.mem_cons_of_mem _ List.mem_cons_self))
  refine lv_aload_n (i := 0) (x := q) hx hb zd59_0 rfl l0 ?_
  refine W.objInit hx hb hown (hts2 _ zol_4) (hts2 _ zoi_1) (hts2 _ zoi_2) rfl (hlv.1.trans hml.symm) rfl zd59_1 (by show 1 ≤ 1; omega) (by show 2 * 0 + 0 + 12 ≤ 12; omega) ?_
  refine W.eq (g2 := F0 m 4 ls []) rfl ?_
  refine z_segr (A := zFq q s.heap.size) (j := 1) (b := b1) hx hb hts2 hown hin hK hP zD1 va_S.rf l0 rfl l1 zf_4_9 zff_4_0 (by decide) (by show 0 < 8; omega) zd59_4 zd59_5 zd59_6 (fun H1 L1 hP1 hD1 hS1 => ?_)
  refine z_segr (A := zFq q s.heap.size) (j := 2) (b := b2) hx hb hts2 hown hin hK hP1 hD1 hS1 l0 rfl l2 zf_4_15 zff_4_1 (by decide) (by show 1 < 8; omega) zd59_9 zd59_10 zd59_11 (fun H2 L2 hP2 hD2 hS2 => ?_)
  refine W.widen (Nat.le_refl _) (Nat.le_refl _) (vx_ret ?_)
  exact W.vret hx hb B.returns (fun t ht9 _ => ⟨rfl, ⟨by rw [ht9]; exact hP2, hD2⟩, hS2.F ht9⟩) hS2.2.2 zd59_14
theorem zd82_0 : decode (zcc 82) 0 = .ok (.aload_n 0, 1) := by
  show decode cX6_init 0 = _
  decide +kernel
theorem zd82_1 : decode (zcc 82) 1 = .ok (.invokespecial 3, 3) := by
  show decode cX6_init 1 = _
  decide +kernel
theorem zd82_4 : decode (zcc 82) 4 = .ok (.aload_n 0, 1) := by
  show decode cX6_init 4 = _
  decide +kernel
theorem zd82_5 : decode (zcc 82) 5 = .ok (.bipush 30, 2) := by
  show decode cX6_init 5 = _
  decide +kernel
theorem zd82_7 : decode (zcc 82) 7 = .ok (.newarray .int, 2) := by
  show decode cX6_init 7 = _
  decide +kernel
theorem zd82_9 : decode (zcc 82) 9 = .ok (.putfield 11, 3) := by
  show decode cX6_init 9 = _
  decide +kernel
theorem zd82_12 : decode (zcc 82) 12 = .ok (.aload_n 0, 1) := by
  show decode cX6_init 12 = _
  decide +kernel
theorem zd82_13 : decode (zcc 82) 13 = .ok (.bipush 40, 2) := by
  show decode cX6_init 13 = _
  decide +kernel
theorem zd82_15 : decode (zcc 82) 15 = .ok (.newarray .int, 2) := by
  show decode cX6_init 15 = _
  decide +kernel
theorem zd82_17 : decode (zcc 82) 17 = .ok (.putfield 15, 3) := by
  show decode cX6_init 17 = _
  decide +kernel
theorem zd82_20 : decode (zcc 82) 20 = .ok (.return_, 1) := by
  show decode cX6_init 20 = _
  decide +kernel
theorem zol_6 : Cond.methodLink RX6 3 Lib.objectInit ∈ zAL := zmem1 235 (by decide +kernel) (by decide +kernel)
theorem zff_6_0 : zFf RX6 6 0 (.array .int) := ⟨_, _, _, rfl, rfl, rfl, by decide +kernel⟩
theorem zff_6_1 : zFf RX6 6 1 (.array .int) := ⟨_, _, _, rfl, rfl, rfl, by decide +kernel⟩
set_option maxHeartbeats 400000 in
/-- the constructor of RuleStack$Table -/
theorem kc_82 {l : Launch} {G : va_G} {ca : Nat → Nat} {q sz : Nat} : vx_Met l (zym 82) (zws 82) { frames := 1, cells := 2, slots := 70, locals := 12 } (zPo G ca 6 [.null, .null, .int 0, .int 0, .int 0, .int 0, .int 0, .int 0, .int 0, .long 0] q sz []) (zQo q sz (fun H => ∃ a1 a2 : Nat, va_P G vwCl [(q, .inr (6, [.ref a1, .ref a2, .int 0, .int 0, .int 0, .int 0, .int 0, .int 0, .int 0, .long 0])), (a1, .inl (ca 0, zZr 0 30)), (a2, .inl (ca 0, zZr 0 40))] H ∧ va_D (zFq q sz) [(q, .inr (6, [.ref a1, .ref a2, .int 0, .int 0, .int 0, .int 0, .int 0, .int 0, .int 0, .long 0])), (a1, .inl (ca 0, zZr 0 30)), (a2, .inl (ca 0, zZr 0 40))])) zNo 2 70 (zFq q sz) := by
  refine vx_ofW (cc := zcc 82) (maxL := 1) (ret := none) (by decide) rfl ?_
  intro p e s m args below meth c s₁ B hml ht hv
  obtain ⟨rfl, hsz, hq, hP, hK⟩ := hv
  subst hsz
  have hts := atoms_spec (ws := zws 82) B.pre
  have hts2 : ∀ w ∈ zAL, w.before [Value.ref q].toArray s = true := fun w hw => hts w (List.mem_cons_of_mem _ hw)
  have hown : s.vm.findClass RX6 = some m.cls := findClass_of_methodNamed B.named
  have hin : meth.name = "<init>" := (name_of_methodNamed B.named B.method).1
  have hx := B.exec
  have hb := B.bytes
  have hA : ∀ x : Nat, s.heap.size ≤ x → zFq q s.heap.size x := fun x h => Or.inr h
  have hlv := lv_entry [Value.ref q] (n := 1) (by show 1 ≤ 1; omega)
  rw [lg_entry_eq]
  generalize (lg_sl [Value.ref q] ++ List.replicate (1 - (lg_sl [Value.ref q]).length) Slot.unset).toArray = ls at hlv ⊢
  have l0 := hlv.2.2 (0, .ref q) List.mem_cons_self
  refine lv_aload_n (i := 0) (x := q) hx hb zd82_0 rfl l0 ?_
  refine W.objInit hx hb hown (hts2 _ zol_6) (hts2 _ zoi_1) (hts2 _ zoi_2) rfl (hlv.1.trans hml.symm) rfl zd82_1 (by show 1 ≤ 1; omega) (by show 2 * 0 + 0 + 12 ≤ 12; omega) ?_
  refine W.eq (g2 := F0 m 4 ls []) rfl ?_
  refine z_seg (A := zFq q s.heap.size) 0 (by decide) 30 (n := 30) (aty := .int) hx hb hts2 hown hin hK hP zD1 va_S.rf hA (by decide) rfl (by decide) (by show 0 + 1 ≤ 2; omega) (by show 0 + 30 ≤ 70; omega) l0 (pc2 := 7) zf_6_11 zff_6_0 (by decide) (by show 0 < 10; omega) zd82_4 (fun st k => lv_bipush hx hb zd82_5 rfl k) zd82_7 zd82_9 (fun a1 H1 L1 hP1 hD1 hS1 => ?_)
  refine z_seg (A := zFq q s.heap.size) 0 (by decide) 40 (n := 40) (aty := .int) hx hb hts2 hown hin hK hP1 hD1 hS1 hA (by decide) rfl (by decide) (by show 1 + 1 ≤ 2; omega) (by show 30 + 40 ≤ 70; omega) l0 (pc2 := 15) zf_6_15 zff_6_1 (by decide) (by show 1 < 10; omega) zd82_12 (fun st k => lv_bipush hx hb zd82_13 rfl k) zd82_15 zd82_17 (fun a2 H2 L2 hP2 hD2 hS2 => ?_)
  refine W.widen (Nat.le_refl _) (Nat.le_refl _) (vx_ret ?_)
  exact W.vret hx hb B.returns (fun t ht9 _ => ⟨rfl, ⟨a1, a2, by rw [ht9]; exact hP2, hD2⟩, hS2.F ht9⟩) hS2.2.2 zd82_20
theorem zd42_0 : decode (zcc 42) 0 = .ok (.aload_n 0, 1) := by
  show decode cX3_init 0 = _
  decide +kernel
theorem zd42_1 : decode (zcc 42) 1 = .ok (.invokespecial 3, 3) := by
  show decode cX3_init 1 = _
  decide +kernel
theorem zd42_4 : decode (zcc 42) 4 = .ok (.aload_n 0, 1) := by
  show decode cX3_init 4 = _
  decide +kernel
theorem zd42_5 : decode (zcc 42) 5 = .ok (.aload_n 1, 1) := by
  show decode cX3_init 5 = _
  decide +kernel
theorem zd42_6 : decode (zcc 42) 6 = .ok (.putfield 9, 3) := by
  show decode cX3_init 6 = _
  decide +kernel
theorem zd42_9 : decode (zcc 42) 9 = .ok (.aload_n 0, 1) := by
  show decode cX3_init 9 = _
  decide +kernel
theorem zd42_10 : decode (zcc 42) 10 = .ok (.aload_n 2, 1) := by
  show decode cX3_init 10 = _
  decide +kernel
theorem zd42_11 : decode (zcc 42) 11 = .ok (.putfield 15, 3) := by
  show decode cX3_init 11 = _
  decide +kernel
theorem zd42_14 : decode (zcc 42) 14 = .ok (.aload_n 0, 1) := by
  show decode cX3_init 14 = _
  decide +kernel
theorem zd42_15 : decode (zcc 42) 15 = .ok (.aload_n 3, 1) := by
  show decode cX3_init 15 = _
  decide +kernel
theorem zd42_16 : decode (zcc 42) 16 = .ok (.putfield 19, 3) := by
  show decode cX3_init 16 = _
  decide +kernel
theorem zd42_19 : decode (zcc 42) 19 = .ok (.aload_n 0, 1) := by
  show decode cX3_init 19 = _
  decide +kernel
theorem zd42_20 : decode (zcc 42) 20 = .ok (.bipush 64, 2) := by
  show decode cX3_init 20 = _
  decide +kernel
theorem zd42_22 : decode (zcc 42) 22 = .ok (.newarray .long, 2) := by
  show decode cX3_init 22 = _
  decide +kernel
theorem zd42_24 : decode (zcc 42) 24 = .ok (.putfield 23, 3) := by
  show decode cX3_init 24 = _
  decide +kernel
theorem zd42_27 : decode (zcc 42) 27 = .ok (.aload_n 0, 1) := by
  show decode cX3_init 27 = _
  decide +kernel
theorem zd42_28 : decode (zcc 42) 28 = .ok (.iconst 4, 1) := by
  show decode cX3_init 28 = _
  decide +kernel
theorem zd42_29 : decode (zcc 42) 29 = .ok (.newarray .int, 2) := by
  show decode cX3_init 29 = _
  decide +kernel
theorem zd42_31 : decode (zcc 42) 31 = .ok (.putfield 27, 3) := by
  show decode cX3_init 31 = _
  decide +kernel
theorem zd42_34 : decode (zcc 42) 34 = .ok (.return_, 1) := by
  show decode cX3_init 34 = _
  decide +kernel
theorem zol_3 : Cond.methodLink RX3 3 Lib.objectInit ∈ zAL := zmem2 50 (by decide +kernel) (by decide +kernel)
theorem zff_3_0 : zFf RX3 3 0 (.object "RuleStack$Code") := ⟨_, _, _, rfl, rfl, rfl, by decide +kernel⟩
theorem zff_3_1 : zFf RX3 3 1 (.object "RuleStack$Program") := ⟨_, _, _, rfl, rfl, rfl, by decide +kernel⟩
theorem zff_3_2 : zFf RX3 3 2 (.object "RuleStack$Table") := ⟨_, _, _, rfl, rfl, rfl, by decide +kernel⟩
theorem zff_3_3 : zFf RX3 3 3 (.array .long) := ⟨_, _, _, rfl, rfl, rfl, by decide +kernel⟩
theorem zff_3_4 : zFf RX3 3 4 (.array .int) := ⟨_, _, _, rfl, rfl, rfl, by decide +kernel⟩
set_option maxHeartbeats 400000 in
/-- the constructor of RuleStack$Machine -/
theorem kc_42 {l : Launch} {G : va_G} {ca : Nat → Nat} {q sz b1 b2 b3 : Nat} : vx_Met l (zym 42) (zws 42) { frames := 1, cells := 2, slots := 68, locals := 12 } (zPo G ca 3 [.null, .null, .null, .null, .null, .int 0, .int 0, .int 0, .int 0] q sz [.ref b1, .ref b2, .ref b3]) (zQo q sz (fun H => ∃ a1 a2 : Nat, va_P G vwCl [(q, .inr (3, [.ref b1, .ref b2, .ref b3, .ref a1, .ref a2, .int 0, .int 0, .int 0, .int 0])), (a1, .inl (ca 1, zZr 1 64)), (a2, .inl (ca 0, zZr 0 4))] H ∧ va_D (zFq q sz) [(q, .inr (3, [.ref b1, .ref b2, .ref b3, .ref a1, .ref a2, .int 0, .int 0, .int 0, .int 0])), (a1, .inl (ca 1, zZr 1 64)), (a2, .inl (ca 0, zZr 0 4))])) zNo 2 68 (zFq q sz) := by
  refine vx_ofW (cc := zcc 42) (maxL := 4) (ret := none) (by decide) rfl ?_
  intro p e s m args below meth c s₁ B hml ht hv
  obtain ⟨rfl, hsz, hq, hP, hK⟩ := hv
  subst hsz
  have hts := atoms_spec (ws := zws 42) B.pre
  have hts2 : ∀ w ∈ zAL, w.before [Value.ref q, .ref b1, .ref b2, .ref b3].toArray s = true := fun w hw => hts w (List.mem_cons_of_mem _ hw)
  have hown : s.vm.findClass RX3 = some m.cls := findClass_of_methodNamed B.named
  have hin : meth.name = "<init>" := (name_of_methodNamed B.named B.method).1
  have hx := B.exec
  have hb := B.bytes
  have hA : ∀ x : Nat, s.heap.size ≤ x → zFq q s.heap.size x := fun x h => Or.inr h
  have hlv := lv_entry [Value.ref q, .ref b1, .ref b2, .ref b3] (n := 4) (by show 4 ≤ 4; omega)
  rw [lg_entry_eq]
  generalize (lg_sl [Value.ref q, .ref b1, .ref b2, .ref b3] ++ List.replicate (4 - (lg_sl [Value.ref q, .ref b1, .ref b2, .ref b3]).length) Slot.unset).toArray = ls at hlv ⊢
  have l0 := hlv.2.2 (0, .ref q) List.mem_cons_self
  have l1 := hlv.2.2 (1, .ref b1) (List.mem_cons_of_mem _ List.mem_cons_self)
  have l2 := hlv.2.2 (2, .ref b2) (List.mem_cons_of_mem _ (List.mem_cons_of_mem _ List.mem_cons_self))
  have l3 := hlv.2.2 (3, .ref b3) (List.mem_cons_of_mem _ (List.mem_cons_of_mem _ (List.mem_cons_of_mem _ List.mem_cons_self)))
  refine lv_aload_n (i := 0) (x := q) hx hb zd42_0 rfl l0 ?_
  refine W.objInit hx hb hown (hts2 _ zol_3) (hts2 _ zoi_1) (hts2 _ zoi_2) rfl (hlv.1.trans hml.symm) rfl zd42_1 (by show 1 ≤ 1; omega) (by show 2 * 0 + 0 + 12 ≤ 12; omega) ?_
  refine W.eq (g2 := F0 m 4 ls []) rfl ?_
  refine z_segr (A := zFq q s.heap.size) (j := 1) (b := b1) hx hb hts2 hown hin hK hP zD1 va_S.rf l0 rfl l1 zf_3_9 zff_3_0 (by decide) (by show 0 < 9; omega) zd42_4 zd42_5 zd42_6 (fun H1 L1 hP1 hD1 hS1 => ?_)
  refine z_segr (A := zFq q s.heap.size) (j := 2) (b := b2) hx hb hts2 hown hin hK hP1 hD1 hS1 l0 rfl l2 zf_3_15 zff_3_1 (by decide) (by show 1 < 9; omega) zd42_9 zd42_10 zd42_11 (fun H2 L2 hP2 hD2 hS2 => ?_)
  refine z_segr (A := zFq q s.heap.size) (j := 3) (b := b3) hx hb hts2 hown hin hK hP2 hD2 hS2 l0 rfl l3 zf_3_19 zff_3_2 (by decide) (by show 2 < 9; omega) zd42_14 zd42_15 zd42_16 (fun H3 L3 hP3 hD3 hS3 => ?_)
  refine z_seg (A := zFq q s.heap.size) 1 (by decide) 64 (n := 64) (aty := .long) hx hb hts2 hown hin hK hP3 hD3 hS3 hA (by decide) rfl (by decide) (by show 0 + 1 ≤ 2; omega) (by show 0 + 64 ≤ 68; omega) l0 (pc2 := 22) zf_3_23 zff_3_3 (by decide) (by show 3 < 9; omega) zd42_19 (fun st k => lv_bipush hx hb zd42_20 rfl k) zd42_22 zd42_24 (fun a1 H4 L4 hP4 hD4 hS4 => ?_)
  refine z_seg (A := zFq q s.heap.size) 0 (by decide) 4 (n := 4) (aty := .int) hx hb hts2 hown hin hK hP4 hD4 hS4 hA (by decide) rfl (by decide) (by show 1 + 1 ≤ 2; omega) (by show 64 + 4 ≤ 68; omega) l0 (pc2 := 29) zf_3_27 zff_3_4 (by decide) (by show 4 < 9; omega) zd42_27 (fun st k => lv_iconst hx hb zd42_28 (show Int32.ofInt 4 = 4 from rfl) k) zd42_29 zd42_31 (fun a2 H5 L5 hP5 hD5 hS5 => ?_)
  refine W.widen (Nat.le_refl _) (Nat.le_refl _) (vx_ret ?_)
  exact W.vret hx hb B.returns (fun t ht9 _ => ⟨rfl, ⟨a1, a2, by rw [ht9]; exact hP5, hD5⟩, hS5.F ht9⟩) hS5.2.2 zd42_34
theorem zd26_0 : decode (zcc 26) 0 = .ok (.aload_n 0, 1) := by
  show decode cX2_init 0 = _
  decide +kernel
theorem zd26_1 : decode (zcc 26) 1 = .ok (.invokespecial 3, 3) := by
  show decode cX2_init 1 = _
  decide +kernel
theorem zd26_4 : decode (zcc 26) 4 = .ok (.aload_n 0, 1) := by
  show decode cX2_init 4 = _
  decide +kernel
theorem zd26_5 : decode (zcc 26) 5 = .ok (.aload_n 1, 1) := by
  show decode cX2_init 5 = _
  decide +kernel
theorem zd26_6 : decode (zcc 26) 6 = .ok (.putfield 9, 3) := by
  show decode cX2_init 6 = _
  decide +kernel
theorem zd26_9 : decode (zcc 26) 9 = .ok (.aload_n 0, 1) := by
  show decode cX2_init 9 = _
  decide +kernel
theorem zd26_10 : decode (zcc 26) 10 = .ok (.aload_n 2, 1) := by
  show decode cX2_init 10 = _
  decide +kernel
theorem zd26_11 : decode (zcc 26) 11 = .ok (.putfield 15, 3) := by
  show decode cX2_init 11 = _
  decide +kernel
theorem zd26_14 : decode (zcc 26) 14 = .ok (.aload_n 0, 1) := by
  show decode cX2_init 14 = _
  decide +kernel
theorem zd26_15 : decode (zcc 26) 15 = .ok (.aload_n 3, 1) := by
  show decode cX2_init 15 = _
  decide +kernel
theorem zd26_16 : decode (zcc 26) 16 = .ok (.putfield 19, 3) := by
  show decode cX2_init 16 = _
  decide +kernel
theorem zd26_19 : decode (zcc 26) 19 = .ok (.aload_n 0, 1) := by
  show decode cX2_init 19 = _
  decide +kernel
theorem zd26_20 : decode (zcc 26) 20 = .ok (.sipush 1000, 3) := by
  show decode cX2_init 20 = _
  decide +kernel
theorem zd26_23 : decode (zcc 26) 23 = .ok (.newarray .int, 2) := by
  show decode cX2_init 23 = _
  decide +kernel
theorem zd26_25 : decode (zcc 26) 25 = .ok (.putfield 23, 3) := by
  show decode cX2_init 25 = _
  decide +kernel
theorem zd26_28 : decode (zcc 26) 28 = .ok (.aload_n 0, 1) := by
  show decode cX2_init 28 = _
  decide +kernel
theorem zd26_29 : decode (zcc 26) 29 = .ok (.iconst (-1), 1) := by
  show decode cX2_init 29 = _
  decide +kernel
theorem zd26_30 : decode (zcc 26) 30 = .ok (.putfield 27, 3) := by
  show decode cX2_init 30 = _
  decide +kernel
theorem zd26_33 : decode (zcc 26) 33 = .ok (.return_, 1) := by
  show decode cX2_init 33 = _
  decide +kernel
theorem zol_2 : Cond.methodLink RX2 3 Lib.objectInit ∈ zAL := zmem2 82 (by decide +kernel) (by decide +kernel)
theorem zff_2_0 : zFf RX2 2 0 (.object "RuleStack$Program") := ⟨_, _, _, rfl, rfl, rfl, by decide +kernel⟩
theorem zff_2_1 : zFf RX2 2 1 (.object "RuleStack$Table") := ⟨_, _, _, rfl, rfl, rfl, by decide +kernel⟩
theorem zff_2_2 : zFf RX2 2 2 (.object "RuleStack$Machine") := ⟨_, _, _, rfl, rfl, rfl, by decide +kernel⟩
theorem zff_2_3 : zFf RX2 2 3 (.array .int) := ⟨_, _, _, rfl, rfl, rfl, by decide +kernel⟩
theorem zfp_2_5 : zFp 2 5 .int := ⟨_, _, _, rfl, rfl, by decide +kernel⟩
set_option maxHeartbeats 400000 in
/-- the constructor of RuleStack$Game -/
theorem kc_26 {l : Launch} {G : va_G} {ca : Nat → Nat} {q sz b1 b2 b3 : Nat} : vx_Met l (zym 26) (zws 26) { frames := 1, cells := 1, slots := 1000, locals := 12 } (zPo G ca 2 [.null, .null, .null, .null, .int 0, .int 0, .int 0, .int 0, .int 0, .long 0] q sz [.ref b1, .ref b2, .ref b3]) (zQo q sz (fun H => ∃ a1 : Nat, va_P G vwCl [(q, .inr (2, [.ref b1, .ref b2, .ref b3, .ref a1, .int 0, .int (-1), .int 0, .int 0, .int 0, .long 0])), (a1, .inl (ca 0, zZr 0 1000))] H ∧ va_D (zFq q sz) [(q, .inr (2, [.ref b1, .ref b2, .ref b3, .ref a1, .int 0, .int (-1), .int 0, .int 0, .int 0, .long 0])), (a1, .inl (ca 0, zZr 0 1000))])) zNo 1 1000 (zFq q sz) := by
  refine vx_ofW (cc := zcc 26) (maxL := 4) (ret := none) (by decide) rfl ?_
  intro p e s m args below meth c s₁ B hml ht hv
  obtain ⟨rfl, hsz, hq, hP, hK⟩ := hv
  subst hsz
  have hts := atoms_spec (ws := zws 26) B.pre
  have hts2 : ∀ w ∈ zAL, w.before [Value.ref q, .ref b1, .ref b2, .ref b3].toArray s = true := fun w hw => hts w (List.mem_cons_of_mem _ hw)
  have hown : s.vm.findClass RX2 = some m.cls := findClass_of_methodNamed B.named
  have hin : meth.name = "<init>" := (name_of_methodNamed B.named B.method).1
  have hx := B.exec
  have hb := B.bytes
  have hA : ∀ x : Nat, s.heap.size ≤ x → zFq q s.heap.size x := fun x h => Or.inr h
  have hlv := lv_entry [Value.ref q, .ref b1, .ref b2, .ref b3] (n := 4) (by show 4 ≤ 4; omega)
  rw [lg_entry_eq]
  generalize (lg_sl [Value.ref q, .ref b1, .ref b2, .ref b3] ++ List.replicate (4 - (lg_sl [Value.ref q, .ref b1, .ref b2, .ref b3]).length) Slot.unset).toArray = ls at hlv ⊢
  have l0 := hlv.2.2 (0, .ref q) List.mem_cons_self
  have l1 := hlv.2.2 (1, .ref b1) (List.mem_cons_of_mem _ List.mem_cons_self)
  have l2 := hlv.2.2 (2, .ref b2) (List.mem_cons_of_mem _ (List.mem_cons_of_mem _ List.mem_cons_self))
  have l3 := hlv.2.2 (3, .ref b3) (List.mem_cons_of_mem _ (List.mem_cons_of_mem _ (List.mem_cons_of_mem _ List.mem_cons_self)))
  refine lv_aload_n (i := 0) (x := q) hx hb zd26_0 rfl l0 ?_
  refine W.objInit hx hb hown (hts2 _ zol_2) (hts2 _ zoi_1) (hts2 _ zoi_2) rfl (hlv.1.trans hml.symm) rfl zd26_1 (by show 1 ≤ 1; omega) (by show 2 * 0 + 0 + 12 ≤ 12; omega) ?_
  refine W.eq (g2 := F0 m 4 ls []) rfl ?_
  refine z_segr (A := zFq q s.heap.size) (j := 1) (b := b1) hx hb hts2 hown hin hK hP zD1 va_S.rf l0 rfl l1 zf_2_9 zff_2_0 (by decide) (by show 0 < 10; omega) zd26_4 zd26_5 zd26_6 (fun H1 L1 hP1 hD1 hS1 => ?_)
  refine z_segr (A := zFq q s.heap.size) (j := 2) (b := b2) hx hb hts2 hown hin hK hP1 hD1 hS1 l0 rfl l2 zf_2_15 zff_2_1 (by decide) (by show 1 < 10; omega) zd26_9 zd26_10 zd26_11 (fun H2 L2 hP2 hD2 hS2 => ?_)
  refine z_segr (A := zFq q s.heap.size) (j := 3) (b := b3) hx hb hts2 hown hin hK hP2 hD2 hS2 l0 rfl l3 zf_2_19 zff_2_2 (by decide) (by show 2 < 10; omega) zd26_14 zd26_15 zd26_16 (fun H3 L3 hP3 hD3 hS3 => ?_)
  refine z_seg (A := zFq q s.heap.size) 0 (by decide) 1000 (n := 1000) (aty := .int) hx hb hts2 hown hin hK hP3 hD3 hS3 hA (by decide) rfl (by decide) (by show 0 + 1 ≤ 1; omega) (by show 0 + 1000 ≤ 1000; omega) l0 (pc2 := 23) zf_2_23 zff_2_3 (by decide) (by show 3 < 10; omega) zd26_19 (fun st k => lv_sipush hx hb zd26_20 rfl k) zd26_23 zd26_25 (fun a1 H4 L4 hP4 hD4 hS4 => ?_)
  refine z_segi (A := zFq q s.heap.size) (v := -1) hx hb hts2 hown hK hP4 hD4 hS4 l0 (pc2 := 30) zf_2_27 zfp_2_5 (by decide) (by show 5 < 10; omega) zd26_28 (fun st k => lv_iconst hx hb zd26_29 (show Int32.ofInt (-1) = -1 from rfl) k) zd26_30 (fun H5 L5 hP5 hD5 hS5 => ?_)
  refine W.widen (Nat.le_refl _) (Nat.le_refl _) (vx_ret ?_)
  exact W.vret hx hb B.returns (fun t ht9 _ => ⟨rfl, ⟨a1, by rw [ht9]; exact hP5, hD5⟩, hS5.F ht9⟩) hS5.2.2 zd26_33

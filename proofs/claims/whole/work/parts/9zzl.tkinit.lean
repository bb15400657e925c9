/-! ===== the constructor of the class's tokens ===== -/
theorem zol_8 : Cond.methodLink RX8 3 Lib.objectInit ∈ zAL := zmem1 55 (by decide +kernel) (by decide +kernel)
theorem zff_8_0 : zFf RX8 8 0 (.array .int) := ⟨_, _, _, rfl, rfl, rfl, by decide +kernel⟩
theorem zff_8_1 : zFf RX8 8 1 (.array .int) := ⟨_, _, _, rfl, rfl, rfl, by decide +kernel⟩
theorem zff_8_2 : zFf RX8 8 2 (.array .long) := ⟨_, _, _, rfl, rfl, rfl, by decide +kernel⟩
theorem zff_8_3 : zFf RX8 8 3 (.array .long) := ⟨_, _, _, rfl, rfl, rfl, by decide +kernel⟩
theorem tkN_end : ∀ i, i < 32 → (tkN 148).2 i = lKc.getD i 0 := by decide +kernel
/-- what a constructor takes that calls Strings -/
def zPx (G : va_G) (ad ca : Nat → Nat) (ci : Nat) (dflt : List Value) (q sz : Nat) (av : List Value) : Array Value → State → Prop := va_Pc (.ref q :: av) (fun U => U.heap.size = sz ∧ q < sz ∧ va_P G vwCl [(q, .inr (ci, dflt))] U.heap ∧ va_K G vwCl (zTY ca) U ∧ zEX ad zRz zXT2 (zFq q sz) U U.heap)
theorem zPx_blind {G : va_G} {ad ca : Nat → Nat} {ci : Nat} {dflt : List Value} {q sz : Nat} {av : List Value} : FrameBlind (zPx G ad ca ci dflt q sz av) := by
  intro a U g mk h
  obtain ⟨h0, h1, h2, h3, h4, h5⟩ := h
  exact ⟨h0, h1, h2, h3, va_K.moved (u := U) (U := U.calling g mk a) (Vm.Alike.refl U.vm) h4, zEX.moved (u := U) (U := U.calling g mk a) zXT2_ok (State.WarmedH.refl U) h5⟩
set_option maxHeartbeats 400000 in
theorem kc_91 {l : Launch} {G : va_G} {ad ca : Nat → Nat} {q sz : Nat} : vx_Met l (zym 91) (zws 91) { frames := 15, cells := 4, slots := 1385, locals := 500 } (zPx G ad ca 8 [.null, .null, .null, .null, .int 0] q sz []) (zQo q sz (fun H => ∃ a1 a2 a3 a4 : Nat, va_P G vwCl (wsT ca q a1 a2 a3 a4 (tkN 148).2) H ∧ va_D (zFq q sz) (wsT ca q a1 a2 a3 a4 (tkN 148).2))) zNo 4 1385 (zFq q sz) := by
  refine vx_ofW (cc := zcc 91) (maxL := 4) (ret := none) (by decide) rfl ?_
  intro p e s m args below meth c s₁ B hml ht hv
  obtain ⟨rfl, hsz, hq, hP, hK, hEX⟩ := hv
  subst hsz
  have hts := atoms_spec (ws := zws 91) B.pre
  have hts2 : ∀ w ∈ zAL, w.before [Value.ref q].toArray s = true := fun w hw => hts w (List.mem_cons_of_mem _ hw)
  have hown : s.vm.findClass RX8 = some m.cls := findClass_of_methodNamed B.named
  have hin : meth.name = "<init>" := (name_of_methodNamed B.named B.method).1
  have hx := B.exec
  have hb := B.bytes
  have hA : ∀ x : Nat, s.heap.size ≤ x → zFq q s.heap.size x := fun x h => Or.inr h
  have hlv := lv_entry [Value.ref q] (n := 4) (by show 1 ≤ 4; omega)
  rw [lg_entry_eq]
  generalize (lg_sl [Value.ref q] ++ List.replicate (4 - (lg_sl [Value.ref q]).length) Slot.unset).toArray = ls at hlv ⊢
  have l0 := hlv.2.2 (0, .ref q) List.mem_cons_self
  refine lv_aload_n (i := 0) (x := q) hx hb zd91_0 rfl l0 ?_
  refine W.objInit hx hb hown (hts2 _ zol_8) (hts2 _ zoi_1) (hts2 _ zoi_2) rfl (hlv.1.trans hml.symm) rfl zd91_1 (by show 1 ≤ 15; omega) (by show 2 * 0 + 0 + 12 ≤ 500; omega) ?_
  refine W.eq (g2 := F0 m 4 ls []) rfl ?_
  refine z_seg (A := zFq q s.heap.size) 0 (by decide) 451 (n := 451) (aty := .int) hx hb hts2 hown hin hK hP zD1 va_S.rf hA (by decide) rfl (by decide) (by show 0 + 1 ≤ 4; omega) (by show 0 + 451 ≤ 1385; omega) l0 (pc2 := 8) zf_8_9 zff_8_0 (by decide) (by show 0 < 5; omega) zd91_4 (fun st k => lv_sipush hx hb zd91_5 rfl k) zd91_8 zd91_10 (fun a1 H1 L1 hP1 hD1 hS1 => ?_)
  refine z_seg (A := zFq q s.heap.size) 0 (by decide) 451 (n := 451) (aty := .int) hx hb hts2 hown hin hK hP1 hD1 hS1 hA (by decide) rfl (by decide) (by show 1 + 1 ≤ 4; omega) (by show 451 + 451 ≤ 1385; omega) l0 (pc2 := 17) zf_8_15 zff_8_1 (by decide) (by show 1 < 5; omega) zd91_13 (fun st k => lv_sipush hx hb zd91_14 rfl k) zd91_17 zd91_19 (fun a2 H2 L2 hP2 hD2 hS2 => ?_)
  refine z_seg (A := zFq q s.heap.size) 1 (by decide) 451 (n := 451) (aty := .long) hx hb hts2 hown hin hK hP2 hD2 hS2 hA (by decide) rfl (by decide) (by show 2 + 1 ≤ 4; omega) (by show 902 + 451 ≤ 1385; omega) l0 (pc2 := 26) zf_8_18 zff_8_2 (by decide) (by show 2 < 5; omega) zd91_22 (fun st k => lv_sipush hx hb zd91_23 rfl k) zd91_26 zd91_28 (fun a3 H3 L3 hP3 hD3 hS3 => ?_)
  refine z_seg (A := zFq q s.heap.size) 1 (by decide) 32 (n := 32) (aty := .long) hx hb hts2 hown hin hK hP3 hD3 hS3 hA (by decide) rfl (by decide) (by show 3 + 1 ≤ 4; omega) (by show 1353 + 32 ≤ 1385; omega) l0 (pc2 := 34) zf_8_22 zff_8_3 (by decide) (by show 3 < 5; omega) zd91_31 (fun st k => lv_bipush hx hb zd91_32 rfl k) zd91_34 zd91_36 (fun a4 H4 L4 hP4 hD4 hS4 => ?_)
  refine lv_iconst (v := 0) hx hb zd91_39 (show Int32.ofInt 0 = 0 from rfl) ?_
  refine lv_istore_n (i := 1) (lv' := [(1, .int 0), (0, .ref q)]) hx hb zd91_40 rfl hlv (by decide) rfl (fun ls1 h1 => ?_)
  refine lv_iconst (v := 0) hx hb zd91_41 (show Int32.ofInt 0 = 0 from rfl) ?_
  refine lv_istore_n (i := 2) (lv' := [(2, .int 0), (1, .int 0), (0, .ref q)]) hx hb zd91_42 rfl h1 (by decide) rfl (fun ls2 h2 => ?_)
  have hC : zC [] p s m [Value.ref q].toArray c (zFq q s.heap.size) G ad ca 91 := ⟨hx, hb, hml, hown, hts2, hK, fun _ _ _ => zWn_D, hA⟩
  refine tk_loop (q := q) (a1 := a1) (a2 := a2) (a3 := a3) (a4 := a4) hC hEX ⟨by show 4 + 11 ≤ 15; omega, by show (4 + 1) * 100 ≤ 500; omega⟩ (by show _ ≤ 4; omega) (by show _ ≤ 1385; omega) (fun H5 L5 ls5 hP5 hD5 hS5 => ?_) 148 0 H4 L4 ls2 rfl hP4 hD4 hS4 ⟨h2.1, h2.2.1, fun y hy => h2.2.2 y ?_⟩
  · refine W.widen (Nat.le_refl _) (Nat.le_refl _) (vx_ret ?_)
    exact W.vret hx hb B.returns (fun t ht9 _ => ⟨rfl, ⟨a1, a2, a3, a4, by rw [ht9]; exact hP5, hD5⟩, hS5.F ht9⟩) hS5.2.2 zd91_104
  · have hy : y = (0, .ref q) ∨ y = (1, .int 0) ∨ y = (2, .int 0) := by
      have hy2 : y ∈ [((0 : Nat), Value.ref q), (1, .int 0), (2, .int 0)] := hy
      simpa using hy2
    rcases hy with rfl | rfl | rfl
    · exact List.mem_cons_of_mem _ (List.mem_cons_of_mem _ List.mem_cons_self)
    · exact List.mem_cons_of_mem _ List.mem_cons_self
    · exact List.mem_cons_self

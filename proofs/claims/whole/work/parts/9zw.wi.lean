/-! ===== the constructor of Wrong ===== -/
def zFresh (G : va_G) (q : Nat) (U : State) : Prop := ∃ tys : Array FieldType, U.heap[q]? = some ({ cls := G.1 10, slots := tys.map defaultValue, vm := .none } : Cell) ∧ ∀ k : Class, U.vm.classes[G.1 10]? = some k → k.instanceTypes = tys
theorem zFresh_mv {G : va_G} {q : Nat} {u U : State} (hvm : u.vm.Alike U.vm) (hh : U.heap[q]? = u.heap[q]?) (h : zFresh G q u) : zFresh G q U := by
  obtain ⟨tys, h1, h2⟩ := h
  obtain ⟨-, hz, hk⟩ := hvm
  refine ⟨tys, hh.trans h1, fun k' hk' => ?_⟩
  have hlt := (Array.getElem?_eq_some_iff.mp hk').1
  rw [hz] at hlt
  obtain ⟨k2, e2, e3⟩ := hk (G.1 10) _ (Array.getElem?_eq_getElem hlt)
  cases hk'.symm.trans e2
  have h9 := h2 _ (Array.getElem?_eq_getElem hlt)
  exact (congrArg Class.instanceTypes e3).trans h9
def zPw (G : va_G) (ad ca : Nat → Nat) (q : Nat) (ev pv : Int32) : Array Value → State → Prop := va_Pc [.ref q, .int ev, .int pv] (fun U => va_K G vwCl (zTY ca) U ∧ zFresh G q U ∧ zXT ad (fun a => a = q) U U.heap)
def zQw (G : va_G) (q : Nat) (ev pv : Int32) : Array Value → State → Outcome → State → Prop := fun _ st oc t => oc = .returned none ∧ (∃ fs : List Value, fs[6]? = some (.int ev) ∧ fs[7]? = some (.int pv) ∧ va_at G vwCl (q, .inr (10, fs)) t.heap) ∧ va_F (fun a => a = q) st t
def zRw : Room := { frames := 5, cells := 0, slots := 0, locals := 67 }
theorem zPw_blind {G : va_G} {ad ca : Nat → Nat} {q : Nat} {ev pv : Int32} : FrameBlind (zPw G ad ca q ev pv) := by
  intro a U g mk h
  obtain ⟨h0, h1, h2, h3⟩ := h
  exact ⟨h0, va_K.moved (u := U) (U := U.calling g mk a) (Vm.Alike.refl U.vm) h1, zFresh_mv (u := U) (U := U.calling g mk a) (Vm.Alike.refl U.vm) rfl h2, zXT_ok.1 _ _ U (U.calling g mk a) _ (State.WarmedH.refl U) h3⟩
theorem zSupW_ok : ∀ w ∈ (zSupW "RuleStackModel$Wrong" 1 "java/lang/RuntimeException" ["java/lang/Exception"] "RuleStackModel$Wrong" 8).filter vx_no, zWd w = true := by decide +kernel
theorem zd132_0 : decode (zcc 132) 0 = .ok (.aload_n 0, 1) := by
  show decode cX10_init 0 = _
  decide +kernel
theorem zd132_1 : decode (zcc 132) 1 = .ok (.invokespecial 1, 3) := by
  show decode cX10_init 1 = _
  decide +kernel
theorem zd132_4 : decode (zcc 132) 4 = .ok (.aload_n 0, 1) := by
  show decode cX10_init 4 = _
  decide +kernel
theorem zd132_5 : decode (zcc 132) 5 = .ok (.iload_n 1, 1) := by
  show decode cX10_init 5 = _
  decide +kernel
theorem zd132_6 : decode (zcc 132) 6 = .ok (.putfield 7, 3) := by
  show decode cX10_init 6 = _
  decide +kernel
theorem zd132_9 : decode (zcc 132) 9 = .ok (.aload_n 0, 1) := by
  show decode cX10_init 9 = _
  decide +kernel
theorem zd132_10 : decode (zcc 132) 10 = .ok (.iload_n 2, 1) := by
  show decode cX10_init 10 = _
  decide +kernel
theorem zd132_11 : decode (zcc 132) 11 = .ok (.putfield 13, 3) := by
  show decode cX10_init 11 = _
  decide +kernel
theorem zd132_14 : decode (zcc 132) 14 = .ok (.return_, 1) := by
  show decode cX10_init 14 = _
  decide +kernel
section Wi
variable {l : Launch}
set_option maxHeartbeats 400000 in
theorem z_wi (hl : l.stackTraces = false) {G : va_G} {ad ca : Nat → Nat} {q : Nat} {ev pv : Int32} : vx_Met l (zym 132) (zws 132) zRw (zPw G ad ca q ev pv) (zQw G q ev pv) (fun _ _ _ _ => False) 0 0 (fun a => a = q) := by
  refine vx_ofW (cc := zcc 132) (maxL := 3) (ret := none) (by decide) rfl ?_
  intro p e s m args below meth c s₁ B hml ht hv
  obtain ⟨rfl, hK, ⟨tys, hcell, htys⟩, hX⟩ := hv
  have hts := atoms_spec (ws := zws 132) B.pre
  have hts2 : ∀ w ∈ zAL, w.before [Value.ref q, .int ev, .int pv].toArray s = true := fun w hw => hts w (List.mem_cons_of_mem _ hw)
  have hown : s.vm.findClass "RuleStackModel$Wrong" = some m.cls := findClass_of_methodNamed B.named
  have hin : meth.name = "<init>" := (name_of_methodNamed B.named B.method).1
  have hx := B.exec
  have hb := B.bytes
  obtain ⟨hS, hfc, kC, hkC, hkind⟩ := hK.1 10 (RX10, TX10, 8) rfl
  have hty := htys kC hkC
  subst hty
  obtain ⟨x1, x2, x3, x4, x5, x6, x7, x8, x9, x10, x11⟩ := hX
  have hat : ∀ w ∈ zSupW "RuleStackModel$Wrong" 1 "java/lang/RuntimeException" ["java/lang/Exception"] "RuleStackModel$Wrong" 8, w.before [Value.ref q, .int ev, .int pv].toArray s = true :=
    vx_own (fun w hw => (zWd_of hts2 ⟨x1, x2, x3, x4, x5, x6, x7, x8, x9, x10, x11⟩ (zSupW_ok w hw)).1) (vx_isRefq x1.1) (vx_isRefq x2.1) x1.2.word x2.2.word
  rw [lg_entry_eq]
  have hlv := lv_entry [Value.ref q, .int ev, .int pv] (n := 3) (by show 3 ≤ 3; omega)
  generalize (lg_sl [Value.ref q, .int ev, .int pv] ++ List.replicate (3 - (lg_sl [Value.ref q, .int ev, .int pv]).length) Slot.unset).toArray = ls at hlv ⊢
  have l0 := hlv.2.2 (0, .ref q) List.mem_cons_self
  have l1 := hlv.2.2 (1, .int ev) (List.mem_cons_of_mem _ List.mem_cons_self)
  have l2 := hlv.2.2 (2, .int pv) (List.mem_cons_of_mem _ (List.mem_cons_of_mem _ List.mem_cons_self))
  refine lv_aload_n (i := 0) (x := q) hx hb zd132_0 rfl l0 ?_
  intro T hT X
  have htr : e.platform.stackTraces = false := (show e.platform.stackTraces = l.stackTraces by rw [X.admits.platform]).trans hl
  have hd1 : decode c.code 1 = .ok (.invokespecial 1, 3) := by rw [hb]; exact zd132_1
  obtain ⟨V, ce, L, X2, hL, hlt, hcl, hvm, hsz, hoth, st⟩ := z_super X hx htr (own := "RuleStackModel$Wrong") (cls := "java/lang/RuntimeException") (OB := "RuleStackModel$Wrong") (NO := 8) (names := ["java/lang/Exception"]) (ic := 1) hown (by decide +kernel) (by decide +kernel) hat (a := q) hfc hkC (by rw [hT]; exact hcell) (fun cell h => by cases hcell.symm.trans h; rfl) (g := F0 m 1 _ [.ref q]) rfl (hlv.1.trans hml.symm) (rest := []) rfl hd1 (by show 1 + 3 < 5; omega) (by show 2 * 0 + 0 + (13 * (1 + 1) + 41) ≤ 67; omega)
  have hq2 : (V.setCell q ce).heap[q]? = some ce := heapAt_setCell_self (s := V) ce hlt
  have born := u_born (o := q) (H := s.heap) tyX10 hts2 zcl_10.2.1 (hK.1 10 (RX10, TX10, 8) rfl) hkC hcell tyX10_ok
  obtain ⟨fs, hfs⟩ : ∃ fs : List Value, fs = (List.range 8).map (fun k => ce.slots.getD (G.2 10 k) .null) := ⟨_, rfl⟩
  have hat2 : va_at G vwCl (q, .inr (10, fs)) (V.setCell q ce).heap := by
    refine ⟨(RX10, TX10, 8), rfl, ce, hq2, hcl, hvm, fun k hk => ?_⟩
    obtain ⟨cell, b1, -, -, b4⟩ := born
    cases hcell.symm.trans b1
    have h9 := (Array.getElem?_eq_some_iff.mp (b4 k hk)).1
    have h8 : G.2 10 k < ce.slots.size := by rw [hsz]; exact h9
    rw [hfs]
    show _ = some (((List.range 8).map (fun k => ce.slots.getD (G.2 10 k) .null)).getD k .null)
    rw [List.getD_eq_getElem?_getD, List.getElem?_map, List.getElem?_range hk]
    show _ = some (ce.slots.getD (G.2 10 k) .null)
    rw [Array.getD_eq_getD_getElem?, Array.getElem?_eq_getElem h8]
    rfl
  have hP1 : va_P G vwCl [(q, .inr (10, fs))] (V.setCell q ce).heap := by
    intro k y hy
    cases k with
    | zero => cases hy; exact hat2
    | succ k => cases hy
  have hD1 : va_D (fun a => a = q) [(q, (.inr (10, fs) : va_E))] := by
    refine ⟨fun i j x y hi hj _ => ?_, fun k y hy => ?_⟩
    · have i1 := (List.getElem?_eq_some_iff.mp hi).1
      have j1 := (List.getElem?_eq_some_iff.mp hj).1
      have i2 : i < 1 := i1
      have j2 : j < 1 := j1
      omega
    · cases k with
      | zero => cases hy; rfl
      | succ k => cases hy
  have hS1 : va_S (fun a => a = q) s.heap (V.setCell q ce).heap L := ⟨(vx_frame X2.same).1, fun x hx9 hne => (hoth x hne).trans (by rw [hT]), hL⟩
  have hfl : fs.length = 8 := by rw [hfs, List.length_map, List.length_range]
  obtain ⟨C1, T1, N1, c1, n1, w1⟩ := zf_10_7
  cases c1
  obtain ⟨C2, T2, N2, c2, n2, w2⟩ := zf_10_13
  cases c2
  have kk : W p l e (headSpec (zws 132) zRw).room s m [Value.ref q, .int ev, .int pv].toArray below meth c (V.setCell q ce).heap L 0 0 (vx_MQ below (zQw G q ev pv) (fun _ _ _ _ => False) [Value.ref q, .int ev, .int pv].toArray s 0 0 (fun a => a = q)) (F0 m 4 ls []) := by
    refine lv_aload_n (i := 0) (x := q) hx hb zd132_4 rfl l0 ?_
    refine lv_iload_n (i := 1) (x := ev) hx hb zd132_5 rfl l1 ?_
    refine va_putF (ty := .int) hx hb hts2 zcl_10.2.1 tyX10 tyX10_ok nmX10 hown hK hP1 hD1 hS1 0 rfl rfl 6 (by decide) (hts2 _ w1) (fun x h => h) rfl hin rfl rfl rfl rfl (by rw [hfl]; decide) zd132_6 (fun H2 L2 hP2 hD2 hS2 => ?_)
    refine lv_aload_n (i := 0) (x := q) hx hb zd132_9 rfl l0 ?_
    refine lv_iload_n (i := 2) (x := pv) hx hb zd132_10 rfl l2 ?_
    refine va_putF (ty := .int) hx hb hts2 zcl_10.2.1 tyX10 tyX10_ok nmX10 hown hK hP2 hD2 hS2 0 rfl rfl 7 (by decide) (hts2 _ w2) (fun x h => h) rfl hin rfl rfl rfl rfl (by rw [List.length_set, hfl]; decide) zd132_11 (fun H3 L3 hP3 hD3 hS3 => ?_)
    refine W.widen (Nat.le_refl _) (Nat.le_refl _) (vx_ret ?_)
    refine W.vret hx hb B.returns (fun t ht9 _ => ⟨rfl, ⟨(fs.set 6 (.int ev)).set 7 (.int pv), ?_, ?_, ?_⟩, hS3.F ht9⟩) hS3.2.2 zd132_14
    · rw [List.getElem?_set_ne (by decide), List.getElem?_set_self (by rw [hfl]; decide)]
    · rw [List.getElem?_set_self (by rw [List.length_set, hfl]; decide)]
    · rw [ht9]
      exact hP3 0 _ rfl
  obtain ⟨t, a1, b1⟩ := kk _ rfl X2
  exact ⟨t, st t a1, b1⟩
end Wi

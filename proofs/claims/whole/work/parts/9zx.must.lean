/-! ===== a Wrong made and thrown ===== -/
def zFr (G : va_G) (q : Nat) (s : State) (H : Heap) : Prop := ∃ tys : Array FieldType, H[q]? = some ({ cls := G.1 10, slots := tys.map defaultValue, vm := .none } : Cell) ∧ ∀ k : Class, s.vm.classes[G.1 10]? = some k → k.instanceTypes = tys
theorem zmo_132 : Cond.code (zym 132) (zcc 132) 3 none ∈ zAL ∧ Cond.initialized "RuleStackModel$Wrong" ∈ zAL ∧ Cond.instanceMethod (zym 132) ∈ zAL ∧ Cond.instantiable "RuleStackModel$Wrong" 8 ∈ zAL := ⟨zmem6 165 (by decide +kernel) (by decide +kernel), zmem1 23 (by decide +kernel) (by decide +kernel), zmem6 164 (by decide +kernel) (by decide +kernel), zmem6 155 (by decide +kernel) (by decide +kernel)⟩
theorem zdc_132 : (parseMethodDescriptor (zym 132).desc).map (fun d => d.parameters.length) = some 2 := by decide +kernel
section Mk
variable {p : Program} {l : Launch} {e : Env} {R : Room} {s : State} {m : MethodId} {args : Array Value} {below : List Frame} {meth : Method} {c : Code} {Q : State → Prop} {H : Heap} {locs : List Loc} {cells slots : Nat}
variable {A : Nat → Prop} {G : va_G} {ad ca : Nat → Nat} {cc : ByteArray} {pc : Nat} {ls : Array Slot} {rest : List Value}
theorem z_newW (hx : p.tables.exec = Jvm.exec) (hb : c.code = cc) (hown : s.vm.findClass "RuleStackModel" = some m.cls) (hts : ∀ w ∈ zAL, w.before args s = true) (hK : va_K G vwCl (zTY ca) s) (hS : va_S A s.heap H locs) (hA : ∀ q, s.heap.size ≤ q → A q) (hc : cells + 1 ≤ R.cells) (hs : slots + 8 ≤ R.slots) (hdg : decode cc pc = .ok (.new 173, 3))
    (kk : ∀ (q : Nat) (H1 : Heap), H.size = q → A q → zFr G q s H1 → va_S A s.heap H1 locs → (∀ x, x < q → H1[x]? = H[x]?) → W p l e R s m args below meth c H1 locs (cells + 1) (slots + 8) Q (F0 m (pc + 3) ls (.ref q :: rest))) : W p l e R s m args below meth c H locs cells slots Q (F0 m pc ls rest) := by
  obtain ⟨hS9, hfc, kC9, hkC9, hkind⟩ := hK.1 10 (RX10, TX10, 8) rfl
  refine W.newcK (own := "RuleStackModel") (C := "RuleStackModel$Wrong") hx hb hown (hts _ zcl_w) (hts _ zmo_132.2.2.2) (hts _ zmo_132.2.1) rfl hdg hc hs hfc rfl fun H1 kC hkC e1 z1 o1 => ?_
  cases hkC9.symm.trans hkC
  refine kk H.size H1 rfl (hA _ hS.1) ⟨kC9.instanceTypes, e1, fun k hk => ?_⟩ ⟨Nat.le_trans hS.1 (by omega), fun x h1 h2 => (o1 x (Nat.lt_of_lt_of_le h1 hS.1)).trans (hS.2.1 x h1 h2), hS.2.2⟩ o1
  cases hkC9.symm.trans hk
  rfl
set_option maxHeartbeats 400000 in
theorem z_initW (hl : l.stackTraces = false) (hx : p.tables.exec = Jvm.exec) (hb : c.code = cc) (hml : ls.size = c.maxLocals) (hown : s.vm.findClass "RuleStackModel" = some m.cls) (hts : ∀ w ∈ zAL, w.before args s = true) (hX : zXT ad A s s.heap) (hK : va_K G vwCl (zTY ca) s) (hS : va_S A s.heap H locs) {q : Nat} {ev pv : Int32} (hq : A q) (hfr : zFr G q s H) (hF : 6 ≤ R.frames) (hL : 82 ≤ R.locals) (hc : cells ≤ R.cells) (hs : slots ≤ R.slots) (hdg : decode cc pc = .ok (.invokespecial 175, 3))
    (kk : ∀ (H1 : Heap) (locs1 : List Loc) (fs : List Value), fs[6]? = some (.int ev) → fs[7]? = some (.int pv) → va_at G vwCl (q, .inr (10, fs)) H1 → va_S A s.heap H1 locs1 → (∀ x, x < H.size → ¬ x = q → H1[x]? = H[x]?) → W p l e R s m args below meth c H1 locs1 cells slots Q (F0 m (pc + 3) ls [.ref q])) : W p l e R s m args below meth c H locs cells slots Q (F0 m pc ls [.int pv, .int ev, .ref q, .ref q]) := by
  have hini : (Cond.initialized (zym 132).cls).before args s = true := hts _ zmo_132.2.1
  have hK9 : vx_Back l R p e below s args (zym 132) 3 1 (PreOf R 0 0 (zPw G ad ca q ev pv)) (PostOf (zQw G q ev pv) 0 0 (fun a => a = q)) (vx_Post (fun _ _ _ _ => False) 0 0 (fun a => a = q)) :=
    vx_back (bytes := zcc 132) (maxL := 3) (ret := none) (z_wi hl) zPw_blind rfl rfl (by show 5 + 1 ≤ R.frames; omega) (by show 1 + (3 + 11) + 67 ≤ R.locals; omega) (pay_in hts (zGood (fun w hw => (List.mem_cons.mp hw).elim (fun h => h ▸ zmo_132.1) id))) List.mem_cons_self (fun a' U hW => word_at hW (Or.inl (by first | rfl | simp [Cond.onTables, Cond.keeps, Cond.steady])) hini)
  intro T hT X
  have hpl : e.platform.magicAccessors = ({} : Platform).magicAccessors := by rw [X.admits.platform]
  have hdg' : decode c.code pc = .ok (.invokespecial 175, 3) := by rw [hb]; exact hdg
  obtain ⟨mk, methM, cM, kP, vm₁, hnamed, hmethM, hcodeM, -, hlocalsM, -, hkP, -, hW₁, hstep₁⟩ := Steps.initColdArgsNest (e := e) X.here hx X.warmed hpl hown (t := zym 132) rfl (by decide +kernel) (va_Nw.use rfl hX.2.2.2.2.2.1) (hts _ zmo_132.2.2.1) (hts _ zmo_132.1) (f := F0 m pc ls [.int pv, .int ev, .ref q, .ref q]) rfl (a := q) (argsL := [.int ev, .int pv]) (rest := [.ref q]) (fun sig h => by have h2 := zdc_132; rw [h] at h2; exact (Option.some.inj h2).symm) rfl hdg'
  have X₁ := X.noted hW₁
  have hpre : PreOf R 0 0 (zPw G ad ca q ev pv) ⟨T.setVm vm₁, locs, cells, slots⟩ [Value.ref q, .int ev, .int pv].toArray := by
    refine ⟨hc, hs, rfl, va_K.moved X₁.warmed.alike hK, zFresh_mv (u := T.setVm s.vm) (U := T.setVm vm₁) X₁.warmed.alike rfl ?_, ?_⟩
    · obtain ⟨tys, f1, f2⟩ := hfr
      exact ⟨tys, by show T.heap[q]? = _; rw [hT]; exact f1, f2⟩
    · have h9 := zXT_ok.2 ad A (fun a => a = q) s s.heap H hX hS.2.1 hS.1 (fun x hx9 => by rw [hx9]; exact hq)
      have h8 := zXT_ok.1 ad (fun a => a = q) s (T.setVm vm₁) H X₁.warmed h9
      show zXT ad (fun a => a = q) (T.setVm vm₁) T.heap
      rw [hT]
      exact h8
  rcases hK9 m meth c ⟨T.setVm vm₁, locs, cells, slots⟩ (F0 m pc ls [.ref q]) (.invokespecial 175) mk [Value.ref q, .int ev, .int pv].toArray X₁ rfl hml hdg' (by show 2 * 0 + 1 ≤ 1; omega) (X₁.named hnamed) hpre with ⟨v, ⟨U', l2, c2, s2⟩, X', ⟨g', mk9, t, L, e1, e2, hq9, h1, hL9, h2, h3⟩, hsteps⟩ | ⟨q9, ⟨U', l2, c2, s2⟩, X', ⟨g', mk9, t, L, E, ce, e1, e2, hq9, -⟩, hsteps⟩
  · dsimp only [Pt.U, Pt.locs, Pt.cells, Pt.slots] at X' e1 e2 h1 h2 h3 hsteps
    subst h1; subst h2; subst h3
    obtain ⟨hv, ⟨fs, f6, f7, hat⟩, hFF⟩ := hq9
    cases hv
    obtain ⟨k1, k2, k3⟩ := vx_keep (A0 := A) (A1 := fun a => a = q) (free := fun a => a = q) hT e1 hS (fun x _ (hx9 : x = q) => by rw [hx9]; exact hq) (fun x (hx9 : x = q) => by rw [hx9]; exact hq) hL9 hFF
    obtain ⟨t2, a1, b1⟩ := kk U'.heap (locs ++ L) fs f6 f7 (by rw [e1]; exact hat) k3 (fun x h1 h2 => k2 x h1 h2) U' rfl X'
    exact ⟨t2, hstep₁ _ fun acts => by rw [doInvoke_state]; exact hsteps.trans a1, b1⟩
  · exact hq9.elim
/-- a throw of what is on the stack -/
theorem z_athrow (hx : p.tables.exec = Jvm.exec) (hb : c.code = cc) {q : Addr} (hdg : decode cc pc = .ok (.athrow, 1)) (k : vx_W p l e R s m args below meth c H locs cells slots Q (F0 m pc ls rest) q) : W p l e R s m args below meth c H locs cells slots Q (F0 m pc ls (.ref q :: rest)) := by
  intro T hT X
  obtain ⟨t, st, hq⟩ := k T hT X
  have hdg' : decode c.code pc = .ok (.athrow, 1) := by rw [hb]; exact hdg
  refine ⟨t, ?_, hq⟩
  jvm_step X.here [X.here.top, hx, hdg', athrow.wp_sem]
  exact st
end Mk
theorem zd150_11 : decode (zcc 150) 11 = .ok (.new 173, 3) := by
  show decode cX11_must 11 = _
  decide +kernel
theorem zd150_14 : decode (zcc 150) 14 = .ok (.dup, 1) := by
  show decode cX11_must 14 = _
  decide +kernel
theorem zd150_15 : decode (zcc 150) 15 = .ok (.iload_n 2, 1) := by
  show decode cX11_must 15 = _
  decide +kernel
theorem zd150_16 : decode (zcc 150) 16 = .ok (.iload_n 3, 1) := by
  show decode cX11_must 16 = _
  decide +kernel
theorem zd150_17 : decode (zcc 150) 17 = .ok (.invokespecial 175, 3) := by
  show decode cX11_must 17 = _
  decide +kernel
theorem zd150_20 : decode (zcc 150) 20 = .ok (.athrow, 1) := by
  show decode cX11_must 20 = _
  decide +kernel
section Must
variable {SH : List zHs} {l : Launch} {RO : zRo}
theorem zs_must_ok (hl : l.stackTraces = false) : zSPok SH l RO zs_must zXT := by
  intro p e R s m args below meth c Q A G ad ca mi d E P pc ll st I J D bc bs hC hEX hR htab hlk hQ hEnd hEndX hE hEW h
  obtain ⟨ev, pv, ⟨rfl, rfl, l2, l3, rfl, hb1, hb8⟩, hp⟩ := h
  obtain ⟨hx, hb, hml, hown, hts, hK, hD, hA⟩ := hC
  intro H locs ls cells slots hP hS hll hbc hbs
  obtain ⟨-, hfc, -⟩ := hK.1 10 (RX10, TX10, 8) rfl
  refine z_newW hx hb hown hts hK hS hA (by omega) (by omega) zd150_11 (fun q H1 hq0 hqA hfr hS1 ho1 => ?_)
  refine lv_dup hx hb (va := .ref q) zd150_14 rfl ?_
  refine lv_iload_n (i := 2) (x := ev) hx hb zd150_15 rfl (zlv_at hll l2) ?_
  refine lv_iload_n (i := 3) (x := pv) hx hb zd150_16 rfl (zlv_at hll l3) ?_
  refine z_initW hl hx hb (hll.1.trans hml.symm) hown hts hEX.2.2 hK hS1 hqA hfr (by omega) (by omega) (by omega) (by omega) zd150_17 (fun H2 locs2 fs f6 f7 hat hS2 ho2 => ?_)
  refine z_athrow hx hb zd150_20 ?_
  obtain ⟨r, hr, cell, q1, q2, q3, q4⟩ := hat
  refine hEndX (3, ev, pv) I J D hp _ _ _ H2 locs2 _ _ q cell ?_ hS2 (fun _ => ⟨fs, f6, f7, ⟨r, hr, cell, q1, q2, q3, q4⟩⟩) q1 q3 (by rw [q2]; exact hfc) (by omega) (by omega)
  refine hP.kept (fun k y hk => ?_)
  have hlt := (hP k y hk).lt
  have hne : ¬ y.1 = q := by omega
  obtain ⟨tys, t1, -⟩ := hfr
  have hz := (Array.getElem?_eq_some_iff.mp t1).1
  rw [ho2 y.1 (by omega) hne, ho1 y.1 (by omega)]
end Must

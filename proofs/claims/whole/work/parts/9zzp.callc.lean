/-! ===== a constructor called ===== -/
section CallC
variable {p : Program} {l : Launch} {e : Env} {R : Room} {s : State} {m : MethodId} {args : Array Value} {below : List Frame} {meth : Method} {c : Code} {Q : State → Prop} {H : Heap} {locs : List Loc} {cells slots : Nat}
variable {A : Nat → Prop} {G : va_G} {ad ca : Nat → Nat} {cc : ByteArray} {pc : Nat} {ls : Array Slot} {rest : List Value}
set_option maxHeartbeats 400000 in
theorem z_callC {own : String} {idx mj maxL mc ms o : Nat} {rm : Room} {Pc : Array Value → State → Prop} {res : Heap → Prop} {As : List Value} (hM : vx_Met l (zym mj) (zws mj) rm Pc (zQo o H.size res) zNo mc ms (zFq o H.size)) (hbl : FrameBlind Pc) (hrm : rm.cells = mc ∧ rm.slots = ms) (hmx : znl mj = maxL ∧ zrt mj = none)
    (hx : p.tables.exec = Jvm.exec) (hb : c.code = cc) (hml : ls.size = c.maxLocals) (hown : s.vm.findClass own = some m.cls) (hts : ∀ w ∈ zAL, w.before args s = true) (hS : va_S A s.heap H locs) (ho : A o) (hA : ∀ q, s.heap.size ≤ q → A q)
    (hw : Cond.code (zym mj) (zcc mj) maxL none ∈ zAL ∧ Cond.initialized (zym mj).cls ∈ zAL ∧ Cond.instanceMethod (zym mj) ∈ zAL ∧ Cond.methodLink own idx (zym mj) ∈ zAL) (hnm : (zym mj).name = "<init>") (hy : (zym mj).cls ≠ "java/lang/invoke/MethodHandle" ∧ (zym mj).cls ≠ "java/lang/invoke/VarHandle") (hds : (parseMethodDescriptor (zym mj).desc).map (fun d => d.parameters.length) = some As.length)
    (hF : rm.frames + 1 ≤ R.frames) (hL : 8 + (maxL + 11) + rm.locals ≤ R.locals) (hc : cells + mc ≤ R.cells) (hs : slots + ms ≤ R.slots) (hcat : (rest.map fun v => v.category).sum ≤ 8) (hdg : decode cc pc = .ok (.invokespecial idx, 3))
    (hpre : ∀ U : State, U.heap = H → s.WarmedH U.vm → Pc (.ref o :: As).toArray U)
    (kk : ∀ (H1 : Heap) (locs1 : List Loc), res H1 → va_S A s.heap H1 locs1 → (∀ x, x < H.size → ¬ x = o → H1[x]? = H[x]?) → W p l e R s m args below meth c H1 locs1 (cells + mc) (slots + ms) Q (F0 m (pc + 3) ls rest)) : W p l e R s m args below meth c H locs cells slots Q (F0 m pc ls (As.reverse ++ .ref o :: rest)) := by
  obtain ⟨hm1, hm2⟩ := hmx
  have hini : (Cond.initialized (zym mj).cls).before args s = true := hts _ hw.2.1
  have hK9 : vx_Back l R p e below s args (zym mj) 3 8 (PreOf R mc ms Pc) (PostOf (zQo o H.size res) mc ms (zFq o H.size)) (vx_Post zNo mc ms (zFq o H.size)) :=
    vx_back (bytes := zcc mj) (maxL := maxL) (ret := none) hM hbl hrm.1 hrm.2 hF hL (pay_in hts (zGood (fun w h => (List.mem_cons.mp h).elim (fun h => by rw [h, hm1, hm2]; exact hw.1) id))) (by unfold zws; rw [hm1, hm2]; exact List.mem_cons_self) (fun a' U hW => word_at hW (Or.inl (by first | rfl | simp [Cond.onTables, Cond.keeps, Cond.steady])) hini)
  intro T hT X
  have hpl : e.platform.magicAccessors = ({} : Platform).magicAccessors := by rw [X.admits.platform]
  have hdg' : decode c.code pc = .ok (.invokespecial idx, 3) := by rw [hb]; exact hdg
  obtain ⟨mk, methM, cM, kP, vm₁, hnamed, hmethM, hcodeM, -, hlocalsM, -, hkP, -, hW₁, hstep₁⟩ := Steps.initColdArgs (e := e) X.here hx X.warmed hpl hown hnm hy (hts _ hw.2.2.2) (hts _ hw.2.2.1) (hts _ hw.1) (f := F0 m pc ls (As.reverse ++ .ref o :: rest)) rfl (fun sig h => by have h2 := hds; rw [h] at h2; exact (Option.some.inj h2).symm) rfl hdg'
  have X₁ := X.noted hW₁
  rcases hK9 m meth c ⟨T.setVm vm₁, locs, cells, slots⟩ (F0 m pc ls rest) (.invokespecial idx) mk (Value.ref o :: As).toArray X₁ rfl hml hdg' (by show 2 * 0 + (rest.map fun v => v.category).sum ≤ 8; omega) (X₁.named hnamed) ⟨hc, hs, hpre (T.setVm vm₁) hT X₁.warmed⟩ with ⟨v, ⟨U', l2, c2, s2⟩, X', ⟨g', mk9, t, L, e1, e2, hq9, h1, hL9, h2, h3⟩, hsteps⟩ | ⟨q9, ⟨U', l2, c2, s2⟩, X', ⟨g', mk9, t, L, E, ce, e1, e2, hq9, -⟩, hsteps⟩
  · dsimp only [Pt.U, Pt.locs, Pt.cells, Pt.slots] at X' e1 e2 h1 h2 h3 hsteps
    subst h1; subst h2; subst h3
    obtain ⟨hv, hres, hFF⟩ := hq9
    cases hv
    have hA9 : ∀ x, zFq o H.size x → A x := fun x hx9 => by
      rcases hx9 with rfl | hx9
      · exact ho
      · exact hA x (Nat.le_trans hS.1 hx9)
    obtain ⟨k1, k2, k3⟩ := vx_keep (A0 := A) (A1 := zFq o H.size) (free := zFq o H.size) hT e1 hS (fun x _ hx9 => hA9 x hx9) hA9 hL9 hFF
    obtain ⟨t2, a1, b1⟩ := kk U'.heap (locs ++ L) (by rw [e1]; exact hres) k3 (fun x h1 h2 => k2 x h1 (fun z => by
      rcases z with z | z
      · exact h2 z
      · omega)) U' rfl X'
    exact ⟨t2, hstep₁ _ fun acts => by rw [doInvoke_state]; exact hsteps.trans a1, b1⟩
  · exact hq9.elim
end CallC

/-! ===== a part of the class's object: made, its constructor called, set into its field ===== -/
section Joinm
variable {A : Nat → Prop} {G : va_G} {H H1 : Heap} {ws L L0 : va_W} {o : Nat} {x : va_E}
theorem z_joinm (hP : va_P G vwCl ((ws ++ [(o, x)]) ++ L0) H) (hD : va_D A ((ws ++ [(o, x)]) ++ L0)) (hA : ∀ y, zFq o H.size y → A y) (hk : ∀ y, y < H.size → ¬ y = o → H1[y]? = H[y]?) (hP1 : va_P G vwCl L H1) (hD1 : va_D (zFq o H.size) L) : va_P G vwCl ((ws ++ L0) ++ L) H1 ∧ va_D A ((ws ++ L0) ++ L) := by
  have f : ∀ (k : Nat) (y : Nat × va_E), (ws ++ L0)[k]? = some y → ∃ k9, ((ws ++ [(o, x)]) ++ L0)[k9]? = some y ∧ k9 ≠ ws.length ∧ (k9 < ws.length → k9 = k) ∧ (ws.length ≤ k9 → k9 = k + 1) := by
    intro k y hy
    by_cases h1 : k < ws.length
    · refine ⟨k, ?_, by omega, fun _ => rfl, fun _ => by omega⟩
      rw [List.getElem?_append_left h1] at hy
      rw [List.append_assoc, List.getElem?_append_left h1]
      exact hy
    · refine ⟨k + 1, ?_, by omega, fun _ => by omega, fun _ => rfl⟩
      rw [List.getElem?_append_right (by omega)] at hy
      rw [List.getElem?_append_right (by rw [List.length_append]; show ws.length + 1 ≤ k + 1; omega), List.length_append]
      rw [show k + 1 - (ws.length + [(o, x)].length) = k - ws.length from by show k + 1 - (ws.length + 1) = _; omega]
      exact hy
  have hmid : ((ws ++ [(o, x)]) ++ L0)[ws.length]? = some (o, x) := by
    rw [List.getElem?_append_left (by rw [List.length_append]; show ws.length < ws.length + 1; omega)]
    exact zat_end _ _
  have old : ∀ (k : Nat) (y : Nat × va_E), (ws ++ L0)[k]? = some y → y.1 < H.size ∧ ¬ y.1 = o := by
    intro k y hy
    obtain ⟨k9, h1, h2, -⟩ := f k y hy
    exact ⟨(hP k9 y h1).lt, fun z => h2 (hD.1 k9 ws.length y (o, x) h1 hmid z)⟩
  have hPw : va_P G vwCl (ws ++ L0) H1 := by
    intro k y hy
    obtain ⟨k9, h1, -⟩ := f k y hy
    exact (hP k9 y h1).kept (hk y.1 (old k y hy).1 (old k y hy).2)
  have hDw : va_D A (ws ++ L0) := by
    refine ⟨fun i j a b hi hj hab => ?_, fun k y hy => ?_⟩
    · obtain ⟨i9, h1, h2, h3, h4⟩ := f i a hi
      obtain ⟨j9, g1, g2, g3, g4⟩ := f j b hj
      have h9 := hD.1 i9 j9 a b h1 g1 hab
      subst h9
      by_cases h : i9 < ws.length
      · rw [← h3 h, ← g3 h]
      · have := h4 (by omega)
        have := g4 (by omega)
        omega
    · obtain ⟨k9, h1, -⟩ := f k y hy
      exact hD.2 k9 y h1
  refine ⟨hPw.app hP1, va_D.app hDw (hD1.weaken (fun _ y _ h => hA y.1 h)) (fun i j a b hi hj z => ?_)⟩
  have h1 := old i a hi
  rcases hD1.2 j b hj with h | h
  · exact h1.2 (z.trans h)
  · have := h1.1
    rw [z] at this
    omega
end Joinm
section PartP
variable {p : Program} {l : Launch} {e : Env} {R : Room} {s : State} {m : MethodId} {args : Array Value} {below : List Frame} {meth : Method} {c : Code} {Q : State → Prop} {H : Heap} {locs : List Loc} {cells slots : Nat}
variable {A : Nat → Prop} {G : va_G} {ca : Nat → Nat} {cc : ByteArray} {pc : Nat} {ls : Array Slot} {rest : List Value}
theorem z_getP {own : String} {idx ci k q : Nat} {fs : List Value} {r : va_W} {v : Value} (hx : p.tables.exec = Jvm.exec) (hb : c.code = cc) (hts : ∀ w ∈ zAL, w.before args s = true) (hown : s.vm.findClass own = some m.cls) (hK : va_K G vwCl (zTY ca) s) (hP : va_P G vwCl ((q, .inr (ci, fs)) :: r) H) (hne : ci ≠ 10) (hf : zFl own idx ci k) (hv : fs[k]? = some v) (l0 : ls[0]? = some (.val (.ref q))) (d0 : decode cc pc = .ok (.aload_n 0, 1)) (dg : decode cc (pc + 1) = .ok (.getfield idx, 3))
    (kk : W p l e R s m args below meth c H locs cells slots Q (F0 m (pc + 1 + 3) ls (v :: rest))) : W p l e R s m args below meth c H locs cells slots Q (F0 m pc ls rest) := by
  obtain ⟨C, T, N, hc, hkN, hw⟩ := hf
  obtain ⟨ty0, hcl⟩ := zcls ci C T N hne hc
  refine lv_aload_n (i := 0) (x := q) hx hb d0 rfl l0 ?_
  exact va_get hx hb hts hcl.2.1 hown hK hP 0 rfl hc k hkN (hts _ hw) (fun x h => h) hv dg kk
set_option maxHeartbeats 400000 in
theorem z_part {own C cn : String} {idx idp ik ci cj N k q mj maxL mc ms pc2 : Nat} {T : u_T} {ty : Nat → FieldType} {df fs As : List Value} {r : va_W} {rm : Room} {Pc : Nat → Nat → Array Value → State → Prop} {res : Nat → Nat → Heap → Prop} {rs : Nat → va_W → Prop} (hM : ∀ o sz, vx_Met l (zym mj) (zws mj) rm (Pc o sz) (zQo o sz (res o sz)) zNo mc ms (zFq o sz)) (hbl : ∀ o sz, FrameBlind (Pc o sz)) (hrm : rm.cells = mc ∧ rm.slots = ms) (hmx : znl mj = maxL ∧ zrt mj = none)
    (hx : p.tables.exec = Jvm.exec) (hb : c.code = cc) (hml : ls.size = c.maxLocals) (hown : s.vm.findClass own = some m.cls) (hin : meth.name = "<init>") (hts : ∀ w ∈ zAL, w.before args s = true) (hK : va_K G vwCl (zTY ca) s) (hP : va_P G vwCl ((q, .inr (ci, fs)) :: r) H) (hD : va_D A ((q, .inr (ci, fs)) :: r)) (hS : va_S A s.heap H locs) (hA : ∀ q, s.heap.size ≤ q → A q) (l0 : ls[0]? = some (.val (.ref q)))
    (hcl : zCl cj C T N ty) (hwn : Cond.classLink own ik C ∈ zAL ∧ Cond.instantiable C N ∈ zAL ∧ Cond.initialized C ∈ zAL) (hfs : ∀ j, j < N → defaultValue (ty j) = vp_V df j)
    (hw : Cond.code (zym mj) (zcc mj) maxL none ∈ zAL ∧ Cond.initialized (zym mj).cls ∈ zAL ∧ Cond.instanceMethod (zym mj) ∈ zAL ∧ Cond.methodLink own idx (zym mj) ∈ zAL) (hnm : (zym mj).name = "<init>") (hy : (zym mj).cls ≠ "java/lang/invoke/MethodHandle" ∧ (zym mj).cls ≠ "java/lang/invoke/VarHandle") (hds : (parseMethodDescriptor (zym mj).desc).map (fun d => d.parameters.length) = some As.length)
    (hF : rm.frames + 1 ≤ R.frames) (hL : 8 + (maxL + 11) + rm.locals ≤ R.locals) (hc : cells + 1 + mc ≤ R.cells) (hs : slots + N + ms ≤ R.slots)
    (hf : zFl own idp ci k) (hg : zFf own ci k (.object cn)) (hne : ci ≠ 10) (hl : k < fs.length)
    (d0 : decode cc pc = .ok (.aload_n 0, 1)) (d1 : decode cc (pc + 1) = .ok (.new ik, 3)) (d2 : decode cc (pc + 1 + 3) = .ok (.dup, 1))
    (hpu : ∀ (o : Nat) (H1 : Heap) (c1 s1 : Nat), va_P G vwCl ((q, .inr (ci, fs)) :: (r ++ [(o, .inr (cj, df))])) H1 → W p l e R s m args below meth c H1 locs c1 s1 Q (F0 m pc2 ls (As.reverse ++ .ref o :: .ref o :: .ref q :: [])) → W p l e R s m args below meth c H1 locs c1 s1 Q (F0 m (pc + 1 + 3 + 1) ls (.ref o :: .ref o :: .ref q :: [])))
    (dI : decode cc pc2 = .ok (.invokespecial idx, 3)) (dP : decode cc (pc2 + 3) = .ok (.putfield idp, 3))
    (hpre : ∀ (o : Nat) (H1 : Heap), va_P G vwCl (((q, .inr (ci, fs)) :: r) ++ [(o, .inr (cj, df))]) H1 → va_S A s.heap H1 locs → A o → ∀ U : State, U.heap = H1 → s.WarmedH U.vm → Pc o H1.size (.ref o :: As).toArray U)
    (hres : ∀ o sz H9, res o sz H9 → ∃ L, rs o L ∧ va_P G vwCl L H9 ∧ va_D (zFq o sz) L)
    (kk : ∀ (o : Nat) (L : va_W) (H1 : Heap) (locs1 : List Loc), rs o L → va_P G vwCl ((q, .inr (ci, fs.set k (.ref o))) :: (r ++ L)) H1 → va_D A ((q, .inr (ci, fs.set k (.ref o))) :: (r ++ L)) → va_S A s.heap H1 locs1 → W p l e R s m args below meth c H1 locs1 (cells + 1 + mc) (slots + N + ms) Q (F0 m (pc2 + 3 + 3) ls [])) : W p l e R s m args below meth c H locs cells slots Q (F0 m pc ls []) := by
  refine lv_aload_n (i := 0) (x := q) hx hb d0 rfl l0 ?_
  refine z_newP hcl hwn hfs hx hb hts hown hK hP hD hS hA (by omega) (by omega) d1 (fun o H1 hP1 hD1 hS1 => ?_)
  refine lv_dup hx hb d2 rfl ?_
  refine hpu o H1 _ _ hP1 ?_
  have ho : A o := hD1.2 _ _ (zat_end _ _)
  have hAz : ∀ y, zFq o H1.size y → A y := fun y hy9 => by
    rcases hy9 with rfl | h
    · exact ho
    · exact hA y (Nat.le_trans hS1.1 h)
  refine z_callC (hM o H1.size) (hbl o H1.size) hrm hmx hx hb hml hown hts hS1 ho hA hw hnm hy hds hF hL hc hs (by show (1 + (1 + 0)) ≤ 8; omega) dI (fun U hU hW => hpre o H1 hP1 hS1 ho U hU hW) (fun H2 locs2 hr hS2 hk2 => ?_)
  obtain ⟨L, hrs, hPL, hDL⟩ := hres o H1.size H2 hr
  obtain ⟨hP2, hD2⟩ := z_join hP1 hD1 hAz hk2 hPL hDL
  exact z_pF hx hb hts hown hin hK hP2 hD2 hS2 0 rfl hf hg hne rfl rfl hl dP (fun H3 locs3 hP3 hD3 hS3 => kk o L H3 locs3 hrs hP3 hD3 hS3)
end PartP

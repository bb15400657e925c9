/-! ===== constructors: final fields ===== -/
def zFf (own : String) (ci k : Nat) (ty : FieldType) : Prop := ∃ (C : String) (T : u_T) (N : Nat), vwCl[ci]? = some (C, T, N) ∧ (T k).2.2.2 = true ∧ (T k).1 = own ∧ parseFieldDescriptor (T k).2.2.1 = some ty
section Ctor2
variable {p : Program} {l : Launch} {e : Env} {R : Room} {s : State} {m : MethodId} {args : Array Value} {below : List Frame} {meth : Method} {c : Code} {Q : State → Prop} {H : Heap} {locs : List Loc} {cells slots : Nat}
variable {A : Nat → Prop} {G : va_G} {ca : Nat → Nat} {cc : ByteArray} {pc : Nat} {ls : Array Slot} {rest : List Value} {ws : va_W}
theorem z_pF {own : String} {idx ci k q : Nat} {ty : FieldType} {v : Value} {fs : List Value} (hx : p.tables.exec = Jvm.exec) (hb : c.code = cc) (hts : ∀ w ∈ zAL, w.before args s = true) (hown : s.vm.findClass own = some m.cls) (hin : meth.name = "<init>") (hK : va_K G vwCl (zTY ca) s) (hP : va_P G vwCl ws H) (hD : va_D A ws) (hS : va_S A s.heap H locs) (j : Nat) (he : ws[j]? = some (q, .inr (ci, fs))) (hf : zFl own idx ci k) (hg : zFf own ci k ty) (hne : ci ≠ 10) (hn : narrow ty v = v) (hfit : fits ty v = true) (hl : k < fs.length) (hdg : decode cc pc = .ok (.putfield idx, 3))
    (kk : ∀ (H1 : Heap) (locs1 : List Loc), va_P G vwCl (ws.set j (q, .inr (ci, fs.set k v))) H1 → va_D A (ws.set j (q, .inr (ci, fs.set k v))) → va_S A s.heap H1 locs1 → W p l e R s m args below meth c H1 locs1 cells slots Q (F0 m (pc + 3) ls rest)) : W p l e R s m args below meth c H locs cells slots Q (F0 m pc ls (v :: .ref q :: rest)) := by
  obtain ⟨C, T, N, hc, hkN, hw⟩ := hf
  obtain ⟨C', T', N', hc', g1, g2, g3⟩ := hg
  cases Option.some.inj (hc.symm.trans hc')
  obtain ⟨ty0, hcl⟩ := zcls ci C T N hne hc
  exact va_putF hx hb hts hcl.2.1 ty0 hcl.2.2.1 hcl.2.2.2 hown hK hP hD hS j he hc k hkN (hts _ hw) (fun x h => h) g1 hin g2 g3 hn hfit hl hdg kk
/-- this.f = new T[N] -/
theorem z_seg {own : String} {idx ci k q : Nat} {aty : FieldType} {fs : List Value} {r : va_W} (t : Nat) (ht : t < 4) (N : Nat) (hx : p.tables.exec = Jvm.exec) (hb : c.code = cc) (hts : ∀ w ∈ zAL, w.before args s = true) (hown : s.vm.findClass own = some m.cls) (hin : meth.name = "<init>") (hK : va_K G vwCl (zTY ca) s) (hP : va_P G vwCl ((q, .inr (ci, fs)) :: r) H) (hD : va_D A ((q, .inr (ci, fs)) :: r)) (hS : va_S A s.heap H locs) (hA : ∀ q, s.heap.size ≤ q → A q) {n : Int32} (hn : ¬ n < 0) (hN : n.toNatClampNeg = N) (hN9 : N ≤ 5000) (hc : cells + 1 ≤ R.cells) (hs : slots + N ≤ R.slots) (l0 : ls[0]? = some (.val (.ref q))) {pc2 : Nat}
    (hf : zFl own idx ci k) (hg : zFf own ci k (.array aty)) (hne : ci ≠ 10) (hl : k < fs.length) (d0 : decode cc pc = .ok (.aload_n 0, 1)) (hpu : ∀ (st : List Value), W p l e R s m args below meth c H locs cells slots Q (F0 m pc2 ls (.int n :: st)) → W p l e R s m args below meth c H locs cells slots Q (F0 m (pc + 1) ls st)) (dA : decode cc pc2 = .ok (.newarray (zAt t), 2)) (dP : decode cc (pc2 + 2) = .ok (.putfield idx, 3))
    (kk : ∀ (a : Nat) (H1 : Heap) (locs1 : List Loc), va_P G vwCl ((q, .inr (ci, fs.set k (.ref a))) :: (r ++ [(a, .inl (ca t, zZr t N))])) H1 → va_D A ((q, .inr (ci, fs.set k (.ref a))) :: (r ++ [(a, .inl (ca t, zZr t N))])) → va_S A s.heap H1 locs1 → W p l e R s m args below meth c H1 locs1 (cells + 1) (slots + N) Q (F0 m (pc2 + 2 + 3) ls [])) : W p l e R s m args below meth c H locs cells slots Q (F0 m pc ls []) := by
  refine lv_aload_n (i := 0) (x := q) hx hb d0 rfl l0 (hpu _ ?_)
  refine z_newarr t ht N hx hb hts hK hP hD hS hA hn hN hN9 hc hs dA (fun a H1 hP1 hD1 hS1 => ?_)
  exact z_pF hx hb hts hown hin hK hP1 hD1 hS1 0 rfl hf hg hne rfl rfl hl dP (fun H2 locs2 hP2 hD2 hS2 => kk a H2 locs2 hP2 hD2 hS2)
/-- this.f = an argument -/
theorem z_segr {own cn : String} {idx ci k q b j : Nat} {fs : List Value} {r : va_W} {jj : Fin 4} (hx : p.tables.exec = Jvm.exec) (hb : c.code = cc) (hts : ∀ w ∈ zAL, w.before args s = true) (hown : s.vm.findClass own = some m.cls) (hin : meth.name = "<init>") (hK : va_K G vwCl (zTY ca) s) (hP : va_P G vwCl ((q, .inr (ci, fs)) :: r) H) (hD : va_D A ((q, .inr (ci, fs)) :: r)) (hS : va_S A s.heap H locs) (l0 : ls[0]? = some (.val (.ref q))) (hj : (jj : Nat) = j) (lj : ls[j]? = some (.val (.ref b)))
    (hf : zFl own idx ci k) (hg : zFf own ci k (.object cn)) (hne : ci ≠ 10) (hl : k < fs.length) (d0 : decode cc pc = .ok (.aload_n 0, 1)) (d1 : decode cc (pc + 1) = .ok (.aload_n jj, 1)) (dP : decode cc (pc + 1 + 1) = .ok (.putfield idx, 3))
    (kk : ∀ (H1 : Heap) (locs1 : List Loc), va_P G vwCl ((q, .inr (ci, fs.set k (.ref b))) :: r) H1 → va_D A ((q, .inr (ci, fs.set k (.ref b))) :: r) → va_S A s.heap H1 locs1 → W p l e R s m args below meth c H1 locs1 cells slots Q (F0 m (pc + 1 + 1 + 3) ls [])) : W p l e R s m args below meth c H locs cells slots Q (F0 m pc ls []) := by
  refine lv_aload_n (i := 0) (x := q) hx hb d0 rfl l0 ?_
  refine lv_aload_n (i := j) (x := b) hx hb d1 hj lj ?_
  exact z_pF hx hb hts hown hin hK hP hD hS 0 rfl hf hg hne rfl rfl hl dP (fun H2 locs2 hP2 hD2 hS2 => kk H2 locs2 hP2 hD2 hS2)
/-- this.f = a whole number: a field that is not final -/
theorem z_segi {own : String} {idx ci k q : Nat} {fs : List Value} {r : va_W} {v : Int32} (hx : p.tables.exec = Jvm.exec) (hb : c.code = cc) (hts : ∀ w ∈ zAL, w.before args s = true) (hown : s.vm.findClass own = some m.cls) (hK : va_K G vwCl (zTY ca) s) (hP : va_P G vwCl ((q, .inr (ci, fs)) :: r) H) (hD : va_D A ((q, .inr (ci, fs)) :: r)) (hS : va_S A s.heap H locs) (l0 : ls[0]? = some (.val (.ref q))) {pc2 : Nat}
    (hf : zFl own idx ci k) (hg : zFp ci k .int) (hne : ci ≠ 10) (hl : k < fs.length) (d0 : decode cc pc = .ok (.aload_n 0, 1)) (hpu : ∀ (st : List Value), W p l e R s m args below meth c H locs cells slots Q (F0 m pc2 ls (.int v :: st)) → W p l e R s m args below meth c H locs cells slots Q (F0 m (pc + 1) ls st)) (dP : decode cc pc2 = .ok (.putfield idx, 3))
    (kk : ∀ (H1 : Heap) (locs1 : List Loc), va_P G vwCl ((q, .inr (ci, fs.set k (.int v))) :: r) H1 → va_D A ((q, .inr (ci, fs.set k (.int v))) :: r) → va_S A s.heap H1 locs1 → W p l e R s m args below meth c H1 locs1 cells slots Q (F0 m (pc2 + 3) ls [])) : W p l e R s m args below meth c H locs cells slots Q (F0 m pc ls []) := by
  obtain ⟨C, T, N, hc, hkN, hw⟩ := hf
  obtain ⟨C', T', N', hc', hfin, hpd⟩ := hg
  cases Option.some.inj (hc.symm.trans hc')
  obtain ⟨ty0, hcl⟩ := zcls ci C T N hne hc
  refine lv_aload_n (i := 0) (x := q) hx hb d0 rfl l0 (hpu _ ?_)
  exact va_put hx hb hts hcl.2.1 ty0 hcl.2.2.1 hcl.2.2.2 hown hK hP hD hS 0 rfl hc k hkN (hts _ hw) (fun x h => h) hfin hpd rfl rfl hl dP (fun H2 locs2 hP2 hD2 hS2 => kk H2 locs2 hP2 hD2 hS2)
end Ctor2

/-! ===== new: an object more in the world's list ===== -/
section NewP
variable {p : Program} {l : Launch} {e : Env} {R : Room} {s : State} {m : MethodId} {args : Array Value} {below : List Frame} {meth : Method} {c : Code} {Q : State → Prop} {H : Heap} {locs : List Loc} {cells slots : Nat}
variable {A : Nat → Prop} {G : va_G} {ca : Nat → Nat} {cc : ByteArray} {pc : Nat} {ls : Array Slot} {rest : List Value} {ws : va_W}
theorem z_newP {own C : String} {ik ci N : Nat} {T : u_T} {ty : Nat → FieldType} {fs : List Value} (hcl : zCl ci C T N ty) (hw : Cond.classLink own ik C ∈ zAL ∧ Cond.instantiable C N ∈ zAL ∧ Cond.initialized C ∈ zAL) (hfs : ∀ j, j < N → defaultValue (ty j) = vp_V fs j) (hx : p.tables.exec = Jvm.exec) (hb : c.code = cc) (hts : ∀ w ∈ zAL, w.before args s = true) (hown : s.vm.findClass own = some m.cls) (hK : va_K G vwCl (zTY ca) s) (hP : va_P G vwCl ws H) (hD : va_D A ws) (hS : va_S A s.heap H locs) (hA : ∀ q, s.heap.size ≤ q → A q) (hc : cells + 1 ≤ R.cells) (hs : slots + N ≤ R.slots) (hdg : decode cc pc = .ok (.new ik, 3))
    (kk : ∀ (o : Nat) (H1 : Heap), va_P G vwCl (ws ++ [(o, .inr (ci, fs))]) H1 → va_D A (ws ++ [(o, .inr (ci, fs))]) → va_S A s.heap H1 locs → W p l e R s m args below meth c H1 locs (cells + 1) (slots + N) Q (F0 m (pc + 3) ls (.ref o :: rest))) : W p l e R s m args below meth c H locs cells slots Q (F0 m pc ls rest) :=
  va_new hx hb hts hcl.2.1 ty hcl.2.2.1 hown (hts _ hw.1) (hts _ hw.2.1) (hts _ hw.2.2) hK hP hD hS hA hcl.1 hfs hc hs hdg kk
end NewP

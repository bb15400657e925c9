variable {SH : List zHs}
/-! ===== the rules hold of the machine ===== -/
def zXn : Nat → String
  | 0 => "java/lang/IllegalStateException"
  | 1 => "java/lang/IllegalArgumentException"
  | 2 => "java/lang/IndexOutOfBoundsException"
  | _ => "RuleStackModel$Wrong"
def zXo (G : va_G) (x : Nat × Int32 × Int32) (q : Nat) (H : Heap) : Prop := x.1 = 3 → ∃ fs : List Value, fs[6]? = some (.int x.2.1) ∧ fs[7]? = some (.int x.2.2) ∧ va_at G vwCl (q, .inr (10, fs)) H
def zws (mj : Nat) : List Cond := Cond.code (zym mj) (zcc mj) (znl mj) (zrt mj) :: zAL
def zrm (d c9 s9 : Nat) : Room := { frames := d + 10, cells := c9, slots := s9, locals := d * 100 }
def zPc (SH : List zHs) (G : va_G) (ad ca : Nat → Nat) (RO : zRo) (XT : (Nat → Nat) → (Nat → Prop) → State → Heap → Prop) (av : List Value) (I : zI) (J : zJ) (D : zD) (sz : Nat) : Array Value → State → Prop := va_Pc (av.map (zV ad)) (fun U => U.heap.size = sz ∧ va_P G vwCl (zW SH ad ca I J D) U.heap ∧ va_K G vwCl (zTY ca) U ∧ va_D (fun _ => True) (zW SH ad ca I J D) ∧ zEX ad RO XT (va_A (zW SH ad ca I J D) sz) U U.heap)
def zQc (SH : List zHs) (G : va_G) (ad ca : Nat → Nat) (P : zP) (A : Nat → Prop) : Array Value → State → Outcome → State → Prop := fun _ st oc t => ∃ v I J D, oc = .returned (v.map (zV ad)) ∧ P (.inl v) I J D ∧ va_P G vwCl (zW SH ad ca I J D) t.heap ∧ va_F A st t
def zXC (SH : List zHs) (G : va_G) (ad ca : Nat → Nat) (P : zP) (A : Nat → Prop) : Addr → String → State → State → Prop := fun q E st t => ∃ x I J D, E = zXn x.1 ∧ P (.inr x) I J D ∧ va_P G vwCl (zW SH ad ca I J D) t.heap ∧ zXo G x q t.heap ∧ va_F A st t
def zCal (SH : List zHs) (l : Launch) (RO : zRo) (XT : (Nat → Nat) → (Nat → Prop) → State → Heap → Prop) (d mj : Nat) (av : List Value) (I : zI) (J : zJ) (D : zD) (c9 s9 : Nat) (P : zP) : Prop :=
  ∀ (G : va_G) (ad ca : Nat → Nat) (sz : Nat), vx_Met l (zym mj) (zws mj) (zrm d c9 s9) (zPc SH G ad ca RO XT av I J D sz) (zQc SH G ad ca P (va_A (zW SH ad ca I J D) sz)) (zXC SH G ad ca P (va_A (zW SH ad ca I J D) sz)) c9 s9 (va_A (zW SH ad ca I J D) sz)
theorem zGood {ws : List Cond} (h : ∀ w ∈ ws, w ∈ zAL) : GoodIn zAL ws := fun w hw => ⟨h w hw, good_of_word (zAL_good w (h w hw))⟩
theorem zws_in {mj n : Nat} (h : zMo mj n) : ∀ w ∈ zws mj, w ∈ zAL := fun w hw => (List.mem_cons.mp hw).elim (fun q => q ▸ h.1) id
theorem zPc_blind {G : va_G} {ad ca : Nat → Nat} {RO : zRo} {XT : (Nat → Nat) → (Nat → Prop) → State → Heap → Prop} {av : List Value} {I : zI} {J : zJ} {D : zD} {sz : Nat} (hXT : zXTok XT) : FrameBlind (zPc SH G ad ca RO XT av I J D sz) := by
  intro a U g mk h
  obtain ⟨h0, h1, h2, h3, h4, h5⟩ := h
  exact ⟨h0, h1, h2, va_K.moved (u := U) (U := U.calling g mk a) (Vm.Alike.refl U.vm) h3, h4, zEX.moved (u := U) (U := U.calling g mk a) hXT (State.WarmedH.refl U) h5⟩
def zC (SH : List zHs) (p : Program) (s : State) (m : MethodId) (args : Array Value) (c : Code) (A : Nat → Prop) (G : va_G) (ad ca : Nat → Nat) (mi : Nat) : Prop :=
  p.tables.exec = Jvm.exec ∧ c.code = zcc mi ∧ c.maxLocals = znl mi ∧ s.vm.findClass (zown mi) = some m.cls ∧ (∀ w ∈ zAL, w.before args s = true) ∧ va_K G vwCl (zTY ca) s ∧ (∀ I J D, va_D A (zW SH ad ca I J D)) ∧ (∀ q, s.heap.size ≤ q → A q)
def zG (SH : List zHs) (p : Program) (l : Launch) (e : Env) (R : Room) (s : State) (m : MethodId) (args : Array Value) (below : List Frame) (meth : Method) (c : Code) (Q : State → Prop) (A : Nat → Prop) (G : va_G) (ad ca : Nat → Nat) (mi : Nat) : zK := fun pc ll st I J D bc bs =>
  ∀ (H : Heap) (locs : List Loc) (ls : Array Slot) (cells slots : Nat), va_P G vwCl (zW SH ad ca I J D) H → va_S A s.heap H locs → lv_has ls (znl mi) (zlv ad ll) → cells + bc ≤ R.cells → slots + bs ≤ R.slots → W p l e R s m args below meth c H locs cells slots Q (F0 m pc ls (st.map (zV ad)))
def zEnd (SH : List zHs) (p : Program) (l : Launch) (e : Env) (R : Room) (s : State) (m : MethodId) (args : Array Value) (below : List Frame) (meth : Method) (c : Code) (Q : State → Prop) (A : Nat → Prop) (G : va_G) (ad ca : Nat → Nat) (mi : Nat) (P : zP) : Prop := ∀ v I J D, P (.inl v) I J D → ∀ pc ins H locs ls cells slots, zRi mi v ins → decode (zcc mi) pc = .ok (ins, 1) → va_P G vwCl (zW SH ad ca I J D) H → va_S A s.heap H locs → cells ≤ R.cells → slots ≤ R.slots → W p l e R s m args below meth c H locs cells slots Q (F0 m pc ls ((v.map (zV ad)).toList))
def zEndX (SH : List zHs) (p : Program) (l : Launch) (e : Env) (R : Room) (s : State) (m : MethodId) (args : Array Value) (below : List Frame) (meth : Method) (c : Code) (Q : State → Prop) (A : Nat → Prop) (G : va_G) (ad ca : Nat → Nat) (P : zP) : Prop := ∀ x I J D, P (.inr x) I J D → ∀ pc ls rest H locs cells slots q ce, va_P G vwCl (zW SH ad ca I J D) H → va_S A s.heap H locs → zXo G x q H → H[q]? = some ce → ce.vm = .none → s.vm.findClass (zXn x.1) = some ce.cls → cells ≤ R.cells → slots ≤ R.slots → vx_W p l e R s m args below meth c H locs cells slots Q (F0 m pc ls rest) q
section ZSound
variable {p : Program} {l : Launch} {e : Env} {R : Room} {s : State} {m : MethodId} {args : Array Value} {below : List Frame} {meth : Method} {c : Code} {Q : State → Prop} {H : Heap} {locs : List Loc} {cells slots : Nat}
variable {A A1 : Nat → Prop} {G : va_G} {ad ca : Nat → Nat} {mi : Nat} {RO : zRo} {XT : (Nat → Nat) → (Nat → Prop) → State → Heap → Prop}
theorem zcall {mc' ms' pc : Nat} {ls : Array Slot} {st0 rest : List Value} {a : Array Value} {P : zP} (hr : vx_Run p l e R s m args below meth c H locs cells slots mc' ms' (F0 m pc ls st0) rest (zQc SH G ad ca P A1 a) (zXC SH G ad ca P A1) A1) (hS : va_S A s.heap H locs) (hA : ∀ q, A1 q → A q)
    (kx : ∀ x I J D H1 locs1 q ce, P (.inr x) I J D → va_P G vwCl (zW SH ad ca I J D) H1 → va_S A s.heap H1 locs1 → zXo G x q H1 → H1[q]? = some ce → ce.vm = .none → s.vm.findClass (zXn x.1) = some ce.cls → vx_W p l e R s m args below meth c H1 locs1 (cells + mc') (slots + ms') Q (F0 m pc ls rest) q)
    (kk : ∀ v I J D H1 locs1, P (.inl v) I J D → va_P G vwCl (zW SH ad ca I J D) H1 → va_S A s.heap H1 locs1 → W p l e R s m args below meth c H1 locs1 (cells + mc') (slots + ms') Q (F0 m (pc + 3) ls ((v.map (zV ad)).toList ++ rest))) : W p l e R s m args below meth c H locs cells slots Q (F0 m pc ls st0) := by
  intro T hT X
  rcases hr T hT X with ⟨v, st₀, t, T', L, h0, X', hL, e1, e2, ⟨v', I, J, D, hv, hp, hP, hF⟩, st⟩ | ⟨q, st₀, t, T', L, E, ce, h0, X', hL, e1, e2, ⟨x, I, J, D, hE, hp, hP, hxo, hF⟩, hce, hcv, hcl, st⟩
  · cases hv
    obtain ⟨k1, k2, k3⟩ := vx_keep h0 e1 hS (fun q _ h => hA q h) hA hL hF
    obtain ⟨t2, a1, b1⟩ := kk v' I J D T'.heap (locs ++ L) hp (by rw [e1]; exact hP) k3 T' rfl X'
    exact ⟨t2, st t2 a1, b1⟩
  · subst hE
    obtain ⟨k1, k2, k3⟩ := vx_keep h0 e1 hS (fun q _ h => hA q h) hA hL hF
    obtain ⟨t2, a1, b1⟩ := kx x I J D T'.heap (locs ++ L) q ce hp (by rw [e1]; exact hP) k3 (by rw [e1]; exact hxo) (by rw [e1]; exact hce) hcv hcl T' rfl X'
    exact ⟨t2, st.trans a1, b1⟩
theorem zfv_ad (I : zI) (J : zJ) (o k : Nat) (kd : Nat × Nat) : zV ad (zfv id I J o k kd) = zfv ad I J o k kd := by
  unfold zfv
  split <;> rfl
theorem zent_setI {I : zI} {J : zJ} {D : zD} {o ci k : Nat} {ks : List (Nat × Nat)} {kd : Nat × Nat} {x : Int32} (hk1 : ks[k]? = some kd) (hkd : kd.1 = 0 ∨ kd.1 = 3) : zent ad ca (zu I o k x) J D o (.inl (ci, ks)) = .inr (ci, (ks.mapIdx (fun k kd => zfv ad I J o k kd)).set k (.int x)) := by
  show Sum.inr (ci, _) = Sum.inr (ci, _)
  congr 2
  apply List.ext_getElem?
  intro j
  have hl : k < (ks.mapIdx (fun k kd => zfv ad I J o k kd)).length := by rw [List.length_mapIdx]; exact (List.getElem?_eq_some_iff.mp hk1).1
  by_cases hj : j = k
  · subst hj
    rw [List.getElem?_set_self hl, List.getElem?_mapIdx, hk1]
    show some _ = some _
    congr 1
    obtain ⟨k1, k2⟩ := kd
    rcases hkd with h | h
    · have h9 : k1 = 0 := h
      subst h9
      exact congrArg Value.int (zu_s I o j x)
    · have h9 : k1 = 3 := h
      subst h9
      exact congrArg Value.int (zu_s I o j x)
  · rw [List.getElem?_set_ne (Ne.symm hj), List.getElem?_mapIdx, List.getElem?_mapIdx]
    congr 1
    funext kd'
    unfold zfv
    rw [zu_n I x (fun q => hj q.2)]
theorem zent_setJ {I : zI} {J : zJ} {D : zD} {o ci k : Nat} {ks : List (Nat × Nat)} {kd : Nat × Nat} {x : Int64} (hk1 : ks[k]? = some kd) (hkd : kd.1 = 1) : zent ad ca I (zu J o k x) D o (.inl (ci, ks)) = .inr (ci, (ks.mapIdx (fun k kd => zfv ad I J o k kd)).set k (.long x)) := by
  show Sum.inr (ci, _) = Sum.inr (ci, _)
  congr 2
  apply List.ext_getElem?
  intro j
  have hl : k < (ks.mapIdx (fun k kd => zfv ad I J o k kd)).length := by rw [List.length_mapIdx]; exact (List.getElem?_eq_some_iff.mp hk1).1
  by_cases hj : j = k
  · subst hj
    rw [List.getElem?_set_self hl, List.getElem?_mapIdx, hk1]
    show some _ = some _
    congr 1
    obtain ⟨k1, k2⟩ := kd
    have h9 : k1 = 1 := hkd
    subst h9
    exact congrArg Value.long (zu_s J o j x)
  · rw [List.getElem?_set_ne (Ne.symm hj), List.getElem?_mapIdx, List.getElem?_mapIdx]
    congr 1
    funext kd'
    unfold zfv
    rw [zu_n J x (fun q => hj q.2)]
theorem zarr_len {I : zI} {J : zJ} {D : zD} {o ty N : Nat} : ∃ (t0 : Nat) (fty : FieldType) (cA : ClassId) (x : vp_A), zent ad ca I J D o (.inr (ty, N)) = .inl (cA, x) ∧ x.1 = N ∧ (zTY ca)[t0]? = some (cA, fty) := by
  unfold zent
  split
  · rename_i h; cases h
  · rename_i h; cases h; exact ⟨1, .long, _, _, rfl, rfl, rfl⟩
  · rename_i h; cases h; exact ⟨2, .double, _, _, rfl, rfl, rfl⟩
  · rename_i h; cases h; exact ⟨3, .byte, _, _, rfl, rfl, rfl⟩
  · rename_i h; cases h; exact ⟨0, .int, _, _, rfl, rfl, rfl⟩
theorem zA_sub {I : zI} {J : zJ} {D : zD} (hD : ∀ I J D, va_D A (zW SH ad ca I J D)) (hA : ∀ q, s.heap.size ≤ q → A q) (hS : va_S A s.heap H locs) : ∀ q, va_A (zW SH ad ca I J D) H.size q → A q := by
  intro q h
  rcases h with ⟨k, e9, hk⟩ | h
  · exact (hD I J D).2 k (q, e9) hk
  · exact hA q (Nat.le_trans hS.1 h)
theorem zpre {av : List Value} {I : zI} {J : zJ} {D : zD} (hXT : zXTok XT) (hC : zC SH p s m args c A G ad ca mi) (hEX : zEX ad RO XT A s s.heap) (hP : va_P G vwCl (zW SH ad ca I J D) H) (hS : va_S A s.heap H locs) : ∀ U : State, U.heap = H → s.WarmedH U.vm → zPc SH G ad ca RO XT av I J D H.size (av.map (zV ad)).toArray U := by
  obtain ⟨-, -, -, -, -, hK, hD, hA⟩ := hC
  intro U hU hW
  refine ⟨rfl, by rw [hU], by rw [hU]; exact hP, va_K.moved hW.alike hK, (hD I J D).weaken (fun _ _ _ _ => trivial), ?_⟩
  rw [hU]
  exact zEX.moved hXT hW (zEX.kept hXT hEX hS.2.1 hS.1 (zA_sub hD hA hS))
end ZSound

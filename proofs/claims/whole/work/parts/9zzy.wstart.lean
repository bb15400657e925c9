/-! THE CLAIM OUT OF ONE WALK OF THE LAW'S BODY. Your part is whole_start (and what it stands on); all else here is the same for every law, but numbers. -/
def R_law : String := "RuleStackLaw"
def lw_P (b : Addr) (xs : List Int32) (args : Array Value) (s : State) : Prop := args = #[.ref b] ∧ s.IntsAt b xs ∧ xs.length ≤ 3072 ∧ (Jvm.Cond.and given_1 narrow_1).before args s = true
/-- what a walk over the start with the record d0 says of its end, said of the start itself -/
theorem lw_closed {s t : State} {o : Outcome} {d0 : Drawn} {L : List Loc} {k n : Nat} (hd0 : s.drawn.sameBut d0 lw_cs) (hv : ∃ v, o = .returned v) (hW : (s.setDrawn d0).WarmedH t.vm) (hs : (s.setDrawn d0).sameButNew ({ t with vm := s.vm } : State) L k n) : State.butDraws s t lw_cs (fun t1 => Framed s o t1 L k n) := by
  have h2 : t.drawn = d0 := congrArg State.drawn hs.1
  refine ⟨⟨hv, hW, State.sameButNew.setDrawn hs s.drawn⟩, ?_, by decide⟩
  rw [h2]
  exact hd0
def lw_Q (_ : Array Value) (s : State) (o : Outcome) (t : State) : Prop := o = .returned (some (.int 1)) ∧ State.butDraws s t lw_cs (fun t1 => Framed s o t1 [] room_1.cells room_1.slots)
def lw_Z (below : List Frame) (a : Array Value) (s : State) : State → Prop := fun t => ∃ o, t.status = .running ∧ Ended t below o ∧ lw_Q a s o t
/-- the law's own end, with 1 on the stack, nothing written that was there before, its room as the claim has it; d0: the record of draws at this point (at the entry s.drawn: begin with 'refine W.base ?_' and 'have hd0 := Drawn.sameBut.refl s.drawn lw_cs') -/
theorem lw_ret {p : Program} {l : Launch} {e : Env} {s : State} {m : MethodId} {below : List Frame} {meth : Method} {c : Code} {b : Nat} {d0 : Drawn} (hd0 : s.drawn.sameBut d0 lw_cs) (hx : p.tables.exec = Jvm.exec) (hb : c.code = code) (hr : meth.sig.returnType = ret) (hlocks : meth.locks = false) {pc : Nat} {H : Heap} {ls : Array Slot} (hdg : decode code pc = .ok (.ireturn, 1)) : W p l e room_1 (s.setDrawn d0) m #[Value.ref b] below meth c H [] room_1.cells room_1.slots (lw_Z below #[Value.ref b] s) (F0 m pc ls [.int 1]) := by
  intro T hT X
  obtain ⟨fs, hret, hrun, hended, hW, hframe⟩ := X.leave (v := some (.int 1)) (hlocks := hlocks) (fun h => by rw [hr] at h; cases h)
  have hmeth' : T.vm.method? m = some meth := X.method'
  refine ⟨T.setFrames fs, ?_, .returned (some (.int 1)), hrun, hended, rfl, lw_closed hd0 ⟨_, rfl⟩ hW hframe⟩
  jvm_step X.here [X.here.top, hx, hb, hdg, hmeth', hr, ret, narrow_b1]
  (try refine ⟨rfl, ?_⟩); (try refine ⟨rfl, ?_⟩)
  first | (intro acts; rw [hret _ acts rfl rfl rfl]) | rw [hret _ _ rfl rfl rfl]
  exact Steps.refl _
/-- what holds at the law's entry: the machine, the code, the tables' words (any of lw_tbl by 'hts w (by decide +kernel)'), the script of L ints xs at the cell b, what the Statement gives of the start (any of its parts by flat_of_before) -/
def lw_At (p : Program) (s : State) (m : MethodId) (meth : Method) (c : Code) (b L : Nat) (xs : Nat → Int32) : Prop :=
  p.tables.exec = Jvm.exec ∧ c.code = code ∧ meth.sig.returnType = ret ∧ c.maxLocals = 9 ∧ s.vm.findClass R_law = some m.cls ∧ (∀ w ∈ lw_tbl, w.before #[Value.ref b] s = true) ∧ va_X b L xs s s.heap ∧ b < s.heap.size ∧ meth.locks = false ∧ (Jvm.Cond.and given_1 narrow_1).before #[Value.ref b] s = true
set_option maxHeartbeats 1000000 in
/-- the law, from its entry -/
theorem whole_start {p : Program} {e : Env} {s : State} {m : MethodId} {below : List Frame} {meth : Method} {c : Code} (l : Launch) (hflags : l.flags = flags0) {b L : Nat} {xs : Nat → Int32} (hL : L ≤ 3072) (htab : ∀ y ∈ c.exceptionTable.toList, False) (C0 : lw_At p s m meth c b L xs) : W p l e room_1 s m #[Value.ref b] below meth c s.heap [] 0 0 (lw_Z below #[Value.ref b] s) (entryFrame m ([Value.ref b] : List Value).toArray 9) := by
  obtain ⟨hx, hb, hr, hml, hown, hts, hX, hbl, hlocks, hgv⟩ := id C0
  have hts2 : ∀ w ∈ zAL, w.before #[Value.ref b] s = true := fun w hw => hts w (zAL_in w hw)
  have hl9 : l.stackTraces = false := by
    unfold Launch.stackTraces
    rw [hflags]
    decide +kernel
  have hb2 : c.code = zcc 235 := hb
  have hown2 : s.vm.findClass (zown 235) = some m.cls := hown
  have ht2 : c.exceptionTable.toList = tableOf (zwh 235) := by
    have h0 : c.exceptionTable.toList = [] := List.eq_nil_iff_forall_not_mem.mpr (fun y hy => htab y hy)
    rw [h0]
    rfl
  obtain ⟨G, ca, hK⟩ := z_K0 hts2
  have hA : ∀ q, s.heap.size ≤ q → (fun q : Nat => s.heap.size ≤ q) q := fun _ h => h
  obtain ⟨f, hf99, hf⟩ := zEX_start (A := fun q : Nat => s.heap.size ≤ q) hts hgv hX hbl (fun a h z => absurd z (Nat.not_le.mpr h))
  have hEX0 := hf f (fun o _ => rfl)
  refine z_law0 (A := fun q : Nat => s.heap.size ≤ q) (G := G) (ca := ca) (f := f) hx hb2 hml hown2 hts2 hK ⟨fun o N g h => (by cases h), hEX0.2⟩ hA (fun ad H1 locs1 ls1 had hP hD hS hl => ?_)
  have hEX := hf ad (fun o ho => had o (by omega))
  have hEXL : zEX ad (zRL L xs) zXT (fun q : Nat => s.heap.size ≤ q) s s.heap := ⟨hEX.1, hEX.2.1, hEX.2.2.1⟩
  have e99 : ad 99 = b := (had 99 (by omega)).trans hf99
  have hw := l_loop (RO := zRL L xs) (d := 0) (P := fun o _ _ _ => o = .inl (some (.int 1))) (L := L) (X := fun k => (xs k).toInt) zRL_ok (by
      show some (L, xs) = some (L, fun k => zi (xs k).toInt)
      rw [show (fun k => zi (xs k).toInt) = xs from funext fun k => zi_of (xs k)]) (fun k => ⟨Int32.le_toInt (xs k), Int32.toInt_lt (xs k)⟩) (by omega) (fun _ _ _ => rfl) 512 0 zS0 zI0 (zJ0 (tkN 148).2 (mN 32)) zD0 256512 1027072 (zCI0 tkN_end) (zMI0 mN_end) (by omega) (by omega) (by omega) (by omega)
  refine zWP_sound (SH := zSH) (d := 97) (P := fun o _ _ _ => o = .inl (some (.int 1))) zdec zXT_ok (zS_ok hl9) ⟨hx, hb2, hml, hown2, hts2, hK, fun I J D => zD_all (zD_W hD), hA⟩ hEXL ⟨by decide, by decide⟩ ht2 hlocks (Or.inr rfl) ?_ ?_ (z_met hl9 97).1 (z_met hl9 97).2 hw H1 locs1 ls1 54 15870 (zP_W hP) hS ⟨hl.1, hl.2.1, fun q hq => ?_⟩ (by show 54 + 256512 ≤ room_1.cells; decide) (by show 15870 + 1027072 ≤ room_1.slots; decide)
  · intro v I J D hp pc ins H locs ls cells slots hri hd hP9 hS9 hc hs
    have hv : v = some (.int 1) := Sum.inl.inj hp
    subst hv
    obtain ⟨rfl, -⟩ := hri
    refine va_forget (fun q hq => hS9.2.2 q hq) ?_
    refine W.widen (k := room_1.cells) (n := room_1.slots) hc hs ?_
    exact W.base (lw_ret (Drawn.sameBut.refl s.drawn lw_cs) hx hb hr hlocks hd)
  · intro x9 I J D hp
    exact absurd hp (fun h => by cases h)
  · have hq3 : q ∈ [((0 : Nat), Value.ref (ad 99)), (1, .ref (ad 0)), (2, .ref (ad 28)), (3, .ref (ad 52)), (4, .ref (ad 53)), (5, .int (zi ((0 : Nat) : Int)))] := hq
    have hq4 : q = (0, .ref (ad 99)) ∨ q = (1, .ref (ad 0)) ∨ q = (2, .ref (ad 28)) ∨ q = (3, .ref (ad 52)) ∨ q = (4, .ref (ad 53)) ∨ q = (5, .int (zi ((0 : Nat) : Int))) := by simpa using hq3
    rcases hq4 with rfl | rfl | rfl | rfl | rfl | rfl
    · show ls1[0]? = some (.val (.ref (ad 99)))
      rw [e99]
      exact hl.2.2 (0, .ref b) (by simp)
    · exact hl.2.2 (1, .ref (ad 0)) (by simp)
    · exact hl.2.2 (2, .ref (ad 28)) (by simp)
    · exact hl.2.2 (3, .ref (ad 52)) (by simp)
    · exact hl.2.2 (4, .ref (ad 53)) (by simp)
    · exact hl.2.2 (5, .int 0) (by simp)

variable {SH : List zHs}
/-! ===== walks as least predicates; methods by depth; a method's walk gives its contract ===== -/
def zHT : List (Nat × List (Nat × Nat × Nat × Nat)) := [(220, [(0, 16, 19, 13)]), (221, [(0, 9, 12, 19)]), (222, [(0, 9, 12, 24)]), (223, [(0, 11, 14, 19), (0, 11, 18, 13)]), (224, [(0, 10, 13, 24), (0, 10, 17, 13)]), (225, [(0, 10, 13, 24), (0, 10, 17, 13)]), (226, [(0, 8, 11, 13)]), (227, [(0, 19, 22, 24)]), (228, [(0, 9, 12, 24)]), (229, [(0, 10, 13, 24)]), (230, [(0, 9, 12, 24)]), (231, [(0, 10, 13, 24)]), (232, [(0, 10, 13, 24)]), (233, [(0, 9, 12, 19), (0, 9, 15, 13)]), (234, [(0, 8, 11, 24)]), (177, [(20, 77, 80, 173)])]
def zwh (mi : Nat) : List (Nat × Nat × Nat × Nat) := (zHT.lookup mi).getD []
def zstep (SH : List zHs) (RO : zRo) (SP : zSp) (E : zE) (mi : Nat) (X : zK) (P : zP) : zK := fun pc ll st I J D bc bs => (∃ ins len, (pc, ins, len) ∈ ztb mi ∧ zw1 SH RO mi E X P pc ins len ll st I J D bc bs) ∨ SP E mi X P pc ll st I J D bc bs
def zWP (SH : List zHs) (RO : zRo) (SP : zSp) (E : zE) (mi : Nat) (P : zP) : zK := fun pc ll st I J D bc bs => ∀ X : zK, (∀ pc ll st I J D bc bs, zstep SH RO SP E mi X P pc ll st I J D bc bs → X pc ll st I J D bc bs) → X pc ll st I J D bc bs
def zSPmono (SP : zSp) : Prop := ∀ (E : zE) (mi : Nat) (X X' : zK) (P P' : zP) (pc : Nat) (ll : zL) (st : List Value) (I : zI) (J : zJ) (D : zD) (bc bs : Nat), (∀ pc ll st I J D bc bs, X pc ll st I J D bc bs → X' pc ll st I J D bc bs) → (∀ o I J D, P o I J D → P' o I J D) → zEmono E → SP E mi X P pc ll st I J D bc bs → SP E mi X' P' pc ll st I J D bc bs
def zPn (mi : Nat) (P : zP) : zP := if (zwh mi).isEmpty = true then P else fun o I J D => ∃ v, o = .inl v ∧ P o I J D
/-! methods with a table of their own -/
def zMoW (mj n : Nat) : Prop := Cond.codeWith (zym mj) (zcc mj) (znl mj) (zrt mj) (zwh mj) ∈ zAL ∧ Cond.initialized (zym mj).cls ∈ zAL ∧ ((zym mj).cls ≠ "java/lang/invoke/MethodHandle" ∧ (zym mj).cls ≠ "java/lang/invoke/VarHandle" ∧ (parseMethodDescriptor (zym mj).desc).map (fun d => d.parameters.length) = some n) ∧ znl mj ≤ 60 ∧ plainName (zym mj).cls = true
def zT (SH : List zHs) (RO : zRo) (SP : zSp) : Nat → zE
  | 0 => fun _ _ _ _ _ _ _ _ => False
  | d + 1 => fun mj av I J D c9 s9 P => ((lg_sl av).length ≤ znl mj ∧ (zwh mj = [] ∨ ∃ n, zMoW mj n)) ∧ zWP SH RO SP (zT SH RO SP d) mj (zPn mj P) 0 (lv_args 0 av) [] I J D c9 s9
theorem zstep_mono {RO : zRo} {SP : zSp} {E : zE} {mi : Nat} {X X' : zK} {P P' : zP} {pc : Nat} {ll : zL} {st : List Value} {I : zI} {J : zJ} {D : zD} {bc bs : Nat} (hSP : zSPmono SP) (hX : ∀ pc ll st I J D bc bs, X pc ll st I J D bc bs → X' pc ll st I J D bc bs) (hP : ∀ o I J D, P o I J D → P' o I J D) (hE : zEmono E)
    (h : zstep SH RO SP E mi X P pc ll st I J D bc bs) : zstep SH RO SP E mi X' P' pc ll st I J D bc bs := by
  rcases h with ⟨ins, len, h1, h2⟩ | h
  · exact Or.inl ⟨ins, len, h1, zw1_mono hX hP hE h2⟩
  · exact Or.inr (hSP _ _ _ _ _ _ _ _ _ _ _ _ _ _ hX hP hE h)
theorem zWP_mono {RO : zRo} {SP : zSp} {E : zE} {mi : Nat} {P P' : zP} {pc : Nat} {ll : zL} {st : List Value} {I : zI} {J : zJ} {D : zD} {bc bs : Nat} (hSP : zSPmono SP) (hP : ∀ o I J D, P o I J D → P' o I J D) (hE : zEmono E)
    (h : zWP SH RO SP E mi P pc ll st I J D bc bs) : zWP SH RO SP E mi P' pc ll st I J D bc bs := by
  intro X hX
  exact h X (fun pc ll st I J D bc bs hs => hX _ _ _ _ _ _ _ _ (zstep_mono hSP (fun _ _ _ _ _ _ _ _ q => q) hP hE hs))
theorem zWP_fold {RO : zRo} {SP : zSp} {E : zE} {mi : Nat} {P : zP} {pc : Nat} {ll : zL} {st : List Value} {I : zI} {J : zJ} {D : zD} {bc bs : Nat} (hSP : zSPmono SP) (hE : zEmono E)
    (h : zstep SH RO SP E mi (zWP SH RO SP E mi P) P pc ll st I J D bc bs) : zWP SH RO SP E mi P pc ll st I J D bc bs := by
  intro X hX
  exact hX _ _ _ _ _ _ _ _ (zstep_mono hSP (fun _ _ _ _ _ _ _ _ q => q X hX) (fun _ _ _ _ q => q) hE h)
theorem zPn_mono {mi : Nat} {P P' : zP} (hP : ∀ o I J D, P o I J D → P' o I J D) : ∀ o I J D, zPn mi P o I J D → zPn mi P' o I J D := by
  intro o I J D h
  unfold zPn at h ⊢
  split
  · rename_i hw
    rw [if_pos hw] at h
    exact hP _ _ _ _ h
  · rename_i hw
    rw [if_neg hw] at h
    obtain ⟨v, h1, h2⟩ := h
    exact ⟨v, h1, hP _ _ _ _ h2⟩
theorem zT_mono {RO : zRo} {SP : zSp} (hSP : zSPmono SP) : ∀ d, zEmono (zT SH RO SP d)
  | 0 => fun _ _ _ _ _ _ _ _ _ _ h => h
  | d + 1 => fun mj av I J D c9 s9 Q Q' hQ h => ⟨h.1, zWP_mono hSP (zPn_mono hQ) (zT_mono hSP d) h.2⟩
theorem zT_up {RO : zRo} {SP : zSp} (hSP : zSPmono SP) (hSE : ∀ (E E' : zE) (mi : Nat) (X : zK) (P : zP) (pc : Nat) (ll : zL) (st : List Value) (I : zI) (J : zJ) (D : zD) (bc bs : Nat), (∀ mj av I J D c9 s9 Q, E mj av I J D c9 s9 Q → E' mj av I J D c9 s9 Q) → zstep SH RO SP E mi X P pc ll st I J D bc bs → zstep SH RO SP E' mi X P pc ll st I J D bc bs) :
    ∀ d mj av I J D c9 s9 Q, zT SH RO SP d mj av I J D c9 s9 Q → zT SH RO SP (d + 1) mj av I J D c9 s9 Q
  | 0 => fun _ _ _ _ _ _ _ _ h => h.elim
  | d + 1 => fun mj av I J D c9 s9 Q h => ⟨h.1, fun X hX => h.2 X (fun pc ll st I J D bc bs hs => hX _ _ _ _ _ _ _ _ (hSE _ _ _ _ _ _ _ _ _ _ _ _ _ (zT_up hSP hSE d) hs))⟩
def zwsW (mj : Nat) : List Cond := Cond.codeWith (zym mj) (zcc mj) (znl mj) (zrt mj) (zwh mj) :: zAL
def zCalW (SH : List zHs) (l : Launch) (RO : zRo) (XT : (Nat → Nat) → (Nat → Prop) → State → Heap → Prop) (d mj : Nat) (av : List Value) (I : zI) (J : zJ) (D : zD) (c9 s9 : Nat) (P : zP) : Prop :=
  ∀ (G : va_G) (ad ca : Nat → Nat) (sz : Nat), vx_Met l (zym mj) (zwsW mj) (zrm d c9 s9) (zPc SH G ad ca RO XT av I J D sz) (zQc SH G ad ca P (va_A (zW SH ad ca I J D) sz)) (zXC SH G ad ca P (va_A (zW SH ad ca I J D) sz)) c9 s9 (va_A (zW SH ad ca I J D) sz)
def zSPok (SH : List zHs) (l : Launch) (RO : zRo) (SP : zSp) (XT : (Nat → Nat) → (Nat → Prop) → State → Heap → Prop) : Prop :=
  ∀ (p : Program) (e : Env) (R : Room) (s : State) (m : MethodId) (args : Array Value) (below : List Frame) (meth : Method) (c : Code) (Q : State → Prop) (A : Nat → Prop) (G : va_G) (ad ca : Nat → Nat) (mi d : Nat) (E : zE) (P : zP) (pc : Nat) (ll : zL) (st : List Value) (I : zI) (J : zJ) (D : zD) (bc bs : Nat),
    zC SH p s m args c A G ad ca mi → zEX ad RO XT A s s.heap → d + 11 ≤ R.frames ∧ (d + 1) * 100 ≤ R.locals → c.exceptionTable.toList = tableOf (zwh mi) → meth.locks = false → ((∃ P', (∀ o I J D, P o I J D → P' o I J D) ∧ Q = vx_MQ below (zQc SH G ad ca P' A) (zXC SH G ad ca P' A) args s R.cells R.slots A) ∨ mi = 235) →
    zEnd SH p l e R s m args below meth c Q A G ad ca mi P → zEndX SH p l e R s m args below meth c Q A G ad ca P →
    (∀ mj n av I J D c9 s9 P', zMo mj n → E mj av I J D c9 s9 P' → zCal SH l RO XT d mj av I J D c9 s9 P') → (∀ mj n av I J D c9 s9 P', zMoW mj n → E mj av I J D c9 s9 P' → zCalW SH l RO XT d mj av I J D c9 s9 P') →
    SP E mi (zG SH p l e R s m args below meth c Q A G ad ca mi) P pc ll st I J D bc bs → zG SH p l e R s m args below meth c Q A G ad ca mi pc ll st I J D bc bs
section ZTS
variable {l : Launch} {RO : zRo} {SP : zSp} {XT : (Nat → Nat) → (Nat → Prop) → State → Heap → Prop}
theorem zWP_sound {p : Program} {e : Env} {R : Room} {s : State} {m : MethodId} {args : Array Value} {below : List Frame} {meth : Method} {c : Code} {Q : State → Prop} {A : Nat → Prop} {G : va_G} {ad ca : Nat → Nat} {mi d : Nat} {E : zE} {P : zP} {pc : Nat} {ll : zL} {st : List Value} {I : zI} {J : zJ} {D : zD} {bc bs : Nat}
    (hdec : zDec) (hXT : zXTok XT) (hSPk : zSPok SH l RO SP XT) (hC : zC SH p s m args c A G ad ca mi) (hEX : zEX ad RO XT A s s.heap) (hR : d + 11 ≤ R.frames ∧ (d + 1) * 100 ≤ R.locals) (htab : c.exceptionTable.toList = tableOf (zwh mi)) (hlk : meth.locks = false) (hQ : (∃ P', (∀ o I J D, P o I J D → P' o I J D) ∧ Q = vx_MQ below (zQc SH G ad ca P' A) (zXC SH G ad ca P' A) args s R.cells R.slots A) ∨ mi = 235)
    (hEnd : zEnd SH p l e R s m args below meth c Q A G ad ca mi P) (hEndX : zEndX SH p l e R s m args below meth c Q A G ad ca P)
    (hE : ∀ mj n av I J D c9 s9 P', zMo mj n → E mj av I J D c9 s9 P' → zCal SH l RO XT d mj av I J D c9 s9 P') (hEW : ∀ mj n av I J D c9 s9 P', zMoW mj n → E mj av I J D c9 s9 P' → zCalW SH l RO XT d mj av I J D c9 s9 P')
    (h : zWP SH RO SP E mi P pc ll st I J D bc bs) : zG SH p l e R s m args below meth c Q A G ad ca mi pc ll st I J D bc bs := by
  refine h _ (fun pc ll st I J D bc bs hs => ?_)
  rcases hs with ⟨ins, len, h1, h2⟩ | hs
  · exact zw1_sound hdec hC hXT hEX hR hEnd hEndX hE h1 h2
  · exact hSPk p e R s m args below meth c Q A G ad ca mi d E P pc ll st I J D bc bs hC hEX hR htab hlk hQ hEnd hEndX hE hEW hs
/-- the end of a method's walk, what it owes -/
theorem zend {p : Program} {e : Env} {R : Room} {s : State} {m : MethodId} {args : Array Value} {below : List Frame} {meth : Method} {c : Code} {A : Nat → Prop} {G : va_G} {ad ca : Nat → Nat} {mi : Nat} {P : zP} {XC : Addr → String → State → State → Prop} (hx : p.tables.exec = Jvm.exec) (hb : c.code = zcc mi) (hr : meth.sig.returnType = zrt mi) (hlk : meth.locks = false) :
    zEnd SH p l e R s m args below meth c (vx_MQ below (zQc SH G ad ca P A) XC args s R.cells R.slots A) A G ad ca mi P := by
  intro v I J D hp pc ins H locs ls cells slots hri hd hP hS hc hs
  refine W.widen hc hs (vx_ret ?_)
  have hq : ∀ t : State, t.heap = H → s.WarmedH t.vm → zQc SH G ad ca P A args s (.returned (v.map (zV ad))) t := fun t ht _ => ⟨v, I, J, D, rfl, hp, by rw [ht]; exact hP, hS.F ht⟩
  cases v with
  | none =>
    obtain ⟨rfl, h2⟩ := hri
    exact W.vret hx hb (hr.trans h2) hq hS.2.2 hd
  | some v =>
    cases v with
    | int x =>
      obtain ⟨rfl, ty, h2, h3⟩ := hri
      exact W.zret hx hb (hr.trans h2) h3 hq hS.2.2 hd
    | long x =>
      obtain ⟨rfl, h2⟩ := hri
      exact W.lret hx hb (hr.trans h2) hq hS.2.2 hd
    | double x =>
      obtain ⟨rfl, h2⟩ := hri
      exact W.dret hx hb (hr.trans h2) hq hS.2.2 hd
    | float x => exact hri.elim
    | null => exact hri.elim
    | ref x => exact hri.elim
    | retAddr x => exact hri.elim
theorem zentry {p : Program} {e : Env} {R : Room} {s : State} {m : MethodId} {below : List Frame} {meth : Method} {c : Code} {Q : State → Prop} {A : Nat → Prop} {G : va_G} {ad ca : Nat → Nat} {mi : Nat} {av : List Value} {I : zI} {J : zJ} {D : zD} {args : Array Value} (hlen : (lg_sl av).length ≤ znl mi) (hP : va_P G vwCl (zW SH ad ca I J D) s.heap)
    (k : zG SH p l e R s m args below meth c Q A G ad ca mi 0 (lv_args 0 av) [] I J D R.cells R.slots) : W p l e R s m args below meth c s.heap [] 0 0 Q (entryFrame m (av.map (zV ad)).toArray (znl mi)) := by
  rw [lg_entry_eq]
  have hl := lv_entry (av.map (zV ad)) (n := znl mi) (by rw [zlg_len]; exact hlen)
  rw [zlv_args] at hl
  exact k s.heap [] _ 0 0 hP va_S.rf hl (by omega) (by omega)
theorem zT_body {d mj : Nat} {av : List Value} {I : zI} {J : zJ} {D : zD} {c9 s9 : Nat} {P : zP} {G : va_G} {ad ca : Nat → Nat} (hdec : zDec) (hXT : zXTok XT) (hSPk : zSPok SH l RO SP XT)
    (ih1 : ∀ mj n av I J D c9 s9 P, zMo mj n → zT SH RO SP d mj av I J D c9 s9 P → zCal SH l RO XT d mj av I J D c9 s9 P) (ih2 : ∀ mj n av I J D c9 s9 P, zMoW mj n → zT SH RO SP d mj av I J D c9 s9 P → zCalW SH l RO XT d mj av I J D c9 s9 P)
    {p : Program} {e : Env} {s : State} {m : MethodId} {below : List Frame} {meth : Method} {c : Code} {R : Room} (hR : R = zrm (d + 1) c9 s9) (hx : p.tables.exec = Jvm.exec) (hb : c.code = zcc mj) (hml : c.maxLocals = znl mj) (hr : meth.sig.returnType = zrt mj) (hlk : meth.locks = false) (hown : s.vm.findClass (zown mj) = some m.cls)
    (hts : ∀ w ∈ zAL, w.before (av.map (zV ad)).toArray s = true) (htab : c.exceptionTable.toList = tableOf (zwh mj)) (hP : va_P G vwCl (zW SH ad ca I J D) s.heap) (hK : va_K G vwCl (zTY ca) s) (hD0 : va_D (fun _ => True) (zW SH ad ca I J D)) (hEX : zEX ad RO XT (va_A (zW SH ad ca I J D) s.heap.size) s s.heap)
    (hlen : (lg_sl av).length ≤ znl mj) (h : zWP SH RO SP (zT SH RO SP d) mj (zPn mj P) 0 (lv_args 0 av) [] I J D c9 s9) :
    W p l e R s m (av.map (zV ad)).toArray below meth c s.heap [] 0 0 (vx_MQ below (zQc SH G ad ca P (va_A (zW SH ad ca I J D) s.heap.size)) (zXC SH G ad ca P (va_A (zW SH ad ca I J D) s.heap.size)) (av.map (zV ad)).toArray s c9 s9 (va_A (zW SH ad ca I J D) s.heap.size)) (entryFrame m (av.map (zV ad)).toArray (znl mj)) := by
  subst hR
  have hA : ∀ q : Nat, s.heap.size ≤ q → va_A (zW SH ad ca I J D) s.heap.size q := fun q hq => Or.inr hq
  by_cases hw0 : (zwh mj).isEmpty = true
  · have hpn : zPn mj P = P := by unfold zPn; rw [if_pos hw0]
    rw [hpn] at h
    refine zentry hlen hP (zWP_sound (d := d) (P := P) hdec hXT hSPk ⟨hx, hb, hml, hown, hts, hK, fun I J D => zD_all hD0.self, hA⟩ hEX ⟨by show d + 11 ≤ d + 1 + 10; omega, Nat.le_refl _⟩ htab hlk (Or.inl ⟨P, fun _ _ _ _ h => h, rfl⟩) (zend (R := zrm (d + 1) c9 s9) hx hb hr hlk) ?_ ih1 ih2 h)
    intro x I' J' D' hp pc ls rest H locs cells slots q ce hP1 hS1 hxo hce hcv hcl hc hs
    refine vx_out (fun x hx => ?_) hlk hce hcv hcl (fun t ht9 _ => ⟨x, I', J', D', rfl, hp, by rw [ht9]; exact hP1, by rw [ht9]; exact hxo, hS1.F ht9⟩) hS1.2.2 hc hs
    rw [htab, List.isEmpty_iff.mp hw0] at hx
    cases hx
  · have hpn : zPn mj P = fun o I J D => ∃ v, o = .inl v ∧ P o I J D := by unfold zPn; rw [if_neg hw0]
    rw [hpn] at h
    refine zentry hlen hP (zWP_sound (d := d) hdec hXT hSPk ⟨hx, hb, hml, hown, hts, hK, fun I J D => zD_all hD0.self, hA⟩ hEX ⟨by show d + 11 ≤ d + 1 + 10; omega, Nat.le_refl _⟩ htab hlk (Or.inl ⟨P, fun _ _ _ _ h => h.elim fun _ q => q.2, rfl⟩) ?_ ?_ ih1 ih2 h)
    · intro v I' J' D' hp pc ins H locs ls cells slots hri hd hP1 hS1 hc hs
      obtain ⟨v', h1, h2⟩ := hp
      exact zend (R := zrm (d + 1) c9 s9) (P := P) hx hb hr hlk v I' J' D' h2 pc ins H locs ls cells slots hri hd hP1 hS1 hc hs
    · intro x I' J' D' hp
      obtain ⟨v', h1, h2⟩ := hp
      cases h1
set_option maxHeartbeats 1000000 in
theorem zT_sound (hdec : zDec) (hXT : zXTok XT) (hSPk : zSPok SH l RO SP XT) : ∀ d, (∀ mj n av I J D c9 s9 P, zMo mj n → zT SH RO SP d mj av I J D c9 s9 P → zCal SH l RO XT d mj av I J D c9 s9 P) ∧ (∀ mj n av I J D c9 s9 P, zMoW mj n → zT SH RO SP d mj av I J D c9 s9 P → zCalW SH l RO XT d mj av I J D c9 s9 P)
  | 0 => ⟨fun _ _ _ _ _ _ _ _ _ _ h => h.elim, fun _ _ _ _ _ _ _ _ _ _ h => h.elim⟩
  | d + 1 => by
    obtain ⟨ih1, ih2⟩ := zT_sound hdec hXT hSPk d
    refine ⟨fun mj n av I J D c9 s9 P hmo h G ad ca sz => ?_, fun mj n av I J D c9 s9 P hmo h G ad ca sz => ?_⟩
    · obtain ⟨⟨hlen, hwt⟩, h⟩ := h
      refine vx_ofW (cc := zcc mj) (maxL := znl mj) (ret := zrt mj) hmo.2.2.2.2 rfl ?_
      intro p e s m args below meth c s₁ B hml ht hv
      obtain ⟨rfl, hsz, hP, hK, hD0, hEX⟩ := hv
      have hts := atoms_spec (ws := zws mj) B.pre
      have hts2 : ∀ w ∈ zAL, w.before (av.map (zV ad)).toArray s = true := fun w hw => hts w (List.mem_cons_of_mem _ hw)
      have hown : s.vm.findClass (zown mj) = some m.cls := findClass_of_methodNamed B.named
      subst hsz
      have htab : c.exceptionTable.toList = tableOf (zwh mj) := by
        rcases hwt with hw | ⟨n9, hw⟩
        · rw [hw]
          exact List.eq_nil_iff_forall_not_mem.mpr (fun x hx => ht x hx)
        · exact vx_table (x := zym mj) B (hts2 _ hw.1)
      exact zT_body hdec hXT hSPk ih1 ih2 rfl B.exec B.bytes hml B.returns B.notSynchronized hown hts2 htab hP hK hD0 hEX hlen h
    · obtain ⟨⟨hlen, hwt⟩, h⟩ := h
      refine vx_ofWH (cc := zcc mj) (maxL := znl mj) (ret := zrt mj) hmo.2.2.2.2 rfl ?_
      intro p e s m args below meth c s₁ B hml hv
      obtain ⟨rfl, hsz, hP, hK, hD0, hEX⟩ := hv
      have hts := atoms_spec (ws := zwsW mj) B.pre
      have hts2 : ∀ w ∈ zAL, w.before (av.map (zV ad)).toArray s = true := fun w hw => hts w (List.mem_cons_of_mem _ hw)
      have hown : s.vm.findClass (zown mj) = some m.cls := findClass_of_methodNamed B.named
      subst hsz
      exact zT_body hdec hXT hSPk ih1 ih2 rfl B.exec B.bytes hml B.returns B.notSynchronized hown hts2 (vx_table (x := zym mj) B (hts _ List.mem_cons_self)) hP hK hD0 hEX hlen h
end ZTS

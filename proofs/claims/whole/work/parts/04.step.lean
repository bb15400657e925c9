variable {SH : List zHs}
/-! ===== the world of this claim out of the numbers; the rules of the abstract machine ===== -/
def zfv (ad : Nat → Nat) (I : zI) (J : zJ) (o k : Nat) (kd : Nat × Nat) : Value := match kd.1 with
  | 1 => .long (J o k)
  | 2 => .ref (ad kd.2)
  | _ => .int (I o k)
def zent (ad ca : Nat → Nat) (I : zI) (J : zJ) (D : zD) (i : Nat) (sh : zHs) : va_E := match sh with
  | .inl o => .inr (o.1, o.2.mapIdx (fun k kd => zfv ad I J i k kd))
  | .inr (1, N) => .inl (ca 1, N, .inr (.inl (J i)))
  | .inr (2, N) => .inl (ca 2, N, .inr (.inr (.inr (.inl (D i)))))
  | .inr (3, N) => .inl (ca 3, N, .inl (I i))
  | .inr (_, N) => .inl (ca 0, N, .inl (I i))
def zW (SH : List zHs) (ad ca : Nat → Nat) (I : zI) (J : zJ) (D : zD) : va_W := SH.mapIdx (fun i sh => (ad i, zent ad ca I J D i sh))
def zTY (ca : Nat → Nat) : List (ClassId × FieldType) := [(ca 0, .int), (ca 1, .long), (ca 2, .double), (ca 3, .byte)]
theorem zW_at (ad ca : Nat → Nat) (I : zI) (J : zJ) (D : zD) (o : Nat) : (zW SH ad ca I J D)[o]? = (SH[o]?).map (fun sh => (ad o, zent ad ca I J D o sh)) := by
  unfold zW
  rw [List.getElem?_mapIdx]
theorem zW_of {ad ca : Nat → Nat} {I : zI} {J : zJ} {D : zD} {o : Nat} {sh : zHs} (h : SH[o]? = some sh) : (zW SH ad ca I J D)[o]? = some (ad o, zent ad ca I J D o sh) := by
  rw [zW_at, h]; rfl
theorem zW_set {ad ca : Nat → Nat} {I I' : zI} {J J' : zJ} {D D' : zD} {o : Nat} {sh : zHs} {e : va_E} (h : SH[o]? = some sh) (he : zent ad ca I' J' D' o sh = e)
    (hne : ∀ i, i ≠ o → I' i = I i ∧ J' i = J i ∧ D' i = D i) : (zW SH ad ca I J D).set o (ad o, e) = zW SH ad ca I' J' D' := by
  have key : ∀ i, i ≠ o → ∀ sh', zent ad ca I' J' D' i sh' = zent ad ca I J D i sh' := by
    intro i hi sh'
    obtain ⟨h1, h2, h3⟩ := hne i hi
    rcases sh' with o9 | ⟨ty, N⟩
    · show Sum.inr _ = Sum.inr _
      congr 2
      apply List.ext_getElem?
      intro k
      rw [List.getElem?_mapIdx, List.getElem?_mapIdx]
      congr 1
      funext kd
      unfold zfv
      rw [h1, h2]
    · unfold zent
      split <;> first | simp only [h1, h2, h3] | (rename_i h9; cases h9)
  apply List.ext_getElem?
  intro k
  have hl : o < (zW SH ad ca I J D).length := (List.getElem?_eq_some_iff.mp (zW_of (ad := ad) (ca := ca) (I := I) (J := J) (D := D) h)).1
  by_cases hk : k = o
  · subst hk
    rw [List.getElem?_set_self hl, zW_of h, he]
  · rw [List.getElem?_set_ne (Ne.symm hk), zW_at, zW_at]
    congr 1
    funext sh'
    rw [key k hk]
theorem zD_all {A : Nat → Prop} {ad ca : Nat → Nat} {I I' : zI} {J J' : zJ} {D D' : zD} (h : va_D A (zW SH ad ca I J D)) : va_D A (zW SH ad ca I' J' D') := by
  have key : ∀ (k : Nat) (q : Nat × va_E), (zW SH ad ca I' J' D')[k]? = some q → ∃ e, (zW SH ad ca I J D)[k]? = some (q.1, e) := by
    intro k q hq
    rw [zW_at] at hq
    cases hs : SH[k]? with
    | none => rw [hs] at hq; cases hq
    | some sh =>
      rw [hs] at hq
      cases hq
      exact ⟨_, zW_of hs⟩
  refine ⟨fun i j p q hi hj hpq => ?_, fun k q hk => ?_⟩
  · obtain ⟨e1, h1⟩ := key i p hi
    obtain ⟨e2, h2⟩ := key j q hj
    exact h.1 i j _ _ h1 h2 hpq
  · obtain ⟨e1, h1⟩ := key k q hk
    exact h.2 k (q.1, e1) h1
/-! statics, arrays that nobody writes -/
def zSTl : List (String × String × String × Nat) := [("RuleStack", "MOST_ITEMS", "[I", 100), ("RuleStackModel", "MOST", "[I", 101)]
def zEX (ad : Nat → Nat) (RO : zRo) (XT : (Nat → Nat) → (Nat → Prop) → State → Heap → Prop) (A : Nat → Prop) (U : State) (H : Heap) : Prop :=
  (∀ (o N : Nat) (f : Nat → Int32), RO o = some (N, f) → va_T .int (ad o) N (fun k => .int (f k)) A U H) ∧ (∀ q ∈ zSTl, va_Z q.1 q.2.1 q.2.2.1 (.ref (ad q.2.2.2)) A U H) ∧ XT ad A U H
def zXTok (XT : (Nat → Nat) → (Nat → Prop) → State → Heap → Prop) : Prop :=
  (∀ (ad : Nat → Nat) (A : Nat → Prop) (u U : State) (H : Heap), u.WarmedH U.vm → XT ad A u H → XT ad A U H) ∧ ∀ (ad : Nat → Nat) (A A' : Nat → Prop) (U : State) (H H' : Heap), XT ad A U H → (∀ q : Nat, q < H.size → ¬ A q → H'[q]? = H[q]?) → H.size ≤ H'.size → (∀ q, A' q → A q) → XT ad A' U H'
theorem zEX.moved {ad : Nat → Nat} {RO : zRo} {XT : (Nat → Nat) → (Nat → Prop) → State → Heap → Prop} {A : Nat → Prop} {u U : State} {H : Heap} (hXT : zXTok XT) (hvm : u.WarmedH U.vm) (h : zEX ad RO XT A u H) : zEX ad RO XT A U H :=
  ⟨fun o N f ho => va_T.moved hvm.alike (h.1 o N f ho), fun q hq => va_Z.moved hvm.alike (h.2.1 q hq), hXT.1 _ _ _ _ _ hvm h.2.2⟩
theorem zEX.kept {ad : Nat → Nat} {RO : zRo} {XT : (Nat → Nat) → (Nat → Prop) → State → Heap → Prop} {A A' : Nat → Prop} {U : State} {H H' : Heap} (hXT : zXTok XT) (h : zEX ad RO XT A U H) (hq : ∀ q : Nat, q < H.size → ¬ A q → H'[q]? = H[q]?) (hz : H.size ≤ H'.size) (hA : ∀ q, A' q → A q) : zEX ad RO XT A' U H' :=
  ⟨fun o N f ho => va_T.narrow (va_T.kept (h.1 o N f ho) hq) hA,
    fun q hq9 => va_Z.narrow (va_Z.kept (h.2.1 q hq9) hq) hA, hXT.2 _ _ _ _ _ _ h.2.2 hq hz hA⟩
/-! the rules -/
def zc1 (op : ClassFile.Cond) (x : Int32) : Prop := match op with
  | .eq => x = 0
  | .ne => ¬ x = 0
  | .lt => x < 0
  | .ge => 0 ≤ x
  | .gt => 0 < x
  | .le => x ≤ 0
def zc2 (op : ClassFile.Cond) (x y : Int32) : Prop := match op with
  | .eq => x = y
  | .ne => ¬ x = y
  | .lt => x < y
  | .ge => y ≤ x
  | .gt => y < x
  | .le => x ≤ y
def zRi (mi : Nat) (v : Option Value) (ins : Instr) : Prop := match v with
  | none => ins = .return_ ∧ zrt mi = none
  | some (.int x) => ins = .ireturn ∧ ∃ ty, zrt mi = some ty ∧ narrow ty (.int x) = .int x
  | some (.long _) => ins = .lreturn ∧ zrt mi = some .long
  | some (.double _) => ins = .dreturn ∧ zrt mi = some .double
  | _ => False
def zOb (SH : List zHs) (o ci k : Nat) (kd : Nat × Nat) : Prop := ∃ ks, SH[o]? = some (.inl (ci, ks)) ∧ ks[k]? = some kd ∧ ci ≠ 10
def zRc (SH : List zHs) (mj b : Nat) : Prop := ∃ ci ks T N, SH[b]? = some (.inl (ci, ks)) ∧ vwCl[ci]? = some ((zym mj).cls, T, N)
def zw1 (SH : List zHs) (RO : zRo) (mi : Nat) (E : zE) (X : zK) (P : zP) (pc : Nat) (ins : Instr) (len : Nat) (ll : zL) (st : List Value) (I : zI) (J : zJ) (D : zD) (bc bs : Nat) : Prop :=
  (∃ st', (zsl ins st = some st' ∧ len = 1) ∧ X (pc + 1) ll st' I J D bc bs) ∨
  match ins with
  | .bipush n => ∃ v, ((Int8.ofInt n).toInt32 = v ∧ len = 2) ∧ X (pc + 2) ll (.int v :: st) I J D bc bs
  | .sipush n => ∃ v, ((Int16.ofInt n).toInt32 = v ∧ len = 3) ∧ X (pc + 3) ll (.int v :: st) I J D bc bs
  | .ldc idx => ∃ v, (Cond.constant (zown mi) idx v ∈ zAL ∧ len = 2) ∧ X (pc + 2) ll (.int v :: st) I J D bc bs
  | .ldc2_w idx => ∃ v, (Cond.constantLong (zown mi) idx v ∈ zAL ∧ len = 3) ∧ X (pc + 3) ll (.long v :: st) I J D bc bs
  | .iload k => ∃ x, (zlk ll k = some (.int x) ∧ len = 2) ∧ X (pc + 2) ll (.int x :: st) I J D bc bs
  | .iload_n k => ∃ x, (zlk ll k = some (.int x) ∧ len = 1) ∧ X (pc + 1) ll (.int x :: st) I J D bc bs
  | .lload k => ∃ x, (zlk ll k = some (.long x) ∧ len = 2) ∧ X (pc + 2) ll (.long x :: st) I J D bc bs
  | .lload_n k => ∃ x, (zlk ll k = some (.long x) ∧ len = 1) ∧ X (pc + 1) ll (.long x :: st) I J D bc bs
  | .aload k => ∃ x, (zlk ll k = some (.ref x) ∧ len = 2) ∧ X (pc + 2) ll (.ref x :: st) I J D bc bs
  | .aload_n k => ∃ x, (zlk ll k = some (.ref x) ∧ len = 1) ∧ X (pc + 1) ll (.ref x :: st) I J D bc bs
  | .dload k => ∃ x, (zlk ll k = some (.double x) ∧ len = 2) ∧ X (pc + 2) ll (.double x :: st) I J D bc bs
  | .dload_n k => ∃ x, (zlk ll k = some (.double x) ∧ len = 1) ∧ X (pc + 1) ll (.double x :: st) I J D bc bs
  | .istore k => ∃ x r, (st = .int x :: r ∧ k < znl mi ∧ len = 2) ∧ X (pc + 2) (zst ll k (.int x)) r I J D bc bs
  | .istore_n k => ∃ x r, (st = .int x :: r ∧ (k : Nat) < znl mi ∧ len = 1) ∧ X (pc + 1) (zst ll k (.int x)) r I J D bc bs
  | .astore k => ∃ x r, (st = .ref x :: r ∧ k < znl mi ∧ len = 2) ∧ X (pc + 2) (zst ll k (.ref x)) r I J D bc bs
  | .astore_n k => ∃ x r, (st = .ref x :: r ∧ (k : Nat) < znl mi ∧ len = 1) ∧ X (pc + 1) (zst ll k (.ref x)) r I J D bc bs
  | .lstore k => ∃ x r, (st = .long x :: r ∧ k + 1 < znl mi ∧ len = 2) ∧ X (pc + 2) (zst2 ll k (.long x)) r I J D bc bs
  | .lstore_n k => ∃ x r, (st = .long x :: r ∧ (k : Nat) + 1 < znl mi ∧ len = 1) ∧ X (pc + 1) (zst2 ll k (.long x)) r I J D bc bs
  | .dstore k => ∃ x r, (st = .double x :: r ∧ k + 1 < znl mi ∧ len = 2) ∧ X (pc + 2) (zst2 ll k (.double x)) r I J D bc bs
  | .iinc k n => ∃ x, (zlk ll k = some (.int x) ∧ k < znl mi ∧ len = 3) ∧ X (pc + 3) (zst ll k (.int (x + Int32.ofInt n))) st I J D bc bs
  | .idiv => ∃ x y r, (st = .int y :: .int x :: r ∧ ¬ y = 0 ∧ len = 1) ∧ X (pc + 1) ll (.int (x / y) :: r) I J D bc bs
  | .irem => ∃ x y r, (st = .int y :: .int x :: r ∧ ¬ y = 0 ∧ len = 1) ∧ X (pc + 1) ll (.int (x - x / y * y) :: r) I J D bc bs
  | .ldiv => ∃ x y r, (st = .long y :: .long x :: r ∧ ¬ y = 0 ∧ len = 1) ∧ X (pc + 1) ll (.long (x / y) :: r) I J D bc bs
  | .lrem => ∃ x y r, (st = .long y :: .long x :: r ∧ ¬ y = 0 ∧ len = 1) ∧ X (pc + 1) ll (.long (x - x / y * y) :: r) I J D bc bs
  | .ddiv => ∃ x y r, (st = .double y :: .double x :: r ∧ vf_n64 (FP.ddiv x y) ∧ len = 1) ∧ X (pc + 1) ll (.double (FP.ddiv x y) :: r) I J D bc bs
  | .ifCond op off => ∃ (x : Int32) (r : List Value) (tgt : Nat), (st = .int x :: r ∧ (pc : Int) + off = (tgt : Int) ∧ len = 3) ∧ ((zc1 op x → X tgt ll r I J D bc bs) ∧ (¬ zc1 op x → X (pc + 3) ll r I J D bc bs))
  | .if_icmp op off => ∃ (x y : Int32) (r : List Value) (tgt : Nat), (st = .int y :: .int x :: r ∧ (pc : Int) + off = (tgt : Int) ∧ len = 3) ∧ ((zc2 op x y → X tgt ll r I J D bc bs) ∧ (¬ zc2 op x y → X (pc + 3) ll r I J D bc bs))
  | .goto off => ∃ tgt : Nat, ((pc : Int) + off = (tgt : Int) ∧ len = 3) ∧ X tgt ll st I J D bc bs
  | .tableswitch dflt lo hi offs => ∃ (x : Int32) (r : List Value) (tgt : Nat), (st = .int x :: r ∧ ((x.toInt < lo ∨ hi < x.toInt) ∧ (pc : Int) + dflt = (tgt : Int) ∨ ¬ x.toInt < lo ∧ ¬ hi < x.toInt ∧ ∃ off, offs[(x.toInt - lo).toNat]? = some off ∧ (pc : Int) + off = (tgt : Int))) ∧ X tgt ll r I J D bc bs
  | .lookupswitch dflt ps => ∃ (x : Int32) (r : List Value) (tgt : Nat), (st = .int x :: r ∧ (ps.toList.zip (ps.toList.drop 1)).all (fun (a, next) => a.1 < next.1) = true ∧ (pc : Int) + Op.lookupswitch.offset ps.toList dflt x.toInt = (tgt : Int)) ∧ X tgt ll r I J D bc bs
  | .getfield idx => ∃ o r ci k kd, (st = .ref o :: r ∧ zFl (zown mi) idx ci k ∧ zOb SH o ci k kd ∧ len = 3) ∧ X (pc + 3) ll (zfv id I J o k kd :: r) I J D bc bs
  | .putfield idx => ∃ v o r ci k kd, (st = v :: .ref o :: r ∧ zFl (zown mi) idx ci k ∧ zOb SH o ci k kd ∧ len = 3) ∧
      ((∃ x, (v = .int x ∧ kd.1 = 0 ∧ zFp ci k .int) ∧ X (pc + 3) ll r (zu I o k x) J D bc bs) ∨
       (∃ x, (v = .int x ∧ kd.1 = 3 ∧ zFp ci k .boolean ∧ (x = 0 ∨ x = 1)) ∧ X (pc + 3) ll r (zu I o k x) J D bc bs) ∨
       (∃ x, (v = .long x ∧ kd.1 = 1 ∧ zFp ci k .long) ∧ X (pc + 3) ll r I (zu J o k x) D bc bs))
  | .getstatic idx => ∃ q, (q ∈ zSTl ∧ Cond.fieldLink (zown mi) idx q.1 q.2.1 q.2.2.1 ∈ zAL ∧ len = 3) ∧ X (pc + 3) ll (.ref q.2.2.2 :: st) I J D bc bs
  | .iaload => ∃ i o r v, (st = .int i :: .ref o :: r ∧ len = 1 ∧ ((∃ N, SH[o]? = some (.inr (0, N)) ∧ vp_in i N ∧ v = I o i.toNatClampNeg) ∨ ∃ N f, RO o = some (N, f) ∧ vp_in i N ∧ v = f i.toNatClampNeg)) ∧ X (pc + 1) ll (.int v :: r) I J D bc bs
  | .baload => ∃ i o r N, (st = .int i :: .ref o :: r ∧ len = 1 ∧ SH[o]? = some (.inr (3, N)) ∧ vp_in i N) ∧ X (pc + 1) ll (.int (I o i.toNatClampNeg) :: r) I J D bc bs
  | .laload => ∃ i o r N, (st = .int i :: .ref o :: r ∧ len = 1 ∧ SH[o]? = some (.inr (1, N)) ∧ vp_in i N) ∧ X (pc + 1) ll (.long (J o i.toNatClampNeg) :: r) I J D bc bs
  | .daload => ∃ i o r N, (st = .int i :: .ref o :: r ∧ len = 1 ∧ SH[o]? = some (.inr (2, N)) ∧ vp_in i N) ∧ X (pc + 1) ll (.double (D o i.toNatClampNeg) :: r) I J D bc bs
  | .iastore => ∃ x i o r N, (st = .int x :: .int i :: .ref o :: r ∧ len = 1 ∧ SH[o]? = some (.inr (0, N)) ∧ vp_in i N) ∧ X (pc + 1) ll r (zu I o i.toNatClampNeg x) J D bc bs
  | .bastore => ∃ x i o r N, (st = .int x :: .int i :: .ref o :: r ∧ len = 1 ∧ SH[o]? = some (.inr (3, N)) ∧ vp_in i N) ∧ X (pc + 1) ll r (zu I o i.toNatClampNeg (vp_nar .byte x)) J D bc bs
  | .lastore => ∃ x i o r N, (st = .long x :: .int i :: .ref o :: r ∧ len = 1 ∧ SH[o]? = some (.inr (1, N)) ∧ vp_in i N) ∧ X (pc + 1) ll r I (zu J o i.toNatClampNeg x) D bc bs
  | .dastore => ∃ x i o r N, (st = .double x :: .int i :: .ref o :: r ∧ len = 1 ∧ SH[o]? = some (.inr (2, N)) ∧ vp_in i N) ∧ X (pc + 1) ll r I J (zu D o i.toNatClampNeg x) bc bs
  | .arraylength => ∃ o r v, (st = .ref o :: r ∧ len = 1 ∧ ((∃ ty N, SH[o]? = some (.inr (ty, N)) ∧ v = Int32.ofNat N) ∨ ∃ N f, RO o = some (N, f) ∧ v = Int32.ofNat N)) ∧ X (pc + 1) ll (.int v :: r) I J D bc bs
  | .ireturn => ∃ v, (st = [.int v] ∧ zRi mi (some (.int v)) .ireturn ∧ len = 1) ∧ P (.inl (some (.int v))) I J D
  | .lreturn => ∃ v, (st = [.long v] ∧ zRi mi (some (.long v)) .lreturn ∧ len = 1) ∧ P (.inl (some (.long v))) I J D
  | .dreturn => ∃ v, (st = [.double v] ∧ zRi mi (some (.double v)) .dreturn ∧ len = 1) ∧ P (.inl (some (.double v))) I J D
  | .return_ => (st = [] ∧ zRi mi none .return_ ∧ len = 1) ∧ P (.inl none) I J D
  | .invokevirtual idx => ∃ mj b As rest c9 s9, (st = As.reverse ++ .ref b :: rest ∧ len = 3 ∧ Cond.methodLink (zown mi) idx (zym mj) ∈ zAL ∧ zMv mj As.length ∧ zRc SH mj b ∧ (rest.map fun v => v.category).sum ≤ 8 ∧ c9 ≤ bc ∧ s9 ≤ bs) ∧
      E mj (.ref b :: As) I J D c9 s9 (fun o I' J' D' => match o with
        | .inl v => X (pc + 3) ll (v.toList ++ rest) I' J' D' (bc - c9) (bs - s9)
        | .inr x => P (.inr x) I' J' D')
  | .invokestatic idx => ∃ mj As rest c9 s9, (st = As.reverse ++ rest ∧ len = 3 ∧ Cond.methodLink (zown mi) idx (zym mj) ∈ zAL ∧ zMs mj As.length ∧ (rest.map fun v => v.category).sum ≤ 8 ∧ c9 ≤ bc ∧ s9 ≤ bs) ∧
      E mj As I J D c9 s9 (fun o I' J' D' => match o with
        | .inl v => X (pc + 3) ll (v.toList ++ rest) I' J' D' (bc - c9) (bs - s9)
        | .inr x => P (.inr x) I' J' D')
  | _ => False
def zEmono (E : zE) : Prop := ∀ (mj : Nat) (av : List Value) (I : zI) (J : zJ) (D : zD) (c9 s9 : Nat) (Q Q' : zP), (∀ o I J D, Q o I J D → Q' o I J D) → E mj av I J D c9 s9 Q → E mj av I J D c9 s9 Q'
set_option maxHeartbeats 4000000 in
theorem zw1_mono {RO : zRo} {mi : Nat} {E : zE} {X X' : zK} {P P' : zP} {pc : Nat} {ins : Instr} {len : Nat} {ll : zL} {st : List Value} {I : zI} {J : zJ} {D : zD} {bc bs : Nat}
    (hX : ∀ pc ll st I J D bc bs, X pc ll st I J D bc bs → X' pc ll st I J D bc bs) (hP : ∀ o I J D, P o I J D → P' o I J D) (hE : zEmono E)
    (h : zw1 SH RO mi E X P pc ins len ll st I J D bc bs) : zw1 SH RO mi E X' P' pc ins len ll st I J D bc bs := by
  rcases h with ⟨st', h1, h2⟩ | h
  · exact Or.inl ⟨st', h1, hX _ _ _ _ _ _ _ _ h2⟩
  · refine Or.inr ?_
    have hc : ∀ (Pr : Prop → Prop), True := fun _ => trivial
    cases ins <;> first
      | exact h
      | (obtain ⟨a, hs, hk⟩ := h; exact ⟨a, hs, hX _ _ _ _ _ _ _ _ hk⟩)
      | (obtain ⟨a, b, hs, hk⟩ := h; exact ⟨a, b, hs, hX _ _ _ _ _ _ _ _ hk⟩)
      | (obtain ⟨a, b, c, hs, hk⟩ := h; exact ⟨a, b, c, hs, hX _ _ _ _ _ _ _ _ hk⟩)
      | (obtain ⟨a, b, c, hs, hk1, hk2⟩ := h; exact ⟨a, b, c, hs, fun q => hX _ _ _ _ _ _ _ _ (hk1 q), fun q => hX _ _ _ _ _ _ _ _ (hk2 q)⟩)
      | (obtain ⟨a, b, c, d, hs, hk⟩ := h; exact ⟨a, b, c, d, hs, hX _ _ _ _ _ _ _ _ hk⟩)
      | (obtain ⟨a, b, c, d, hs, hk1, hk2⟩ := h; exact ⟨a, b, c, d, hs, fun q => hX _ _ _ _ _ _ _ _ (hk1 q), fun q => hX _ _ _ _ _ _ _ _ (hk2 q)⟩)
      | (obtain ⟨a, b, c, d, f, hs, hk⟩ := h; exact ⟨a, b, c, d, f, hs, hX _ _ _ _ _ _ _ _ hk⟩)
      | (obtain ⟨a, hs, hk⟩ := h; exact ⟨a, hs, hP _ _ _ _ hk⟩)
      | (obtain ⟨hs, hk⟩ := h; exact ⟨hs, hP _ _ _ _ hk⟩)
      | (obtain ⟨a, b, c, d, f, g, hs, hk⟩ := h
         refine ⟨a, b, c, d, f, g, hs, ?_⟩
         rcases hk with ⟨x, q1, q2⟩ | ⟨x, q1, q2⟩ | ⟨x, q1, q2⟩
         · exact Or.inl ⟨x, q1, hX _ _ _ _ _ _ _ _ q2⟩
         · exact Or.inr (Or.inl ⟨x, q1, hX _ _ _ _ _ _ _ _ q2⟩)
         · exact Or.inr (Or.inr ⟨x, q1, hX _ _ _ _ _ _ _ _ q2⟩))
      | (obtain ⟨a, b, c, d, f, g, hs, hk⟩ := h
         refine ⟨a, b, c, d, f, g, hs, hE _ _ _ _ _ _ _ _ _ ?_ hk⟩
         intro o I J D q
         cases o with
         | inl v => exact hX _ _ _ _ _ _ _ _ q
         | inr x => exact hP _ _ _ _ q)
      | (obtain ⟨a, b, c, d, f, hs, hk⟩ := h
         refine ⟨a, b, c, d, f, hs, hE _ _ _ _ _ _ _ _ _ ?_ hk⟩
         intro o I J D q
         cases o with
         | inl v => exact hX _ _ _ _ _ _ _ _ q
         | inr x => exact hP _ _ _ _ q)

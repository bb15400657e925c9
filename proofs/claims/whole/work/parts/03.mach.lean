/-! ===== an abstract machine over the world of this claim: numbers by object and place; its steps, methods by predicate transformers ===== -/
abbrev zI : Type := Nat → Nat → Int32
abbrev zJ : Type := Nat → Nat → Int64
abbrev zD : Type := Nat → Nat → UInt64
abbrev zO : Type := Option Value ⊕ (Nat × Int32 × Int32)
abbrev zL : Type := List (Nat × Value)
abbrev zK : Type := Nat → zL → List Value → zI → zJ → zD → Nat → Nat → Prop
abbrev zP : Type := zO → zI → zJ → zD → Prop
abbrev zE : Type := Nat → List Value → zI → zJ → zD → Nat → Nat → zP → Prop
abbrev zRo : Type := Nat → Option (Nat × (Nat → Int32))
abbrev zSp : Type := zE → Nat → zK → zP → zK
def zu {α : Type} (f : Nat → Nat → α) (o k : Nat) (v : α) : Nat → Nat → α := fun a b => if a = o ∧ b = k then v else f a b
theorem zu_s {α : Type} (f : Nat → Nat → α) (o k : Nat) (v : α) : zu f o k v o k = v := by simp [zu]
theorem zu_n {α : Type} (f : Nat → Nat → α) {o k a b : Nat} (v : α) (h : ¬ (a = o ∧ b = k)) : zu f o k v a b = f a b := by simp only [zu, if_neg h]
theorem zu_row {α : Type} (f : Nat → Nat → α) {o k a : Nat} (v : α) (h : a ≠ o) : zu f o k v a = f a := by
  funext b
  exact zu_n f v (fun q => h q.1)
/-! values, locals -/
def zV (ad : Nat → Nat) : Value → Value
  | .ref i => .ref (ad i)
  | v => v
theorem zV_cat (ad : Nat → Nat) (v : Value) : (zV ad v).category = v.category := by cases v <;> rfl
def zlk : zL → Nat → Option Value
  | [], _ => none
  | q :: t, i => bif Nat.beq q.1 i then some q.2 else zlk t i
theorem zlk_mem {v : Value} {i : Nat} : ∀ {l : zL}, zlk l i = some v → (i, v) ∈ l
  | [], h => by cases h
  | (j, w) :: t, h => by
    unfold zlk at h
    cases hb : Nat.beq j i with
    | true =>
      rw [show Nat.beq (j, w).1 i = true from hb] at h
      have hj : j = i := Nat.eq_of_beq_eq_true hb
      have hw : w = v := Option.some.inj h
      rw [hj, hw]
      exact List.mem_cons_self
    | false =>
      rw [show Nat.beq (j, w).1 i = false from hb] at h
      exact List.mem_cons_of_mem _ (zlk_mem h)
def zst (l : zL) (i : Nat) (v : Value) : zL := (i, v) :: l.filter (fun q => !(q.1 == i) && !(q.1 + 1 == i && q.2.category == 2))
def zst2 (l : zL) (i : Nat) (v : Value) : zL := (i, v) :: l.filter (fun q => !(q.1 == i) && (!(q.1 == i + 1) && !(q.1 + 1 == i && q.2.category == 2)))
def zlv (ad : Nat → Nat) (l : zL) : zL := l.map (fun q => (q.1, zV ad q.2))
theorem zlv_st (ad : Nat → Nat) (l : zL) (i : Nat) (v : Value) : (i, zV ad v) :: (zlv ad l).filter (fun q => !(q.1 == i) && !(q.1 + 1 == i && q.2.category == 2)) = zlv ad (zst l i v) := by
  unfold zlv zst
  rw [List.filter_map, List.map_cons]
  congr 2
  apply List.filter_congr
  intro q _
  simp only [Function.comp, zV_cat]
theorem zlv_st2 (ad : Nat → Nat) (l : zL) (i : Nat) (v : Value) : (i, zV ad v) :: (zlv ad l).filter (fun q => !(q.1 == i) && (!(q.1 == i + 1) && !(q.1 + 1 == i && q.2.category == 2))) = zlv ad (zst2 l i v) := by
  unfold zlv zst2
  rw [List.filter_map, List.map_cons]
  congr 2
  apply List.filter_congr
  intro q _
  simp only [Function.comp, zV_cat]
theorem zlv_at {ad : Nat → Nat} {ls : Array Slot} {nL : Nat} {l : zL} {i : Nat} {v : Value} (h : lv_has ls nL (zlv ad l)) (hk : zlk l i = some v) : ls[i]? = some (.val (zV ad v)) :=
  h.2.2 (i, zV ad v) (List.mem_map.mpr ⟨(i, v), zlk_mem hk, rfl⟩)
theorem zlv_ix {ad : Nat → Nat} {l : zL} {i : Nat} {v : Value} (hk : zlk l i = some v) : ∃ k : Nat, (zlv ad l)[k]? = some (i, zV ad v) :=
  List.getElem?_of_mem (List.mem_map.mpr ⟨(i, v), zlk_mem hk, rfl⟩)
theorem zlv_args (ad : Nat → Nat) : ∀ (vs : List Value) (i : Nat), lv_args i (vs.map (zV ad)) = zlv ad (lv_args i vs)
  | [], _ => rfl
  | v :: vs, i => by
    show (i, zV ad v) :: lv_args (if (zV ad v).category = 2 then i + 2 else i + 1) (vs.map (zV ad)) = (i, zV ad v) :: zlv ad (lv_args (if v.category = 2 then i + 2 else i + 1) vs)
    rw [zV_cat, zlv_args ad vs]
theorem zlg_len (ad : Nat → Nat) : ∀ (vs : List Value), (lg_sl (vs.map (zV ad))).length = (lg_sl vs).length
  | [] => rfl
  | v :: vs => by
    have h := zlg_len ad vs
    unfold lg_sl at h ⊢
    rw [List.map_cons, List.flatMap_cons, List.flatMap_cons, List.length_append, List.length_append, h, zV_cat]
    by_cases hc : v.category = 2
    · rw [if_pos hc, if_pos hc]; rfl
    · rw [if_neg hc, if_neg hc]; rfl
/-! straight steps on the operand stack, each one byte long -/
def zii (f : Int32 → Int32 → Int32) : List Value → Option (List Value)
  | .int y :: .int x :: r => some (.int (f x y) :: r)
  | _ => none
def zi1 (f : Int32 → Int32) : List Value → Option (List Value)
  | .int x :: r => some (.int (f x) :: r)
  | _ => none
def zll (f : Int64 → Int64 → Int64) : List Value → Option (List Value)
  | .long y :: .long x :: r => some (.long (f x y) :: r)
  | _ => none
def zlx (f : Int64 → Int64) : List Value → Option (List Value)
  | .long x :: r => some (.long (f x) :: r)
  | _ => none
def zls (f : Int64 → Int32 → Int64) : List Value → Option (List Value)
  | .int y :: .long x :: r => some (.long (f x y) :: r)
  | _ => none
def zic : Int → Int32
  | .ofNat 0 => 0
  | .ofNat 1 => 1
  | .ofNat 2 => 2
  | .ofNat 3 => 3
  | .ofNat 4 => 4
  | .ofNat 5 => 5
  | .negSucc 0 => -1
  | n => Int32.ofInt n
theorem zic_eq (n : Int) : Int32.ofInt n = zic n := by
  unfold zic
  split <;> rfl
def zlc : Fin 2 → Int64
  | ⟨0, _⟩ => 0
  | ⟨_ + 1, _⟩ => 1
theorem zlc_eq : ∀ n : Fin 2, Int64.ofNat (n : Nat) = zlc n := by decide
def zdup : List Value → Option (List Value)
  | .int x :: r => some (.int x :: .int x :: r)
  | .ref x :: r => some (.ref x :: .ref x :: r)
  | _ => none
def zdup2 : List Value → Option (List Value)
  | .long x :: r => some (.long x :: .long x :: r)
  | .int y :: .ref x :: r => some (.int y :: .ref x :: .int y :: .ref x :: r)
  | _ => none
def zpop : List Value → Option (List Value)
  | .int _ :: r => some r
  | .ref _ :: r => some r
  | _ => none
def zpop2 : List Value → Option (List Value)
  | .long _ :: r => some r
  | _ => none
def zi2l : List Value → Option (List Value)
  | .int x :: r => some (.long x.toInt64 :: r)
  | _ => none
def zl2i : List Value → Option (List Value)
  | .long x :: r => some (.int x.toInt32 :: r)
  | _ => none
def zlcm : List Value → Option (List Value)
  | .long y :: .long x :: r => some (.int (lg_cmp x y) :: r)
  | _ => none
def zi2d : List Value → Option (List Value)
  | .int x :: r => some (.double (FP.i2d x) :: r)
  | _ => none
def zdcm (op : CmpOp) : List Value → Option (List Value)
  | .double y :: .double x :: r => some (.int (Op.cmpValue (FP.dcmp x y) op) :: r)
  | _ => none
def zsl (ins : Instr) (st : List Value) : Option (List Value) := match ins with
  | .iconst n => some (.int (zic n) :: st)
  | .lconst n => some (.long (zlc n) :: st)
  | .dconst n => if n = 0 then some (.double FP.dconst0 :: st) else none
  | .iadd => zii (fun x y => x + y) st
  | .isub => zii (fun x y => x - y) st
  | .imul => zii (fun x y => x * y) st
  | .iand => zii (fun x y => x &&& y) st
  | .ior => zii (fun x y => x ||| y) st
  | .ineg => zi1 (fun x => -x) st
  | .ishl => zii (fun x y => x <<< (y &&& 31)) st
  | .ishr => zii (fun x y => x >>> (y &&& 31)) st
  | .iushr => zii (fun x y => (x.toUInt32 >>> (y.toUInt32 &&& Int32.toUInt32 31)).toInt32) st
  | .ladd => zll (fun x y => x + y) st
  | .lsub => zll (fun x y => x - y) st
  | .lmul => zll (fun x y => x * y) st
  | .land => zll (fun x y => x &&& y) st
  | .lor => zll (fun x y => x ||| y) st
  | .lneg => zlx (fun x => -x) st
  | .lshl => zls (fun x y => x <<< (y.toInt64 &&& 63)) st
  | .lushr => zls (fun x y => (x.toUInt64 >>> (y.toInt64.toUInt64 &&& Int64.toUInt64 63)).toInt64) st
  | .i2l => zi2l st
  | .l2i => zl2i st
  | .i2b => zi1 (fun x => x.toInt8.toInt32) st
  | .i2c => zi1 (fun x => (x.toUInt32 % 65536).toInt32) st
  | .i2d => zi2d st
  | .lcmp => zlcm st
  | .dcmp op => zdcm op st
  | .dup => zdup st
  | .dup2 => zdup2 st
  | .pop => zpop st
  | .pop2 => zpop2 st
  | _ => none
section ZSL
variable {p : Program} {l : Launch} {e : Env} {R : Room} {s : State} {m : MethodId} {args : Array Value} {below : List Frame} {meth : Method} {c : Code} {H : Heap} {locs : List Loc} {cells slots : Nat} {Q : State → Prop}
variable {cc : ByteArray} {pc : Nat} {ls : Array Slot} {ad : Nat → Nat} {st st' : List Value}
theorem zsl_sound {ins : Instr} (hx : p.tables.exec = Jvm.exec) (hb : c.code = cc) (h : zsl ins st = some st') (d : decode cc pc = .ok (ins, 1))
    (k : W p l e R s m args below meth c H locs cells slots Q (F0 m (pc + 1) ls (st'.map (zV ad)))) : W p l e R s m args below meth c H locs cells slots Q (F0 m pc ls (st.map (zV ad))) := by
  unfold zsl at h
  split at h
  case h_1 n => cases h; exact lv_iconst hx hb d (zic_eq n) k
  case h_2 n => cases h; exact lv_lconst hx hb d (zlc_eq n) k
  case h_3 n =>
    split at h
    case isTrue hn => cases h; subst hn; exact lv_dconst0 hx hb d k
    case isFalse => cases h
  case h_4 => unfold zii at h; split at h <;> cases h; exact lv_iadd hx hb d k
  case h_5 => unfold zii at h; split at h <;> cases h; exact lv_isub hx hb d k
  case h_6 => unfold zii at h; split at h <;> cases h; exact lv_imul hx hb d k
  case h_7 => unfold zii at h; split at h <;> cases h; exact lv_iand hx hb d k
  case h_8 => unfold zii at h; split at h <;> cases h; exact lv_ior hx hb d k
  case h_9 => unfold zi1 at h; split at h <;> cases h; exact lv_ineg hx hb d k
  case h_10 => unfold zii at h; split at h <;> cases h; exact lv_ishl hx hb d k
  case h_11 => unfold zii at h; split at h <;> cases h; exact lv_ishr hx hb d k
  case h_12 => unfold zii at h; split at h <;> cases h; exact lv_iushr hx hb d rfl k
  case h_13 => unfold zll at h; split at h <;> cases h; exact lv_ladd hx hb d k
  case h_14 => unfold zll at h; split at h <;> cases h; exact lv_lsub hx hb d k
  case h_15 => unfold zll at h; split at h <;> cases h; exact lv_lmul hx hb d k
  case h_16 => unfold zll at h; split at h <;> cases h; exact lv_land hx hb d k
  case h_17 => unfold zll at h; split at h <;> cases h; exact lv_lor hx hb d k
  case h_18 => unfold zlx at h; split at h <;> cases h; exact lv_lneg hx hb d k
  case h_19 => unfold zls at h; split at h <;> cases h; exact lv_lshl hx hb d rfl k
  case h_20 => unfold zls at h; split at h <;> cases h; exact lv_lushr hx hb d rfl k
  case h_21 => unfold zi2l at h; split at h <;> cases h; exact lv_i2l hx hb d rfl k
  case h_22 => unfold zl2i at h; split at h <;> cases h; exact lv_l2i hx hb d rfl k
  case h_23 => unfold zi1 at h; split at h <;> cases h; exact lv_i2b hx hb d rfl k
  case h_24 => unfold zi1 at h; split at h <;> cases h; exact lv_i2c hx hb d rfl k
  case h_25 => unfold zi2d at h; split at h <;> cases h; exact lv_i2d hx hb d k
  case h_26 => unfold zlcm at h; split at h <;> cases h; exact W.lcmp hx hb d k
  case h_27 => unfold zdcm at h; split at h <;> cases h; exact lv_dcmp hx hb d k
  case h_28 =>
    unfold zdup at h
    split at h <;> cases h
    · exact lv_dup hx hb d rfl k
    · exact lv_dup hx hb d rfl k
  case h_29 =>
    unfold zdup2 at h
    split at h <;> cases h
    · exact lv_dup2_2 hx hb d rfl k
    · exact lv_dup2_11 hx hb d rfl rfl k
  case h_30 =>
    unfold zpop at h
    split at h <;> cases h
    · exact lv_pop (va := .int _) hx hb d rfl k
    · exact lv_pop (va := .ref (ad _)) hx hb d rfl k
  case h_31 =>
    unfold zpop2 at h
    split at h <;> cases h
    exact lv_pop2_2 (va := .long _) hx hb d rfl k
  case h_32 => cases h
end ZSL

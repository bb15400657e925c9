/-! ===== constructors: an array made for a final field, a field set ===== -/
def zZr (t N : Nat) : vp_A := match t with
  | 1 => (N, .inr (.inl fun _ => 0))
  | 2 => (N, .inr (.inr (.inr (.inl fun _ => 0))))
  | _ => (N, .inl fun _ => 0)
def zAt : Nat → ArrayType
  | 1 => .long
  | 2 => .double
  | 3 => .byte
  | _ => .int
def zFt : Nat → FieldType
  | 1 => .long
  | 2 => .double
  | 3 => .byte
  | _ => .int
theorem z_arw : ∀ t, t < 4 → Cond.arrayClass (zFt t) ∈ zAL
  | 0, _ => zmem1 122 (by decide +kernel) (by decide +kernel)
  | 1, _ => zmem1 123 (by decide +kernel) (by decide +kernel)
  | 2, _ => zmem8 2 (by decide +kernel) (by decide +kernel)
  | 3, _ => zmem1 49 (by decide +kernel) (by decide +kernel)
  | n + 4, h => by omega
/-- what a constructor takes, what it leaves -/
def zPo (G : va_G) (ca : Nat → Nat) (ci : Nat) (dflt : List Value) (q sz : Nat) (av : List Value) : Array Value → State → Prop := va_Pc (.ref q :: av) (fun U => U.heap.size = sz ∧ q < sz ∧ va_P G vwCl [(q, .inr (ci, dflt))] U.heap ∧ va_K G vwCl (zTY ca) U)
def zFq (q sz : Nat) : Nat → Prop := fun x => x = q ∨ sz ≤ x
def zQo (q sz : Nat) (res : Heap → Prop) : Array Value → State → Outcome → State → Prop := fun _ st oc t => oc = .returned none ∧ res t.heap ∧ va_F (zFq q sz) st t
theorem zPo_blind {G : va_G} {ca : Nat → Nat} {ci : Nat} {dflt : List Value} {q sz : Nat} {av : List Value} : FrameBlind (zPo G ca ci dflt q sz av) := by
  intro a U g mk h
  obtain ⟨h0, h1, h2, h3, h4⟩ := h
  exact ⟨h0, h1, h2, h3, va_K.moved (u := U) (U := U.calling g mk a) (Vm.Alike.refl U.vm) h4⟩
def zNo : Addr → String → State → State → Prop := fun _ _ _ _ => False
theorem zD1 {q sz : Nat} {x : va_E} : va_D (zFq q sz) [(q, x)] := by
  refine ⟨fun i j x y hi hj _ => ?_, fun k y hy => ?_⟩
  · have i1 : i < 1 := (List.getElem?_eq_some_iff.mp hi).1
    have j1 : j < 1 := (List.getElem?_eq_some_iff.mp hj).1
    omega
  · cases k with
    | zero => cases hy; exact Or.inl rfl
    | succ k => cases hy
section Ctor
variable {p : Program} {l : Launch} {e : Env} {R : Room} {s : State} {m : MethodId} {args : Array Value} {below : List Frame} {meth : Method} {c : Code} {Q : State → Prop} {H : Heap} {locs : List Loc} {cells slots : Nat}
variable {A : Nat → Prop} {G : va_G} {ca : Nat → Nat} {cc : ByteArray} {pc : Nat} {ls : Array Slot} {rest : List Value} {ws : va_W}
/-- a new array, of a class that is known -/
theorem z_newarr (t : Nat) (ht : t < 4) (N : Nat) (hx : p.tables.exec = Jvm.exec) (hb : c.code = cc) (hts : ∀ w ∈ zAL, w.before args s = true) (hK : va_K G vwCl (zTY ca) s) (hP : va_P G vwCl ws H) (hD : va_D A ws) (hS : va_S A s.heap H locs) (hA : ∀ q, s.heap.size ≤ q → A q) {n : Int32} (hn : ¬ n < 0) (hN : n.toNatClampNeg = N) (hN9 : N ≤ 5000) (hc : cells + 1 ≤ R.cells) (hs : slots + N ≤ R.slots) (hdg : decode cc pc = .ok (.newarray (zAt t), 2))
    (kk : ∀ (a : Nat) (H1 : Heap), va_P G vwCl (ws ++ [(a, .inl (ca t, zZr t N))]) H1 → va_D A (ws ++ [(a, .inl (ca t, zZr t N))]) → va_S A s.heap H1 locs → W p l e R s m args below meth c H1 locs (cells + 1) (slots + N) Q (F0 m (pc + 2) ls (.ref a :: rest))) : W p l e R s m args below meth c H locs cells slots Q (F0 m pc ls (.int n :: rest)) := by
  have h4 : t = 0 ∨ t = 1 ∨ t = 2 ∨ t = 3 := by omega
  have same : ∀ (ty : FieldType), (∀ C, ty ≠ .object C) → ∀ a b : Nat, va_RA s a ty → va_RA s b ty → a = b := by
    intro ty hty a b ha hb9
    cases ty with
    | object C => exact absurd rfl (hty C)
    | _ => exact Option.some.inj ((show s.vm.findClass _ = some a from ha).symm.trans (show s.vm.findClass _ = some b from hb9))
  have go : ∀ (ty : FieldType) (a0 : vp_A), newarray.typeOf (zAt t) = ty → Cond.arrayClass ty ∈ zAL → (∀ cA : ClassId, vp_cell cA a0 = arrV cA N (fun _ => defaultValue ty)) → N * componentBytes ty ≤ 536870912 → (zTY ca)[t]? = some (ca t, ty) → (∀ C, ty ≠ .object C) → zZr t N = a0 → W p l e R s m args below meth c H locs cells slots Q (F0 m pc ls (.int n :: rest)) := by
    intro ty a0 h1 h2 h3 h5 h6 h7 h8
    refine va_newa (ty := ty) (N' := N) (a0 := a0) hx hb (by rw [h1]; exact hts _ h2) h1 hK hP hD hS hA h3 hn hN h5 hc hs hdg (fun q cA H1 hK1 hP1 hD1 hS1 => ?_)
    have e1 : cA = ca t := same ty h7 cA (ca t) (hK1.2 4 (cA, ty) rfl).2 (hK.2 t (ca t, ty) h6).2
    subst e1
    rw [h8] at kk
    exact kk q H1 hP1 hD1 hS1
  rcases h4 with rfl | rfl | rfl | rfl
  · exact go .int (N, .inl fun _ => 0) rfl (z_arw 0 ht) (fun _ => rfl) (by show N * 4 ≤ 536870912; omega) rfl (fun C h => by cases h) rfl
  · exact go .long (N, .inr (.inl fun _ => 0)) rfl (z_arw 1 ht) (fun _ => rfl) (by show N * 8 ≤ 536870912; omega) rfl (fun C h => by cases h) rfl
  · exact go .double (N, .inr (.inr (.inr (.inl fun _ => 0)))) rfl (z_arw 2 ht) (fun _ => rfl) (by show N * 8 ≤ 536870912; omega) rfl (fun C h => by cases h) rfl
  · exact go .byte (N, .inl fun _ => 0) rfl (z_arw 3 ht) (fun _ => rfl) (by show N * 1 ≤ 536870912; omega) rfl (fun C h => by cases h) rfl
end Ctor

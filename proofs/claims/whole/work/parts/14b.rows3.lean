/-! ===== rows for the methods with a table: the reference's compile, the law's own helpers ===== -/
def zNt (k : zI → zJ → zD → Prop) (e : Int32 → Int32 → zI → zJ → zD → Prop) : zP := fun o I J D => match o with
  | .inl none => k I J D
  | .inr x => x.1 = 3 ∧ e x.2.1 x.2.2 I J D
  | _ => False
def zHi (k : Int32 → zI → zJ → zD → Prop) (e : Nat → zI → zJ → zD → Prop) : zP := fun o I J D => match o with
  | .inl (some (.int v)) => k v I J D
  | .inr x => e x.1 I J D
  | _ => False
def zHd (k : UInt64 → zI → zJ → zD → Prop) (e : Nat → zI → zJ → zD → Prop) : zP := fun o I J D => match o with
  | .inl (some (.double v)) => k v I J D
  | .inr x => e x.1 I J D
  | _ => False
theorem zPn_v {mi : Nat} {P : zP} {v : Option Value} {I : zI} {J : zJ} {D : zD} (h : P (.inl v) I J D) : zPn mi P (.inl v) I J D := by
  unfold zPn
  split
  · exact h
  · exact ⟨v, rfl, h⟩
section ZRows3
variable {RO : zRo} {d mi mj : Nat} {P : zP} {pc : Nat} {ll : zL} {st r rest : List Value} {I : zI} {J : zJ} {D : zD} {bc bs c9 s9 : Nat} {av : List Value}
theorem zT_ofW {mj n : Nat} {av : List Value} (hlen : (lg_sl av).length ≤ znl mj) (hw : zMoW mj n) (h : zw RO d mj (zPn mj P) 0 (lv_args 0 av) [] I J D bc bs) : zz RO (d + 1) mj av I J D bc bs P :=
  ⟨⟨hlen, Or.inr ⟨n, hw⟩⟩, h⟩
theorem zr_try {idx b : Nat} (i mj n c9 s9 : Nat) (As : List Value) {k : zI → zJ → zD → Prop} {e : Int32 → Int32 → zI → zJ → zD → Prop} (hm : (ztb 177)[i]? = some (pc, .invokevirtual idx, 3)) (hp : pc ∈ [26, 35, 69]) (hst : st = As.reverse ++ .ref b :: []) (hl : Cond.methodLink (zown 177) idx (zym mj) ∈ zAL) (hv : zMv mj n) (hn : As.length = n) (hb : zRc zSH mj b) (h1 : c9 ≤ bc) (h2 : s9 ≤ bs) (hl0 : zlk ll 0 = some (.ref 28))
    (h : zz RO d mj (.ref b :: As) I J D c9 s9 (zNt k e)) (g : ∀ I1 J1 D1, k I1 J1 D1 → zw RO d 177 P (pc + 3) ll [] I1 J1 D1 (bc - c9) (bs - s9)) (ge : ∀ a q I1 J1 D1, e a q I1 J1 D1 → zw RO d 177 P 94 [(0, .ref 28), (1, .int a)] [] (zu I1 28 29 q) J1 D1 (bc - c9) (bs - s9)) : zw RO d 177 P pc ll st I J D bc bs := by
  refine zr_sp zSm ?_
  unfold zS
  iterate 18 refine Or.inr ?_
  refine ⟨idx, mj, b, As, [], c9, s9, ⟨rfl, hp, List.mem_of_getElem? hm, hst, hl, hn ▸ hv, hb, Nat.le_of_ble_eq_true rfl, h1, h2, hl0⟩, zT_mono zSm d _ _ _ _ _ _ _ _ _ (fun o I1 J1 D1 q => ?_) h⟩
  rcases o with v | x
  · cases v with
    | none => exact g _ _ _ q
    | some v => exact q.elim
  · exact ⟨q.1, ge _ _ _ _ _ q.2⟩
theorem zr_catI {idx b : Nat} (i mj n c9 s9 : Nat) (As : List Value) {k : Int32 → zI → zJ → zD → Prop} {e : Nat → zI → zJ → zD → Prop} (hm : (ztb mi)[i]? = some (pc, .invokevirtual idx, 3)) (hst : st = As.reverse ++ .ref b :: rest) (hl : Cond.methodLink (zown mi) idx (zym mj) ∈ zAL) (hv : zMv mj n) (hn : As.length = n) (hb : zRc zSH mj b) (hc : (rest.map fun v => v.category).sum ≤ 8) (h1 : c9 ≤ bc) (h2 : s9 ≤ bs)
    (h : zz RO d mj (.ref b :: As) I J D c9 s9 (zHi k e)) (g : ∀ v I1 J1 D1, k v I1 J1 D1 → zw RO d mi P (pc + 3) ll (.int v :: rest) I1 J1 D1 (bc - c9) (bs - s9)) (ge : ∀ x I1 J1 D1, e x I1 J1 D1 → ∃ r, zHc mi pc x r ∧ P (.inl (some (.int r))) I1 J1 D1) : zw RO d mi P pc ll st I J D bc bs := by
  refine zr_sp zSm ?_
  unfold zS
  refine Or.inr (Or.inl ⟨idx, mj, b, As, rest, c9, s9, ⟨List.mem_of_getElem? hm, hst, hl, hn ▸ hv, hb, hc, h1, h2⟩, zT_mono zSm d _ _ _ _ _ _ _ _ _ (fun o I1 J1 D1 q => ?_) h⟩)
  rcases o with v | x
  · rcases v with _ | v
    · exact q.elim
    · cases v <;> first | exact g _ _ _ _ q | exact q.elim
  · exact ge _ _ _ _ q
theorem zr_catD {idx b : Nat} (i mj n c9 s9 : Nat) (As : List Value) {k : UInt64 → zI → zJ → zD → Prop} {e : Nat → zI → zJ → zD → Prop} (hm : (ztb mi)[i]? = some (pc, .invokevirtual idx, 3)) (hst : st = As.reverse ++ .ref b :: rest) (hl : Cond.methodLink (zown mi) idx (zym mj) ∈ zAL) (hv : zMv mj n) (hn : As.length = n) (hb : zRc zSH mj b) (hc : (rest.map fun v => v.category).sum ≤ 8) (h1 : c9 ≤ bc) (h2 : s9 ≤ bs)
    (h : zz RO d mj (.ref b :: As) I J D c9 s9 (zHd k e)) (g : ∀ v I1 J1 D1, k v I1 J1 D1 → zw RO d mi P (pc + 3) ll (.double v :: rest) I1 J1 D1 (bc - c9) (bs - s9)) (ge : ∀ x I1 J1 D1, e x I1 J1 D1 → ∃ r, zHc mi pc x r ∧ P (.inl (some (.int r))) I1 J1 D1) : zw RO d mi P pc ll st I J D bc bs := by
  refine zr_sp zSm ?_
  unfold zS
  refine Or.inr (Or.inl ⟨idx, mj, b, As, rest, c9, s9, ⟨List.mem_of_getElem? hm, hst, hl, hn ▸ hv, hb, hc, h1, h2⟩, zT_mono zSm d _ _ _ _ _ _ _ _ _ (fun o I1 J1 D1 q => ?_) h⟩)
  rcases o with v | x
  · rcases v with _ | v
    · exact q.elim
    · cases v <;> first | exact g _ _ _ _ q | exact q.elim
  · exact ge _ _ _ _ q
/-! the law's calls: of its own helpers, of the reference's compile -/
theorem zr_callS {idx : Nat} (i mj n c9 s9 : Nat) (As : List Value) (hm : (ztb mi)[i]? = some (pc, .invokestatic idx, 3)) (hst : st = As.reverse ++ rest) (hl : Cond.methodLink (zown mi) idx (zym mj) ∈ zAL) (hv : zMoW mj n) (hs : Cond.static (zym mj) ∈ zAL) (hn : As.length = n) (hc : (rest.map fun v => v.category).sum ≤ 8) (h1 : c9 ≤ bc) (h2 : s9 ≤ bs)
    (k : zz RO d mj As I J D c9 s9 (zNx zSH RO (zS zSH) d mi P (pc + 3) ll rest (bc - c9) (bs - s9))) : zw RO d mi P pc ll st I J D bc bs := by
  refine zr_sp zSm ?_
  unfold zS
  refine Or.inr (Or.inr (Or.inl ⟨idx, mj, As, rest, c9, s9, ⟨List.mem_of_getElem? hm, hst, hl, hn ▸ hv, hs, hc, h1, h2⟩, zT_mono zSm d _ _ _ _ _ _ _ _ _ (fun o I1 J1 D1 q => ?_) k⟩))
  cases o with
  | inl v => exact q
  | inr x => exact q
theorem zr_callX {idx b : Nat} (i mj n c9 s9 : Nat) (As : List Value) (hm : (ztb mi)[i]? = some (pc, .invokevirtual idx, 3)) (hst : st = As.reverse ++ .ref b :: rest) (hl : Cond.methodLink (zown mi) idx (zym mj) ∈ zAL) (hv : zMoW mj n) (hi : Cond.instanceMethod (zym mj) ∈ zAL) (hs : Cond.selects (zym mj).cls (zym mj) (zym mj) ∈ zAL) (hn : As.length = n) (hb : zRc zSH mj b) (hc : (rest.map fun v => v.category).sum ≤ 8) (h1 : c9 ≤ bc) (h2 : s9 ≤ bs)
    (k : zz RO d mj (.ref b :: As) I J D c9 s9 (zNx zSH RO (zS zSH) d mi P (pc + 3) ll rest (bc - c9) (bs - s9))) : zw RO d mi P pc ll st I J D bc bs := by
  refine zr_sp zSm ?_
  unfold zS
  refine Or.inr (Or.inr (Or.inr (Or.inl ⟨idx, mj, b, As, rest, c9, s9, ⟨List.mem_of_getElem? hm, hst, hl, hn ▸ hv, hi, hs, hb, hc, h1, h2⟩, zT_mono zSm d _ _ _ _ _ _ _ _ _ (fun o I1 J1 D1 q => ?_) k⟩)))
  cases o with
  | inl v => exact q
  | inr x => exact q
end ZRows3
theorem zsl_177 : Cond.selects (zym 177).cls (zym 177) (zym 177) ∈ zAL := zmem6 102 (by decide +kernel) (by decide +kernel)
theorem zarr_in {mi pc fA fN ac : Nat} (k : Nat) (h : ((ztb mi).drop k).take 29 = zArrS pc fA fN ac) : ∀ q ∈ zArrS pc fA fN ac, q ∈ ztb mi := by
  intro q hq
  rw [← h] at hq
  exact List.mem_of_mem_drop (List.mem_of_mem_take hq)
section ZRows4
variable {RO : zRo} {d mi : Nat} {P : zP} {pc : Nat} {ll : zL} {r : List Value} {I : zI} {J : zJ} {D : zD} {bc bs : Nat}
theorem zr_iaddf {x y v : Int32} (i : Nat) (hm : (ztb mi)[i]? = some (pc, .iadd, 1)) (hv : x + y = v) (k : zw RO d mi P (pc + 1) ll (.int v :: r) I J D bc bs) : zw RO d mi P pc ll (.int y :: .int x :: r) I J D bc bs := by
  subst hv
  exact zr_s zSm i hm rfl k
theorem zr_isubf {x y v : Int32} (i : Nat) (hm : (ztb mi)[i]? = some (pc, .isub, 1)) (hv : x - y = v) (k : zw RO d mi P (pc + 1) ll (.int v :: r) I J D bc bs) : zw RO d mi P pc ll (.int y :: .int x :: r) I J D bc bs := by
  subst hv
  exact zr_s zSm i hm rfl k
theorem zr_imulf {x y v : Int32} (i : Nat) (hm : (ztb mi)[i]? = some (pc, .imul, 1)) (hv : x * y = v) (k : zw RO d mi P (pc + 1) ll (.int v :: r) I J D bc bs) : zw RO d mi P pc ll (.int y :: .int x :: r) I J D bc bs := by
  subst hv
  exact zr_s zSm i hm rfl k
end ZRows4

/-! ===== a smaller machine, with no world: Strings alone (for the constructors' loops) ===== -/
def zB : zSp := fun E mi X P pc ll st I J D bc bs => zs_sub E mi X P pc ll st I J D bc bs ∨ zs_ldcS E mi X P pc ll st I J D bc bs ∨ zs_gfV E mi X P pc ll st I J D bc bs ∨ zs_gfC E mi X P pc ll st I J D bc bs ∨ zs_gsC E mi X P pc ll st I J D bc bs ∨ zs_bal E mi X P pc ll st I J D bc bs ∨ zs_alen E mi X P pc ll st I J D bc bs ∨ zs_callVS E mi X P pc ll st I J D bc bs
theorem yBm : zSPmono zB := fun E mi X X' P P' pc ll st I J D bc bs hX hP hE h => by
  unfold zB at h ⊢
  rcases h with h | h | h | h | h | h | h | h
  · obtain ⟨a, h1, h2⟩ := h
    exact Or.inl ⟨a, h1, hX _ _ _ _ _ _ _ _ h2⟩
  · iterate 1 refine Or.inr ?_
    obtain ⟨a, b, h1, h2⟩ := h
    exact Or.inl ⟨a, b, h1, hX _ _ _ _ _ _ _ _ h2⟩
  · iterate 2 refine Or.inr ?_
    obtain ⟨a, b, c, h1, h2⟩ := h
    exact Or.inl ⟨a, b, c, h1, hX _ _ _ _ _ _ _ _ h2⟩
  · iterate 3 refine Or.inr ?_
    obtain ⟨a, b, c, h1, h2⟩ := h
    exact Or.inl ⟨a, b, c, h1, hX _ _ _ _ _ _ _ _ h2⟩
  · iterate 4 refine Or.inr ?_
    obtain ⟨a, h1, h2⟩ := h
    exact Or.inl ⟨a, h1, hX _ _ _ _ _ _ _ _ h2⟩
  · iterate 5 refine Or.inr ?_
    obtain ⟨a, b, c, h1, h2⟩ := h
    exact Or.inl ⟨a, b, c, h1, hX _ _ _ _ _ _ _ _ h2⟩
  · iterate 6 refine Or.inr ?_
    obtain ⟨a, b, h1, h2⟩ := h
    exact Or.inl ⟨a, b, h1, hX _ _ _ _ _ _ _ _ h2⟩
  · iterate 7 refine Or.inr ?_
    exact zs_callVS_mono E mi X X' P P' pc ll st I J D bc bs hX hP hE h
theorem zB_ok {SH : List zHs} {l : Launch} {RO : zRo} : zSPok SH l RO zB zXT := by
  intro p e R s m args below meth c Q A G ad ca mi d E P pc ll st I J D bc bs hC hEX hR htab hlk hQ hEnd hEndX hE hEW h
  unfold zB at h
  rcases h with h | h | h | h | h | h | h | h
  · exact zs_sub_ok p e R s m args below meth c Q A G ad ca mi d E P pc ll st I J D bc bs hC hEX hR htab hlk hQ hEnd hEndX hE hEW h
  · exact zs_ldcS_ok p e R s m args below meth c Q A G ad ca mi d E P pc ll st I J D bc bs hC hEX hR htab hlk hQ hEnd hEndX hE hEW h
  · exact zs_gfV_ok p e R s m args below meth c Q A G ad ca mi d E P pc ll st I J D bc bs hC hEX hR htab hlk hQ hEnd hEndX hE hEW h
  · exact zs_gfC_ok p e R s m args below meth c Q A G ad ca mi d E P pc ll st I J D bc bs hC hEX hR htab hlk hQ hEnd hEndX hE hEW h
  · exact zs_gsC_ok p e R s m args below meth c Q A G ad ca mi d E P pc ll st I J D bc bs hC hEX hR htab hlk hQ hEnd hEndX hE hEW h
  · exact zs_bal_ok p e R s m args below meth c Q A G ad ca mi d E P pc ll st I J D bc bs hC hEX hR htab hlk hQ hEnd hEndX hE hEW h
  · exact zs_alen_ok p e R s m args below meth c Q A G ad ca mi d E P pc ll st I J D bc bs hC hEX hR htab hlk hQ hEnd hEndX hE hEW h
  · exact zs_callVS_ok p e R s m args below meth c Q A G ad ca mi d E P pc ll st I J D bc bs hC hEX hR htab hlk hQ hEnd hEndX hE hEW h
abbrev zRz : zRo := fun _ => none
theorem y_met {l : Launch} {d mj n : Nat} {av : List Value} {I : zI} {J : zJ} {D : zD} {c9 s9 : Nat} {P : zP} (h0 : zMo mj n) (h : zT [] zRz zB d mj av I J D c9 s9 P) : zCal [] l zRz zXT d mj av I J D c9 s9 P :=
  (zT_sound zdec zXT_ok zB_ok d).1 mj n av I J D c9 s9 P h0 h
abbrev yy (RO : zRo) (d mj : Nat) (av : List Value) (I : zI) (J : zJ) (D : zD) (c9 s9 : Nat) (P : zP) : Prop := zT [] RO zB d mj av I J D c9 s9 P
abbrev yw (RO : zRo) (d mi : Nat) (P : zP) (pc : Nat) (ll : zL) (st : List Value) (I : zI) (J : zJ) (D : zD) (bc bs : Nat) : Prop := zV1 [] RO zB d mi P pc ll st I J D bc bs
section YRows
variable {RO : zRo} {d mi mj : Nat} {P : zP} {pc : Nat} {ll : zL} {st r rest : List Value} {I : zI} {J : zJ} {D : zD} {bc bs c9 s9 : Nat} {av : List Value}
theorem yci {k : Int32 → zI → zJ → zD → Prop} (h : yy RO d mj av I J D c9 s9 (zNi P k)) (g : ∀ v I1 J1 D1, k v I1 J1 D1 → yw RO d mi P pc ll (.int v :: rest) I1 J1 D1 bc bs) : yy RO d mj av I J D c9 s9 (zNx [] RO zB d mi P pc ll rest bc bs) := by
  refine zT_mono yBm d _ _ _ _ _ _ _ _ _ (fun o I1 J1 D1 q => ?_) h
  rcases o with _ | x
  · rename_i v
    rcases v with _ | v
    · exact q.elim
    · cases v <;> first | exact g _ _ _ _ q | exact q.elim
  · exact q
theorem ycv {k : zI → zJ → zD → Prop} (h : yy RO d mj av I J D c9 s9 (zNv P k)) (g : ∀ I1 J1 D1, k I1 J1 D1 → yw RO d mi P pc ll rest I1 J1 D1 bc bs) : yy RO d mj av I J D c9 s9 (zNx [] RO zB d mi P pc ll rest bc bs) := by
  refine zT_mono yBm d _ _ _ _ _ _ _ _ _ (fun o I1 J1 D1 q => ?_) h
  rcases o with _ | x
  · rename_i v
    rcases v with _ | v
    · exact g _ _ _ q
    · exact q.elim
  · exact q
theorem yNx_i {v : Int32} (k : yw RO d mi P pc ll (.int v :: rest) I J D bc bs) : zNx [] RO zB d mi P pc ll rest bc bs (.inl (some (.int v))) I J D := k
theorem yNx_v (k : yw RO d mi P pc ll rest I J D bc bs) : zNx [] RO zB d mi P pc ll rest bc bs (.inl none) I J D := k
theorem yr_sub (ks : List Nat) {ll' : zL} (hl : ll' = ks.filterMap (fun k => ll[k]?)) (k : yw RO d mi P pc ll' st I J D bc bs) : yw RO d mi P pc ll st I J D bc bs := by
  refine zr_sp yBm ?_
  unfold zB
  refine Or.inl ⟨ll', fun q hq => ?_, k⟩
  rw [hl] at hq
  obtain ⟨j, _, hj⟩ := List.mem_filterMap.mp hq
  exact List.mem_of_getElem? hj
theorem yr_ldcS {idx : Nat} (i j : Nat) (hm : (ztb mi)[i]? = some (pc, .ldc idx, 2)) (h : (zown mi, idx, j) ∈ zStl) (k : yw RO d mi P (pc + 2) ll (.ref (110 + j) :: st) I J D bc bs) : yw RO d mi P pc ll st I J D bc bs := by
  refine zr_sp yBm ?_
  unfold zB
  iterate 1 refine Or.inr ?_
  exact Or.inl ⟨idx, j, ⟨h, List.mem_of_getElem? hm⟩, k⟩
theorem yr_gfV {idx : Nat} (i j : Nat) (hm : (ztb mi)[i]? = some (pc, .getfield idx, 3)) (hj : j < 3) (h : Cond.fieldLink (zown mi) idx "java/lang/String" "value" "[B" ∈ zAL) (k : yw RO d mi P (pc + 3) ll (.ref (120 + j) :: r) I J D bc bs) : yw RO d mi P pc ll (.ref (110 + j) :: r) I J D bc bs := by
  refine zr_sp yBm ?_
  unfold zB
  iterate 2 refine Or.inr ?_
  exact Or.inl ⟨idx, j, r, ⟨rfl, hj, List.mem_of_getElem? hm, h⟩, k⟩
theorem yr_gfC {idx : Nat} (i j : Nat) (hm : (ztb mi)[i]? = some (pc, .getfield idx, 3)) (hj : j < 3) (h : Cond.fieldLink (zown mi) idx "java/lang/String" "coder" "B" ∈ zAL) (k : yw RO d mi P (pc + 3) ll (.int 0 :: r) I J D bc bs) : yw RO d mi P pc ll (.ref (110 + j) :: r) I J D bc bs := by
  refine zr_sp yBm ?_
  unfold zB
  iterate 3 refine Or.inr ?_
  exact Or.inl ⟨idx, j, r, ⟨rfl, hj, List.mem_of_getElem? hm, h⟩, k⟩
theorem yr_gsC {idx : Nat} (i : Nat) (hm : (ztb mi)[i]? = some (pc, .getstatic idx, 3)) (h : Cond.fieldLink (zown mi) idx "java/lang/String" "COMPACT_STRINGS" "Z" ∈ zAL) (k : yw RO d mi P (pc + 3) ll (.int 1 :: st) I J D bc bs) : yw RO d mi P pc ll st I J D bc bs := by
  refine zr_sp yBm ?_
  unfold zB
  iterate 4 refine Or.inr ?_
  exact Or.inl ⟨idx, ⟨List.mem_of_getElem? hm, h⟩, k⟩
theorem yr_balS {x : Int32} (i j : Nat) (hm : (ztb mi)[i]? = some (pc, .baload, 1)) (hj : j < 3) (hx : vp_in x (zSln.getD j 0)) (k : yw RO d mi P (pc + 1) ll (.int ((zSbt.getD j []).getD x.toNatClampNeg 0) :: r) I J D bc bs) : yw RO d mi P pc ll (.int x :: .ref (120 + j) :: r) I J D bc bs := by
  refine zr_sp yBm ?_
  unfold zB
  iterate 5 refine Or.inr ?_
  exact Or.inl ⟨x, j, r, ⟨rfl, hj, List.mem_of_getElem? hm, hx⟩, k⟩
theorem yr_alenS (i j : Nat) (hm : (ztb mi)[i]? = some (pc, .arraylength, 1)) (hj : j < 3) (k : yw RO d mi P (pc + 1) ll (.int (Int32.ofNat (zSln.getD j 0)) :: r) I J D bc bs) : yw RO d mi P pc ll (.ref (120 + j) :: r) I J D bc bs := by
  refine zr_sp yBm ?_
  unfold zB
  iterate 6 refine Or.inr ?_
  exact Or.inl ⟨j, r, ⟨rfl, hj, List.mem_of_getElem? hm⟩, k⟩
theorem yr_ins0 {idx : Nat} (i mj n : Nat) (As : List Value) (hm : (ztb mi)[i]? = some (pc, .invokestatic idx, 3)) (hst : st = As.reverse ++ rest) (hl : Cond.methodLink (zown mi) idx (zym mj) ∈ zAL) (hv : zMs mj n) (hn : As.length = n) (hc : (rest.map fun v => v.category).sum ≤ 8)
    (k : yy RO d mj As I J D 0 0 (zNx [] RO zB d mi P (pc + 3) ll rest bc bs)) : yw RO d mi P pc ll st I J D bc bs :=
  zr_ins yBm i mj n 0 0 As hm hst hl hv hn hc (Nat.zero_le _) (Nat.zero_le _) k
theorem yr_invS {idx : Nat} (i mj n j : Nat) (As : List Value) (hm : (ztb mi)[i]? = some (pc, .invokevirtual idx, 3)) (hst : st = As.reverse ++ .ref (110 + j) :: rest) (hj : j < 3) (hl : Cond.methodLink (zown mi) idx (zym mj) ∈ zAL) (hv : zMv mj n) (hn : As.length = n) (hcl : (zym mj).cls = "java/lang/String") (hc : (rest.map fun v => v.category).sum ≤ 8)
    (k : yy RO d mj (.ref (110 + j) :: As) I J D 0 0 (zNx [] RO zB d mi P (pc + 3) ll rest bc bs)) : yw RO d mi P pc ll st I J D bc bs := by
  refine zr_sp yBm ?_
  unfold zB
  iterate 7 refine Or.inr ?_
  refine ⟨idx, mj, j, As, rest, ⟨List.mem_of_getElem? hm, hst, hj, hl, hn ▸ hv, hcl, hc⟩, zT_mono yBm d _ _ _ _ _ _ _ _ _ (fun o I1 J1 D1 q => ?_) k⟩
  cases o with
  | inl v => exact q
  | inr x => exact q
end YRows

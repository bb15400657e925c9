/-! ===== rows of the small machine ===== -/
abbrev xx (RO : zRo) (d mj : Nat) (av : List Value) (I : zI) (J : zJ) (D : zD) (c9 s9 : Nat) (P : zP) : Prop := zT [] RO zC2 d mj av I J D c9 s9 P
abbrev xw (RO : zRo) (d mi : Nat) (P : zP) (pc : Nat) (ll : zL) (st : List Value) (I : zI) (J : zJ) (D : zD) (bc bs : Nat) : Prop := zV1 [] RO zC2 d mi P pc ll st I J D bc bs
section XRows
variable {RO : zRo} {d mi mj : Nat} {P : zP} {pc : Nat} {ll : zL} {st r rest : List Value} {I : zI} {J : zJ} {D : zD} {bc bs c9 s9 : Nat} {av : List Value}
theorem xci {k : Int32 → zI → zJ → zD → Prop} (h : xx RO d mj av I J D c9 s9 (zNi P k)) (g : ∀ v I1 J1 D1, k v I1 J1 D1 → xw RO d mi P pc ll (.int v :: rest) I1 J1 D1 bc bs) : xx RO d mj av I J D c9 s9 (zNx [] RO zC2 d mi P pc ll rest bc bs) := by
  refine zT_mono xBm d _ _ _ _ _ _ _ _ _ (fun o I1 J1 D1 q => ?_) h
  rcases o with _ | x
  · rename_i v
    rcases v with _ | v
    · exact q.elim
    · cases v <;> first | exact g _ _ _ _ q | exact q.elim
  · exact q
theorem xcv {k : zI → zJ → zD → Prop} (h : xx RO d mj av I J D c9 s9 (zNv P k)) (g : ∀ I1 J1 D1, k I1 J1 D1 → xw RO d mi P pc ll rest I1 J1 D1 bc bs) : xx RO d mj av I J D c9 s9 (zNx [] RO zC2 d mi P pc ll rest bc bs) := by
  refine zT_mono xBm d _ _ _ _ _ _ _ _ _ (fun o I1 J1 D1 q => ?_) h
  rcases o with _ | x
  · rename_i v
    rcases v with _ | v
    · exact g _ _ _ q
    · exact q.elim
  · exact q
theorem xNx_i {v : Int32} (k : xw RO d mi P pc ll (.int v :: rest) I J D bc bs) : zNx [] RO zC2 d mi P pc ll rest bc bs (.inl (some (.int v))) I J D := k
theorem xNx_v (k : xw RO d mi P pc ll rest I J D bc bs) : zNx [] RO zC2 d mi P pc ll rest bc bs (.inl none) I J D := k
theorem xr_sub (ks : List Nat) {ll' : zL} (hl : ll' = ks.filterMap (fun k => ll[k]?)) (k : xw RO d mi P pc ll' st I J D bc bs) : xw RO d mi P pc ll st I J D bc bs := by
  refine zr_sp xBm ?_
  unfold zC2
  refine Or.inl ?_
  unfold zB
  refine Or.inl ⟨ll', fun q hq => ?_, k⟩
  rw [hl] at hq
  obtain ⟨j, _, hj⟩ := List.mem_filterMap.mp hq
  exact List.mem_of_getElem? hj
theorem xr_ldcS {idx : Nat} (i j : Nat) (hm : (ztb mi)[i]? = some (pc, .ldc idx, 2)) (h : (zown mi, idx, j) ∈ zStl) (k : xw RO d mi P (pc + 2) ll (.ref (110 + j) :: st) I J D bc bs) : xw RO d mi P pc ll st I J D bc bs := by
  refine zr_sp xBm ?_
  unfold zC2
  refine Or.inl ?_
  unfold zB
  iterate 1 refine Or.inr ?_
  exact Or.inl ⟨idx, j, ⟨h, List.mem_of_getElem? hm⟩, k⟩
theorem xr_gfV {idx : Nat} (i j : Nat) (hm : (ztb mi)[i]? = some (pc, .getfield idx, 3)) (hj : j < 3) (h : Cond.fieldLink (zown mi) idx "java/lang/String" "value" "[B" ∈ zAL) (k : xw RO d mi P (pc + 3) ll (.ref (120 + j) :: r) I J D bc bs) : xw RO d mi P pc ll (.ref (110 + j) :: r) I J D bc bs := by
  refine zr_sp xBm ?_
  unfold zC2
  refine Or.inl ?_
  unfold zB
  iterate 2 refine Or.inr ?_
  exact Or.inl ⟨idx, j, r, ⟨rfl, hj, List.mem_of_getElem? hm, h⟩, k⟩
theorem xr_gfC {idx : Nat} (i j : Nat) (hm : (ztb mi)[i]? = some (pc, .getfield idx, 3)) (hj : j < 3) (h : Cond.fieldLink (zown mi) idx "java/lang/String" "coder" "B" ∈ zAL) (k : xw RO d mi P (pc + 3) ll (.int 0 :: r) I J D bc bs) : xw RO d mi P pc ll (.ref (110 + j) :: r) I J D bc bs := by
  refine zr_sp xBm ?_
  unfold zC2
  refine Or.inl ?_
  unfold zB
  iterate 3 refine Or.inr ?_
  exact Or.inl ⟨idx, j, r, ⟨rfl, hj, List.mem_of_getElem? hm, h⟩, k⟩
theorem xr_gsC {idx : Nat} (i : Nat) (hm : (ztb mi)[i]? = some (pc, .getstatic idx, 3)) (h : Cond.fieldLink (zown mi) idx "java/lang/String" "COMPACT_STRINGS" "Z" ∈ zAL) (k : xw RO d mi P (pc + 3) ll (.int 1 :: st) I J D bc bs) : xw RO d mi P pc ll st I J D bc bs := by
  refine zr_sp xBm ?_
  unfold zC2
  refine Or.inl ?_
  unfold zB
  iterate 4 refine Or.inr ?_
  exact Or.inl ⟨idx, ⟨List.mem_of_getElem? hm, h⟩, k⟩
theorem xr_balS {x : Int32} (i j : Nat) (hm : (ztb mi)[i]? = some (pc, .baload, 1)) (hj : j < 3) (hx : vp_in x (zSln.getD j 0)) (k : xw RO d mi P (pc + 1) ll (.int ((zSbt.getD j []).getD x.toNatClampNeg 0) :: r) I J D bc bs) : xw RO d mi P pc ll (.int x :: .ref (120 + j) :: r) I J D bc bs := by
  refine zr_sp xBm ?_
  unfold zC2
  refine Or.inl ?_
  unfold zB
  iterate 5 refine Or.inr ?_
  exact Or.inl ⟨x, j, r, ⟨rfl, hj, List.mem_of_getElem? hm, hx⟩, k⟩
theorem xr_alenS (i j : Nat) (hm : (ztb mi)[i]? = some (pc, .arraylength, 1)) (hj : j < 3) (k : xw RO d mi P (pc + 1) ll (.int (Int32.ofNat (zSln.getD j 0)) :: r) I J D bc bs) : xw RO d mi P pc ll (.ref (120 + j) :: r) I J D bc bs := by
  refine zr_sp xBm ?_
  unfold zC2
  refine Or.inl ?_
  unfold zB
  iterate 6 refine Or.inr ?_
  exact Or.inl ⟨j, r, ⟨rfl, hj, List.mem_of_getElem? hm⟩, k⟩
theorem xr_ins0 {idx : Nat} (i mj n : Nat) (As : List Value) (hm : (ztb mi)[i]? = some (pc, .invokestatic idx, 3)) (hst : st = As.reverse ++ rest) (hl : Cond.methodLink (zown mi) idx (zym mj) ∈ zAL) (hv : zMs mj n) (hn : As.length = n) (hc : (rest.map fun v => v.category).sum ≤ 8)
    (k : xx RO d mj As I J D 0 0 (zNx [] RO zC2 d mi P (pc + 3) ll rest bc bs)) : xw RO d mi P pc ll st I J D bc bs :=
  zr_ins xBm i mj n 0 0 As hm hst hl hv hn hc (Nat.zero_le _) (Nat.zero_le _) k
theorem xr_invS {idx : Nat} (i mj n j : Nat) (As : List Value) (hm : (ztb mi)[i]? = some (pc, .invokevirtual idx, 3)) (hst : st = As.reverse ++ .ref (110 + j) :: rest) (hj : j < 3) (hl : Cond.methodLink (zown mi) idx (zym mj) ∈ zAL) (hv : zMv mj n) (hn : As.length = n) (hcl : (zym mj).cls = "java/lang/String") (hc : (rest.map fun v => v.category).sum ≤ 8)
    (k : xx RO d mj (.ref (110 + j) :: As) I J D 0 0 (zNx [] RO zC2 d mi P (pc + 3) ll rest bc bs)) : xw RO d mi P pc ll st I J D bc bs := by
  refine zr_sp xBm ?_
  unfold zC2
  refine Or.inl ?_
  unfold zB
  iterate 7 refine Or.inr ?_
  refine ⟨idx, mj, j, As, rest, ⟨List.mem_of_getElem? hm, hst, hj, hl, hn ▸ hv, hcl, hc⟩, zT_mono xBm d _ _ _ _ _ _ _ _ _ (fun o I1 J1 D1 q => ?_) k⟩
  cases o with
  | inl v => exact q
  | inr x => exact q

theorem xr_math {idx : Nat} {v : Value} (i : Nat) (hm : (ztb mi)[i]? = some (pc, .invokestatic idx, 3)) (hc : (r.map fun v => v.category).sum ≤ 8) (h : (∃ x y, st = .int y :: .int x :: r ∧ zMth (zown mi) idx Lib.Math.max.name Lib.Math.max.code 2 .int ∧ v = .int (if x < y then y else x)) ∨ ∃ x y, st = .int y :: .int x :: r ∧ zMth (zown mi) idx Lib.Math.min.name Lib.Math.min.code 2 .int ∧ v = .int (if y < x then y else x)) (k : xw RO d mi P (pc + 3) ll (v :: r) I J D bc bs) : xw RO d mi P pc ll st I J D bc bs := by
  refine zr_sp xBm ?_
  unfold zC2
  refine Or.inr (Or.inl ⟨idx, r, v, ⟨List.mem_of_getElem? hm, hc, ?_⟩, k⟩)
  rcases h with h | h
  · exact Or.inl h
  · exact Or.inr (Or.inl h)
theorem xr_gsq {idx : Nat} (i : Nat) (hm : (ztb mi)[i]? = some (pc, .getstatic idx, 3)) (h : Cond.fieldLink (zown mi) idx "jdk/internal/util/Preconditions" "SIOOBE_FORMATTER" "Ljava/util/function/BiFunction;" ∈ zAL) (k1 : xw RO d mi P (pc + 3) ll (.null :: st) I J D bc bs) (k2 : xw RO d mi P (pc + 3) ll (.ref 130 :: st) I J D bc bs) : xw RO d mi P pc ll st I J D bc bs := by
  refine zr_sp xBm ?_
  unfold zC2
  exact Or.inr (Or.inr ⟨idx, ⟨List.mem_of_getElem? hm, h⟩, k1, k2⟩)
theorem xr_max {idx : Nat} {x y : Int32} (i : Nat) (hm : (ztb mi)[i]? = some (pc, .invokestatic idx, 3)) (h : zMth (zown mi) idx Lib.Math.max.name Lib.Math.max.code 2 .int) (hc : (r.map fun v => v.category).sum ≤ 8) (k : xw RO d mi P (pc + 3) ll (.int (if x < y then y else x) :: r) I J D bc bs) : xw RO d mi P pc ll (.int y :: .int x :: r) I J D bc bs := xr_math i hm hc (Or.inl ⟨x, y, rfl, h, rfl⟩) k
theorem xr_min {idx : Nat} {x y : Int32} (i : Nat) (hm : (ztb mi)[i]? = some (pc, .invokestatic idx, 3)) (h : zMth (zown mi) idx Lib.Math.min.name Lib.Math.min.code 2 .int) (hc : (r.map fun v => v.category).sum ≤ 8) (k : xw RO d mi P (pc + 3) ll (.int (if y < x then y else x) :: r) I J D bc bs) : xw RO d mi P pc ll (.int y :: .int x :: r) I J D bc bs := xr_math i hm hc (Or.inr ⟨x, y, rfl, h, rfl⟩) k
end XRows

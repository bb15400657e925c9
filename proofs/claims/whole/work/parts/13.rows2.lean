/-! ===== rows for walks by program: what a call leaves, switches by groups, conditions on longs, Strings ===== -/
abbrev zz (RO : zRo) (d mj : Nat) (av : List Value) (I : zI) (J : zJ) (D : zD) (c9 s9 : Nat) (P : zP) : Prop := zT zSH RO (zS zSH) d mj av I J D c9 s9 P
abbrev zw (RO : zRo) (d mi : Nat) (P : zP) (pc : Nat) (ll : zL) (st : List Value) (I : zI) (J : zJ) (D : zD) (bc bs : Nat) : Prop := zV1 zSH RO (zS zSH) d mi P pc ll st I J D bc bs
theorem zSm : zSPmono (zS zSH) := zS_mono
def zNi (P : zP) (k : Int32 → zI → zJ → zD → Prop) : zP := fun o I J D => match o with
  | .inl (some (.int v)) => k v I J D
  | .inr x => P (.inr x) I J D
  | _ => False
def zNl (P : zP) (k : Int64 → zI → zJ → zD → Prop) : zP := fun o I J D => match o with
  | .inl (some (.long v)) => k v I J D
  | .inr x => P (.inr x) I J D
  | _ => False
def zNd (P : zP) (k : UInt64 → zI → zJ → zD → Prop) : zP := fun o I J D => match o with
  | .inl (some (.double v)) => k v I J D
  | .inr x => P (.inr x) I J D
  | _ => False
def zNv (P : zP) (k : zI → zJ → zD → Prop) : zP := fun o I J D => match o with
  | .inl none => k I J D
  | .inr x => P (.inr x) I J D
  | _ => False
section ZRows2
variable {RO : zRo} {d mi mj : Nat} {P : zP} {pc : Nat} {ll : zL} {st r rest : List Value} {I : zI} {J : zJ} {D : zD} {bc bs c9 s9 : Nat} {av : List Value}
theorem zci {k : Int32 → zI → zJ → zD → Prop} (h : zz RO d mj av I J D c9 s9 (zNi P k)) (g : ∀ v I1 J1 D1, k v I1 J1 D1 → zw RO d mi P pc ll (.int v :: rest) I1 J1 D1 bc bs) : zz RO d mj av I J D c9 s9 (zNx zSH RO (zS zSH) d mi P pc ll rest bc bs) := by
  refine zT_mono zSm d _ _ _ _ _ _ _ _ _ (fun o I1 J1 D1 q => ?_) h
  rcases o with _ | x
  · rename_i v
    rcases v with _ | v
    · exact q.elim
    · cases v <;> first | exact g _ _ _ _ q | exact q.elim
  · exact q
theorem zcl {k : Int64 → zI → zJ → zD → Prop} (h : zz RO d mj av I J D c9 s9 (zNl P k)) (g : ∀ v I1 J1 D1, k v I1 J1 D1 → zw RO d mi P pc ll (.long v :: rest) I1 J1 D1 bc bs) : zz RO d mj av I J D c9 s9 (zNx zSH RO (zS zSH) d mi P pc ll rest bc bs) := by
  refine zT_mono zSm d _ _ _ _ _ _ _ _ _ (fun o I1 J1 D1 q => ?_) h
  rcases o with _ | x
  · rename_i v
    rcases v with _ | v
    · exact q.elim
    · cases v <;> first | exact g _ _ _ _ q | exact q.elim
  · exact q
theorem zcd {k : UInt64 → zI → zJ → zD → Prop} (h : zz RO d mj av I J D c9 s9 (zNd P k)) (g : ∀ v I1 J1 D1, k v I1 J1 D1 → zw RO d mi P pc ll (.double v :: rest) I1 J1 D1 bc bs) : zz RO d mj av I J D c9 s9 (zNx zSH RO (zS zSH) d mi P pc ll rest bc bs) := by
  refine zT_mono zSm d _ _ _ _ _ _ _ _ _ (fun o I1 J1 D1 q => ?_) h
  rcases o with _ | x
  · rename_i v
    rcases v with _ | v
    · exact q.elim
    · cases v <;> first | exact g _ _ _ _ q | exact q.elim
  · exact q
theorem zcv {k : zI → zJ → zD → Prop} (h : zz RO d mj av I J D c9 s9 (zNv P k)) (g : ∀ I1 J1 D1, k I1 J1 D1 → zw RO d mi P pc ll rest I1 J1 D1 bc bs) : zz RO d mj av I J D c9 s9 (zNx zSH RO (zS zSH) d mi P pc ll rest bc bs) := by
  refine zT_mono zSm d _ _ _ _ _ _ _ _ _ (fun o I1 J1 D1 q => ?_) h
  rcases o with _ | x
  · rename_i v
    rcases v with _ | v
    · exact g _ _ _ q
    · exact q.elim
  · exact q
/-! locals in another order, or fewer -/
theorem zr_sub (ks : List Nat) {ll' : zL} (hl : ll' = ks.filterMap (fun k => ll[k]?)) (k : zw RO d mi P pc ll' st I J D bc bs) : zw RO d mi P pc ll st I J D bc bs := by
  refine zr_sp zSm ?_
  unfold zS
  iterate 4 refine Or.inr ?_
  refine Or.inl ⟨ll', fun q hq => ?_, k⟩
  rw [hl] at hq
  obtain ⟨j, _, hj⟩ := List.mem_filterMap.mp hq
  exact List.mem_of_getElem? hj
/-! conditions on longs -/
theorem zq_lt {x y : Int64} : zc1 .lt (lg_cmp x y) ↔ x < y := lg_cmp_lt x y
theorem zq_ge {x y : Int64} : zc1 .ge (lg_cmp x y) ↔ y ≤ x := lg_cmp_ge x y
theorem zq_gt {x y : Int64} : zc1 .gt (lg_cmp x y) ↔ y < x := lg_cmp_gt x y
theorem zq_le {x y : Int64} : zc1 .le (lg_cmp x y) ↔ x ≤ y := lg_cmp_le x y
theorem zq_eq {x y : Int64} : zc1 .eq (lg_cmp x y) ↔ x = y := lg_cmp_eq x y
theorem zq_ne {x y : Int64} : zc1 .ne (lg_cmp x y) ↔ ¬ x = y := not_congr (lg_cmp_eq x y)
/-! switches -/
theorem zr_tsG {dflt lo hi : Int} {offs : Array Int} {len : Nat} {x : Int32} (i tgt : Nat) (vals : List Int32) (hm : (ztb mi)[i]? = some (pc, .tableswitch dflt lo hi offs, len)) (hx : x ∈ vals) (hv : vals.all (fun v => decide (lo ≤ v.toInt) && decide (v.toInt ≤ hi) && (match offs[(v.toInt - lo).toNat]? with | some off => (pc : Int) + off == (tgt : Int) | none => false)) = true)
    (k : zw RO d mi P tgt ll r I J D bc bs) : zw RO d mi P pc ll (.int x :: r) I J D bc bs := by
  have h := List.all_eq_true.mp hv x hx
  simp only [Bool.and_eq_true, decide_eq_true_eq] at h
  obtain ⟨⟨h1, h2⟩, h3⟩ := h
  split at h3
  · rename_i off ho
    exact zr_tsIn zSm i tgt hm (by omega) (by omega) ho (by simpa using h3) k
  · cases h3
theorem zr_tsD {dflt lo hi : Int} {offs : Array Int} {len : Nat} {x : Int32} (i tgt : Nat) (vals : List Int32) (hm : (ztb mi)[i]? = some (pc, .tableswitch dflt lo hi offs, len)) (hx : ¬ x ∈ vals) (hv : (List.range (hi - lo + 1).toNat).all (fun (j : Nat) => offs[j]? == some dflt || vals.any (fun v => v.toInt == lo + (j : Int))) = true) (ht : (pc : Int) + dflt = (tgt : Int))
    (k : zw RO d mi P tgt ll r I J D bc bs) : zw RO d mi P pc ll (.int x :: r) I J D bc bs := by
  by_cases h : x.toInt < lo ∨ hi < x.toInt
  · exact zr_tsOut zSm i tgt hm h ht k
  · have h1 : ¬ x.toInt < lo := fun q => h (Or.inl q)
    have h2 : ¬ hi < x.toInt := fun q => h (Or.inr q)
    have h3 := List.all_eq_true.mp hv (x.toInt - lo).toNat (List.mem_range.mpr (by omega))
    rcases Bool.or_eq_true_iff.mp h3 with h4 | h4
    · exact zr_tsIn zSm i tgt hm h1 h2 (by simpa using h4) ht k
    · obtain ⟨v, hv1, hv2⟩ := List.any_eq_true.mp h4
      have hv3 : v.toInt = lo + ((x.toInt - lo).toNat : Int) := by simpa using hv2
      have hv4 : v = x := Int32.toInt_inj.mp (by omega)
      exact absurd (hv4 ▸ hv1) hx
theorem zr_lsG {dflt : Int} {ps : Array (Int × Int)} {len : Nat} {x : Int32} (i tgt : Nat) (vals : List Int32) (hm : (ztb mi)[i]? = some (pc, .lookupswitch dflt ps, len)) (hx : x ∈ vals) (h1 : (ps.toList.zip (ps.toList.drop 1)).all (fun (a, next) => a.1 < next.1) = true) (hv : vals.all (fun v => (pc : Int) + Op.lookupswitch.offset ps.toList dflt v.toInt == (tgt : Int)) = true)
    (k : zw RO d mi P tgt ll r I J D bc bs) : zw RO d mi P pc ll (.int x :: r) I J D bc bs :=
  zr_lsw zSm i tgt hm h1 (by simpa using List.all_eq_true.mp hv x hx) k
theorem zlsO {dflt x : Int} : ∀ {ps : List (Int × Int)}, (∀ q ∈ ps, q.1 ≠ x) → Op.lookupswitch.offset ps dflt x = dflt
  | [], _ => rfl
  | (a, o) :: r, h => by
    unfold Op.lookupswitch.offset
    rw [if_neg (h (a, o) List.mem_cons_self)]
    exact zlsO (fun q hq => h q (List.mem_cons_of_mem _ hq))
theorem zr_lsD {dflt : Int} {ps : Array (Int × Int)} {len : Nat} {x : Int32} (i tgt : Nat) (vals : List Int32) (hm : (ztb mi)[i]? = some (pc, .lookupswitch dflt ps, len)) (hx : ¬ x ∈ vals) (h1 : (ps.toList.zip (ps.toList.drop 1)).all (fun (a, next) => a.1 < next.1) = true) (hv : ps.toList.all (fun q => vals.any (fun v => v.toInt == q.1)) = true) (ht : (pc : Int) + dflt = (tgt : Int))
    (k : zw RO d mi P tgt ll r I J D bc bs) : zw RO d mi P pc ll (.int x :: r) I J D bc bs := by
  refine zr_lsw zSm i tgt hm h1 ?_ k
  rw [zlsO (fun q hq he => ?_), ht]
  obtain ⟨v, hv1, hv2⟩ := List.any_eq_true.mp (List.all_eq_true.mp hv q hq)
  have hv3 : v.toInt = q.1 := by simpa using hv2
  have hv4 : v = x := Int32.toInt_inj.mp (by omega)
  exact hx (hv4 ▸ hv1)
/-! returns of booleans -/
theorem zn_b {v : Int32} (h : v = 0 ∨ v = 1) : narrow .boolean (.int v) = .int v := by rcases h with rfl | rfl <;> rfl
/-! throws -/
theorem zr_thr (k : Nat) (h : zThr mi pc k) (hb : 1 ≤ bc ∧ 6 ≤ bs) (q : P (.inr (k, 0, 0)) I J D) : zw RO d mi P pc ll [] I J D bc bs :=
  zr_sp zSm (Or.inl ⟨k, ⟨h, rfl, hb.1, hb.2⟩, q⟩)
/-! calls that take no room; what a pure method leaves -/
theorem zr_inv0 {idx b : Nat} (i mj n : Nat) (As : List Value) (hm : (ztb mi)[i]? = some (pc, .invokevirtual idx, 3)) (hst : st = As.reverse ++ .ref b :: rest) (hl : Cond.methodLink (zown mi) idx (zym mj) ∈ zAL) (hv : zMv mj n) (hn : As.length = n) (hb : zRc zSH mj b) (hc : (rest.map fun v => v.category).sum ≤ 8)
    (k : zz RO d mj (.ref b :: As) I J D 0 0 (zNx zSH RO (zS zSH) d mi P (pc + 3) ll rest bc bs)) : zw RO d mi P pc ll st I J D bc bs :=
  zr_inv zSm i mj n 0 0 As hm hst hl hv hn hb hc (Nat.zero_le _) (Nat.zero_le _) k
theorem zr_ins0 {idx : Nat} (i mj n : Nat) (As : List Value) (hm : (ztb mi)[i]? = some (pc, .invokestatic idx, 3)) (hst : st = As.reverse ++ rest) (hl : Cond.methodLink (zown mi) idx (zym mj) ∈ zAL) (hv : zMs mj n) (hn : As.length = n) (hc : (rest.map fun v => v.category).sum ≤ 8)
    (k : zz RO d mj As I J D 0 0 (zNx zSH RO (zS zSH) d mi P (pc + 3) ll rest bc bs)) : zw RO d mi P pc ll st I J D bc bs :=
  zr_ins zSm i mj n 0 0 As hm hst hl hv hn hc (Nat.zero_le _) (Nat.zero_le _) k
theorem zr_invS {idx : Nat} (i mj n j : Nat) (As : List Value) (hm : (ztb mi)[i]? = some (pc, .invokevirtual idx, 3)) (hst : st = As.reverse ++ .ref (110 + j) :: rest) (hj : j < 3) (hl : Cond.methodLink (zown mi) idx (zym mj) ∈ zAL) (hv : zMv mj n) (hn : As.length = n) (hcl : (zym mj).cls = "java/lang/String") (hc : (rest.map fun v => v.category).sum ≤ 8)
    (k : zz RO d mj (.ref (110 + j) :: As) I J D 0 0 (zNx zSH RO (zS zSH) d mi P (pc + 3) ll rest bc bs)) : zw RO d mi P pc ll st I J D bc bs := by
  refine zr_sp zSm ?_
  unfold zS
  iterate 11 refine Or.inr ?_
  refine Or.inl ⟨idx, mj, j, As, rest, ⟨List.mem_of_getElem? hm, hst, hj, hl, hn ▸ hv, hcl, hc⟩, zT_mono zSm d _ _ _ _ _ _ _ _ _ (fun o I1 J1 D1 q => ?_) k⟩
  cases o with
  | inl v => exact q
  | inr x => exact q
theorem zr_ldcS {idx : Nat} (i j : Nat) (hm : (ztb mi)[i]? = some (pc, .ldc idx, 2)) (h : (zown mi, idx, j) ∈ zStl) (k : zw RO d mi P (pc + 2) ll (.ref (110 + j) :: st) I J D bc bs) : zw RO d mi P pc ll st I J D bc bs := by
  refine zr_sp zSm ?_
  unfold zS
  iterate 5 refine Or.inr ?_
  exact Or.inl ⟨idx, j, ⟨h, List.mem_of_getElem? hm⟩, k⟩
theorem zr_gfV {idx : Nat} (i j : Nat) (hm : (ztb mi)[i]? = some (pc, .getfield idx, 3)) (hj : j < 3) (h : Cond.fieldLink (zown mi) idx "java/lang/String" "value" "[B" ∈ zAL) (k : zw RO d mi P (pc + 3) ll (.ref (120 + j) :: r) I J D bc bs) : zw RO d mi P pc ll (.ref (110 + j) :: r) I J D bc bs := by
  refine zr_sp zSm ?_
  unfold zS
  iterate 6 refine Or.inr ?_
  exact Or.inl ⟨idx, j, r, ⟨rfl, hj, List.mem_of_getElem? hm, h⟩, k⟩
theorem zr_gfC {idx : Nat} (i j : Nat) (hm : (ztb mi)[i]? = some (pc, .getfield idx, 3)) (hj : j < 3) (h : Cond.fieldLink (zown mi) idx "java/lang/String" "coder" "B" ∈ zAL) (k : zw RO d mi P (pc + 3) ll (.int 0 :: r) I J D bc bs) : zw RO d mi P pc ll (.ref (110 + j) :: r) I J D bc bs := by
  refine zr_sp zSm ?_
  unfold zS
  iterate 7 refine Or.inr ?_
  exact Or.inl ⟨idx, j, r, ⟨rfl, hj, List.mem_of_getElem? hm, h⟩, k⟩
theorem zr_gsC {idx : Nat} (i : Nat) (hm : (ztb mi)[i]? = some (pc, .getstatic idx, 3)) (h : Cond.fieldLink (zown mi) idx "java/lang/String" "COMPACT_STRINGS" "Z" ∈ zAL) (k : zw RO d mi P (pc + 3) ll (.int 1 :: st) I J D bc bs) : zw RO d mi P pc ll st I J D bc bs := by
  refine zr_sp zSm ?_
  unfold zS
  iterate 8 refine Or.inr ?_
  exact Or.inl ⟨idx, ⟨List.mem_of_getElem? hm, h⟩, k⟩
theorem zr_balS {x : Int32} (i j : Nat) (hm : (ztb mi)[i]? = some (pc, .baload, 1)) (hj : j < 3) (hx : vp_in x (zSln.getD j 0)) (k : zw RO d mi P (pc + 1) ll (.int ((zSbt.getD j []).getD x.toNatClampNeg 0) :: r) I J D bc bs) : zw RO d mi P pc ll (.int x :: .ref (120 + j) :: r) I J D bc bs := by
  refine zr_sp zSm ?_
  unfold zS
  iterate 9 refine Or.inr ?_
  exact Or.inl ⟨x, j, r, ⟨rfl, hj, List.mem_of_getElem? hm, hx⟩, k⟩
theorem zr_alenS (i j : Nat) (hm : (ztb mi)[i]? = some (pc, .arraylength, 1)) (hj : j < 3) (k : zw RO d mi P (pc + 1) ll (.int (Int32.ofNat (zSln.getD j 0)) :: r) I J D bc bs) : zw RO d mi P pc ll (.ref (120 + j) :: r) I J D bc bs := by
  refine zr_sp zSm ?_
  unfold zS
  iterate 10 refine Or.inr ?_
  exact Or.inl ⟨j, r, ⟨rfl, hj, List.mem_of_getElem? hm⟩, k⟩
/-! special sites -/
theorem zr_wrong (idx : Nat) (h : (pc, .aload_n 0, 1) ∈ ztb mi ∧ (pc + 1, .invokevirtual idx, 3) ∈ ztb mi ∧ Cond.methodLink (zown mi) idx (zym 149) ∈ zAL ∧ (pc + 4, .athrow, 1) ∈ ztb mi) (h1 : zown mi = "RuleStackModel") (h2 : zwh mi = []) (h3 : mi ≠ 235) (hl : zlk ll 0 = some (.ref 28)) (hb : 1 ≤ bc ∧ 8 ≤ bs) (hi : vp_in (I 28 24) 452) (q : P (.inr (3, 1, I 32 (I 28 24).toNatClampNeg)) I J D) : zw RO d mi P pc ll [] I J D bc bs := by
  refine zr_sp zSm ?_
  unfold zS
  iterate 16 refine Or.inr ?_
  exact Or.inl ⟨⟨idx, h.1, h.2.1, h.2.2.1, h.2.2.2, h1, h2, h3, hl, rfl, hb.1, hb.2, hi⟩, q⟩
theorem zr_must {e q9 : Int32} (hl2 : zlk ll 2 = some (.int e)) (hl3 : zlk ll 3 = some (.int q9)) (hb : 1 ≤ bc ∧ 8 ≤ bs) (q : P (.inr (3, e, q9)) I J D) : zw RO d 150 P 11 ll [] I J D bc bs := by
  refine zr_sp zSm ?_
  unfold zS
  iterate 17 refine Or.inr ?_
  exact Or.inl ⟨e, q9, ⟨rfl, rfl, hl2, hl3, rfl, hb.1, hb.2⟩, q⟩
theorem zr_arr {a b c e : Int32} (fA fN oA NA kA kN : Nat) {ll' : zL} (h : ∀ q ∈ zArrS pc fA fN 397, q ∈ ztb mi) (h1 : zown mi = "RuleStackModel") (hfA : zFl (zown mi) fA 11 kA) (hfN : zFl (zown mi) fN 11 kN) {t : Nat} {ks : List (Nat × Nat)} (h28 : zSH[28]? = some (.inl (11, ks))) (hkA : ks[kA]? = some (2, oA)) (hkN : ks[kN]? = some (0, t)) (hoA : zSH[oA]? = some (.inr (0, NA)))
    (l0 : zlk ll 0 = some (.ref 28)) (l1 : zlk ll 1 = some (.int a)) (l2 : zlk ll 2 = some (.int b)) (l3 : zlk ll 3 = some (.int c)) (l4 : zlk ll 4 = some (.int e)) (h5 : 5 < znl mi) (hn : ¬ 4 * I 28 kN < 0) (hn2 : (4 * I 28 kN).toNatClampNeg + 4 ≤ NA) (hb : 1 ≤ bc ∧ 4 ≤ bs) (hll : ll' = zdr ll 5) (k : zw RO d mi P (pc + 39) ll' [] (zu4 I oA (4 * I 28 kN).toNatClampNeg a b c e) J D (bc - 1) (bs - 4)) : zw RO d mi P pc ll [] I J D bc bs := by
  refine zr_sp zSm ?_
  unfold zS
  iterate 15 refine Or.inr ?_
  subst hll
  exact Or.inl ⟨a, b, c, e, fA, oA, NA, kA, fN, kN, t, ks, ⟨h, h1, hfA, hfN, h28, hkA, hkN, hoA, l0, l1, l2, l3, l4, rfl, h5, hn, hn2, hb.1, hb.2⟩, k⟩
theorem zr_copy {sp dp n : Int32} (a b na nb idx : Nat) (i : Nat) (hm : (ztb mi)[i]? = some (pc, .invokestatic idx, 3)) (h : zAcp (zown mi) idx) (ha : zSH[a]? = some (.inr (0, na))) (hb : zSH[b]? = some (.inr (0, nb))) (h1 : ¬ sp < 0) (h2 : ¬ dp < 0) (h3 : ¬ n < 0) (h4 : sp.toNatClampNeg + n.toNatClampNeg ≤ na) (h5 : dp.toNatClampNeg + n.toNatClampNeg ≤ nb) (hr : (r.map fun v => v.category).sum ≤ 8)
    (k : zw RO d mi P (pc + 3) ll r (zcp I a b sp.toNatClampNeg dp.toNatClampNeg n.toNatClampNeg) J D bc bs) : zw RO d mi P pc ll (.int n :: .int dp :: .ref b :: .int sp :: .ref a :: r) I J D bc bs := by
  refine zr_sp zSm ?_
  unfold zS
  iterate 14 refine Or.inr ?_
  exact Or.inl ⟨idx, a, b, na, nb, sp, dp, n, r, ⟨List.mem_of_getElem? hm, h, rfl, ha, hb, h1, h2, h3, h4, h5, hr⟩, k⟩
theorem zr_gsn {i : Nat} (hm : (ztb 63)[i]? = some (pc, .getstatic 75, 3)) (k : zw RO d 63 P (pc + 3) ll (.ref 100 :: st) I J D bc bs) : zw RO d 63 P pc ll st I J D bc bs := by
  refine zr_sp zSm ?_
  unfold zS
  iterate 13 refine Or.inr ?_
  exact Or.inl ⟨⟨rfl, List.mem_of_getElem? hm⟩, k⟩
theorem zr_max {idx : Nat} {x y : Int32} (i : Nat) (hm : (ztb mi)[i]? = some (pc, .invokestatic idx, 3)) (h : zMth (zown mi) idx Lib.Math.max.name Lib.Math.max.code 2 .int) (hr : (r.map fun v => v.category).sum ≤ 8) (k : zw RO d mi P (pc + 3) ll (.int (if x < y then y else x) :: r) I J D bc bs) : zw RO d mi P pc ll (.int y :: .int x :: r) I J D bc bs := by
  refine zr_sp zSm ?_
  unfold zS
  iterate 12 refine Or.inr ?_
  exact Or.inl ⟨idx, r, _, ⟨List.mem_of_getElem? hm, hr, Or.inl ⟨x, y, rfl, h, rfl⟩⟩, k⟩
theorem zr_min {idx : Nat} {x y : Int32} (i : Nat) (hm : (ztb mi)[i]? = some (pc, .invokestatic idx, 3)) (h : zMth (zown mi) idx Lib.Math.min.name Lib.Math.min.code 2 .int) (hr : (r.map fun v => v.category).sum ≤ 8) (k : zw RO d mi P (pc + 3) ll (.int (if y < x then y else x) :: r) I J D bc bs) : zw RO d mi P pc ll (.int y :: .int x :: r) I J D bc bs := by
  refine zr_sp zSm ?_
  unfold zS
  iterate 12 refine Or.inr ?_
  exact Or.inl ⟨idx, r, _, ⟨List.mem_of_getElem? hm, hr, Or.inr (Or.inl ⟨x, y, rfl, h, rfl⟩)⟩, k⟩
theorem zr_maxl {idx : Nat} {x y : Int64} (i : Nat) (hm : (ztb mi)[i]? = some (pc, .invokestatic idx, 3)) (h : zMth (zown mi) idx Lib.MathLoose.max_long.x Lib.MathLoose.max_long.code 4 .long) (hr : (r.map fun v => v.category).sum ≤ 8) (k : zw RO d mi P (pc + 3) ll (.long (if y < x then x else y) :: r) I J D bc bs) : zw RO d mi P pc ll (.long y :: .long x :: r) I J D bc bs := by
  refine zr_sp zSm ?_
  unfold zS
  iterate 12 refine Or.inr ?_
  exact Or.inl ⟨idx, r, _, ⟨List.mem_of_getElem? hm, hr, Or.inr (Or.inr (Or.inl ⟨x, y, rfl, h, rfl⟩))⟩, k⟩
theorem zr_minl {idx : Nat} {x y : Int64} (i : Nat) (hm : (ztb mi)[i]? = some (pc, .invokestatic idx, 3)) (h : zMth (zown mi) idx Lib.MathLoose.min_long.x Lib.MathLoose.min_long.code 4 .long) (hr : (r.map fun v => v.category).sum ≤ 8) (k : zw RO d mi P (pc + 3) ll (.long (if x < y then x else y) :: r) I J D bc bs) : zw RO d mi P pc ll (.long y :: .long x :: r) I J D bc bs := by
  refine zr_sp zSm ?_
  unfold zS
  iterate 12 refine Or.inr ?_
  exact Or.inl ⟨idx, r, _, ⟨List.mem_of_getElem? hm, hr, Or.inr (Or.inr (Or.inr ⟨x, y, rfl, h, rfl⟩))⟩, k⟩
end ZRows2

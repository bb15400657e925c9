/-! ===== a row of four made, filled, copied: holds of the machine ===== -/
theorem z_ari : Cond.arrayClass (newarray.typeOf .int) ∈ zAL := zmem1 122 (by decide +kernel) (by decide +kernel)
theorem zset_end {α : Type} (a b : α) : ∀ l : List α, (l ++ [a]).set l.length b = l ++ [b]
  | [] => rfl
  | x :: l => by
    show x :: (l ++ [a]).set l.length b = x :: (l ++ [b])
    rw [zset_end a b l]
theorem zat_end {α : Type} (a : α) : ∀ l : List α, (l ++ [a])[l.length]? = some a
  | [] => rfl
  | x :: l => zat_end a l
theorem zat_app {α : Type} {l r : List α} {k : Nat} {x : α} (h : l[k]? = some x) : (l ++ r)[k]? = some x := by
  rw [List.getElem?_append_left (List.getElem?_eq_some_iff.mp h).1]
  exact h
theorem zset_app {α : Type} {l r : List α} {k : Nat} {x y : α} (h : l[k]? = some x) : (l ++ r).set k y = l.set k y ++ r := List.set_append_left k y (List.getElem?_eq_some_iff.mp h).1
theorem zP_pre {G : va_G} {cl : List vw_C} {ws r : va_W} {H : Heap} (h : va_P G cl (ws ++ r) H) : va_P G cl ws H := fun k q hk => h k q (zat_app hk)
theorem z4_cpy {g : Nat → Int32} {dp : Nat} {a b c e : Int32} (j : Nat) : va_cpy (upd (upd (upd (upd (fun _ => 0) 0 a) 1 b) 2 c) 3 e) g 0 dp 4 j = if j = dp + 3 then e else if j = dp + 2 then c else if j = dp + 1 then b else if j = dp then a else g j := by
  unfold va_cpy upd
  by_cases h : dp ≤ j ∧ j < dp + 4
  · rw [if_pos h]
    have hj : j = dp ∨ j = dp + 1 ∨ j = dp + 2 ∨ j = dp + 3 := by omega
    rcases hj with z | z | z | z
    · subst z
      rw [show 0 + (j - j) = 0 by omega, if_neg (by omega), if_neg (by omega), if_neg (by omega), if_pos rfl, if_neg (by omega), if_neg (by omega), if_neg (by omega), if_pos rfl]
    · subst z
      rw [show 0 + (dp + 1 - dp) = 1 by omega, if_neg (by omega), if_neg (by omega), if_pos rfl, if_neg (by omega), if_neg (by omega), if_pos rfl]
    · subst z
      rw [show 0 + (dp + 2 - dp) = 2 by omega, if_neg (by omega), if_pos rfl, if_neg (by omega), if_pos rfl]
    · subst z
      rw [show 0 + (dp + 3 - dp) = 3 by omega, if_pos rfl, if_pos rfl]
  · rw [if_neg h, if_neg (by omega), if_neg (by omega), if_neg (by omega), if_neg (by omega)]
theorem zu4_all {I : zI} {o k : Nat} {a b c e : Int32} (j : Nat) : zu4 I o k a b c e o j = if j = k + 3 then e else if j = k + 2 then c else if j = k + 1 then b else if j = k then a else I o j := by
  unfold zu4 zu
  simp
section Arr
variable {SH : List zHs} {l : Launch} {RO : zRo}
set_option maxHeartbeats 400000 in
theorem zs_arr_ok : zSPok SH l RO (zs_arr SH) zXT := by
  intro p e R s m args below meth c Q A G ad ca mi d E P pc ll st I J D bc bs hC hEX hR htab hlk hQ hEnd hEndX hE hEW h
  obtain ⟨x1, x2, x3, x4, fA, oA, NA, kA, fN, kN, t, ks, ⟨hall, hrs, hfA, hfN, h28, hkA, hkN, hoA, l0, l1, l2, l3, l4, rfl, h5, hneg, hfit, hb1, hb4⟩, hk⟩ := h
  obtain ⟨hx, hb, hml, hown, hts, hK, hD, hA⟩ := hC
  have d0 : decode (zcc mi) (pc) = .ok (.iconst 4, 1) := zdc (hall (pc, .iconst 4, 1) (List.mem_of_getElem? (i := 0) rfl))
  have d1 : decode (zcc mi) (pc + 1) = .ok (.newarray .int, 2) := zdc (hall (pc + 1, .newarray .int, 2) (List.mem_of_getElem? (i := 1) rfl))
  have d2 : decode (zcc mi) (pc + 3) = .ok (.dup, 1) := zdc (hall (pc + 3, .dup, 1) (List.mem_of_getElem? (i := 2) rfl))
  have d3 : decode (zcc mi) (pc + 4) = .ok (.iconst 0, 1) := zdc (hall (pc + 4, .iconst 0, 1) (List.mem_of_getElem? (i := 3) rfl))
  have d4 : decode (zcc mi) (pc + 5) = .ok (.iload_n 1, 1) := zdc (hall (pc + 5, .iload_n 1, 1) (List.mem_of_getElem? (i := 4) rfl))
  have d5 : decode (zcc mi) (pc + 6) = .ok (.iastore, 1) := zdc (hall (pc + 6, .iastore, 1) (List.mem_of_getElem? (i := 5) rfl))
  have d6 : decode (zcc mi) (pc + 7) = .ok (.dup, 1) := zdc (hall (pc + 7, .dup, 1) (List.mem_of_getElem? (i := 6) rfl))
  have d7 : decode (zcc mi) (pc + 8) = .ok (.iconst 1, 1) := zdc (hall (pc + 8, .iconst 1, 1) (List.mem_of_getElem? (i := 7) rfl))
  have d8 : decode (zcc mi) (pc + 9) = .ok (.iload_n 2, 1) := zdc (hall (pc + 9, .iload_n 2, 1) (List.mem_of_getElem? (i := 8) rfl))
  have d9 : decode (zcc mi) (pc + 10) = .ok (.iastore, 1) := zdc (hall (pc + 10, .iastore, 1) (List.mem_of_getElem? (i := 9) rfl))
  have d10 : decode (zcc mi) (pc + 11) = .ok (.dup, 1) := zdc (hall (pc + 11, .dup, 1) (List.mem_of_getElem? (i := 10) rfl))
  have d11 : decode (zcc mi) (pc + 12) = .ok (.iconst 2, 1) := zdc (hall (pc + 12, .iconst 2, 1) (List.mem_of_getElem? (i := 11) rfl))
  have d12 : decode (zcc mi) (pc + 13) = .ok (.iload_n 3, 1) := zdc (hall (pc + 13, .iload_n 3, 1) (List.mem_of_getElem? (i := 12) rfl))
  have d13 : decode (zcc mi) (pc + 14) = .ok (.iastore, 1) := zdc (hall (pc + 14, .iastore, 1) (List.mem_of_getElem? (i := 13) rfl))
  have d14 : decode (zcc mi) (pc + 15) = .ok (.dup, 1) := zdc (hall (pc + 15, .dup, 1) (List.mem_of_getElem? (i := 14) rfl))
  have d15 : decode (zcc mi) (pc + 16) = .ok (.iconst 3, 1) := zdc (hall (pc + 16, .iconst 3, 1) (List.mem_of_getElem? (i := 15) rfl))
  have d16 : decode (zcc mi) (pc + 17) = .ok (.iload 4, 2) := zdc (hall (pc + 17, .iload 4, 2) (List.mem_of_getElem? (i := 16) rfl))
  have d17 : decode (zcc mi) (pc + 19) = .ok (.iastore, 1) := zdc (hall (pc + 19, .iastore, 1) (List.mem_of_getElem? (i := 17) rfl))
  have d18 : decode (zcc mi) (pc + 20) = .ok (.astore 5, 2) := zdc (hall (pc + 20, .astore 5, 2) (List.mem_of_getElem? (i := 18) rfl))
  have d19 : decode (zcc mi) (pc + 22) = .ok (.aload 5, 2) := zdc (hall (pc + 22, .aload 5, 2) (List.mem_of_getElem? (i := 19) rfl))
  have d20 : decode (zcc mi) (pc + 24) = .ok (.iconst 0, 1) := zdc (hall (pc + 24, .iconst 0, 1) (List.mem_of_getElem? (i := 20) rfl))
  have d21 : decode (zcc mi) (pc + 25) = .ok (.aload_n 0, 1) := zdc (hall (pc + 25, .aload_n 0, 1) (List.mem_of_getElem? (i := 21) rfl))
  have d22 : decode (zcc mi) (pc + 26) = .ok (.getfield fA, 3) := zdc (hall (pc + 26, .getfield fA, 3) (List.mem_of_getElem? (i := 22) rfl))
  have d23 : decode (zcc mi) (pc + 29) = .ok (.iconst 4, 1) := zdc (hall (pc + 29, .iconst 4, 1) (List.mem_of_getElem? (i := 23) rfl))
  have d24 : decode (zcc mi) (pc + 30) = .ok (.aload_n 0, 1) := zdc (hall (pc + 30, .aload_n 0, 1) (List.mem_of_getElem? (i := 24) rfl))
  have d25 : decode (zcc mi) (pc + 31) = .ok (.getfield fN, 3) := zdc (hall (pc + 31, .getfield fN, 3) (List.mem_of_getElem? (i := 25) rfl))
  have d26 : decode (zcc mi) (pc + 34) = .ok (.imul, 1) := zdc (hall (pc + 34, .imul, 1) (List.mem_of_getElem? (i := 26) rfl))
  have d27 : decode (zcc mi) (pc + 35) = .ok (.iconst 4, 1) := zdc (hall (pc + 35, .iconst 4, 1) (List.mem_of_getElem? (i := 27) rfl))
  have d28 : decode (zcc mi) (pc + 36) = .ok (.invokestatic 397, 3) := zdc (hall (pc + 36, .invokestatic 397, 3) (List.mem_of_getElem? (i := 28) rfl))
  obtain ⟨m1, m2, m3, m4⟩ := zac_11
  intro H locs ls cells slots hP hS hll hbc hbs
  have hsz : ∀ {ls' : Array Slot} {lv : List (Nat × Value)}, lv_has ls' (znl mi) lv → c.maxLocals = ls'.size := fun h => hml.trans h.1.symm
  have hz := zW_of (ad := ad) (ca := ca) (I := I) (J := J) (D := D) hoA
  have hz28 := zW_of (ad := ad) (ca := ca) (I := I) (J := J) (D := D) h28
  have hw := znfw
  have t0 : (0 : Int32).toNatClampNeg = 0 := rfl
  have t1 : (1 : Int32).toNatClampNeg = 1 := rfl
  have t2 : (2 : Int32).toNatClampNeg = 2 := rfl
  have t3 : (3 : Int32).toNatClampNeg = 3 := rfl
  have t4 : (4 : Int32).toNatClampNeg = 4 := rfl
  refine lv_iconst hx hb d0 (show Int32.ofInt 4 = 4 from rfl) ?_
  refine va_newa (ty := .int) (N' := 4) (a0 := (4, .inl fun _ => 0)) hx hb (hts _ z_ari) rfl hK hP (hD I J D) hS hA (fun cA => rfl) (by decide) rfl (by decide) (by omega) (by omega) d1 (fun q cA H1 hK1 hP1 hD1 hS1 => ?_)
  have hq4 : (zTY ca ++ [(cA, FieldType.int)])[4]? = some (cA, .int) := rfl
  refine lv_dup hx hb (va := .ref q) d2 rfl ?_
  refine lv_iconst hx hb d3 (show Int32.ofInt 0 = 0 from rfl) ?_
  refine lv_iload_n hx hb d4 rfl (zlv_at hll l1) ?_
  refine va_iast hx hb hK1 hP1 hD1 hS1 (zW SH ad ca I J D).length 4 (zat_end _ _) hq4 (zin_lit (by decide) (by decide)) d5 (fun H2 locs2 hP2 hD2 hS2 => ?_)
  rw [zset_end, t0] at hP2 hD2
  refine lv_dup hx hb (va := .ref q) d6 rfl ?_
  refine lv_iconst hx hb d7 (show Int32.ofInt 1 = 1 from rfl) ?_
  refine lv_iload_n hx hb d8 rfl (zlv_at hll l2) ?_
  refine va_iast hx hb hK1 hP2 hD2 hS2 (zW SH ad ca I J D).length 4 (zat_end _ _) hq4 (zin_lit (by decide) (by decide)) d9 (fun H3 locs3 hP3 hD3 hS3 => ?_)
  rw [zset_end, t1] at hP3 hD3
  refine lv_dup hx hb (va := .ref q) d10 rfl ?_
  refine lv_iconst hx hb d11 (show Int32.ofInt 2 = 2 from rfl) ?_
  refine lv_iload_n hx hb d12 rfl (zlv_at hll l3) ?_
  refine va_iast hx hb hK1 hP3 hD3 hS3 (zW SH ad ca I J D).length 4 (zat_end _ _) hq4 (zin_lit (by decide) (by decide)) d13 (fun H4 locs4 hP4 hD4 hS4 => ?_)
  rw [zset_end, t2] at hP4 hD4
  refine lv_dup hx hb (va := .ref q) d14 rfl ?_
  refine lv_iconst hx hb d15 (show Int32.ofInt 3 = 3 from rfl) ?_
  refine lv_iload hx hb d16 (zlv_at hll l4) ?_
  refine va_iast hx hb hK1 hP4 hD4 hS4 (zW SH ad ca I J D).length 4 (zat_end _ _) hq4 (zin_lit (by decide) (by decide)) d17 (fun H5 locs5 hP5 hD5 hS5 => ?_)
  rw [zset_end, t3] at hP5 hD5
  refine lv_astore (lv' := (5, .ref q) :: zlv ad (zdr ll 5)) hx hb d18 hll h5 ?_ (fun ls5 hl5 => ?_)
  · have h9 := zlv_st ad ll 5 (.int 0)
    have h8 : zlv ad (zst ll 5 (.int 0)) = (5, .int 0) :: zlv ad (zdr ll 5) := rfl
    rw [h8] at h9
    rw [(List.cons.inj h9).2]
  have hd5 : lv_has ls5 (znl mi) (zlv ad (zdr ll 5)) := ⟨hl5.1, hl5.2.1, fun q hq => hl5.2.2 q (List.mem_cons_of_mem _ hq)⟩
  have l0' : zlk (zdr ll 5) 0 = some (.ref 28) ∨ True := Or.inr trivial
  refine lv_aload hx hb d19 (hl5.2.2 _ List.mem_cons_self) ?_
  refine lv_iconst hx hb d20 (show Int32.ofInt 0 = 0 from rfl) ?_
  have g0 : ls5[0]? = some (.val (.ref (ad 28))) := by
    refine hd5.2.2 (0, .ref (ad 28)) (List.mem_map.mpr ⟨(0, .ref 28), ?_, rfl⟩)
    refine List.mem_filter.mpr ⟨zlk_mem l0, ?_⟩
    simp
  obtain ⟨C1, T1, N1, hc1, hkN1, hw1⟩ := hfA
  obtain ⟨C2, T2, N2, hc2, hkN2, hw2⟩ := hfN
  obtain ⟨ty1, hcl1⟩ := zcls 11 C1 T1 N1 (by decide) hc1
  obtain ⟨ty2, hcl2⟩ := zcls 11 C2 T2 N2 (by decide) hc2
  refine lv_aload_n hx hb d21 rfl g0 ?_
  refine va_get hx hb hts hcl1.2.1 hown hK1 hP5 28 (zat_app hz28) hc1 kA hkN1 (hts _ hw1) (fun x h => h) (v := .ref (ad oA)) (by rw [List.getElem?_mapIdx, hkA]; rfl) d22 ?_
  refine lv_iconst hx hb d23 (show Int32.ofInt 4 = 4 from rfl) ?_
  refine lv_aload_n hx hb d24 rfl g0 ?_
  refine va_get hx hb hts hcl2.2.1 hown hK1 hP5 28 (zat_app hz28) hc2 kN hkN2 (hts _ hw2) (fun x h => h) (v := .int (I 28 kN)) (by rw [List.getElem?_mapIdx, hkN]; rfl) d25 ?_
  refine lv_imul hx hb d26 ?_
  refine lv_iconst hx hb d27 (show Int32.ofInt 4 = 4 from rfl) ?_
  refine va_copyi (sp := 0) (dp := 4 * I 28 kN) (n := 4) (n0 := 4) (n1 := NA) (f := upd (upd (upd (upd (fun _ => 0) 0 x1) 1 x2) 2 x3) 3 x4) (g := I oA) hx hb (hsz hl5) hown (hts _ (hrs ▸ m1)) (hts _ m2) (hts _ m3) (hts _ m4) hK1 hP5 hD5 hS5 (zW SH ad ca I J D).length oA 4 0 (zat_end _ _) (zat_app hz) hq4 rfl rfl (by decide) hneg (by decide) (by rw [t0, t4]; omega) (by rw [t4]; exact hfit) (fun i hi => rfl) (by omega) (by show 0 + _ ≤ _; omega) d28 (fun H6 locs6 hP6 hD6 hS6 => ?_)
  rw [t0, t4] at hP6
  rw [zset_app hz] at hP6
  refine hk H6 locs6 ls5 (cells + 1) (slots + 4) ?_ hS6 hd5 (by omega) (by omega)
  rw [← zW_set (I := I) (J := J) (D := D) hoA (e := .inl (ca 0, NA, .inl (va_cpy (upd (upd (upd (upd (fun _ => 0) 0 x1) 1 x2) 2 x3) 3 x4) (I oA) 0 (4 * I 28 kN).toNatClampNeg 4))) ?_ (fun i hi => ⟨?_, rfl, rfl⟩)]
  · exact zP_pre hP6
  · show Sum.inl _ = Sum.inl _
    congr 3
    refine congrArg Sum.inl ?_
    funext j
    rw [zu4_all, z4_cpy]
  · funext j
    unfold zu4 zu
    simp [hi]
end Arr

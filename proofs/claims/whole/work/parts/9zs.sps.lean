/-! ===== the special steps (2) hold of the machine: names fewer, Strings, Math, statics, copies ===== -/
section Sp2
variable {SH : List zHs} {l : Launch} {RO : zRo}
theorem zs_sub_ok : zSPok SH l RO zs_sub zXT := by
  intro p e R s m args below meth c Q A G ad ca mi d E P pc ll st I J D bc bs hC hEX hR htab hlk hQ hEnd hEndX hE hEW h
  obtain ⟨ll', h1, hk⟩ := h
  intro H locs ls cells slots hP hS hll hbc hbs
  refine hk H locs ls cells slots hP hS ⟨hll.1, hll.2.1, fun q hq => ?_⟩ hbc hbs
  obtain ⟨x, hx, rfl⟩ := List.mem_map.mp hq
  exact hll.2.2 _ (List.mem_map.mpr ⟨x, h1 x hx, rfl⟩)
theorem zs_ldcS_ok : zSPok SH l RO zs_ldcS zXT := by
  intro p e R s m args below meth c Q A G ad ca mi d E P pc ll st I J D bc bs hC hEX hR htab hlk hQ hEnd hEndX hE hEW h
  obtain ⟨idx, i, ⟨h1, h2⟩, hk⟩ := h
  obtain ⟨hx, hb, hml, hown, hts, hK, hD, hA⟩ := hC
  obtain ⟨x1, x2, x3, x4, x5, x6, x7, x8, x9, x10, x11⟩ := hEX.2.2
  intro H locs ls cells slots hP hS hll hbc hbs
  exact va_ldcS hx hb hown (x9 _ h1) (zdc h2) (hk H locs ls cells slots hP hS hll hbc hbs)
theorem zs_gfV_ok : zSPok SH l RO zs_gfV zXT := by
  intro p e R s m args below meth c Q A G ad ca mi d E P pc ll st I J D bc bs hC hEX hR htab hlk hQ hEnd hEndX hE hEW h
  obtain ⟨idx, i, r, ⟨rfl, hi, h1, h2⟩, hk⟩ := h
  obtain ⟨hx, hb, hml, hown, hts, hK, hD, hA⟩ := hC
  obtain ⟨x1, x2, x3, x4, x5, x6, x7, x8, x9, x10, x11⟩ := hEX.2.2
  intro H locs ls cells slots hP hS hll hbc hbs
  exact vk_getf hx hb (x8.1 i hi).2.2.1 hS hown (hts _ h2) (fun x h => h) (zdc h1) (hk H locs ls cells slots hP hS hll hbc hbs)
theorem zs_gfC_ok : zSPok SH l RO zs_gfC zXT := by
  intro p e R s m args below meth c Q A G ad ca mi d E P pc ll st I J D bc bs hC hEX hR htab hlk hQ hEnd hEndX hE hEW h
  obtain ⟨idx, i, r, ⟨rfl, hi, h1, h2⟩, hk⟩ := h
  obtain ⟨hx, hb, hml, hown, hts, hK, hD, hA⟩ := hC
  obtain ⟨x1, x2, x3, x4, x5, x6, x7, x8, x9, x10, x11⟩ := hEX.2.2
  intro H locs ls cells slots hP hS hll hbc hbs
  exact vk_getf hx hb (x8.1 i hi).2.1 hS hown (hts _ h2) (fun x h => h) (zdc h1) (hk H locs ls cells slots hP hS hll hbc hbs)
theorem zs_gsC_ok : zSPok SH l RO zs_gsC zXT := by
  intro p e R s m args below meth c Q A G ad ca mi d E P pc ll st I J D bc bs hC hEX hR htab hlk hQ hEnd hEndX hE hEW h
  obtain ⟨idx, ⟨h1, h2⟩, hk⟩ := h
  obtain ⟨hx, hb, hml, hown, hts, hK, hD, hA⟩ := hC
  obtain ⟨x1, x2, x3, x4, x5, x6, x7, x8, x9, x10, x11⟩ := hEX.2.2
  intro H locs ls cells slots hP hS hll hbc hbs
  exact va_gets hx hb x10 hS hown (hts _ h2) (fun x h => h) (zdc h1) (hk H locs ls cells slots hP hS hll hbc hbs)
theorem zs_bal_ok : zSPok SH l RO zs_bal zXT := by
  intro p e R s m args below meth c Q A G ad ca mi d E P pc ll st I J D bc bs hC hEX hR htab hlk hQ hEnd hEndX hE hEW h
  obtain ⟨x, i, r, ⟨rfl, hi, h1, h2⟩, hk⟩ := h
  obtain ⟨hx, hb, hml, hown, hts, hK, hD, hA⟩ := hC
  obtain ⟨x1, x2, x3, x4, x5, x6, x7, x8, x9, x10, x11⟩ := hEX.2.2
  intro H locs ls cells slots hP hS hll hbc hbs
  exact va_tb hx hb (x8.1 i hi).2.2.2 hS h2 rfl (zdc h1) (hk H locs ls cells slots hP hS hll hbc hbs)
theorem zs_alen_ok : zSPok SH l RO zs_alen zXT := by
  intro p e R s m args below meth c Q A G ad ca mi d E P pc ll st I J D bc bs hC hEX hR htab hlk hQ hEnd hEndX hE hEW h
  obtain ⟨i, r, ⟨rfl, hi, h1⟩, hk⟩ := h
  obtain ⟨hx, hb, hml, hown, hts, hK, hD, hA⟩ := hC
  obtain ⟨x1, x2, x3, x4, x5, x6, x7, x8, x9, x10, x11⟩ := hEX.2.2
  intro H locs ls cells slots hP hS hll hbc hbs
  exact va_tlen hx hb (x8.1 i hi).2.2.2 hS rfl (zdc h1) (hk H locs ls cells slots hP hS hll hbc hbs)
theorem zs_gsn_ok : zSPok SH l RO zs_gsn zXT := by
  intro p e R s m args below meth c Q A G ad ca mi d E P pc ll st I J D bc bs hC hEX hR htab hlk hQ hEnd hEndX hE hEW h
  obtain ⟨⟨rfl, h1⟩, hk⟩ := h
  obtain ⟨hx, hb, hml, hown, hts, hK, hD, hA⟩ := hC
  obtain ⟨x1, x2, x3, x4, x5, x6, x7, x8, x9, x10, x11⟩ := hEX.2.2
  intro H locs ls cells slots hP hS hll hbc hbs
  exact va_getsN hx hb (hEX.2.1 ("RuleStack", "MOST_ITEMS", "[I", 100) (List.mem_cons_self)) hS hown (va_Nw.use rfl (x5 ("RuleStack$Meaning", 75, "RuleStack", "MOST_ITEMS", "[I", "RuleStack") List.mem_cons_self)) (fun x h => h) (zdc h1) (hk H locs ls cells slots hP hS hll hbc hbs)
theorem zmin_L (x y : Int64) : (if x < y then x else y) = if y < x then y else x := by
  by_cases h1 : x < y
  · by_cases h2 : y < x
    · rw [Int64.lt_iff_toInt_lt] at h1 h2
      omega
    · rw [if_pos h1, if_neg h2]
  · by_cases h2 : y < x
    · rw [if_neg h1, if_pos h2]
    · rw [if_neg h1, if_neg h2]
      rw [Int64.lt_iff_toInt_lt] at h1 h2
      exact Int64.toInt_inj.mp (by omega)
theorem zs_math_ok : zSPok SH l RO zs_math zXT := by
  intro p e R s m args below meth c Q A G ad ca mi d E P pc ll st I J D bc bs hC hEX hR htab hlk hQ hEnd hEndX hE hEW h
  obtain ⟨idx, r, v, ⟨h1, hcat, h2⟩, hk⟩ := h
  obtain ⟨hx, hb, hml, hown, hts, hK, hD, hA⟩ := hC
  intro H locs ls cells slots hP hS hll hbc hbs
  have hk := hk H locs ls cells slots hP hS hll hbc hbs
  have hsz : c.maxLocals = ls.size := hml.trans hll.1.symm
  have hc9 : ((r.map (zV ad)).map fun v => v.category).sum ≤ 8 := by rw [zcats]; exact hcat
  rcases h2 with ⟨x, y, rfl, ⟨m1, m2, m3, m4⟩, rfl⟩ | ⟨x, y, rfl, ⟨m1, m2, m3, m4⟩, rfl⟩ | ⟨x, y, rfl, ⟨m1, m2, m3, m4⟩, rfl⟩ | ⟨x, y, rfl, ⟨m1, m2, m3, m4⟩, rfl⟩
  · exact va_mmax hx hb hsz hown (hts _ m1) (hts _ m2) (hts _ m3) (hts _ m4) (by omega) (by omega) (by omega) (by omega) (zdc h1) hk
  · exact va_mmin hx hb hsz hown (hts _ m1) (hts _ m2) (hts _ m3) (hts _ m4) (by omega) (by omega) (by omega) (by omega) (zdc h1) hk
  · exact va_mmax_long hx hb hsz hown (hts _ m1) (hts _ m2) (hts _ m3) (hts _ m4) (by omega) (by omega) (by omega) (by omega) (zdc h1) hk
  · have e : (if x < y then x else y) = if y < x then y else x := zmin_L x y
    rw [e] at hk
    exact va_mmin_long hx hb hsz hown (hts _ m1) (hts _ m2) (hts _ m3) (hts _ m4) (by omega) (by omega) (by omega) (by omega) (zdc h1) hk
theorem znfw : nativeFrameWords "java/lang/System" "arraycopy" 5 ≤ 60 := by decide
theorem zs_copy_ok : zSPok SH l RO (zs_copy SH) zXT := by
  intro p e R s m args below meth c Q A G ad ca mi d E P pc ll st I J D bc bs hC hEX hR htab hlk hQ hEnd hEndX hE hEW h
  obtain ⟨idx, a, b, na, nb, sp, dp, n, r, ⟨h1, ⟨m1, m2, m3, m4⟩, rfl, ha, hb9, n1, n2, n3, n4, n5, hcat⟩, hk⟩ := h
  obtain ⟨hx, hb, hml, hown, hts, hK, hD, hA⟩ := hC
  intro H locs ls cells slots hP hS hll hbc hbs
  have hsz : c.maxLocals = ls.size := hml.trans hll.1.symm
  have hc9 : ((r.map (zV ad)).map fun v => v.category).sum ≤ 8 := by rw [zcats]; exact hcat
  have hw := znfw
  refine va_copyi hx hb hsz hown (hts _ m1) (hts _ m2) (hts _ m3) (hts _ m4) hK hP (hD I J D) hS a b 0 0 (zW_of ha) (zW_of hb9) rfl rfl rfl n1 n2 n3 n4 n5 (fun i hi => rfl) (by omega) (by omega) (zdc h1) (fun H1 locs1 hP1 hD1 hS1 => ?_)
  refine hk H1 locs1 ls cells slots ?_ hS1 hll hbc hbs
  rw [← zW_set (I := I) (J := J) (D := D) hb9 (e := .inl (ca 0, nb, .inl (va_cpy (I a) (I b) sp.toNatClampNeg dp.toNatClampNeg n.toNatClampNeg))) ?_ (fun i hi => ⟨?_, rfl, rfl⟩)]
  · exact hP1
  · show Sum.inl _ = Sum.inl _
    congr 3
    refine congrArg Sum.inl ?_
    funext k
    unfold zcp
    rw [if_pos rfl]
  · funext k
    unfold zcp
    rw [if_neg hi]
theorem zs_callVS_ok : zSPok SH l RO zs_callVS zXT := by
  intro p e R s m args below meth c Q A G ad ca mi d E P pc ll st I J D bc bs hC hEX hR htab hlk hQ hEnd hEndX hE hEW h
  obtain ⟨idx, mj, i, As, rest, ⟨hdg, rfl, hi, hlkw, ⟨hmo, hin, hse⟩, hcls, hcat⟩, hk⟩ := h
  have hM := hE mj _ _ I J D 0 0 _ hmo hk G ad ca
  have hC0 := hC
  obtain ⟨hx, hb, hml, hown, hts, hK, hD, hA⟩ := hC
  intro H locs ls cells slots hP hS hll hbc hbs
  obtain ⟨x1, x2, x3, x4, x5, x6, x7, x8, x9, x10, x11⟩ := hEX.2.2
  refine zcall (A1 := va_A (zW SH ad ca I J D) H.size) (P := _) (rest := rest.map (zV ad)) (a := (Value.ref (ad (110 + i)) :: As.map (zV ad)).toArray)
    (vx_runV (C := (zym mj).cls) (b := ad (110 + i)) (As := As.map (zV ad)) (rest := rest.map (zV ad)) (Ts := zAL) (n := As.length) (nL := znl mi) ⟨hx, hb, hml, hown, hts⟩ (hM H.size)
      (cwV As.length hts (zGood (fun w hw => ?_)) rfl rfl rfl ⟨rfl, hmo.2.2.1⟩ ⟨?_, ?_⟩)
      ⟨zPc_blind zXT_ok, ?_, zpre (av := .ref (110 + i) :: As) zXT_ok hC0 hEX hP hS⟩ rfl (List.length_map _) hll.1 (zrev As (.ref (110 + i)) rest) ?_ (zdc hdg) ⟨?_, ?_⟩) hS (zA_sub hD hA hS) ?_ ?_
  · rcases List.mem_append.mp hw with hw | hw
    · simp only [List.mem_cons, List.not_mem_nil, or_false] at hw
      rcases hw with rfl | rfl | rfl | rfl
      · exact hlkw
      · exact hin
      · exact hse
      · exact hmo.2.1
    · exact zws_in hmo w hw
  · exact hR.1
  · have h60 := hmo.2.2.2.1
    show 8 + (znl mj + 11) + d * 100 ≤ R.locals
    omega
  · rw [hcls]
    exact vk_recv (adK := fun i => ad (110 + i)) (i := i) x8 hi hS
  · exact lv_room (by rw [zcats]; exact hcat)
  · omega
  · omega
  · intro x I' J' D' H1 locs1 q ce hp hP1 hS1 hxo hce hcv hcl
    exact hEndX x I' J' D' hp pc ls _ H1 locs1 _ _ q ce hP1 hS1 hxo hce hcv hcl (by omega) (by omega)
  · intro v I' J' D' H1 locs1 hp hP1 hS1
    have h9 := hp H1 locs1 ls (cells + 0) (slots + 0) hP1 hS1 hll (by omega) (by omega)
    rw [List.map_append] at h9
    have e9 : v.toList.map (zV ad) = (v.map (zV ad)).toList := by cases v <;> rfl
    rw [e9] at h9
    exact h9
end Sp2

/-! ===== a Wrong caught in compile: holds of the machine ===== -/
set_option maxRecDepth 100000 in
theorem zcl_10 : zCl 10 RX10 TX10 8 tyX10 := ⟨rfl, zFree_in (by decide +kernel), tyX10_ok, nmX10⟩
theorem zcl_w : Cond.classLink "RuleStackModel" 173 "RuleStackModel$Wrong" ∈ zAL := zmem6 104 (by decide +kernel) (by decide +kernel)
theorem ztb_177 : ((80, .astore_n 2, 1) ∈ ztb 177 ∧ (81, .aload_n 2, 1) ∈ ztb 177 ∧ (82, .getfield 309, 3) ∈ ztb 177 ∧ (85, .istore_n 1, 1) ∈ ztb 177) ∧ (86, .aload_n 0, 1) ∈ ztb 177 ∧ (87, .aload_n 2, 1) ∈ ztb 177 ∧ (88, .getfield 312, 3) ∈ ztb 177 ∧ (91, .putfield 62, 3) ∈ ztb 177 :=
  ⟨⟨List.mem_of_getElem? (i := 44) rfl, List.mem_of_getElem? (i := 45) rfl, List.mem_of_getElem? (i := 46) rfl, List.mem_of_getElem? (i := 47) rfl⟩, List.mem_of_getElem? (i := 48) rfl, List.mem_of_getElem? (i := 49) rfl, List.mem_of_getElem? (i := 50) rfl, List.mem_of_getElem? (i := 51) rfl⟩
theorem zob_29 : zOb zSH 28 11 29 (0, 0) := ⟨_, rfl, rfl, by decide⟩
theorem zwh_177 : tableOf (zwh 177) = [(⟨20, 77, 80, 173⟩ : ExceptionTableEntry)] := rfl
section Try
variable {l : Launch} {RO : zRo}
set_option maxHeartbeats 400000 in
theorem zs_try_ok : zSPok zSH l RO (zs_try zSH) zXT := by
  intro p e R s m args below meth c Q A G ad ca mi d E P pc ll st I J D bc bs hC hEX hR htab hlk hQ hEnd hEndX hE hEW h
  obtain ⟨idx, mj, b, As, rest, c9, s9, ⟨rfl, hpc, hdg, rfl, hlkw, hmv, hrc, hcat, hc9, hs9, l0⟩, hk⟩ := h
  intro H locs ls cells slots hP hS hll hbc hbs
  obtain ⟨⟨d80, d81, d82, d85⟩, d86, d87, d88, d91⟩ := ztb_177
  refine zcallV zXT_ok hC hEX hR hdg hlkw hmv hrc hcat (hE mj _ _ I J D c9 s9 _ hmv.1 hk) hP hS hll (by omega) (by omega) ?_ ?_
  · intro x I' J' D' H1 locs1 q ce hp hP1 hS1 hxo hce hcv hcl
    obtain ⟨hx3, hp⟩ := hp
    obtain ⟨fs, f6, f7, hat⟩ := hxo hx3
    rw [hx3] at hcl
    obtain ⟨hx, hb, hml, hown, hts, hK, hD, hA⟩ := hC
    obtain ⟨z1, z2, z3, z4, z5, z6, z7, z8, z9, z10, z11⟩ := hEX.2.2
    have hPq : va_P G vwCl [(q, .inr (10, fs))] H1 := by
      intro k y hy
      cases k with
      | zero => cases hy; exact hat
      | succ k => cases hy
    have hl0 : lv_has ls (znl 177) [(0, .ref (ad 28))] := ⟨hll.1, hll.2.1, fun y hy => by
      rw [List.mem_singleton.mp hy]
      exact hll.2.2 (0, .ref (ad 28)) (List.mem_map.mpr ⟨(0, .ref 28), zlk_mem l0, rfl⟩)⟩
    refine vx_catch (own := zown 177) (name := "RuleStackModel$Wrong") (E := "RuleStackModel$Wrong") hown [] ⟨20, 77, 80, 173⟩ [] (htab.trans zwh_177) (fun z hz => nomatch hz) ?_ (by decide) (hts _ zcl_w) (va_Nw.use rfl (z11 "RuleStackModel$Wrong" (by decide))) hce hcv hcl ?_
    · simp only [List.mem_cons, List.not_mem_nil, or_false] at hpc
      rcases hpc with rfl | rfl | rfl <;> decide
    refine lv_astore_n (i := 2) (lv' := [(2, .ref q), (0, .ref (ad 28))]) hx hb (zdc d80) rfl hl0 (by decide) rfl (fun ls1 h1 => ?_)
    refine lv_aload_n hx hb (zdc d81) rfl (h1.2.2 _ List.mem_cons_self) ?_
    refine va_getN hx hb hts zcl_10.2.1 hown hK hPq 0 rfl zcl_10.1 6 (by decide) (va_Nw.use rfl (z5 ("RuleStackModel", 309, "RuleStackModel$Wrong", "error", "I", "RuleStackModel") (by decide))) (fun x h => h) f6 (zdc d82) ?_
    refine lv_istore_n (i := 1) (lv' := [(1, .int x.2.1), (2, .ref q), (0, .ref (ad 28))]) hx hb (zdc d85) rfl h1 (by decide) rfl (fun ls2 h2 => ?_)
    refine lv_aload_n (i := 0) (x := ad 28) hx hb (zdc d86) rfl (h2.2.2 (0, .ref (ad 28)) (by simp)) ?_
    refine lv_aload_n (i := 2) (x := q) hx hb (zdc d87) rfl (h2.2.2 (2, .ref q) (by simp)) ?_
    refine va_getN hx hb hts zcl_10.2.1 hown hK hPq 0 rfl zcl_10.1 7 (by decide) (va_Nw.use rfl (z5 ("RuleStackModel", 312, "RuleStackModel$Wrong", "place", "I", "RuleStackModel") (by decide))) (fun x h => h) f7 (zdc d88) ?_
    obtain ⟨C, T, N, hc, hkN, hw⟩ := zf_11_62
    obtain ⟨C', T', N', hc', hfin, hpd⟩ := zp_11_29
    obtain ⟨ks, ho, hk1, hne⟩ := zob_29
    obtain ⟨ty, hcl1⟩ := zcls 11 C T N hne hc
    cases Option.some.inj (hc.symm.trans hc')
    have hkl : 29 < (ks.mapIdx (fun k kd => zfv ad I' J' 28 k kd)).length := by rw [List.length_mapIdx]; exact (List.getElem?_eq_some_iff.mp hk1).1
    refine va_put hx hb hts hcl1.2.1 ty hcl1.2.2.1 hcl1.2.2.2 hown hK hP1 (hD I' J' D') hS1 28 (zW_of ho) hc 29 hkN (hts _ hw) (fun x h => h) hfin hpd rfl rfl hkl (zdc d91) (fun H2 locs2 hP2 hD2 hS2 => ?_)
    refine hp H2 locs2 ls2 (cells + c9) (slots + s9) (by rw [← zW_set ho (zent_setI hk1 (Or.inl rfl)) (fun i hi => ⟨zu_row I' _ hi, rfl, rfl⟩)]; exact hP2) hS2 ⟨h2.1, h2.2.1, fun y hy => ?_⟩ (by omega) (by omega)
    have hy : y = (0, .ref (ad 28)) ∨ y = (1, .int x.2.1) := by
      have hy2 : y ∈ [((0 : Nat), Value.ref (ad 28)), (1, .int x.2.1)] := hy
      simpa using hy2
    rcases hy with rfl | rfl
    · exact h2.2.2 _ (by simp)
    · exact h2.2.2 _ (by simp)
  · intro v I' J' D' H1 locs1 hp hP1 hS1
    exact hp H1 locs1 ls (cells + c9) (slots + s9) hP1 hS1 hll (by omega) (by omega)
end Try

/-! ===== Strings once more, with the static that charAt reads ===== -/
section Ys
variable {SH : List zHs} {l : Launch} {RO : zRo} {XT : (Nat → Nat) → (Nat → Prop) → State → Heap → Prop}
theorem ys_sub_ok (hXT : zXTok XT) (hsub : ∀ ad A U H, XT ad A U H → zXT ad A U H) : zSPok SH l RO zs_sub XT := by
  intro p e R s m args below meth c Q A G ad ca mi d E P pc ll st I J D bc bs hC hEX hR htab hlk hQ hEnd hEndX hE hEW h
  obtain ⟨ll', h1, hk⟩ := h
  intro H locs ls cells slots hP hS hll hbc hbs
  refine hk H locs ls cells slots hP hS ⟨hll.1, hll.2.1, fun q hq => ?_⟩ hbc hbs
  obtain ⟨x, hx, rfl⟩ := List.mem_map.mp hq
  exact hll.2.2 _ (List.mem_map.mpr ⟨x, h1 x hx, rfl⟩)
theorem ys_ldcS_ok (hXT : zXTok XT) (hsub : ∀ ad A U H, XT ad A U H → zXT ad A U H) : zSPok SH l RO zs_ldcS XT := by
  intro p e R s m args below meth c Q A G ad ca mi d E P pc ll st I J D bc bs hC hEX hR htab hlk hQ hEnd hEndX hE hEW h
  obtain ⟨idx, i, ⟨h1, h2⟩, hk⟩ := h
  obtain ⟨hx, hb, hml, hown, hts, hK, hD, hA⟩ := hC
  obtain ⟨x1, x2, x3, x4, x5, x6, x7, x8, x9, x10, x11⟩ := hsub _ _ _ _ hEX.2.2
  intro H locs ls cells slots hP hS hll hbc hbs
  exact va_ldcS hx hb hown (x9 _ h1) (zdc h2) (hk H locs ls cells slots hP hS hll hbc hbs)
theorem ys_gfV_ok (hXT : zXTok XT) (hsub : ∀ ad A U H, XT ad A U H → zXT ad A U H) : zSPok SH l RO zs_gfV XT := by
  intro p e R s m args below meth c Q A G ad ca mi d E P pc ll st I J D bc bs hC hEX hR htab hlk hQ hEnd hEndX hE hEW h
  obtain ⟨idx, i, r, ⟨rfl, hi, h1, h2⟩, hk⟩ := h
  obtain ⟨hx, hb, hml, hown, hts, hK, hD, hA⟩ := hC
  obtain ⟨x1, x2, x3, x4, x5, x6, x7, x8, x9, x10, x11⟩ := hsub _ _ _ _ hEX.2.2
  intro H locs ls cells slots hP hS hll hbc hbs
  exact vk_getf hx hb (x8.1 i hi).2.2.1 hS hown (hts _ h2) (fun x h => h) (zdc h1) (hk H locs ls cells slots hP hS hll hbc hbs)
theorem ys_gfC_ok (hXT : zXTok XT) (hsub : ∀ ad A U H, XT ad A U H → zXT ad A U H) : zSPok SH l RO zs_gfC XT := by
  intro p e R s m args below meth c Q A G ad ca mi d E P pc ll st I J D bc bs hC hEX hR htab hlk hQ hEnd hEndX hE hEW h
  obtain ⟨idx, i, r, ⟨rfl, hi, h1, h2⟩, hk⟩ := h
  obtain ⟨hx, hb, hml, hown, hts, hK, hD, hA⟩ := hC
  obtain ⟨x1, x2, x3, x4, x5, x6, x7, x8, x9, x10, x11⟩ := hsub _ _ _ _ hEX.2.2
  intro H locs ls cells slots hP hS hll hbc hbs
  exact vk_getf hx hb (x8.1 i hi).2.1 hS hown (hts _ h2) (fun x h => h) (zdc h1) (hk H locs ls cells slots hP hS hll hbc hbs)
theorem ys_gsC_ok (hXT : zXTok XT) (hsub : ∀ ad A U H, XT ad A U H → zXT ad A U H) : zSPok SH l RO zs_gsC XT := by
  intro p e R s m args below meth c Q A G ad ca mi d E P pc ll st I J D bc bs hC hEX hR htab hlk hQ hEnd hEndX hE hEW h
  obtain ⟨idx, ⟨h1, h2⟩, hk⟩ := h
  obtain ⟨hx, hb, hml, hown, hts, hK, hD, hA⟩ := hC
  obtain ⟨x1, x2, x3, x4, x5, x6, x7, x8, x9, x10, x11⟩ := hsub _ _ _ _ hEX.2.2
  intro H locs ls cells slots hP hS hll hbc hbs
  exact va_gets hx hb x10 hS hown (hts _ h2) (fun x h => h) (zdc h1) (hk H locs ls cells slots hP hS hll hbc hbs)
theorem ys_bal_ok (hXT : zXTok XT) (hsub : ∀ ad A U H, XT ad A U H → zXT ad A U H) : zSPok SH l RO zs_bal XT := by
  intro p e R s m args below meth c Q A G ad ca mi d E P pc ll st I J D bc bs hC hEX hR htab hlk hQ hEnd hEndX hE hEW h
  obtain ⟨x, i, r, ⟨rfl, hi, h1, h2⟩, hk⟩ := h
  obtain ⟨hx, hb, hml, hown, hts, hK, hD, hA⟩ := hC
  obtain ⟨x1, x2, x3, x4, x5, x6, x7, x8, x9, x10, x11⟩ := hsub _ _ _ _ hEX.2.2
  intro H locs ls cells slots hP hS hll hbc hbs
  exact va_tb hx hb (x8.1 i hi).2.2.2 hS h2 rfl (zdc h1) (hk H locs ls cells slots hP hS hll hbc hbs)
theorem ys_alen_ok (hXT : zXTok XT) (hsub : ∀ ad A U H, XT ad A U H → zXT ad A U H) : zSPok SH l RO zs_alen XT := by
  intro p e R s m args below meth c Q A G ad ca mi d E P pc ll st I J D bc bs hC hEX hR htab hlk hQ hEnd hEndX hE hEW h
  obtain ⟨i, r, ⟨rfl, hi, h1⟩, hk⟩ := h
  obtain ⟨hx, hb, hml, hown, hts, hK, hD, hA⟩ := hC
  obtain ⟨x1, x2, x3, x4, x5, x6, x7, x8, x9, x10, x11⟩ := hsub _ _ _ _ hEX.2.2
  intro H locs ls cells slots hP hS hll hbc hbs
  exact va_tlen hx hb (x8.1 i hi).2.2.2 hS rfl (zdc h1) (hk H locs ls cells slots hP hS hll hbc hbs)
theorem ys_math_ok (hXT : zXTok XT) (hsub : ∀ ad A U H, XT ad A U H → zXT ad A U H) : zSPok SH l RO zs_math XT := by
  intro p e R s m args below meth c Q A G ad ca mi d E P pc ll st I J D bc bs hC hEX hR htab hlk hQ hEnd hEndX hE hEW h
  obtain ⟨idx, r, v, ⟨h1, hcat, h2⟩, hk⟩ := h
  obtain ⟨hx, hb, hml, hown, hts, hK, hD, hA⟩ := hC
  intro H locs ls cells slots hP hS hll hbc hbs
  have hk := hk H locs ls cells slots hP hS hll hbc hbs
  have hsz : c.maxLocals = ls.size := hml.trans hll.1.symm
  have hc9 : ((r.map (zV ad)).map fun v => v.category).sum ≤ 8 := by rw [zcats]; exact hcat
  rcases h2 with ⟨x, y, rfl, ⟨m1, m2, m3, m4⟩, rfl⟩ | ⟨x, y, rfl, ⟨m1, m2, m3, m4⟩, rfl⟩ | ⟨x, y, rfl, ⟨m1, m2, m3, m4⟩, rfl⟩ | ⟨x, y, rfl, ⟨m1, m2, m3, m4⟩, rfl⟩
  · exact va_mmax hx hb hsz hown (hts _ m1) (hts _ m2) (hts _ m3) (hts _ m4) (by omega) (by omega) (by omega) (by omega) (zdc h1) hk
  · exact va_mmin hx hb hsz hown (hts _ m1) (hts _ m2) (hts _ m3) (hts _ m4) (by omega) (by omega) (by omega) (by omega) (zdc h1) hk
  · exact va_mmax_long hx hb hsz hown (hts _ m1) (hts _ m2) (hts _ m3) (hts _ m4) (by omega) (by omega) (by omega) (by omega) (zdc h1) hk
  · have e : (if x < y then x else y) = if y < x then y else x := zmin_L x y
    rw [e] at hk
    exact va_mmin_long hx hb hsz hown (hts _ m1) (hts _ m2) (hts _ m3) (hts _ m4) (by omega) (by omega) (by omega) (by omega) (zdc h1) hk
theorem ys_callVS_ok (hXT : zXTok XT) (hsub : ∀ ad A U H, XT ad A U H → zXT ad A U H) : zSPok SH l RO zs_callVS XT := by
  intro p e R s m args below meth c Q A G ad ca mi d E P pc ll st I J D bc bs hC hEX hR htab hlk hQ hEnd hEndX hE hEW h
  obtain ⟨idx, mj, i, As, rest, ⟨hdg, rfl, hi, hlkw, ⟨hmo, hin, hse⟩, hcls, hcat⟩, hk⟩ := h
  have hM := hE mj _ _ I J D 0 0 _ hmo hk G ad ca
  have hC0 := hC
  obtain ⟨hx, hb, hml, hown, hts, hK, hD, hA⟩ := hC
  intro H locs ls cells slots hP hS hll hbc hbs
  obtain ⟨x1, x2, x3, x4, x5, x6, x7, x8, x9, x10, x11⟩ := hsub _ _ _ _ hEX.2.2
  refine zcall (A1 := va_A (zW SH ad ca I J D) H.size) (P := _) (rest := rest.map (zV ad)) (a := (Value.ref (ad (110 + i)) :: As.map (zV ad)).toArray)
    (vx_runV (C := (zym mj).cls) (b := ad (110 + i)) (As := As.map (zV ad)) (rest := rest.map (zV ad)) (Ts := zAL) (n := As.length) (nL := znl mi) ⟨hx, hb, hml, hown, hts⟩ (hM H.size)
      (cwV As.length hts (zGood (fun w hw => ?_)) rfl rfl rfl ⟨rfl, hmo.2.2.1⟩ ⟨?_, ?_⟩)
      ⟨zPc_blind hXT, ?_, zpre (av := .ref (110 + i) :: As) hXT hC0 hEX hP hS⟩ rfl (List.length_map _) hll.1 (zrev As (.ref (110 + i)) rest) ?_ (zdc hdg) ⟨?_, ?_⟩) hS (zA_sub hD hA hS) ?_ ?_
  · rcases List.mem_append.mp hw with hw | hw
    · simp only [List.mem_cons, List.not_mem_nil, or_false] at hw
      rcases hw with rfl | rfl | rfl | rfl
      · exact hlkw
      · exact hin
      · exact hse
      · exact hmo.2.1
    · exact zws_in hmo w hw
  · exact hR.1
  · have h60 := hmo.2.2.2.1
    show 8 + (znl mj + 11) + d * 100 ≤ R.locals
    omega
  · rw [hcls]
    exact vk_recv (adK := fun i => ad (110 + i)) (i := i) x8 hi hS
  · exact lv_room (by rw [zcats]; exact hcat)
  · omega
  · omega
  · intro x I' J' D' H1 locs1 q ce hp hP1 hS1 hxo hce hcv hcl
    exact hEndX x I' J' D' hp pc ls _ H1 locs1 _ _ q ce hP1 hS1 hxo hce hcv hcl (by omega) (by omega)
  · intro v I' J' D' H1 locs1 hp hP1 hS1
    have h9 := hp H1 locs1 ls (cells + 0) (slots + 0) hP1 hS1 hll (by omega) (by omega)
    rw [List.map_append] at h9
    have e9 : v.toList.map (zV ad) = (v.map (zV ad)).toList := by cases v <;> rfl
    rw [e9] at h9
    exact h9
end Ys
def zXT2 (ad : Nat → Nat) (A : Nat → Prop) (U : State) (H : Heap) : Prop := zXT ad A U H ∧ (va_Z "jdk/internal/util/Preconditions" "SIOOBE_FORMATTER" "Ljava/util/function/BiFunction;" .null A U H ∨ va_Z "jdk/internal/util/Preconditions" "SIOOBE_FORMATTER" "Ljava/util/function/BiFunction;" (.ref (ad 130)) A U H)
theorem zXT2_ok : zXTok zXT2 := by
  refine ⟨fun ad A u U H hW h => ⟨zXT_ok.1 ad A u U H hW h.1, ?_⟩, fun ad A A' U H H' h hq hz hA => ⟨zXT_ok.2 ad A A' U H H' h.1 hq hz hA, ?_⟩⟩
  · rcases h.2 with h | h
    · exact Or.inl (va_Z.moved hW.alike h)
    · exact Or.inr (va_Z.moved hW.alike h)
  · rcases h.2 with h | h
    · exact Or.inl (va_Z.narrow (h.kept hq) hA)
    · exact Or.inr (va_Z.narrow (h.kept hq) hA)
def zs_gsq : zSp := fun _ mi X _ pc ll st I J D bc bs => ∃ idx, ((pc, .getstatic idx, 3) ∈ ztb mi ∧ Cond.fieldLink (zown mi) idx "jdk/internal/util/Preconditions" "SIOOBE_FORMATTER" "Ljava/util/function/BiFunction;" ∈ zAL) ∧ X (pc + 3) ll (.null :: st) I J D bc bs ∧ X (pc + 3) ll (.ref 130 :: st) I J D bc bs
theorem zs_gsq_ok {SH : List zHs} {l : Launch} {RO : zRo} : zSPok SH l RO zs_gsq zXT2 := by
  intro p e R s m args below meth c Q A G ad ca mi d E P pc ll st I J D bc bs hC hEX hR htab hlk hQ hEnd hEndX hE hEW h
  obtain ⟨idx, ⟨h1, h2⟩, hk1, hk2⟩ := h
  obtain ⟨hx, hb, hml, hown, hts, hK, hD, hA⟩ := hC
  intro H locs ls cells slots hP hS hll hbc hbs
  rcases hEX.2.2.2 with z | z
  · exact va_gets hx hb z hS hown (hts _ h2) (fun x h => h) (zdc h1) (hk1 H locs ls cells slots hP hS hll hbc hbs)
  · exact va_gets hx hb z hS hown (hts _ h2) (fun x h => h) (zdc h1) (hk2 H locs ls cells slots hP hS hll hbc hbs)
def zC2 : zSp := fun E mi X P pc ll st I J D bc bs => zB E mi X P pc ll st I J D bc bs ∨ zs_math E mi X P pc ll st I J D bc bs ∨ zs_gsq E mi X P pc ll st I J D bc bs
theorem xBm : zSPmono zC2 := fun E mi X X' P P' pc ll st I J D bc bs hX hP hE h => by
  rcases h with h | h | h
  · exact Or.inl (yBm E mi X X' P P' pc ll st I J D bc bs hX hP hE h)
  · obtain ⟨a, b, c, h1, h2⟩ := h
    exact Or.inr (Or.inl ⟨a, b, c, h1, hX _ _ _ _ _ _ _ _ h2⟩)
  · obtain ⟨a, h1, h2, h3⟩ := h
    exact Or.inr (Or.inr ⟨a, h1, hX _ _ _ _ _ _ _ _ h2, hX _ _ _ _ _ _ _ _ h3⟩)
theorem zC2_ok {SH : List zHs} {l : Launch} {RO : zRo} : zSPok SH l RO zC2 zXT2 := by
  have hs : ∀ ad A U H, zXT2 ad A U H → zXT ad A U H := fun _ _ _ _ h => h.1
  intro p e R s m args below meth c Q A G ad ca mi d E P pc ll st I J D bc bs hC hEX hR htab hlk hQ hEnd hEndX hE hEW h
  rcases h with (h | h | h | h | h | h | h | h) | h | h
  · exact ys_sub_ok zXT2_ok hs p e R s m args below meth c Q A G ad ca mi d E P pc ll st I J D bc bs hC hEX hR htab hlk hQ hEnd hEndX hE hEW h
  · exact ys_ldcS_ok zXT2_ok hs p e R s m args below meth c Q A G ad ca mi d E P pc ll st I J D bc bs hC hEX hR htab hlk hQ hEnd hEndX hE hEW h
  · exact ys_gfV_ok zXT2_ok hs p e R s m args below meth c Q A G ad ca mi d E P pc ll st I J D bc bs hC hEX hR htab hlk hQ hEnd hEndX hE hEW h
  · exact ys_gfC_ok zXT2_ok hs p e R s m args below meth c Q A G ad ca mi d E P pc ll st I J D bc bs hC hEX hR htab hlk hQ hEnd hEndX hE hEW h
  · exact ys_gsC_ok zXT2_ok hs p e R s m args below meth c Q A G ad ca mi d E P pc ll st I J D bc bs hC hEX hR htab hlk hQ hEnd hEndX hE hEW h
  · exact ys_bal_ok zXT2_ok hs p e R s m args below meth c Q A G ad ca mi d E P pc ll st I J D bc bs hC hEX hR htab hlk hQ hEnd hEndX hE hEW h
  · exact ys_alen_ok zXT2_ok hs p e R s m args below meth c Q A G ad ca mi d E P pc ll st I J D bc bs hC hEX hR htab hlk hQ hEnd hEndX hE hEW h
  · exact ys_callVS_ok zXT2_ok hs p e R s m args below meth c Q A G ad ca mi d E P pc ll st I J D bc bs hC hEX hR htab hlk hQ hEnd hEndX hE hEW h
  · exact ys_math_ok zXT2_ok hs p e R s m args below meth c Q A G ad ca mi d E P pc ll st I J D bc bs hC hEX hR htab hlk hQ hEnd hEndX hE hEW h
  · exact zs_gsq_ok p e R s m args below meth c Q A G ad ca mi d E P pc ll st I J D bc bs hC hEX hR htab hlk hQ hEnd hEndX hE hEW h
theorem x_met {l : Launch} {d mj n : Nat} {av : List Value} {I : zI} {J : zJ} {D : zD} {c9 s9 : Nat} {P : zP} (h0 : zMo mj n) (h : zT [] zRz zC2 d mj av I J D c9 s9 P) : zCal [] l zRz zXT2 d mj av I J D c9 s9 P :=
  (zT_sound zdec zXT2_ok zC2_ok d).1 mj n av I J D c9 s9 P h0 h

/-! ===== the law's entry, up to its loop ===== -/
section Law0
variable {p : Program} {l : Launch} {e : Env} {s : State} {m : MethodId} {below : List Frame} {meth : Method} {c : Code} {Q : State → Prop} {A : Nat → Prop} {G : va_G} {ca f : Nat → Nat} {b : Nat}
set_option maxHeartbeats 1000000 in
theorem z_law0 (hx : p.tables.exec = Jvm.exec) (hb : c.code = zcc 235) (hml : c.maxLocals = 9) (hown : s.vm.findClass (zown 235) = some m.cls) (hts : ∀ w ∈ zAL, w.before #[Value.ref b] s = true) (hK : va_K G vwCl (zTY ca) s) (hEX : zEX f zRz zXT2 A s s.heap) (hA : ∀ q, s.heap.size ≤ q → A q)
    (kk : ∀ (ad : Nat → Nat) (H1 : Heap) (locs1 : List Loc) (ls1 : Array Slot), (∀ o, 54 ≤ o → ad o = f o) → va_P G vwCl (wsA ca (tkN 148).2 (mN 32) ad) H1 → va_D A (wsA ca (tkN 148).2 (mN 32) ad) → va_S A s.heap H1 locs1 → lv_has ls1 9 [(5, .int 0), (4, .ref (ad 53)), (3, .ref (ad 52)), (2, .ref (ad 28)), (1, .ref (ad 0)), (0, .ref b)] → W p l e room_1 s m #[Value.ref b] below meth c H1 locs1 54 15870 Q (F0 m 28 ls1 [])) : W p l e room_1 s m #[Value.ref b] below meth c s.heap [] 0 0 Q (entryFrame m ([Value.ref b] : List Value).toArray 9) := by
  have hlv := lv_entry [Value.ref b] (n := 9) (by show 1 ≤ 9; omega)
  rw [lg_entry_eq]
  generalize (lg_sl [Value.ref b] ++ List.replicate (9 - (lg_sl [Value.ref b]).length) Slot.unset).toArray = ls at hlv ⊢
  have hl0 : lv_has ls 9 [(0, .ref b)] := hlv
  have hP0 : va_P G vwCl [] s.heap := fun k q h => by cases h
  have hD0 : va_D A [] := ⟨fun i j p q h => (by cases h), fun k q h => (by cases h)⟩
  have hS0 : va_S A s.heap s.heap [] := va_S.rf
  refine z_newP (A := A) (fs := [.null, .null, .null, .null, .null, .null, .null, .null, .int 0]) zcl_9 zln_106 zlv_9 hx hb hts hown hK hP0 hD0 hS0 hA (by show 0 + 1 ≤ room_1.cells; decide) (by show 0 + 9 ≤ room_1.slots; decide) zd235_0 (fun q H1 hP1 hD1 hS1 => ?_)
  refine lv_dup hx hb zd235_3 rfl ?_
  have hq : A q := hD1.2 _ _ (zat_end _ _)
  have hAq : ∀ y, zFq q H1.size y → A y := fun y hy => hy.elim (fun h => by rw [h]; exact hq) (fun h => hA y (Nat.le_trans hS1.1 h))
  refine z_callC (A := A) (As := []) (kc_106 (G := G) (ad := f) (ca := ca)) zPx_blind ⟨rfl, rfl⟩ ⟨rfl, rfl⟩ hx hb (hl0.1.trans hml.symm) hown hts hS1 hq hA zlw_106 rfl (by decide) zld_106 (by show _ ≤ room_1.frames; decide) (by show _ ≤ room_1.locals; decide) (by show 0 + 1 + 27 ≤ room_1.cells; decide) (by show 0 + 9 + 5595 ≤ room_1.slots; decide) (by show (1 + 0) ≤ 8; omega) zd235_4 (fun U hU hW => z_prex hK hEX hS1 hAq hP1 hU hW) (fun H2 locs2 hr2 hS2 hk2 => ?_)
  obtain ⟨o1, o2, o3, o4, o5, o6, o7, o8, o9, t1, u1, u2, u3, u4, c1, c2, p1, p2, p3, p4, p5, p6, b1, b2, m1, m2, g1, hr3, hr4⟩ := hr2
  obtain ⟨hP2, hD2⟩ := z_join hP1 hD1 hAq hk2 hr3 hr4
  clear hP1 hD1 hr3 hr4
  refine lv_astore_n (i := 1) (lv' := [(1, .ref q), (0, .ref b)]) hx hb zd235_7 rfl hl0 (by decide) rfl (fun ls1 hl1 => ?_)
  refine z_newP (A := A) (fs := [.int 0, .null, .null, .int 0, .int 0, .null, .null, .null, .int 0, .null, .null, .null, .null, .null, .null, .null, .null, .null, .int 0, .int 0, .null, .null, .null, .int 0, .int 0, .int 0, .int 0, .int 0, .int 0, .int 0, .int 0, .long 0, .long 0, .int 0, .int 0, .int 0, .int 0, .int 0, .int 0, .int 0, .int 0, .int 0, .int 0, .null, .null, .int 0, .null, .int 0, .null, .null, .null]) zcl_11 zln_133 zlv_11 hx hb hts hown hK hP2 hD2 hS2 hA (by show 28 + 1 ≤ room_1.cells; decide) (by show 5604 + 51 ≤ room_1.slots; decide) zd235_8 (fun q2 H3 hP3 hD3 hS3 => ?_)
  refine lv_dup hx hb zd235_11 rfl ?_
  have hq2 : A q2 := hD3.2 _ _ (zat_end _ _)
  have hAq2 : ∀ y, zFq q2 H3.size y → A y := fun y hy => hy.elim (fun h => by rw [h]; exact hq2) (fun h => hA y (Nat.le_trans hS3.1 h))
  refine z_callC (A := A) (As := []) (kc_133 (G := G) (ad := f) (ca := ca)) zPx_blind ⟨rfl, rfl⟩ ⟨rfl, rfl⟩ hx hb (hl1.1.trans hml.symm) hown hts hS3 hq2 hA zlw_133 rfl (by decide) zld_133 (by show _ ≤ room_1.frames; decide) (by show _ ≤ room_1.locals; decide) (by show 28 + 1 + 23 ≤ room_1.cells; decide) (by show 5604 + 51 + 10213 ≤ room_1.slots; decide) (by show (1 + 0) ≤ 8; omega) zd235_12 (fun U hU hW => z_prex hK hEX hS3 hAq2 hP3 hU hW) (fun H4 locs4 hr5 hS4 hk4 => ?_)
  obtain ⟨a1, a2, a3, a4, a5, a6, a7, a8, a9, a10, a11, a12, a13, a14, a15, a16, a17, a18, a19, a20, a21, a22, a23, hr6, hr7⟩ := hr5
  obtain ⟨hP4, hD4⟩ := z_join hP3 hD3 hAq2 hk4 hr6 hr7
  clear hP3 hD3 hr6 hr7
  refine lv_astore_n (i := 2) (lv' := [(2, .ref q2), (1, .ref q), (0, .ref b)]) hx hb zd235_15 rfl hl1 (by decide) rfl (fun ls2 hl2 => ?_)
  refine lv_iconst (v := 1) hx hb zd235_16 (show Int32.ofInt 1 = 1 from rfl) ?_
  refine z_newarr (A := A) 1 (by decide) 1 hx hb hts hK hP4 hD4 hS4 hA (n := 1) (by decide) rfl (by decide) (by show 52 + 1 ≤ room_1.cells; decide) (by show 15868 + 1 ≤ room_1.slots; decide) zd235_17 (fun al H5 hP5 hD5 hS5 => ?_)
  refine lv_astore_n (i := 3) (lv' := [(3, .ref al), (2, .ref q2), (1, .ref q), (0, .ref b)]) hx hb zd235_19 rfl hl2 (by decide) rfl (fun ls3 hl3 => ?_)
  refine lv_iconst (v := 1) hx hb zd235_20 (show Int32.ofInt 1 = 1 from rfl) ?_
  refine z_newarr (A := A) 2 (by decide) 1 hx hb hts hK hP5 hD5 hS5 hA (n := 1) (by decide) rfl (by decide) (by show 53 + 1 ≤ room_1.cells; decide) (by show 15869 + 1 ≤ room_1.slots; decide) zd235_21 (fun adb H6 hP6 hD6 hS6 => ?_)
  refine lv_astore (i := 4) (lv' := [(4, .ref adb), (3, .ref al), (2, .ref q2), (1, .ref q), (0, .ref b)]) hx hb zd235_23 hl3 (by decide) rfl (fun ls4 hl4 => ?_)
  refine lv_iconst (v := 0) hx hb zd235_25 (show Int32.ofInt 0 = 0 from rfl) ?_
  refine lv_istore (i := 5) (lv' := [(5, .int 0), (4, .ref adb), (3, .ref al), (2, .ref q2), (1, .ref q), (0, .ref b)]) hx hb zd235_26 hl4 (by decide) rfl (fun ls5 hl5 => ?_)
  exact kk (fun o => if o < 54 then [q, o1, t1, o2, u1, u2, u3, u4, o3, c1, c2, o4, o5, p1, p2, p3, p4, p5, p6, o6, o7, b1, b2, o8, o9, m1, m2, g1, q2, a1, a2, a3, a4, a5, a6, a7, a8, a9, a10, a11, a12, a13, a14, a15, a16, a17, a18, a19, a20, a21, a22, a23, al, adb].getD o 0 else f o) H6 _ ls5 (fun o ho => if_neg (by omega)) hP6 hD6 hS6 hl5
end Law0

variable {SH : List zHs}
/-! ===== each rule holds of the machine ===== -/
theorem zu_self (f : zI) (o k : Nat) (v : Int32) : zu f o k v o = upd (f o) k v := by
  funext b
  unfold zu upd
  by_cases h : b = k
  · rw [if_pos ⟨rfl, h⟩, if_pos h]
  · rw [if_neg (fun q => h q.2), if_neg h]
theorem zu_selfL (f : zJ) (o k : Nat) (v : Int64) : zu f o k v o = vp_updL (f o) k v := by
  funext b
  unfold zu vp_updL
  by_cases h : b = k
  · rw [if_pos ⟨rfl, h⟩, if_pos h]
  · rw [if_neg (fun q => h q.2), if_neg h]
theorem zu_selfD (f : zD) (o k : Nat) (v : UInt64) : zu f o k v o = vf_upd (f o) k v := by
  funext b
  unfold zu vf_upd
  by_cases h : b = k
  · rw [if_pos ⟨rfl, h⟩, if_pos h]
  · rw [if_neg (fun q => h q.2), if_neg h]
section ZSound1
variable {p : Program} {l : Launch} {e : Env} {R : Room} {s : State} {m : MethodId} {args : Array Value} {below : List Frame} {meth : Method} {c : Code} {Q : State → Prop} {H : Heap} {locs : List Loc} {cells slots : Nat}
variable {A A1 : Nat → Prop} {G : va_G} {ad ca : Nat → Nat} {mi : Nat} {RO : zRo} {XT : (Nat → Nat) → (Nat → Prop) → State → Heap → Prop}
def zDec : Prop := ∀ (mi : Nat) (q : Nat × Instr × Nat), q ∈ ztb mi → decode (zcc mi) q.1 = .ok (q.2.1, q.2.2)
theorem zrev (As : List Value) (r : Value) (rest : List Value) : (As.reverse ++ r :: rest).map (zV ad) = (As.map (zV ad)).reverse ++ zV ad r :: rest.map (zV ad) := by
  rw [List.map_append, List.map_reverse, List.map_cons]
theorem zcats (rest : List Value) : ((rest.map (zV ad)).map fun v => v.category).sum = (rest.map fun v => v.category).sum := by
  rw [List.map_map]
  congr 1
  apply List.map_congr_left
  intro v _
  exact zV_cat ad v
set_option maxHeartbeats 4000000 in
theorem zw1_sound {d : Nat} {E : zE} {P : zP} {pc : Nat} {ins : Instr} {len : Nat} {ll : zL} {st : List Value} {I : zI} {J : zJ} {D : zD} {bc bs : Nat} (hdec : zDec)
    (hC : zC SH p s m args c A G ad ca mi) (hXT : zXTok XT) (hEX : zEX ad RO XT A s s.heap) (hR : d + 11 ≤ R.frames ∧ (d + 1) * 100 ≤ R.locals)
    (hEnd : zEnd SH p l e R s m args below meth c Q A G ad ca mi P) (hEndX : zEndX SH p l e R s m args below meth c Q A G ad ca P)
    (hE : ∀ mj n av I J D c9 s9 P', zMo mj n → E mj av I J D c9 s9 P' → zCal SH l RO XT d mj av I J D c9 s9 P')
    (hm : (pc, ins, len) ∈ ztb mi) (h : zw1 SH RO mi E (zG SH p l e R s m args below meth c Q A G ad ca mi) P pc ins len ll st I J D bc bs) : zG SH p l e R s m args below meth c Q A G ad ca mi pc ll st I J D bc bs := by
  have hC0 := hC
  obtain ⟨hx, hb, hml, hown, hts, hK, hD, hA⟩ := hC
  have hd := hdec mi _ hm
  intro H locs ls cells slots hP hS hl hbc hbs
  rcases h with ⟨st', ⟨h1, h2⟩, hk⟩ | h
  · subst h2
    exact zsl_sound hx hb h1 hd (hk H locs ls cells slots hP hS hl hbc hbs)
  split at h
  case h_1 n => obtain ⟨v, ⟨h1, rfl⟩, hk⟩ := h; exact lv_bipush hx hb hd h1 (hk H locs ls cells slots hP hS hl hbc hbs)
  case h_2 n => obtain ⟨v, ⟨h1, rfl⟩, hk⟩ := h; exact lv_sipush hx hb hd h1 (hk H locs ls cells slots hP hS hl hbc hbs)
  case h_3 n => obtain ⟨v, ⟨h1, rfl⟩, hk⟩ := h; exact lv_ldc hx hb hown (hts _ h1) hd (hk H locs ls cells slots hP hS hl hbc hbs)
  case h_4 n => obtain ⟨v, ⟨h1, rfl⟩, hk⟩ := h; exact lv_ldc2 hx hb hown (hts _ h1) hd (hk H locs ls cells slots hP hS hl hbc hbs)
  case h_5 n => obtain ⟨v, ⟨h1, rfl⟩, hk⟩ := h; exact lv_iload hx hb hd (zlv_at hl h1) (hk H locs ls cells slots hP hS hl hbc hbs)
  case h_6 n => obtain ⟨v, ⟨h1, rfl⟩, hk⟩ := h; exact lv_iload_n hx hb hd rfl (zlv_at hl h1) (hk H locs ls cells slots hP hS hl hbc hbs)
  case h_7 n => obtain ⟨v, ⟨h1, rfl⟩, hk⟩ := h; exact lv_lload hx hb hd (zlv_at hl h1) (hk H locs ls cells slots hP hS hl hbc hbs)
  case h_8 n => obtain ⟨v, ⟨h1, rfl⟩, hk⟩ := h; exact lv_lload_n hx hb hd rfl (zlv_at hl h1) (hk H locs ls cells slots hP hS hl hbc hbs)
  case h_9 n => obtain ⟨v, ⟨h1, rfl⟩, hk⟩ := h; exact lv_aload hx hb hd (zlv_at hl h1) (hk H locs ls cells slots hP hS hl hbc hbs)
  case h_10 n => obtain ⟨v, ⟨h1, rfl⟩, hk⟩ := h; exact lv_aload_n hx hb hd rfl (zlv_at hl h1) (hk H locs ls cells slots hP hS hl hbc hbs)
  case h_11 n => obtain ⟨v, ⟨h1, rfl⟩, hk⟩ := h; exact lv_dload hx hb hd (zlv_at hl h1) (hk H locs ls cells slots hP hS hl hbc hbs)
  case h_12 n => obtain ⟨v, ⟨h1, rfl⟩, hk⟩ := h; exact lv_dload_n hx hb hd rfl (zlv_at hl h1) (hk H locs ls cells slots hP hS hl hbc hbs)
  case h_13 n => obtain ⟨x, r, ⟨rfl, h1, rfl⟩, hk⟩ := h; exact lv_istore hx hb hd hl h1 (zlv_st ad ll n (.int x)) (fun ls' hl' => hk H locs ls' cells slots hP hS hl' hbc hbs)
  case h_14 n => obtain ⟨x, r, ⟨rfl, h1, rfl⟩, hk⟩ := h; exact lv_istore_n hx hb hd rfl hl h1 (zlv_st ad ll n (.int x)) (fun ls' hl' => hk H locs ls' cells slots hP hS hl' hbc hbs)
  case h_15 n => obtain ⟨x, r, ⟨rfl, h1, rfl⟩, hk⟩ := h; exact lv_astore hx hb hd hl h1 (zlv_st ad ll n (.ref x)) (fun ls' hl' => hk H locs ls' cells slots hP hS hl' hbc hbs)
  case h_16 n => obtain ⟨x, r, ⟨rfl, h1, rfl⟩, hk⟩ := h; exact lv_astore_n hx hb hd rfl hl h1 (zlv_st ad ll n (.ref x)) (fun ls' hl' => hk H locs ls' cells slots hP hS hl' hbc hbs)
  case h_17 n => obtain ⟨x, r, ⟨rfl, h1, rfl⟩, hk⟩ := h; exact lv_lstore hx hb hd hl h1 (zlv_st2 ad ll n (.long x)) (fun ls' hl' => hk H locs ls' cells slots hP hS hl' hbc hbs)
  case h_18 n => obtain ⟨x, r, ⟨rfl, h1, rfl⟩, hk⟩ := h; exact lv_lstore_n hx hb hd rfl hl h1 (zlv_st2 ad ll n (.long x)) (fun ls' hl' => hk H locs ls' cells slots hP hS hl' hbc hbs)
  case h_19 n => obtain ⟨x, r, ⟨rfl, h1, rfl⟩, hk⟩ := h; exact lv_dstore hx hb hd hl h1 (zlv_st2 ad ll n (.double x)) (fun ls' hl' => hk H locs ls' cells slots hP hS hl' hbc hbs)
  case h_20 k n =>
    obtain ⟨x, ⟨h1, h2, rfl⟩, hk⟩ := h
    obtain ⟨j, hj⟩ := zlv_ix (ad := ad) h1
    exact lv_iinc hx hb hd hl hj rfl h2 (zlv_st ad ll k (.int (x + Int32.ofInt n))) (fun ls' hl' => hk H locs ls' cells slots hP hS hl' hbc hbs)
  case h_21 => obtain ⟨x, y, r, ⟨rfl, h1, rfl⟩, hk⟩ := h; exact lv_idiv hx hb hd h1 (hk H locs ls cells slots hP hS hl hbc hbs)
  case h_22 => obtain ⟨x, y, r, ⟨rfl, h1, rfl⟩, hk⟩ := h; exact lv_irem hx hb hd h1 (hk H locs ls cells slots hP hS hl hbc hbs)
  case h_23 => obtain ⟨x, y, r, ⟨rfl, h1, rfl⟩, hk⟩ := h; exact lv_ldiv hx hb hd h1 (hk H locs ls cells slots hP hS hl hbc hbs)
  case h_24 => obtain ⟨x, y, r, ⟨rfl, h1, rfl⟩, hk⟩ := h; exact lv_lrem hx hb hd h1 (hk H locs ls cells slots hP hS hl hbc hbs)
  case h_25 => obtain ⟨x, y, r, ⟨rfl, h1, rfl⟩, hk⟩ := h; exact lv_ddiv hx hb hd h1 (hk H locs ls cells slots hP hS hl hbc hbs)
  case h_26 op off =>
    obtain ⟨x, r, tgt, ⟨rfl, h1, rfl⟩, k1, k2⟩ := h
    cases op with
    | eq => exact lv_if_eq hx hb hd h1 (fun q => k1 q H locs ls cells slots hP hS hl hbc hbs) (fun q => k2 q H locs ls cells slots hP hS hl hbc hbs)
    | ne => exact lv_if_ne hx hb hd h1 (fun q => k1 q H locs ls cells slots hP hS hl hbc hbs) (fun q => k2 (fun z => z q) H locs ls cells slots hP hS hl hbc hbs)
    | lt => exact lv_if_lt hx hb hd h1 (fun q => k1 q H locs ls cells slots hP hS hl hbc hbs) (fun q => k2 q H locs ls cells slots hP hS hl hbc hbs)
    | ge => exact lv_if_ge hx hb hd h1 (fun q => k1 q H locs ls cells slots hP hS hl hbc hbs) (fun q => k2 q H locs ls cells slots hP hS hl hbc hbs)
    | gt => exact lv_if_gt hx hb hd h1 (fun q => k1 q H locs ls cells slots hP hS hl hbc hbs) (fun q => k2 q H locs ls cells slots hP hS hl hbc hbs)
    | le => exact lv_if_le hx hb hd h1 (fun q => k1 q H locs ls cells slots hP hS hl hbc hbs) (fun q => k2 q H locs ls cells slots hP hS hl hbc hbs)
  case h_27 op off =>
    obtain ⟨x, y, r, tgt, ⟨rfl, h1, rfl⟩, k1, k2⟩ := h
    cases op with
    | eq => exact lv_icmp_eq hx hb hd h1 (fun q => k1 q H locs ls cells slots hP hS hl hbc hbs) (fun q => k2 q H locs ls cells slots hP hS hl hbc hbs)
    | ne => exact lv_icmp_ne hx hb hd h1 (fun q => k1 q H locs ls cells slots hP hS hl hbc hbs) (fun q => k2 (fun z => z q) H locs ls cells slots hP hS hl hbc hbs)
    | lt => exact lv_icmp_lt hx hb hd h1 (fun q => k1 q H locs ls cells slots hP hS hl hbc hbs) (fun q => k2 q H locs ls cells slots hP hS hl hbc hbs)
    | ge => exact lv_icmp_ge hx hb hd h1 (fun q => k1 q H locs ls cells slots hP hS hl hbc hbs) (fun q => k2 q H locs ls cells slots hP hS hl hbc hbs)
    | gt => exact lv_icmp_gt hx hb hd h1 (fun q => k1 q H locs ls cells slots hP hS hl hbc hbs) (fun q => k2 q H locs ls cells slots hP hS hl hbc hbs)
    | le => exact lv_icmp_le hx hb hd h1 (fun q => k1 q H locs ls cells slots hP hS hl hbc hbs) (fun q => k2 q H locs ls cells slots hP hS hl hbc hbs)
  case h_28 off => obtain ⟨tgt, ⟨h1, rfl⟩, hk⟩ := h; exact lv_goto hx hb hd h1 (hk H locs ls cells slots hP hS hl hbc hbs)
  case h_29 dflt lo hi offs =>
    obtain ⟨x, r, tgt, ⟨rfl, ⟨h1, h2⟩ | ⟨h1, h2, off, h3, h4⟩⟩, hk⟩ := h
    · exact lv_tableOut hx hb hd h1 h2 (hk H locs ls cells slots hP hS hl hbc hbs)
    · exact lv_tableIn hx hb hd h1 h2 h3 h4 (hk H locs ls cells slots hP hS hl hbc hbs)
  case h_30 dflt ps =>
    obtain ⟨x, r, tgt, ⟨rfl, h1, h2⟩, hk⟩ := h
    exact lv_lookup hx hb hd h1 rfl h2 (hk H locs ls cells slots hP hS hl hbc hbs)
  case h_31 idx =>
    obtain ⟨o, r, ci, k, kd, ⟨rfl, ⟨C, T, N, hc, hkN, hw⟩, ⟨ks, ho, hk1, hne⟩, rfl⟩, hk⟩ := h
    obtain ⟨ty, hcl⟩ := zcls ci C T N hne hc
    have hk := hk H locs ls cells slots hP hS hl hbc hbs
    rw [List.map_cons, zfv_ad] at hk
    exact va_get hx hb hts hcl.2.1 hown hK hP o (zW_of ho) hc k hkN (hts _ hw) (fun x h => h) (by rw [List.getElem?_mapIdx, hk1]; rfl) hd hk
  case h_32 idx =>
    obtain ⟨v, o, r, ci, k, kd, ⟨rfl, ⟨C, T, N, hc, hkN, hw⟩, ⟨ks, ho, hk1, hne⟩, rfl⟩, hk⟩ := h
    obtain ⟨ty, hcl⟩ := zcls ci C T N hne hc
    have hkl : k < (ks.mapIdx (fun k kd => zfv ad I J o k kd)).length := by rw [List.length_mapIdx]; exact (List.getElem?_eq_some_iff.mp hk1).1
    rcases hk with ⟨x, ⟨rfl, hkd, C', T', N', hc', hfin, hpd⟩, hk⟩ | ⟨x, ⟨rfl, hkd, ⟨C', T', N', hc', hfin, hpd⟩, hbo⟩, hk⟩ | ⟨x, ⟨rfl, hkd, C', T', N', hc', hfin, hpd⟩, hk⟩
    · cases Option.some.inj (hc.symm.trans hc')
      exact va_put hx hb hts hcl.2.1 ty hcl.2.2.1 hcl.2.2.2 hown hK hP (hD I J D) hS o (zW_of ho) hc k hkN (hts _ hw) (fun x h => h) hfin hpd rfl rfl hkl hd (fun H1 locs1 hP1 hD1 hS1 => hk H1 locs1 ls cells slots (by rw [← zW_set ho (zent_setI hk1 (Or.inl hkd)) (fun i hi => ⟨zu_row I x hi, rfl, rfl⟩)]; exact hP1) hS1 hl hbc hbs)
    · cases Option.some.inj (hc.symm.trans hc')
      exact va_put hx hb hts hcl.2.1 ty hcl.2.2.1 hcl.2.2.2 hown hK hP (hD I J D) hS o (zW_of ho) hc k hkN (hts _ hw) (fun x h => h) hfin hpd (by rcases hbo with rfl | rfl <;> rfl) (by rcases hbo with rfl | rfl <;> rfl) hkl hd (fun H1 locs1 hP1 hD1 hS1 => hk H1 locs1 ls cells slots (by rw [← zW_set ho (zent_setI hk1 (Or.inr hkd)) (fun i hi => ⟨zu_row I x hi, rfl, rfl⟩)]; exact hP1) hS1 hl hbc hbs)
    · cases Option.some.inj (hc.symm.trans hc')
      exact va_put hx hb hts hcl.2.1 ty hcl.2.2.1 hcl.2.2.2 hown hK hP (hD I J D) hS o (zW_of ho) hc k hkN (hts _ hw) (fun x h => h) hfin hpd rfl rfl hkl hd (fun H1 locs1 hP1 hD1 hS1 => hk H1 locs1 ls cells slots (by rw [← zW_set ho (zent_setJ hk1 hkd) (fun i hi => ⟨rfl, zu_row J x hi, rfl⟩)]; exact hP1) hS1 hl hbc hbs)
  case h_33 idx =>
    obtain ⟨q, ⟨h1, h2, rfl⟩, hk⟩ := h
    exact va_gets hx hb (hEX.2.1 q h1) hS hown (hts _ h2) (fun x h => h) hd (hk H locs ls cells slots hP hS hl hbc hbs)
  case h_34 =>
    obtain ⟨i, o, r, v, ⟨rfl, rfl, ⟨N, ho, hin, rfl⟩ | ⟨N, f, ho, hin, rfl⟩⟩, hk⟩ := h
    · exact va_iald hx hb hK hP o 0 (zW_of ho) rfl hin hd (hk H locs ls cells slots hP hS hl hbc hbs)
    · exact va_ti hx hb (hEX.1 o N f ho) hS hin rfl hd (hk H locs ls cells slots hP hS hl hbc hbs)
  case h_35 => obtain ⟨i, o, r, N, ⟨rfl, rfl, ho, hin⟩, hk⟩ := h; exact va_bald hx hb hK hP o 3 (zW_of ho) rfl hin hd (hk H locs ls cells slots hP hS hl hbc hbs)
  case h_36 => obtain ⟨i, o, r, N, ⟨rfl, rfl, ho, hin⟩, hk⟩ := h; exact va_lald hx hb hK hP o 1 (zW_of ho) rfl hin hd (hk H locs ls cells slots hP hS hl hbc hbs)
  case h_37 => obtain ⟨i, o, r, N, ⟨rfl, rfl, ho, hin⟩, hk⟩ := h; exact va_dald hx hb hK hP o 2 (zW_of ho) rfl hin hd (hk H locs ls cells slots hP hS hl hbc hbs)
  case h_38 =>
    obtain ⟨x, i, o, r, N, ⟨rfl, rfl, ho, hin⟩, hk⟩ := h
    exact va_iast hx hb hK hP (hD I J D) hS o 0 (zW_of ho) rfl hin hd (fun H1 locs1 hP1 hD1 hS1 => hk H1 locs1 ls cells slots (by rw [← zW_set (I := I) (J := J) (D := D) ho (e := .inl (ca 0, N, .inl (upd (I o) i.toNatClampNeg x))) (by show Sum.inl _ = Sum.inl _; congr 3; exact congrArg Sum.inl (zu_self I o _ x)) (fun i hi => ⟨zu_row I x hi, rfl, rfl⟩)]; exact hP1) hS1 hl hbc hbs)
  case h_39 =>
    obtain ⟨x, i, o, r, N, ⟨rfl, rfl, ho, hin⟩, hk⟩ := h
    exact va_bast hx hb hK hP (hD I J D) hS o 3 (zW_of ho) rfl hin hd (fun H1 locs1 hP1 hD1 hS1 => hk H1 locs1 ls cells slots (by rw [← zW_set (I := I) (J := J) (D := D) ho (e := .inl (ca 3, N, .inl (upd (I o) i.toNatClampNeg (vp_nar .byte x)))) (by show Sum.inl _ = Sum.inl _; congr 3; exact congrArg Sum.inl (zu_self I o _ _)) (fun i hi => ⟨zu_row I _ hi, rfl, rfl⟩)]; exact hP1) hS1 hl hbc hbs)
  case h_40 =>
    obtain ⟨x, i, o, r, N, ⟨rfl, rfl, ho, hin⟩, hk⟩ := h
    exact va_last hx hb hK hP (hD I J D) hS o 1 (zW_of ho) rfl hin hd (fun H1 locs1 hP1 hD1 hS1 => hk H1 locs1 ls cells slots (by rw [← zW_set (I := I) (J := J) (D := D) ho (e := .inl (ca 1, N, .inr (.inl (vp_updL (J o) i.toNatClampNeg x)))) (by show Sum.inl _ = Sum.inl _; congr 3; exact congrArg (fun f => Sum.inr (Sum.inl f)) (zu_selfL J o _ x)) (fun i hi => ⟨rfl, zu_row J x hi, rfl⟩)]; exact hP1) hS1 hl hbc hbs)
  case h_41 =>
    obtain ⟨x, i, o, r, N, ⟨rfl, rfl, ho, hin⟩, hk⟩ := h
    exact va_dast hx hb hK hP (hD I J D) hS o 2 (zW_of ho) rfl hin hd (fun H1 locs1 hP1 hD1 hS1 => hk H1 locs1 ls cells slots (by rw [← zW_set (I := I) (J := J) (D := D) ho (e := .inl (ca 2, N, .inr (.inr (.inr (.inl (vf_upd (D o) i.toNatClampNeg x)))))) (by show Sum.inl _ = Sum.inl _; congr 3; exact congrArg (fun f => Sum.inr (Sum.inr (Sum.inr (Sum.inl f)))) (zu_selfD D o _ x)) (fun i hi => ⟨rfl, rfl, zu_row D x hi⟩)]; exact hP1) hS1 hl hbc hbs)
  case h_42 =>
    obtain ⟨o, r, v, ⟨rfl, rfl, ⟨ty, N, ho, rfl⟩ | ⟨N, f, ho, rfl⟩⟩, hk⟩ := h
    · obtain ⟨t0, fty, cA, x, hz, hN, ht⟩ := zarr_len (ad := ad) (ca := ca) (I := I) (J := J) (D := D) (o := o) (ty := ty) (N := N)
      exact va_alen hx hb hK hP o t0 (x := x) (by rw [zW_of ho, hz]) ht (by rw [hN]) hd (hk H locs ls cells slots hP hS hl hbc hbs)
    · exact va_tlen hx hb (hEX.1 o N f ho) hS rfl hd (hk H locs ls cells slots hP hS hl hbc hbs)
  case h_43 => obtain ⟨v, ⟨rfl, h1, rfl⟩, hk⟩ := h; exact hEnd (some (.int v)) I J D hk pc _ H locs ls cells slots h1 hd hP hS (by omega) (by omega)
  case h_44 => obtain ⟨v, ⟨rfl, h1, rfl⟩, hk⟩ := h; exact hEnd (some (.long v)) I J D hk pc _ H locs ls cells slots h1 hd hP hS (by omega) (by omega)
  case h_45 => obtain ⟨v, ⟨rfl, h1, rfl⟩, hk⟩ := h; exact hEnd (some (.double v)) I J D hk pc _ H locs ls cells slots h1 hd hP hS (by omega) (by omega)
  case h_46 => obtain ⟨⟨rfl, h1, rfl⟩, hk⟩ := h; exact hEnd none I J D hk pc _ H locs ls cells slots h1 hd hP hS (by omega) (by omega)
  case h_47 idx =>
    obtain ⟨mj, b, As, rest, c9, s9, ⟨rfl, rfl, hlk, hmv, ⟨ci, ks, T, N, hb1, hb2⟩, hcat, hc9, hs9⟩, hk⟩ := h
    obtain ⟨hmo, hin, hse⟩ := hmv
    have hM := hE mj _ _ I J D c9 s9 _ hmo hk G ad ca H.size
    refine zcall (A1 := va_A (zW SH ad ca I J D) H.size) (P := _) (rest := rest.map (zV ad)) (a := (Value.ref (ad b) :: As.map (zV ad)).toArray)
      (vx_runV (C := (zym mj).cls) (b := ad b) (As := As.map (zV ad)) (rest := rest.map (zV ad)) (Ts := zAL) (n := As.length) (nL := znl mi) ⟨hx, hb, hml, hown, hts⟩ hM
        (cwV As.length hts (zGood (fun w hw => ?_)) rfl rfl rfl ⟨rfl, hmo.2.2.1⟩ ⟨?_, ?_⟩)
        ⟨zPc_blind hXT, ?_, zpre (av := .ref b :: As) hXT hC0 hEX hP hS⟩ rfl (List.length_map _) hl.1 (zrev As (.ref b) rest) ?_ hd ⟨?_, ?_⟩) hS (zA_sub hD hA hS) ?_ ?_
    · rcases List.mem_append.mp hw with hw | hw
      · simp only [List.mem_cons, List.not_mem_nil, or_false] at hw
        rcases hw with rfl | rfl | rfl | rfl
        · exact hlk
        · exact hin
        · exact hse
        · exact hmo.2.1
      · exact zws_in hmo w hw
    · exact hR.1
    · have h60 := hmo.2.2.2.1
      show 8 + (znl mj + 11) + d * 100 ≤ R.locals
      omega
    · exact va_recv hK hP (q := ((zym mj).cls, T, N)) hb2 (zW_of hb1)
    · exact lv_room (by rw [zcats]; exact hcat)
    · omega
    · omega
    · intro x I' J' D' H1 locs1 q ce hp hP1 hS1 hxo hce hcv hcl
      exact hEndX x I' J' D' hp pc ls _ H1 locs1 _ _ q ce hP1 hS1 hxo hce hcv hcl (by omega) (by omega)
    · intro v I' J' D' H1 locs1 hp hP1 hS1
      have h9 := hp H1 locs1 ls (cells + c9) (slots + s9) hP1 hS1 hl (by omega) (by omega)
      rw [List.map_append] at h9
      have e9 : v.toList.map (zV ad) = (v.map (zV ad)).toList := by cases v <;> rfl
      rw [e9] at h9
      exact h9
  case h_48 idx =>
    obtain ⟨mj, As, rest, c9, s9, ⟨rfl, rfl, hlk, hmv, hcat, hc9, hs9⟩, hk⟩ := h
    obtain ⟨hmo, hstt⟩ := hmv
    have hM := hE mj _ _ I J D c9 s9 _ hmo hk G ad ca H.size
    refine zcall (A1 := va_A (zW SH ad ca I J D) H.size) (P := _) (rest := rest.map (zV ad)) (a := (As.map (zV ad)).toArray)
      (vx_runS (As := As.map (zV ad)) (rest := rest.map (zV ad)) (Ts := zAL) (n := As.length) (nL := znl mi) ⟨hx, hb, hml, hown, hts⟩ hM
        (va_cwS As.length hts (zGood (fun w hw => ?_)) rfl rfl rfl hmo.2.2.1 ⟨?_, ?_⟩)
        ⟨zPc_blind hXT, zpre (av := As) hXT hC0 hEX hP hS⟩ rfl (List.length_map _) hl.1 (by show (As.reverse ++ rest).map (zV ad) = _; rw [List.map_append, List.map_reverse]) ?_ hd ⟨?_, ?_⟩) hS (zA_sub hD hA hS) ?_ ?_
    · rcases List.mem_append.mp hw with hw | hw
      · simp only [List.mem_cons, List.not_mem_nil, or_false] at hw
        rcases hw with rfl | rfl | rfl
        · exact hlk
        · exact hstt
        · exact hmo.2.1
      · exact zws_in hmo w hw
    · exact hR.1
    · have h60 := hmo.2.2.2.1
      show 8 + (znl mj + 11) + d * 100 ≤ R.locals
      omega
    · exact lv_room (by rw [zcats]; exact hcat)
    · omega
    · omega
    · intro x I' J' D' H1 locs1 q ce hp hP1 hS1 hxo hce hcv hcl
      exact hEndX x I' J' D' hp pc ls _ H1 locs1 _ _ q ce hP1 hS1 hxo hce hcv hcl (by omega) (by omega)
    · intro v I' J' D' H1 locs1 hp hP1 hS1
      have h9 := hp H1 locs1 ls (cells + c9) (slots + s9) hP1 hS1 hl (by omega) (by omega)
      rw [List.map_append] at h9
      have e9 : v.toList.map (zV ad) = (v.map (zV ad)).toList := by cases v <;> rfl
      rw [e9] at h9
      exact h9
  case h_49 => exact h.elim
end ZSound1

/-! ===== the method that makes a Wrong of the token now read; its throw ===== -/
def zQr (G : va_G) (ad ca : Nat → Nat) (I : zI) (J : zJ) (D : zD) (sz : Nat) (ev pv : Int32) : Array Value → State → Outcome → State → Prop := fun _ st oc t => ∃ (q : Nat) (fs : List Value), oc = .returned (some (.ref q)) ∧ fs[6]? = some (.int ev) ∧ fs[7]? = some (.int pv) ∧ va_at G vwCl (q, .inr (10, fs)) t.heap ∧ va_P G vwCl (zW zSH ad ca I J D) t.heap ∧ va_F (va_A (zW zSH ad ca I J D) sz) st t
def zRr : Room := { frames := 6, cells := 1, slots := 8, locals := 82 }
theorem zd149_0 : decode (zcc 149) 0 = .ok (.new 173, 3) := by
  show decode cX11_wrong 0 = _
  decide +kernel
theorem zd149_3 : decode (zcc 149) 3 = .ok (.dup, 1) := by
  show decode cX11_wrong 3 = _
  decide +kernel
theorem zd149_4 : decode (zcc 149) 4 = .ok (.iconst 1, 1) := by
  show decode cX11_wrong 4 = _
  decide +kernel
theorem zd149_5 : decode (zcc 149) 5 = .ok (.aload_n 0, 1) := by
  show decode cX11_wrong 5 = _
  decide +kernel
theorem zd149_6 : decode (zcc 149) 6 = .ok (.getfield 20, 3) := by
  show decode cX11_wrong 6 = _
  decide +kernel
theorem zd149_9 : decode (zcc 149) 9 = .ok (.aload_n 0, 1) := by
  show decode cX11_wrong 9 = _
  decide +kernel
theorem zd149_10 : decode (zcc 149) 10 = .ok (.getfield 170, 3) := by
  show decode cX11_wrong 10 = _
  decide +kernel
theorem zd149_13 : decode (zcc 149) 13 = .ok (.iaload, 1) := by
  show decode cX11_wrong 13 = _
  decide +kernel
theorem zd149_14 : decode (zcc 149) 14 = .ok (.invokespecial 175, 3) := by
  show decode cX11_wrong 14 = _
  decide +kernel
theorem zd149_17 : decode (zcc 149) 17 = .ok (.areturn, 1) := by
  show decode cX11_wrong 17 = _
  decide +kernel
theorem zob_6 : zOb zSH 28 11 6 (2, 32) := ⟨_, rfl, rfl, by decide⟩
theorem zob_24 : zOb zSH 28 11 24 (0, 0) := ⟨_, rfl, rfl, by decide⟩
section Wr
variable {l : Launch} {RO : zRo}
set_option maxHeartbeats 400000 in
theorem z_wr (hl : l.stackTraces = false) {G : va_G} {ad ca : Nat → Nat} {I : zI} {J : zJ} {D : zD} {sz : Nat} (hin : vp_in (I 28 24) 452) : vx_Met l (zym 149) (zws 149) zRr (zPc zSH G ad ca RO zXT [.ref 28] I J D sz) (zQr G ad ca I J D sz 1 (I 32 (I 28 24).toNatClampNeg)) (fun _ _ _ _ => False) 1 8 (va_A (zW zSH ad ca I J D) sz) := by
  refine vx_ofW (cc := zcc 149) (maxL := 1) (ret := some (.object "RuleStackModel$Wrong")) (by decide) rfl ?_
  intro p e s m args below meth c s₁ B hml ht hv
  obtain ⟨rfl, hsz, hP, hK, hD0, hEX⟩ := hv
  subst hsz
  have hts := atoms_spec (ws := zws 149) B.pre
  have hts2 : ∀ w ∈ zAL, w.before (([Value.ref 28] : List Value).map (zV ad)).toArray s = true := fun w hw => hts w (List.mem_cons_of_mem _ hw)
  have hown : s.vm.findClass "RuleStackModel" = some m.cls := findClass_of_methodNamed B.named
  have hx := B.exec
  have hb := B.bytes
  have hA : ∀ q : Nat, s.heap.size ≤ q → va_A (zW zSH ad ca I J D) s.heap.size q := fun q hq => Or.inr hq
  rw [lg_entry_eq]
  have hlv := lv_entry [Value.ref (ad 28)] (n := 1) (by show 1 ≤ 1; omega)
  show W p l e zRr s m [Value.ref (ad 28)].toArray below meth c s.heap [] 0 0 _ (F0 m 0 (lg_sl [Value.ref (ad 28)] ++ List.replicate (1 - (lg_sl [Value.ref (ad 28)]).length) Slot.unset).toArray [])
  generalize (lg_sl [Value.ref (ad 28)] ++ List.replicate (1 - (lg_sl [Value.ref (ad 28)]).length) Slot.unset).toArray = ls at hlv ⊢
  have l0 := hlv.2.2 (0, .ref (ad 28)) List.mem_cons_self
  refine z_newW hx hb hown hts2 hK va_S.rf hA (by show 0 + 1 ≤ 1; omega) (by show 0 + 8 ≤ 8; omega) zd149_0 (fun q H1 hq0 hqA hfr hS1 ho1 => ?_)
  have hP1 : va_P G vwCl (zW zSH ad ca I J D) H1 := hP.kept (fun k y hk => ho1 y.1 (by have := (hP k y hk).lt; omega))
  refine lv_dup hx hb (va := .ref q) zd149_3 rfl ?_
  refine lv_iconst hx hb zd149_4 (show Int32.ofInt 1 = 1 from rfl) ?_
  refine lv_aload_n (i := 0) (x := ad 28) hx hb zd149_5 rfl l0 ?_
  obtain ⟨C1, T1, N1, c1, n1, w1⟩ := zf_11_20
  obtain ⟨C2, T2, N2, c2, n2, w2⟩ := zf_11_170
  cases c1
  cases c2
  obtain ⟨ks, ho6, hk6, -⟩ := zob_6
  obtain ⟨ks2, ho24, hk24, -⟩ := zob_24
  have hz28 := zW_of (ad := ad) (ca := ca) (I := I) (J := J) (D := D) ho6
  have hz29 := zW_of (ad := ad) (ca := ca) (I := I) (J := J) (D := D) ho24
  have hz32 := zW_of (SH := zSH) (ad := ad) (ca := ca) (I := I) (J := J) (D := D) (o := 32) (sh := .inr (0, 452)) rfl
  refine va_get hx hb hts2 zcl_11.2.1 hown hK hP1 28 hz28 zcl_11.1 6 n1 (hts2 _ w1) (fun x h => h) (v := .ref (ad 32)) (by rw [List.getElem?_mapIdx, hk6]; rfl) zd149_6 ?_
  refine lv_aload_n (i := 0) (x := ad 28) hx hb zd149_9 rfl l0 ?_
  refine va_get hx hb hts2 zcl_11.2.1 hown hK hP1 28 hz29 zcl_11.1 24 n2 (hts2 _ w2) (fun x h => h) (v := .int (I 28 24)) (by rw [List.getElem?_mapIdx, hk24]; rfl) zd149_10 ?_
  refine va_iald hx hb hK hP1 32 0 hz32 rfl hin zd149_13 ?_
  refine z_initW hl hx hb (hlv.1.trans hml.symm) hown hts2 hEX.2.2 hK hS1 hqA hfr (by show 6 ≤ 6; omega) (by show 82 ≤ 82; omega) (by show 0 + 1 ≤ 1; omega) (by show 0 + 8 ≤ 8; omega) zd149_14 (fun H2 locs2 fs f6 f7 hat hS2 ho2 => ?_)
  refine vx_ret ?_
  refine W.aret (rt := .object "RuleStackModel$Wrong") hx hb B.returns (Or.inl ⟨_, rfl⟩) (Or.inr ⟨q, rfl⟩) (fun t ht9 _ => ⟨q, fs, rfl, f6, f7, by rw [ht9]; exact hat, ?_, hS2.F ht9⟩) hS2.2.2 zd149_17
  rw [ht9]
  refine hP.kept (fun k y hk => ?_)
  have hlt := (hP k y hk).lt
  obtain ⟨tys, t1, -⟩ := hfr
  have hz := (Array.getElem?_eq_some_iff.mp t1).1
  rw [ho2 y.1 (by omega) (by omega), ho1 y.1 (by omega)]
set_option maxHeartbeats 400000 in
theorem zs_wrong_ok (hl : l.stackTraces = false) : zSPok zSH l RO zs_wrong zXT := by
  intro p e R s m args below meth c Q A G ad ca mi d E P pc ll st I J D bc bs hC hEX hR htab hlk hQ hEnd hEndX hE hEW h
  obtain ⟨⟨idx, d0, d1, hlink, d4, hrs, hw0, hmi, l0, rfl, hb1, hb8, hin⟩, hp⟩ := h
  have hC0 := hC
  obtain ⟨hx, hb, hml, hown, hts, hK, hD, hA⟩ := hC
  intro H locs ls cells slots hP hS hll hbc hbs
  obtain ⟨-, hfc, -⟩ := hK.1 10 (RX10, TX10, 8) rfl
  obtain ⟨⟨hmo, hins, hsel⟩⟩ : Nonempty (zMv 149 0) := ⟨zms_149⟩
  refine lv_aload_n (i := 0) (x := ad 28) hx hb (zdc d0) rfl (zlv_at hll l0) ?_
  have hini : (Cond.initialized (zym 149).cls).before args s = true := hts _ hmo.2.1
  have hK9 : vx_Back l R p e below s args (zym 149) 3 0 (PreOf R 1 8 (zPc zSH G ad ca RO zXT [.ref 28] I J D H.size)) (PostOf (zQr G ad ca I J D H.size 1 (I 32 (I 28 24).toNatClampNeg)) 1 8 (va_A (zW zSH ad ca I J D) H.size)) (vx_Post (fun _ _ _ _ => False) 1 8 (va_A (zW zSH ad ca I J D) H.size)) :=
    vx_back (bytes := zcc 149) (maxL := 1) (ret := some (.object "RuleStackModel$Wrong")) (z_wr hl hin) (zPc_blind zXT_ok) rfl rfl (by show 6 + 1 ≤ R.frames; omega) (by show 0 + (1 + 11) + 82 ≤ R.locals; omega) (pay_in hts (zGood (zws_in hmo))) List.mem_cons_self (fun a' U hW => word_at hW (Or.inl (by first | rfl | simp [Cond.onTables, Cond.keeps, Cond.steady])) hini)
  obtain ⟨ks, ho6, -, -⟩ := zob_6
  have hz28 := zW_of (ad := ad) (ca := ca) (I := I) (J := J) (D := D) ho6
  obtain ⟨cellB, hcB, hoB, hkB⟩ := va_recv hK hP (q := (RX11, TX11, 51)) rfl hz28
  intro T hT X
  rcases vx_callV X hx (C := "RuleStackModel") (bytes := zcc 149) (maxL := 1) (ret := some (.object "RuleStackModel$Wrong")) hown (hts _ hlink) (hts _ hins) (hts _ hsel) (hts _ hmo.1) ⟨hmo.2.2.1.1, hmo.2.2.1.2.1⟩ hK9 (by rw [hT]; exact hcB) hoB hkB (g := F0 m (pc + 1) ls [.ref (ad 28)]) rfl (hll.1.trans hml.symm) (argsL := []) (rest := [])
    (fun sig h => by have h2 := hmo.2.2.1.2.2; rw [h] at h2; exact (Option.some.inj h2).symm) rfl (by show 2 * 0 + 0 ≤ 0; omega) (by rw [hb]; exact zdc d1) (fun vm₁ hW₁ => ⟨by show cells + 1 ≤ R.cells; omega, by show slots + 8 ≤ R.slots; omega, zpre (av := [.ref 28]) zXT_ok hC0 hEX hP hS (T.setVm vm₁) hT hW₁⟩) with ⟨v, vm₁, ⟨U', l2, c2, s2⟩, hW₁, X', ⟨g', mk, t, L, e1, e2, hq9, h1, hL9, h2, h3⟩, st⟩ | ⟨q9, vm₁, ⟨U', l2, c2, s2⟩, hW₁, X', ⟨g', mk, t, L, E9, ce, e1, e2, hq9, -⟩, st⟩
  · dsimp only [Pt.U, Pt.locs, Pt.cells, Pt.slots] at X' e1 e2 h1 h2 h3 st
    subst h1; subst h2; subst h3
    obtain ⟨q, fs, hv, f6, f7, hat, hP9, hFF⟩ := hq9
    cases hv
    obtain ⟨k1, k2, k3⟩ := vx_keep (A0 := A) (A1 := va_A (zW zSH ad ca I J D) H.size) (free := va_A (zW zSH ad ca I J D) H.size) hT e1 hS (fun x _ hx9 => zA_sub hD hA hS x hx9) (zA_sub hD hA hS) hL9 hFF
    have hat' := hat
    obtain ⟨r, hr, cell, q1, q2, q3, q4⟩ := hat
    have kk : W p l e R s m args below meth c U'.heap (locs ++ L) (cells + 1) (slots + 8) Q (F0 m (pc + 4) ls [.ref q]) := by
      refine z_athrow hx hb (zdc d4) (hEndX (3, 1, I 32 (I 28 24).toNatClampNeg) I J D hp (pc + 4) ls [] U'.heap (locs ++ L) (cells + 1) (slots + 8) q cell (by rw [e1]; exact hP9) k3 (fun _ => ⟨fs, f6, f7, by rw [e1]; exact hat'⟩) (by rw [e1]; exact q1) q3 (by rw [q2]; exact hfc) (by omega) (by omega))
    obtain ⟨t2, a1, b1⟩ := kk U' rfl X'
    exact ⟨t2, st t2 a1, b1⟩
  · exact hq9.elim
end Wr

/-! ===== the tape: feed, trim ===== -/
theorem by_255 : ∀ i, i < 32 → (255 : Int32).toBitVec.getLsbD i = decide (i < 8) := by decide
theorem by_8 (y : Int32) : y.toInt8.toInt32 &&& 255 = y &&& 255 := by
  apply Int32.toBitVec_inj.1
  rw [Int32.toBitVec_and, Int32.toBitVec_and]
  apply BitVec.eq_of_getLsbD_eq
  intro i hi
  rw [BitVec.getLsbD_and, BitVec.getLsbD_and, by_255 i hi]
  by_cases c : i < 8
  · rw [Int8.toBitVec_toInt32, Int32.toBitVec_toInt8, BitVec.getLsbD_signExtend, if_pos c, BitVec.getLsbD_signExtend, if_pos hi]
    simp [c, hi]
  · rw [decide_eq_false c, Bool.and_false, Bool.and_false]
/-- what a shift leaves in the lowest eight bits -/
theorem by_bits {x : Int32} {y z : Int32} {s : Nat} (hs : s ≤ 24) (h1 : y.toBitVec = x.toBitVec >>> s) (h2 : z.toBitVec = x.toBitVec.sshiftRight s) : y &&& 255 = z &&& 255 := by
  apply Int32.toBitVec_inj.1
  rw [Int32.toBitVec_and, Int32.toBitVec_and]
  apply BitVec.eq_of_getLsbD_eq
  intro i hi
  rw [BitVec.getLsbD_and, BitVec.getLsbD_and, by_255 i hi]
  by_cases c : i < 8
  · rw [h1, h2, BitVec.getLsbD_ushiftRight, BitVec.getLsbD_sshiftRight]
    have : s + i < 32 := by omega
    simp [this, show ¬ 32 ≤ i by omega]
  · rw [decide_eq_false c, Bool.and_false, Bool.and_false]
theorem by_24 (x : Int32) : (x.toUInt32 >>> ((24 : Int32).toUInt32 &&& Int32.toUInt32 31)).toInt32 &&& 255 = (x >>> ((24 : Int32) &&& 31)) &&& 255 := by_bits (x := x) (s := 24) (by omega) rfl rfl
theorem by_16 (x : Int32) : (x.toUInt32 >>> ((16 : Int32).toUInt32 &&& Int32.toUInt32 31)).toInt32 &&& 255 = (x >>> ((16 : Int32) &&& 31)) &&& 255 := by_bits (x := x) (s := 16) (by omega) rfl rfl
theorem by_08 (x : Int32) : (x.toUInt32 >>> ((8 : Int32).toUInt32 &&& Int32.toUInt32 31)).toInt32 &&& 255 = (x >>> ((8 : Int32) &&& 31)) &&& 255 := by_bits (x := x) (s := 8) (by omega) rfl rfl
theorem by_00 (x : Int32) : (x.toUInt32 >>> ((0 : Int32).toUInt32 &&& Int32.toUInt32 31)).toInt32 &&& 255 = (x >>> ((0 : Int32) &&& 31)) &&& 255 := by_bits (x := x) (s := 0) (by omega) rfl rfl
theorem by_nar (y : Int32) : vp_nar .byte y = y.toInt8.toInt32 := rfl
/-- a byte of a number -/
def lby (x s : Int32) : Nat := ((x >>> (s &&& 31)) &&& 255).toNatClampNeg
theorem lby_in (x s : Int32) : lby x s < 256 ∧ zi (lby x s : Int) = (x >>> (s &&& 31)) &&& 255 := by
  unfold lby
  generalize x >>> (s &&& 31) = y
  have h : (y &&& 255).toBitVec.toNat < 256 := by
    rw [Int32.toBitVec_and, BitVec.toNat_and]
    exact Nat.lt_of_le_of_lt Nat.and_le_right (by decide)
  have e : (y &&& 255).toInt = ((y &&& 255).toBitVec.toNat : Int) := by
    show (y &&& 255).toBitVec.toInt = _
    rw [BitVec.toInt_eq_toNat_of_lt (by omega)]
  have e2 : (y &&& 255).toNatClampNeg = (y &&& 255).toBitVec.toNat := by
    show (y &&& 255).toInt.toNat = _
    rw [e]
    rfl
  rw [e2]
  exact ⟨h, by rw [← e, zi_of]⟩
theorem CP_lo {o : Option (zPg × Option (Nat × zGm × Int64))} {I I' : zI} {J J' : zJ} (h4 : CP o I J) (f : ∀ q, 3 ≤ q → q < 28 → I' q = I q) (g : ∀ q, 8 ≤ q → q < 28 → J' q = J q) : CP o I' J' := by
  have no : qNo I J → qNo I' J' := fun h => by
    unfold qNo
    rw [f 23 (by omega) (by omega), f 20 (by omega) (by omega), g 20 (by omega) (by omega)]
    exact h
  have cp : ∀ p, zCp p I → zCp p I' := fun p h => zCp_rows h (fun o h1 h2 _ => f o (by omega) (by omega)) (by rw [f 12 (by omega) (by omega)])
  match o, h4 with
  | none, h4 =>
    refine ⟨by rw [f 12 (by omega) (by omega)]; exact h4.1, fun x hx => by rw [f 13 (by omega) (by omega)]; exact h4.2.1 x hx, no h4.2.2⟩
  | some (p, none), h4 =>
    exact ⟨by rw [f 12 (by omega) (by omega)]; exact h4.1, h4.2.1, cp p h4.2.2.1, no h4.2.2.2⟩
  | some (p, some (m, G, z0)), h4 =>
    refine ⟨by rw [f 12 (by omega) (by omega)]; exact h4.1, h4.2.1, h4.2.2.1, h4.2.2.2.1, cp p h4.2.2.2.2.1, ?_, ?_⟩
    · unfold zTb
      rw [f 20 (by omega) (by omega), f 21 (by omega) (by omega), f 22 (by omega) (by omega), g 20 (by omega) (by omega)]
      exact h4.2.2.2.2.2.1
    · unfold zCs
      rw [f 23 (by omega) (by omega), f 27 (by omega) (by omega), g 23 (by omega) (by omega)]
      exact h4.2.2.2.2.2.2
theorem MP_hi {o : Option (zPg × Option (Nat × zGm × Int64))} {I I' : zI} {J J' : zJ} (h4 : MP o I J) (e : ∀ k, 4 ≤ k → I' 28 k = I 28 k) (f : ∀ q, 37 ≤ q → q ≤ 51 → I' q = I q) (g : J' 28 = J 28) : MP o I' J' := by
  have no : noM I → noM I' := fun h => by
    unfold noM
    rw [e 30 (by omega), e 45 (by omega), e 47 (by omega)]
    exact h
  have mp : ∀ p, zMp p I → zMp p I' := fun p h => zMp_rows h (fun o h1 h2 => f o (by omega) (by omega)) (e 18 (by omega))
  match o, h4 with
  | none, h4 => exact ⟨by rw [e 23 (by omega)]; exact h4.1, fun x hx => by rw [f 37 (by omega) (by omega)]; exact h4.2.1 x hx, no h4.2.2⟩
  | some (p, none), h4 => exact ⟨by rw [e 23 (by omega)]; exact h4.1, mp p h4.2.1, no h4.2.2⟩
  | some (p, some (m, G, z0)), h4 =>
    refine ⟨by rw [e 23 (by omega)]; exact h4.1, mp p h4.2.1, ?_, ?_⟩
    · unfold zMb
      rw [e 30 (by omega), e 45 (by omega), e 34 (by omega), e 35 (by omega), e 36 (by omega), e 40 (by omega), e 41 (by omega), f 46 (by omega) (by omega), f 47 (by omega) (by omega), f 48 (by omega) (by omega), g]
      exact h4.2.2.1
    · unfold zMg
      rw [e 33 (by omega), e 39 (by omega), e 47 (by omega), e 37 (by omega), e 38 (by omega), f 49 (by omega) (by omega), g]
      exact h4.2.2.2
/-- the number of what was thrown is written: nothing else changes -/
theorem MI_0 {s : lS} {I : zI} {J : zJ} (h : MI s I J) (x : Int32) : MI s (zu I 28 0 x) J := by
  obtain ⟨h1, h2, h3, h4⟩ := h
  refine ⟨?_, h2, by rw [zu_n _ _ (by omega)]; exact h3, MP_hi h4 (fun k hk => zu_n _ _ (by omega)) (fun q h1 h2 => zu_row _ _ (by omega)) rfl⟩
  unfold tM
  rw [zu_n _ _ (by omega), zu_row _ _ (by decide)]
  exact h1
/-! bytes appended -/
def lFb (S : lTp) (b : Nat) : lTp := (fun a => if a = S.2 then b else S.1 a, S.2 + 1)
def lFd (S : lTp) (x : Int32) : lTp := lFb (lFb (lFb (lFb S (lby x 24)) (lby x 16)) (lby x 8)) (lby x 0)
theorem lFb_ok {S : lTp} {b : Nat} (h : lTok S) (hb : b < 256) (h9 : S.2 + 1 ≤ 2000) : lTok (lFb S b) := by
  refine ⟨h9, fun a ha => ?_⟩
  have ha : a < S.2 + 1 := ha
  show (if a = S.2 then b else S.1 a) < 256
  split
  · exact hb
  · exact h.2 a (by omega)
section Tape
variable {RO : zRo} {d : Nat} {P : zP} {I : zI} {J : zJ} {D : zD} {bc bs : Nat} {S : lTp} {x : Int32} {s : lS}
theorem c_89_3 {t : Int32} (ht0 : ¬ t < 0) (hby : (x.toUInt32 >>> (t.toUInt32 &&& Int32.toUInt32 31)).toInt32 &&& 255 = (x >>> (t &&& 31)) &&& 255) (ht : tC S I) (h9 : S.2 + 1 ≤ 2000) (K : ∀ I', zfr [1, 2] I I' → tC (lFb S (lby x t)) I' → zw RO d 89 P 3 [(0, .ref 1), (1, .int x), (2, .int (t + (-8)))] [] I' J D bc bs) : zw RO d 89 P 3 [(0, .ref 1), (1, .int x), (2, .int t)] [] I J D bc bs := by
  obtain ⟨h1, h2, h3⟩ := ht
  refine wl_89_3 ⟨fun z => absurd z ht0, fun _ => ?_⟩
  rw [h2]
  refine ⟨fun z => absurd z (by rw [zq_l (l := 0) (n := 0) rfl (by omega) (by omega)]; omega), fun _ => ⟨fun z => absurd z (by rw [zq_p (l := 2000) (n := 2000) rfl (by omega) (by omega)]; omega), fun _ => ?_⟩⟩
  rw [show (zi (S.2 : Int)).toNatClampNeg = S.2 by rw [zi_cl (by omega) (by omega)]; omega, zi_succ]
  have by9 := lby_in x t
  refine K _ (zfr_zu (zfr_zu (zfr_refl I) _ _ (by simp)) _ _ (by simp)) ⟨lFb_ok h1 by9.1 h9, zu_s _ _ _ _, fun a ha => ?_⟩
  have ha : a < S.2 + 1 := ha
  rw [zu_row _ _ (by decide)]
  show _ = zi ((if a = S.2 then lby x t else S.1 a : Nat) : Int)
  by_cases e : a = S.2
  · rw [if_pos e, e, zu_s, by_nar, by_8, by_8, hby, by9.2]
  · rw [if_neg e, zu_n _ _ (fun z => e z.2)]
    exact h3 a (by omega)
theorem c_89 (ht : tC S I) (h9 : S.2 + 4 ≤ 2000) (K : ∀ I', zfr [1, 2] I I' → tC (lFd S x) I' → P (.inl none) I' J D) : zz RO (d + 1) 89 [.ref 1, .int x] I J D bc bs P := by
  refine w_89 (d := d) ?_
  refine c_89_3 (by decide) (by_24 x) ht (by omega) (fun I1 f1 t1 => ?_)
  rw [show (24 : Int32) + (-8) = 16 from rfl]
  refine c_89_3 (by decide) (by_16 x) t1 (by show S.2 + 1 + 1 ≤ 2000; omega) (fun I2 f2 t2 => ?_)
  rw [show (16 : Int32) + (-8) = 8 from rfl]
  refine c_89_3 (by decide) (by_08 x) t2 (by show S.2 + 1 + 1 + 1 ≤ 2000; omega) (fun I3 f3 t3 => ?_)
  rw [show (8 : Int32) + (-8) = 0 from rfl]
  refine c_89_3 (by decide) (by_00 x) t3 (by show S.2 + 1 + 1 + 1 + 1 ≤ 2000; omega) (fun I4 f4 t4 => ?_)
  rw [show (0 : Int32) + (-8) = -8 from rfl]
  exact wl_89_3 ⟨fun _ => K I4 (zfr_trans f1 (zfr_trans f2 (zfr_trans f3 f4))) t4, fun z => absurd (by decide) z⟩
theorem m_139_3 {t : Int32} (ht0 : ¬ t < 0) (ht : tM S I) (h9 : S.2 + 1 ≤ 2000) (K : ∀ I', zfm [3] [30] I I' → tM (lFb S (lby x t)) I' → zw RO d 139 P 3 [(0, .ref 28), (1, .int x), (2, .int (t + (-8)))] [] I' J D bc bs) : zw RO d 139 P 3 [(0, .ref 28), (1, .int x), (2, .int t)] [] I J D bc bs := by
  obtain ⟨h1, h2, h3⟩ := ht
  refine wl_139_3 ⟨fun z => absurd z ht0, fun _ => ?_⟩
  rw [h2]
  refine ⟨zi_in (by omega) (by omega) (by omega), ?_⟩
  rw [show (zi (S.2 : Int)).toNatClampNeg = S.2 by rw [zi_cl (by omega) (by omega)]; omega, zi_succ]
  have by9 := lby_in x t
  refine K _ (zfm_z (zfm_zu (zfm_refl I) _ _ (by simp) (by decide)) _ _ (by simp)) ⟨lFb_ok h1 by9.1 h9, zu_s _ _ _ _, fun a ha => ?_⟩
  have ha : a < S.2 + 1 := ha
  rw [zu_row _ _ (by decide)]
  show _ = zi ((if a = S.2 then lby x t else S.1 a : Nat) : Int)
  by_cases e : a = S.2
  · rw [if_pos e, e, zu_s, by9.2]
  · rw [if_neg e, zu_n _ _ (fun z => e z.2)]
    exact h3 a (by omega)
theorem m_139 (ht : tM S I) (h9 : S.2 + 4 ≤ 2000) (K : ∀ I', zfm [3] [30] I I' → tM (lFd S x) I' → P (.inl none) I' J D) : zz RO (d + 1) 139 [.ref 28, .int x] I J D bc bs P := by
  refine w_139 (d := d) ?_
  refine m_139_3 (by decide) ht (by omega) (fun I1 f1 t1 => ?_)
  rw [show (24 : Int32) + (-8) = 16 from rfl]
  refine m_139_3 (by decide) t1 (by show S.2 + 1 + 1 ≤ 2000; omega) (fun I2 f2 t2 => ?_)
  rw [show (16 : Int32) + (-8) = 8 from rfl]
  refine m_139_3 (by decide) t2 (by show S.2 + 1 + 1 + 1 ≤ 2000; omega) (fun I3 f3 t3 => ?_)
  rw [show (8 : Int32) + (-8) = 0 from rfl]
  refine m_139_3 (by decide) t3 (by show S.2 + 1 + 1 + 1 + 1 ≤ 2000; omega) (fun I4 f4 t4 => ?_)
  rw [show (0 : Int32) + (-8) = -8 from rfl]
  exact wl_139_3 ⟨fun _ => K I4 (zfm_trans f1 (zfm_trans f2 (zfm_trans f3 f4))) t4, fun z => absurd (by decide) z⟩
/-- what twenty bytes more make of the tape -/
def lFe (S : lTp) (a b c e f : Int32) : lTp := lFd (lFd (lFd (lFd (lFd S a) b) c) e) f
theorem CI_tape {S2 : lTp} {I' : zI} (h : CI s I J) (t : tC S2 I') (f : zfr [1, 2] I I') : CI (S2, s.2) I' J := by
  obtain ⟨h1, h2, h3, h4⟩ := h
  exact ⟨t, h2, by rw [f 0 (by decide)]; exact h3, CP_lo h4 (fun q q1 q2 => f q (by simp only [List.mem_cons, List.not_mem_nil, or_false]; omega)) (fun q _ _ => rfl)⟩
theorem MI_tape {S2 : lTp} {I' : zI} (h : MI s I J) (t : tM S2 I') (f : zfm [0, 3] [30] I I') : MI (S2, s.2) I' J := by
  obtain ⟨h1, h2, h3, h4⟩ := h
  exact ⟨t, h2, by rw [f.2 29 (by decide)]; exact h3, MP_hi h4 (fun k hk => f.2 k (by simp only [List.mem_cons, List.not_mem_nil, or_false]; omega)) (fun q q1 q2 => f.1 q (by simp only [List.mem_cons, List.not_mem_nil, or_false]; omega) (by omega)) rfl⟩
/-- feed: the class -/
theorem g_107 {a b c e f : Int32} (h : CI s I J) (hb : 1 ≤ bc ∧ 6 ≤ bs) (K1 : s.1.2 + 20 ≤ 2000 → ∀ I', hiE I I' → CI (lFe s.1 a b c e f, s.2) I' J → P (.inl (some (.int (zi ((s.1.2 + 20 : Nat) : Int))))) I' J D) (K2 : ¬ s.1.2 + 20 ≤ 2000 → P (.inr (0, 0, 0)) I J D) : zz RO (d + 2) 107 [.ref 0, .int a, .int b, .int c, .int e, .int f] I J D bc bs P := by
  have hN := h.1.1.1
  refine w_107 (d := d + 1) ?_
  rw [h.1.2.1, show (20 : Int32) = zi 20 from rfl, zi_add, show (s.1.2 : Int) + 20 = ((s.1.2 + 20 : Nat) : Int) by omega]
  refine ⟨fun z => ?_, fun z => ⟨hb, ?_⟩⟩
  · rw [zq_o (l := 2000) (n := 2000) rfl (by omega) (by omega)] at z
    refine c_89 (d := d) h.1 (by omega) (fun I1 f1 t1 => ?_)
    refine c_89 (d := d) t1 (by show s.1.2 + 4 + 4 ≤ 2000; omega) (fun I2 f2 t2 => ?_)
    refine c_89 (d := d) t2 (by show s.1.2 + 4 + 4 + 4 ≤ 2000; omega) (fun I3 f3 t3 => ?_)
    refine c_89 (d := d) t3 (by show s.1.2 + 4 + 4 + 4 + 4 ≤ 2000; omega) (fun I4 f4 t4 => ?_)
    refine c_89 (d := d) t4 (by show s.1.2 + 4 + 4 + 4 + 4 + 4 ≤ 2000; omega) (fun I5 f5 t5 => ?_)
    have f9 : zfr [1, 2] I I5 := zfr_trans f1 (zfr_trans f2 (zfr_trans f3 (zfr_trans f4 f5)))
    have k := K1 z I5 (hiE_r f9 (by decide)) (CI_tape h t5 f9)
    have e9 : I5 1 1 = zi ((s.1.2 + 20 : Nat) : Int) := t5.2.1
    show P (.inl (some (.int (I5 1 1)))) I5 J D
    rw [e9]
    exact k
  · rw [zq_o (l := 2000) (n := 2000) rfl (by omega) (by omega)] at z
    exact K2 z
/-- feed: the reference -/
theorem g_138 {a b c e f : Int32} (h : MI s I J) (K1 : s.1.2 + 20 ≤ 2000 → ∀ I', loE I I' → I' 28 0 = 0 → MI (lFe s.1 a b c e f, s.2) I' J → P (.inl (some (.int (zi ((s.1.2 + 20 : Nat) : Int))))) I' J D) (K2 : ¬ s.1.2 + 20 ≤ 2000 → ∀ I', loE I I' → I' 28 0 = 1 → MI s I' J → P (.inl (some (.int 0))) I' J D) : zz RO (d + 2) 138 [.ref 28, .int a, .int b, .int c, .int e, .int f] I J D bc bs P := by
  have hN := h.1.1.1
  have h0 := MI_0 h 0
  have fr0 : zfm [0] [] I (zu I 28 0 0) := zfm_z (zfm_refl I) _ _ (by simp)
  refine w_138 (d := d + 1) ?_
  rw [h.1.2.1, show (20 : Int32) = zi 20 from rfl, zi_add, show (s.1.2 : Int) + 20 = ((s.1.2 + 20 : Nat) : Int) by omega]
  refine ⟨fun z => ?_, fun z => ?_⟩
  · rw [zq_o (l := 2000) (n := 2000) rfl (by omega) (by omega)] at z
    refine m_139 (d := d) h0.1 (by omega) (fun I1 f1 t1 => ?_)
    refine m_139 (d := d) t1 (by show s.1.2 + 4 + 4 ≤ 2000; omega) (fun I2 f2 t2 => ?_)
    refine m_139 (d := d) t2 (by show s.1.2 + 4 + 4 + 4 ≤ 2000; omega) (fun I3 f3 t3 => ?_)
    refine m_139 (d := d) t3 (by show s.1.2 + 4 + 4 + 4 + 4 ≤ 2000; omega) (fun I4 f4 t4 => ?_)
    refine m_139 (d := d) t4 (by show s.1.2 + 4 + 4 + 4 + 4 + 4 ≤ 2000; omega) (fun I5 f5 t5 => ?_)
    have f9 : zfm [3] [30] (zu I 28 0 0) I5 := zfm_trans f1 (zfm_trans f2 (zfm_trans f3 (zfm_trans f4 f5)))
    have f10 : zfm [0, 3] [30] I I5 := zfm_trans (zfm_sub fr0 (by simp) (by simp)) (zfm_sub f9 (by simp) (by simp))
    have k := K1 z I5 (loE_m f10 (by decide)) (by rw [f9.2 0 (by decide), zu_s]) (MI_tape h t5 f10)
    have e9 : I5 28 3 = zi ((s.1.2 + 20 : Nat) : Int) := t5.2.1
    show P (.inl (some (.int (I5 28 3)))) I5 J D
    rw [e9]
    exact k
  · rw [zq_o (l := 2000) (n := 2000) rfl (by omega) (by omega)] at z
    refine w_135 (d := d) ?_
    show P (.inl (some (.int 0))) (zu (zu I 28 0 0) 28 0 1) J D
    rw [zu_2]
    exact K2 z _ (loE_m (K := [0]) (L := []) (zfm_z (zfm_refl I) _ _ (by simp)) (by decide)) (zu_s _ _ _ _) (MI_0 h 1)
/-- trim -/
theorem tC_cut {n : Nat} (h : tC S I) (hn : n ≤ S.2) : tC (S.1, n) (zu I 1 1 (zi (n : Int))) := by
  obtain ⟨⟨h1, h2⟩, h3, h4⟩ := h
  refine ⟨⟨Nat.le_trans hn h1, fun a ha => h2 a (Nat.lt_of_lt_of_le ha hn)⟩, zu_s _ _ _ _, fun a ha => ?_⟩
  rw [zu_row _ _ (by decide)]
  exact h4 a (Nat.lt_of_lt_of_le ha hn)
theorem tM_cut {n : Nat} (h : tM S I) (hn : n ≤ S.2) : tM (S.1, n) (zu I 28 3 (zi (n : Int))) := by
  obtain ⟨⟨h1, h2⟩, h3, h4⟩ := h
  refine ⟨⟨Nat.le_trans hn h1, fun a ha => h2 a (Nat.lt_of_lt_of_le ha hn)⟩, zu_s _ _ _ _, fun a ha => ?_⟩
  rw [zu_row _ _ (by decide)]
  exact h4 a (Nat.lt_of_lt_of_le ha hn)
theorem g_108 {a : Int} (ha : -2147483648 ≤ a ∧ a < 2147483648) (h : CI s I J) (hb : 1 ≤ bc ∧ 6 ≤ bs) (K1 : (0 ≤ a ∧ a ≤ s.1.2) → ∀ I', hiE I I' → CI ((s.1.1, a.toNat), s.2) I' J → P (.inl (some (.int (zi a)))) I' J D) (K2 : ¬ (0 ≤ a ∧ a ≤ s.1.2) → P (.inr (1, 0, 0)) I J D) : zz RO (d + 1) 108 [.ref 0, .int (zi a)] I J D bc bs P := by
  have hN := h.1.1.1
  have i1 : zi a < 0 ↔ a < 0 := by rw [show (0 : Int32) = zi 0 from rfl, zi_lt ha (by omega)]
  have i2 : zi a ≤ zi (s.1.2 : Int) ↔ a ≤ s.1.2 := zi_le ha (by omega)
  refine w_108 (d := d) ?_
  rw [h.1.2.1]
  refine ⟨fun z => ⟨hb, K2 (fun y => by have := i1.mp z; omega)⟩, fun z => ⟨fun y => ?_, fun y => ⟨hb, K2 (fun x => y (i2.mpr x.2))⟩⟩⟩
  have a0 : 0 ≤ a := by
    have : ¬ a < 0 := fun x => z (i1.mpr x)
    omega
  have y := i2.mp y
  have f9 : zfr [1, 2] I (zu I 1 1 (zi a)) := zfr_zu (zfr_refl I) _ _ (by simp)
  refine K1 ⟨a0, y⟩ _ (hiE_r f9 (by decide)) (CI_tape h ?_ f9)
  have ea : zi a = zi ((a.toNat : Nat) : Int) := by congr 1; omega
  rw [ea]
  exact tC_cut h.1 (by omega)
theorem g_140 {a : Int} (ha : -2147483648 ≤ a ∧ a < 2147483648) (h : MI s I J) (K1 : (0 ≤ a ∧ a ≤ s.1.2) → ∀ I', loE I I' → I' 28 0 = 0 → MI ((s.1.1, a.toNat), s.2) I' J → P (.inl (some (.int (zi a)))) I' J D) (K2 : ¬ (0 ≤ a ∧ a ≤ s.1.2) → ∀ I', loE I I' → I' 28 0 = 1 → MI s I' J → P (.inl (some (.int 0))) I' J D) : zz RO (d + 2) 140 [.ref 28, .int (zi a)] I J D bc bs P := by
  have hN := h.1.1.1
  have e136 : zv_136 (zu I 28 0 0) J (zi a).toInt64 0 ((I 28 3).toInt64) = if 0 ≤ a ∧ a ≤ s.1.2 then 1 else 0 := by
    rw [h.1.2.1]
    exact n_136 (lo := 0) (hi := (s.1.2 : Int)) ha (by omega) (by omega)
  refine w_140 (d := d) ?_
  rw [e136]
  by_cases c : 0 ≤ a ∧ a ≤ s.1.2
  · rw [if_pos c]
    refine ⟨fun _ => ?_, fun z => absurd (by decide) z⟩
    have f9 : zfm [0, 3] [30] I (zu (zu I 28 0 0) 28 3 (zi a)) := zfm_z (zfm_z (zfm_refl I) _ _ (by simp)) _ _ (by simp)
    refine K1 c _ (loE_m f9 (by decide)) (by rw [zu_n _ _ (by omega), zu_s]) (MI_tape h ?_ f9)
    have ea : zi a = zi ((a.toNat : Nat) : Int) := by congr 1; omega
    rw [ea]
    exact tM_cut (MI_0 h 0).1 (by omega)
  · rw [if_neg c]
    refine ⟨fun z => absurd rfl z, fun _ => ?_⟩
    refine w_135 (d := d) ?_
    show P (.inl (some (.int 0))) (zu (zu I 28 0 0) 28 0 1) J D
    rw [zu_2]
    exact K2 c _ (loE_m (K := [0]) (L := []) (zfm_z (zfm_refl I) _ _ (by simp)) (by decide)) (zu_s _ _ _ _) (MI_0 h 1)
end Tape

/-! ===== the law's loop: a call a row, on both sides ===== -/
theorem lo_tr {α : Type} {f g h : Nat → Nat → α} (a : loE f g) (b : loE g h) : loE f h := fun o ho => by rw [b o ho, a o ho]
theorem hi52 {J J1 : zJ} (a : hiE J J1) (x : Int64) : hiE J (zu J1 52 0 x) := fun o h1 h2 => by rw [zu_row _ _ (by omega)]; exact a o h1 h2
theorem lo52 (J : zJ) (x : Int64) : loE J (zu J 52 0 x) := fun o ho => zu_row _ _ (by omega)
theorem l52 {J J3 : zJ} {x : Int64} (g : loX (zu J 52 0 x) J3) : loE J J3 ∧ J3 52 0 = x := ⟨lo_tr (lo52 J x) g.1, by rw [g.2]; exact zu_s _ _ _ _⟩
theorem lTl {a v : Int32} {x y : Int64} {Q R : Prop} (h1 : a = v) (h2 : v = 0 → x = y) (K : Q) : ((a = v → ((¬ v = 0 → Q) ∧ (¬ (¬ v = 0) → ((x = y → Q) ∧ (¬ (x = y) → R))))) ∧ (¬ (a = v) → R)) := ⟨fun _ => ⟨fun _ => K, fun z => ⟨fun _ => K, fun w => absurd (h2 (Decidable.not_not.mp z)) w⟩⟩, fun w => absurd h1 w⟩
theorem lTb {a v b : Int32} {x : Int64} {Q R : Prop} (h1 : a = v) (h2 : v = 0 → (b = 0 → x = 0) ∧ (¬ b = 0 → x = 1)) (K : Q) : ((a = v → ((¬ v = 0 → Q) ∧ (¬ (¬ v = 0) → ((b = 0 → ((x = 0 → Q) ∧ (¬ (x = 0) → R))) ∧ (¬ (b = 0) → ((x = 1 → Q) ∧ (¬ (x = 1) → R))))))) ∧ (¬ (a = v) → R)) := ⟨fun _ => ⟨fun _ => K, fun z => ⟨fun b0 => ⟨fun _ => K, fun w => absurd ((h2 (Decidable.not_not.mp z)).1 b0) w⟩, fun b0 => ⟨fun _ => K, fun w => absurd ((h2 (Decidable.not_not.mp z)).2 b0) w⟩⟩⟩, fun w => absurd h1 w⟩
theorem lTe {α : Type} {x y : α} {Q R : Prop} (h : x = y) (K : Q) : ((x = y → Q) ∧ (¬ (x = y) → R)) := ⟨fun _ => K, fun w => absurd h w⟩
theorem lTd {a v : Int32} {x y : UInt64} {Q R : Prop} (h1 : a = v) (h2 : v = 0 → x = y) (K : Q) : ((a = v → ((¬ v = 0 → Q) ∧ (¬ (¬ v = 0) → (((Op.cmpValue (FP.dcmp x y) .l) = 0 → Q) ∧ (¬ ((Op.cmpValue (FP.dcmp x y) .l) = 0) → (((Op.cmpValue (FP.dcmp x x) .l) = 0 → R) ∧ (¬ ((Op.cmpValue (FP.dcmp x x) .l) = 0) → ((¬ (Op.cmpValue (FP.dcmp y y) .l) = 0 → Q) ∧ (¬ (¬ (Op.cmpValue (FP.dcmp y y) .l) = 0) → R))))))))) ∧ (¬ (a = v) → R)) := by
  refine ⟨fun _ => ⟨fun _ => K, fun z => ?_⟩, fun w => absurd h1 w⟩
  have e := h2 (Decidable.not_not.mp z)
  subst e
  exact ⟨fun _ => K, fun w => ⟨fun z => absurd z w, fun z => ⟨fun _ => K, fun q => absurd z q⟩⟩⟩
section Law
variable {RO : zRo} {d : Nat} {P : zP} {L : Nat} {X : Nat → Int}
set_option maxRecDepth 20000 in
theorem l_step (hRO : zROk RO) (hL : RO 99 = some (L, fun k => zi (X k))) (hX : ∀ k, -2147483648 ≤ X k ∧ X k < 2147483648) (hL9 : L < 100000) {n i : Nat} {s : lS} {I : zI} {J : zJ} {D : zD} {bc bs : Nat} (hc : CI s I J) (hm : MI s I J) (hb : 501 * (n + 1) ≤ bc ∧ 2006 * (n + 1) ≤ bs) (hi : i + 6 ≤ L) (K : ∀ (s' : lS) (I' : zI) (J' : zJ) (D' : zD) (b c : Nat), CI s' I' J' → MI s' I' J' → 501 * n ≤ b → 2006 * n ≤ c → zw RO (d + 96 + 1) 235 P 28 [(0, .ref 99), (1, .ref 0), (2, .ref 28), (3, .ref 52), (4, .ref 53), (5, .int (zi (i : Int) + 6))] [] I' J' D' b c) : zw RO (d + 96 + 1) 235 P 28 [(0, .ref 99), (1, .ref 0), (2, .ref 28), (3, .ref 52), (4, .ref 53), (5, .int (zi (i : Int)))] [] I J D bc bs := by
  have hin : ∀ k : Nat, k < 6 → vp_in (zi (i : Int) + zi (k : Int)) L := fun k hk => by rw [zi_add]; exact zi_in (by omega) (by omega) (by omega)
  have in0 : vp_in (zi (i : Int)) L := zi_in (by omega) (by omega) (by omega)
  have in1 : vp_in (zi (i : Int) + 1) L := hin 1 (by omega)
  have in2 : vp_in (zi (i : Int) + 2) L := hin 2 (by omega)
  have in3 : vp_in (zi (i : Int) + 3) L := hin 3 (by omega)
  have in4 : vp_in (zi (i : Int) + 4) L := hin 4 (by omega)
  have in5 : vp_in (zi (i : Int) + 5) L := hin 5 (by omega)
  have hg : ¬ ((Int32.ofNat L) - 6 < zi (i : Int)) := by
    rw [zi_nat, show (6 : Int32) = zi 6 from rfl, zi_sub, zi_lt (by omega) (by omega)]
    omega
  obtain ⟨r, hr⟩ := pP_tot (lT_w hc.1.1).1 (f := 500) (k := 0) (lT_w hc.1.1).1.1 (by have := (lT_w hc.1.1).1.2.1; omega)
  have hce : ∃ I0 J0, CI s I0 J0 := ⟨I, J, hc⟩
  have b1 : 1 ≤ bc ∧ 6 ≤ bs := by omega
  have bb : (1 : Nat) ≤ 1 ∧ (6 : Nat) ≤ 6 := by omega
  have c2 : ∀ (q : Nat), 2 ≤ 2 ∧ 8 ≤ 8 := fun _ => by omega
  refine wl_235_28 hL ⟨fun z => absurd z hg, fun _ => ⟨in0, ⟨fun _ => ?_, fun _ => ⟨fun _ => ?_, fun _ => ⟨fun _ => ?_, fun _ => ⟨fun _ => ?_, fun _ => ⟨fun _ => ?_, fun _ => ⟨fun _ => ?_, fun _ => ⟨fun _ => ?_, fun _ => ⟨fun _ => ?_, fun _ => ⟨fun _ => ?_, fun _ => ⟨fun _ => ?_, fun _ => ⟨fun _ => ?_, fun _ => ⟨fun _ => ?_, fun _ => ⟨fun _ => ?_, fun _ => ⟨fun _ => ?_, fun _ => ⟨fun _ => ?_, fun _ => ⟨fun _ => ?_, fun _ => ⟨fun _ => ?_, fun _ => ⟨fun _ => ?_, fun _ => ⟨fun _ => ?_, fun _ => ⟨fun _ => ?_, fun _ => ⟨fun _ => ?_, fun _ => ?_⟩⟩⟩⟩⟩⟩⟩⟩⟩⟩⟩⟩⟩⟩⟩⟩⟩⟩⟩⟩⟩⟩⟩
  · refine ⟨in1, in2, in3, in4, in5, 1, 6, b1.1, b1.2, w_220 ⟨1, 6, Nat.le_refl _, Nat.le_refl _, g_107 hc bb (fun q I1 e1 k1 => ?_) (fun q => ?_)⟩⟩
    · show _ ∧ _
      refine ⟨in1, in2, in3, in4, in5, g_138 (s := s) (MI_hi hm e1 (hi52 (hiE_refl _) _)) (fun _ I2 l2 z2 m2 => ?_) (fun y => absurd q y)⟩
      show _ ∧ _
      exact lTl z2 (fun _ => zu_s _ _ _ _) (K _ _ _ _ _ _ (CI_lo k1 l2 (lo52 _ _)) m2 (by omega) (by omega))
    · refine ⟨rfl, ?_⟩
      show _ ∧ _
      refine ⟨in1, in2, in3, in4, in5, g_138 (s := s) hm (fun y => absurd y q) (fun _ I2 l2 z2 m2 => ?_)⟩
      show _ ∧ _
      exact lTl z2 (fun z => absurd z (by decide)) (K s _ _ _ _ _ (CI_lo hc l2 (loE_refl _)) m2 (by omega) (by omega))
  · refine ⟨in1, 1, 6, b1.1, b1.2, w_221 ⟨1, 6, Nat.le_refl _, Nat.le_refl _, g_108 (hX _) hc bb (fun q I1 e1 k1 => ?_) (fun q => ?_)⟩⟩
    · show _ ∧ _
      refine ⟨in1, g_140 (s := s) (hX _) (MI_hi hm e1 (hi52 (hiE_refl _) _)) (fun _ I2 l2 z2 m2 => ?_) (fun y => absurd q y)⟩
      show _ ∧ _
      exact lTl z2 (fun _ => zu_s _ _ _ _) (K _ _ _ _ _ _ (CI_lo k1 l2 (lo52 _ _)) m2 (by omega) (by omega))
    · refine ⟨rfl, ?_⟩
      show _ ∧ _
      refine ⟨in1, g_140 (s := s) (hX _) hm (fun y => absurd y q) (fun _ I2 l2 z2 m2 => ?_)⟩
      show _ ∧ _
      exact lTl z2 (fun z => absurd z (by decide)) (K s _ _ _ _ _ (CI_lo hc l2 (loE_refl _)) m2 (by omega) (by omega))
  · refine cc_109 hRO hc hr (fun e p he I1 J1 f g k1 => ?_) (fun q hq hn I1 J1 p1 f g pk ps k1 => ?_)
    · show ∃ _, _
      refine ⟨1, 8, by omega, by omega, cm_177 hRO (MI_hi hm f g) hr (by omega) (fun e2 p2 he2 I2 J2 f2 g2 m2 => ?_) (fun q hq hn => absurd (hn.symm.trans he) (by simp))⟩
      show _ ∧ _
      have hh := he.symm.trans he2
      simp only [Option.some.injEq, Prod.mk.injEq] at hh
      obtain ⟨h1, h2⟩ := hh
      subst h1
      subst h2
      exact lTe rfl (K _ _ _ _ _ _ (CI_lo k1 f2 g2) m2 (by omega) (by omega))
    · show ∃ _, _
      refine ⟨1, 8, by omega, by omega, cm_177 hRO (MI_hi hm f g) hr (by omega) (fun e2 p2 he2 => absurd (hn.symm.trans he2) (by simp)) (fun q2 hq2 hn2 I2 J2 f2 g2 m2 => ?_)⟩
      show _ ∧ _
      have hh := hq.symm.trans hq2
      simp only [Sum.inr.injEq] at hh
      subst hh
      exact lTe rfl (K _ _ _ _ _ _ (CI_lo k1 f2 g2) (m2 p1 pk ps) (by omega) (by omega))
  · refine g_178 hm ?_
    show _ ∧ _
    exact lTe hc.2.2.1 (K s _ _ _ _ _ (CI_lo hc (fr_0 _) (loE_refl _)) (MI_0 hm _) (by omega) (by omega))
  · refine ⟨in1, 1, 6, b1.1, b1.2, w_222 ⟨1, 6, Nat.le_refl _, Nat.le_refl _, g_111 (hX _) hc bb (fun q => ?_) (fun q => ?_)⟩⟩
    · show _ ∧ _
      refine ⟨in1, g_207 (s := s) (hX _) (MI_hi hm (hiE_refl _) (hi52 (hiE_refl _) _)) hce (fun _ => ?_) (fun y => absurd q y)⟩
      show _ ∧ _
      exact lTl (zu_s _ _ _ _) (fun _ => zu_s _ _ _ _) (K s _ _ _ _ _ (CI_lo hc (fr_0 _) (lo52 _ _)) (MI_0 (MI_hi hm (hiE_refl _) (hi52 (hiE_refl _) _)) _) (by omega) (by omega))
    · refine ⟨rfl, ?_⟩
      show _ ∧ _
      refine ⟨in1, g_207 (s := s) (hX _) hm hce (fun y => absurd y q) (fun _ => ?_)⟩
      show _ ∧ _
      exact lTl (zu_s _ _ _ _) (fun z => absurd z (by decide)) (K s _ _ _ _ _ (CI_lo hc (fr_0 _) (loE_refl _)) (MI_0 hm _) (by omega) (by omega))
  · refine ⟨in1, in2, in3, 1, 6, b1.1, b1.2, w_223 ⟨1, 6, Nat.le_refl _, Nat.le_refl _, g_113 (hX _) hc bb (fun q y I1 J1 e1 f1 k1 => ?_) (fun q => ?_) (fun q y => ?_)⟩⟩
    · show _ ∧ _
      refine ⟨in1, in2, in3, g_197 (s := s) (hX _) (MI_hi hm e1 (hi52 f1 _)) hce (fun _ _ I2 J2 l2 x2 z2 m2 => ?_) (fun y => absurd q y) (fun _ z => absurd z y)⟩
      show _ ∧ _
      exact lTl z2 (fun _ => (l52 x2).2) (K _ _ _ _ _ _ (CI_lo k1 l2 (l52 x2).1) m2 (by omega) (by omega))
    · refine Or.inl ⟨rfl, ?_⟩
      show _ ∧ _
      refine ⟨in1, in2, in3, g_197 (s := s) (hX _) hm hce (fun y => absurd y q) (fun _ => ?_) (fun y => absurd y q)⟩
      show _ ∧ _
      exact lTl (zu_s _ _ _ _) (fun z => absurd z (by decide)) (K s _ _ _ _ _ (CI_lo hc (fr_0 _) (loE_refl _)) (MI_0 hm _) (by omega) (by omega))
    · refine Or.inr ⟨rfl, ?_⟩
      show _ ∧ _
      refine ⟨in1, in2, in3, g_197 (s := s) (hX _) hm hce (fun _ z => absurd y z) (fun z => absurd q z) (fun _ _ => ?_)⟩
      show _ ∧ _
      exact lTl (zu_s _ _ _ _) (fun z => absurd z (by decide)) (K s _ _ _ _ _ (CI_lo hc (fr_0 _) (loE_refl _)) (MI_0 hm _) (by omega) (by omega))
  · refine ⟨in1, in2, 1, 6, b1.1, b1.2, w_224 ⟨1, 6, Nat.le_refl _, Nat.le_refl _, g_114 (hX _) (hX _) hc bb (fun q y I1 J1 e1 f1 k1 => ?_) (fun q => ?_) (fun q y I1 J1 e1 f1 k1 => ?_)⟩⟩
    · show _ ∧ _
      refine ⟨in1, in2, 1 + 1, 8, by omega, by omega, w_201 ⟨1 + 1, 8, Nat.le_refl _, Nat.le_refl _, g_200 (SS := 0) (Or.inl rfl) (s := s) (hX _) (hX _) (MI_hi hm e1 (hi52 f1 _)) hce (by omega) (fun _ _ I2 J2 l2 x2 z2 m2 => ?_) (fun y => absurd q y) (fun _ z => absurd y z)⟩⟩
      show _ ∧ _
      exact lTl z2 (fun _ => (l52 x2).2) (K _ _ _ _ _ _ (CI_lo k1 l2 (l52 x2).1) m2 (by omega) (by omega))
    · refine Or.inl ⟨rfl, ?_⟩
      show _ ∧ _
      refine ⟨in1, in2, 1 + 1, 8, by omega, by omega, w_201 ⟨1 + 1, 8, Nat.le_refl _, Nat.le_refl _, g_200 (SS := 0) (Or.inl rfl) (s := s) (hX _) (hX _) hm hce (by omega) (fun y => absurd y q) (fun _ => ?_) (fun y => absurd y q)⟩⟩
      show _ ∧ _
      exact lTl (zu_s _ _ _ _) (fun z => absurd z (by decide)) (K s _ _ _ _ _ (CI_lo hc (fr_0 _) (loE_refl _)) (MI_0 hm _) (by omega) (by omega))
    · refine Or.inr ⟨rfl, ?_⟩
      show _ ∧ _
      refine ⟨in1, in2, 1 + 1, 8, by omega, by omega, w_201 ⟨1 + 1, 8, Nat.le_refl _, Nat.le_refl _, g_200 (SS := 0) (Or.inl rfl) (s := s) (hX _) (hX _) (MI_hi hm e1 f1) hce (by omega) (fun _ z => absurd z y) (fun z => absurd q z) (fun _ _ I2 J2 l2 x2 z2 m2 => ?_)⟩⟩
      show _ ∧ _
      exact lTl z2 (fun z => absurd z (by decide)) (K s _ _ _ _ _ (CI_lo k1 l2 x2.1) m2 (by omega) (by omega))
  · refine ⟨in1, in2, 1, 6, b1.1, b1.2, w_225 ⟨1, 6, Nat.le_refl _, Nat.le_refl _, g_115 (hX _) (hX _) hc bb (fun q y I1 J1 e1 f1 k1 => ?_) (fun q => ?_) (fun q y I1 J1 e1 f1 k1 => ?_)⟩⟩
    · show _ ∧ _
      refine ⟨in1, in2, 1 + 1, 8, by omega, by omega, w_202 ⟨1 + 1, 8, Nat.le_refl _, Nat.le_refl _, g_200 (SS := 1) (Or.inr rfl) (s := s) (hX _) (hX _) (MI_hi hm e1 (hi52 f1 _)) hce (by omega) (fun _ _ I2 J2 l2 x2 z2 m2 => ?_) (fun y => absurd q y) (fun _ z => absurd y z)⟩⟩
      show _ ∧ _
      exact lTl z2 (fun _ => (l52 x2).2) (K _ _ _ _ _ _ (CI_lo k1 l2 (l52 x2).1) m2 (by omega) (by omega))
    · refine Or.inl ⟨rfl, ?_⟩
      show _ ∧ _
      refine ⟨in1, in2, 1 + 1, 8, by omega, by omega, w_202 ⟨1 + 1, 8, Nat.le_refl _, Nat.le_refl _, g_200 (SS := 1) (Or.inr rfl) (s := s) (hX _) (hX _) hm hce (by omega) (fun y => absurd y q) (fun _ => ?_) (fun y => absurd y q)⟩⟩
      show _ ∧ _
      exact lTl (zu_s _ _ _ _) (fun z => absurd z (by decide)) (K s _ _ _ _ _ (CI_lo hc (fr_0 _) (loE_refl _)) (MI_0 hm _) (by omega) (by omega))
    · refine Or.inr ⟨rfl, ?_⟩
      show _ ∧ _
      refine ⟨in1, in2, 1 + 1, 8, by omega, by omega, w_202 ⟨1 + 1, 8, Nat.le_refl _, Nat.le_refl _, g_200 (SS := 1) (Or.inr rfl) (s := s) (hX _) (hX _) (MI_hi hm e1 f1) hce (by omega) (fun _ z => absurd z y) (fun z => absurd q z) (fun _ _ I2 J2 l2 x2 z2 m2 => ?_)⟩⟩
      show _ ∧ _
      exact lTl z2 (fun z => absurd z (by decide)) (K s _ _ _ _ _ (CI_lo k1 l2 x2.1) m2 (by omega) (by omega))
  · refine ⟨1, 6, b1.1, b1.2, w_226 ⟨1, 6, Nat.le_refl _, Nat.le_refl _, g_116 hc bb (fun q I1 J1 e1 f1 k1 => ?_) (fun q => ?_)⟩⟩
    · show ∃ _, _
      refine ⟨2, 8, by omega, by omega, g_203 (s := s) (MI_hi hm e1 (hi52 f1 _)) hce (by omega) (fun _ I2 J2 l2 x2 z2 m2 => ?_) (fun y => absurd q y)⟩
      show _ ∧ _
      exact lTl z2 (fun _ => (l52 x2).2) (K _ _ _ _ _ _ (CI_lo k1 l2 (l52 x2).1) m2 (by omega) (by omega))
    · refine ⟨rfl, ?_⟩
      show ∃ _, _
      refine ⟨2, 8, by omega, by omega, g_203 (s := s) hm hce (by omega) (fun y => absurd y q) (fun _ => ?_)⟩
      show _ ∧ _
      exact lTl (zu_s _ _ _ _) (fun z => absurd z (by decide)) (K s _ _ _ _ _ (CI_lo hc (fr_0 _) (loE_refl _)) (MI_0 hm _) (by omega) (by omega))
  · refine ⟨in1, ⟨fun _ => ?_, fun _ => ?_⟩⟩
    · refine ⟨in2, in3, 1, 6, b1.1, b1.2, w_227 ⟨1, 6, Nat.le_refl _, Nat.le_refl _, g_117 (SS := 0) (Or.inl ⟨rfl, rfl⟩) (hX _) (hX _) hc bb (fun q I1 J1 e1 f1 k1 => ?_) (fun q => ?_)⟩⟩
      · refine ⟨fun z => ?_, fun z => ?_⟩
        · show _ ∧ _
          refine ⟨in1, in2, in3, g_204 (SS := 0) (Or.inl ⟨rfl, rfl⟩) (s := s) (hX _) (hX _) (MI_hi hm e1 (hi52 f1 _)) hce (fun _ I2 J2 l2 x2 z2 m2 => ?_) (fun y => absurd q y)⟩
          show _ ∧ _
          exact lTb z2 (fun _ => ⟨fun _ => (l52 x2).2, fun w => absurd z w⟩) (K _ _ _ _ _ _ (CI_lo k1 l2 (l52 x2).1) m2 (by omega) (by omega))
        · show _ ∧ _
          refine ⟨in1, in2, in3, g_204 (SS := 0) (Or.inl ⟨rfl, rfl⟩) (s := s) (hX _) (hX _) (MI_hi hm e1 (hi52 f1 _)) hce (fun _ I2 J2 l2 x2 z2 m2 => ?_) (fun y => absurd q y)⟩
          show _ ∧ _
          exact lTb z2 (fun _ => ⟨fun w => absurd w z, fun _ => (l52 x2).2⟩) (K _ _ _ _ _ _ (CI_lo k1 l2 (l52 x2).1) m2 (by omega) (by omega))
      · refine ⟨rfl, ?_⟩
        show _ ∧ _
        refine ⟨in1, in2, in3, g_204 (SS := 0) (Or.inl ⟨rfl, rfl⟩) (s := s) (hX _) (hX _) hm hce (fun y => absurd y q) (fun _ => ?_)⟩
        show _ ∧ _
        exact lTb (zu_s _ _ _ _) (fun z => absurd z (by decide)) (K s _ _ _ _ _ (CI_lo hc (fr_0 _) (loE_refl _)) (MI_0 hm _) (by omega) (by omega))
    · refine ⟨in2, in3, 1, 6, b1.1, b1.2, w_227 ⟨1, 6, Nat.le_refl _, Nat.le_refl _, g_117 (SS := 1) (Or.inr ⟨by decide, rfl⟩) (hX _) (hX _) hc bb (fun q I1 J1 e1 f1 k1 => ?_) (fun q => ?_)⟩⟩
      · refine ⟨fun z => ?_, fun z => ?_⟩
        · show _ ∧ _
          refine ⟨in1, in2, in3, g_204 (SS := 1) (Or.inr ⟨by decide, rfl⟩) (s := s) (hX _) (hX _) (MI_hi hm e1 (hi52 f1 _)) hce (fun _ I2 J2 l2 x2 z2 m2 => ?_) (fun y => absurd q y)⟩
          show _ ∧ _
          exact lTb z2 (fun _ => ⟨fun _ => (l52 x2).2, fun w => absurd z w⟩) (K _ _ _ _ _ _ (CI_lo k1 l2 (l52 x2).1) m2 (by omega) (by omega))
        · show _ ∧ _
          refine ⟨in1, in2, in3, g_204 (SS := 1) (Or.inr ⟨by decide, rfl⟩) (s := s) (hX _) (hX _) (MI_hi hm e1 (hi52 f1 _)) hce (fun _ I2 J2 l2 x2 z2 m2 => ?_) (fun y => absurd q y)⟩
          show _ ∧ _
          exact lTb z2 (fun _ => ⟨fun w => absurd w z, fun _ => (l52 x2).2⟩) (K _ _ _ _ _ _ (CI_lo k1 l2 (l52 x2).1) m2 (by omega) (by omega))
      · refine ⟨rfl, ?_⟩
        show _ ∧ _
        refine ⟨in1, in2, in3, g_204 (SS := 1) (Or.inr ⟨by decide, rfl⟩) (s := s) (hX _) (hX _) hm hce (fun y => absurd y q) (fun _ => ?_)⟩
        show _ ∧ _
        exact lTb (zu_s _ _ _ _) (fun z => absurd z (by decide)) (K s _ _ _ _ _ (CI_lo hc (fr_0 _) (loE_refl _)) (MI_0 hm _) (by omega) (by omega))
  · refine g_118 hc (fun I1 J1 e1 f1 k1 => ?_)
    show zz _ _ _ _ _ _ _ _ _ _
    refine g_205 (s := s) (MI_hi hm e1 f1) hce (fun I2 J2 l2 x2 m2 => ?_)
    show _ ∧ _
    exact lTe rfl (K s _ _ _ _ _ (CI_lo k1 l2 x2.1) m2 (by omega) (by omega))
  · refine g_209 hm hce ?_
    show _ ∧ _
    exact lTe (CI_v hc).2.2.2.2.2.1 (K s _ _ _ _ _ (CI_lo hc (fr_0 _) (loE_refl _)) (MI_0 hm _) (by omega) (by omega))
  · refine ⟨in1, 1, 6, b1.1, b1.2, w_228 ⟨1, 6, Nat.le_refl _, Nat.le_refl _, g_120 (hX _) hc bb (fun q => ?_) (fun q => ?_)⟩⟩
    · show _ ∧ _
      refine ⟨in1, g_211 (s := s) (hX _) (MI_hi hm (hiE_refl _) (hi52 (hiE_refl _) _)) hce (fun _ => ?_) (fun y => absurd q y)⟩
      show _ ∧ _
      exact lTl (zu_s _ _ _ _) (fun _ => zu_s _ _ _ _) (K s _ _ _ _ _ (CI_lo hc (fr_0 _) (lo52 _ _)) (MI_0 (MI_hi hm (hiE_refl _) (hi52 (hiE_refl _) _)) _) (by omega) (by omega))
    · refine ⟨rfl, ?_⟩
      show _ ∧ _
      refine ⟨in1, g_211 (s := s) (hX _) hm hce (fun y => absurd y q) (fun _ => ?_)⟩
      show _ ∧ _
      exact lTl (zu_s _ _ _ _) (fun z => absurd z (by decide)) (K s _ _ _ _ _ (CI_lo hc (fr_0 _) (loE_refl _)) (MI_0 hm _) (by omega) (by omega))
  · refine ⟨in1, in2, 1, 6, b1.1, b1.2, w_229 ⟨1, 6, Nat.le_refl _, Nat.le_refl _, g_121 (hX _) (hX _) hc bb (fun q => ?_) (fun q => ?_)⟩⟩
    · show _ ∧ _
      refine ⟨in1, in2, g_212 (s := s) (hX _) (hX _) (MI_hi hm (hiE_refl _) (hi52 (hiE_refl _) _)) hce (fun _ => ?_) (fun y => absurd q y)⟩
      show _ ∧ _
      exact lTl (zu_s _ _ _ _) (fun _ => zu_s _ _ _ _) (K s _ _ _ _ _ (CI_lo hc (fr_0 _) (lo52 _ _)) (MI_0 (MI_hi hm (hiE_refl _) (hi52 (hiE_refl _) _)) _) (by omega) (by omega))
    · refine ⟨rfl, ?_⟩
      show _ ∧ _
      refine ⟨in1, in2, g_212 (s := s) (hX _) (hX _) hm hce (fun y => absurd y q) (fun _ => ?_)⟩
      show _ ∧ _
      exact lTl (zu_s _ _ _ _) (fun z => absurd z (by decide)) (K s _ _ _ _ _ (CI_lo hc (fr_0 _) (loE_refl _)) (MI_0 hm _) (by omega) (by omega))
  · refine ⟨in1, 1, 6, b1.1, b1.2, w_230 ⟨1, 6, Nat.le_refl _, Nat.le_refl _, g_122 (hX _) hc bb (fun q => ?_) (fun q => ?_)⟩⟩
    · show _ ∧ _
      refine ⟨in1, g_213 (s := s) (hX _) (MI_hi hm (hiE_refl _) (hi52 (hiE_refl _) _)) hce (fun _ => ?_) (fun y => absurd q y)⟩
      show _ ∧ _
      exact lTl (zu_s _ _ _ _) (fun _ => zu_s _ _ _ _) (K s _ _ _ _ _ (CI_lo hc (fr_0 _) (lo52 _ _)) (MI_0 (MI_hi hm (hiE_refl _) (hi52 (hiE_refl _) _)) _) (by omega) (by omega))
    · refine ⟨rfl, ?_⟩
      show _ ∧ _
      refine ⟨in1, g_213 (s := s) (hX _) hm hce (fun y => absurd y q) (fun _ => ?_)⟩
      show _ ∧ _
      exact lTl (zu_s _ _ _ _) (fun z => absurd z (by decide)) (K s _ _ _ _ _ (CI_lo hc (fr_0 _) (loE_refl _)) (MI_0 hm _) (by omega) (by omega))
  · refine ⟨in1, in2, 1, 6, b1.1, b1.2, w_231 ⟨1, 6, Nat.le_refl _, Nat.le_refl _, g_123 (hX _) (hX _) hc bb (fun q => ?_) (fun q => ?_)⟩⟩
    · show _ ∧ _
      refine ⟨in1, in2, g_214 (s := s) (hX _) (hX _) (MI_hi hm (hiE_refl _) (hi52 (hiE_refl _) _)) hce (fun _ => ?_) (fun y => absurd q y)⟩
      show _ ∧ _
      exact lTl (zu_s _ _ _ _) (fun _ => zu_s _ _ _ _) (K s _ _ _ _ _ (CI_lo hc (fr_0 _) (lo52 _ _)) (MI_0 (MI_hi hm (hiE_refl _) (hi52 (hiE_refl _) _)) _) (by omega) (by omega))
    · refine ⟨rfl, ?_⟩
      show _ ∧ _
      refine ⟨in1, in2, g_214 (s := s) (hX _) (hX _) hm hce (fun y => absurd y q) (fun _ => ?_)⟩
      show _ ∧ _
      exact lTl (zu_s _ _ _ _) (fun z => absurd z (by decide)) (K s _ _ _ _ _ (CI_lo hc (fr_0 _) (loE_refl _)) (MI_0 hm _) (by omega) (by omega))
  · refine ⟨in1, in2, 1, 6, b1.1, b1.2, w_232 ⟨1, 6, Nat.le_refl _, Nat.le_refl _, g_124 (hX _) (hX _) hc bb (fun q => ?_) (fun q => ?_)⟩⟩
    · show _ ∧ _
      refine ⟨in1, in2, g_215 (s := s) (hX _) (hX _) (MI_hi hm (hiE_refl _) (hi52 (hiE_refl _) _)) hce (fun _ => ?_) (fun y => absurd q y)⟩
      show _ ∧ _
      exact lTl (zu_s _ _ _ _) (fun _ => zu_s _ _ _ _) (K s _ _ _ _ _ (CI_lo hc (fr_0 _) (lo52 _ _)) (MI_0 (MI_hi hm (hiE_refl _) (hi52 (hiE_refl _) _)) _) (by omega) (by omega))
    · refine ⟨rfl, ?_⟩
      show _ ∧ _
      refine ⟨in1, in2, g_215 (s := s) (hX _) (hX _) hm hce (fun y => absurd y q) (fun _ => ?_)⟩
      show _ ∧ _
      exact lTl (zu_s _ _ _ _) (fun z => absurd z (by decide)) (K s _ _ _ _ _ (CI_lo hc (fr_0 _) (loE_refl _)) (MI_0 hm _) (by omega) (by omega))
  · refine ⟨in1, 1, 6, b1.1, b1.2, w_233 ⟨1, 6, Nat.le_refl _, Nat.le_refl _, g_125 (hX _) hc bb (fun q y I1 J1 e1 f1 k1 => ?_) (fun q => ?_) (fun q y => ?_)⟩⟩
    · show _ ∧ _
      refine ⟨in1, 500, 2000, by omega, by omega, g_216 (s := s) (hX _) (MI_hi hm e1 (hi52 f1 _)) hce (by omega) (fun _ _ I2 J2 l2 x2 z2 m2 => ?_) (fun y => absurd q y) (fun _ z => absurd (y.symm.trans z) (by decide))⟩
      show _ ∧ _
      exact lTl z2 (fun _ => (l52 x2).2) (K _ _ _ _ _ _ (CI_lo k1 l2 (l52 x2).1) m2 (by omega) (by omega))
    · refine Or.inl ⟨rfl, ?_⟩
      show _ ∧ _
      refine ⟨in1, 500, 2000, by omega, by omega, g_216 (s := s) (hX _) hm hce (by omega) (fun y => absurd y q) (fun _ => ?_) (fun y => absurd y q)⟩
      show _ ∧ _
      exact lTl (zu_s _ _ _ _) (fun z => absurd z (by decide)) (K s _ _ _ _ _ (CI_lo hc (fr_0 _) (loE_refl _)) (MI_0 hm _) (by omega) (by omega))
    · refine Or.inr ⟨rfl, ?_⟩
      show _ ∧ _
      refine ⟨in1, 500, 2000, by omega, by omega, g_216 (s := s) (hX _) hm hce (by omega) (fun _ z => absurd (y.symm.trans z) (by decide)) (fun z => absurd q z) (fun _ _ => ?_)⟩
      show _ ∧ _
      exact lTl (zu_s _ _ _ _) (fun z => absurd z (by decide)) (K s _ _ _ _ _ (CI_lo hc (fr_0 _) (loE_refl _)) (MI_0 hm _) (by omega) (by omega))
  · refine g_217 hm hce ?_
    show _ ∧ _
    exact lTe (CI_v hc).2.2.2.2.1 (K s _ _ _ _ _ (CI_lo hc (fr_0 _) (loE_refl _)) (MI_0 hm _) (by omega) (by omega))
  · refine ⟨in1, 1, 6, b1.1, b1.2, w_234 ⟨1, 6, Nat.le_refl _, Nat.le_refl _, g_127 (hX _) hc bb (fun q => ?_) (fun q => ?_)⟩⟩
    · show _ ∧ _
      refine ⟨in1, g_218 (s := s) (hX _) hm hce (fun _ => ?_) (fun y => absurd q y)⟩
      show _ ∧ _
      exact lTd (zu_s _ _ _ _) (fun _ => zu_s _ _ _ _) (K s _ _ _ _ _ (CI_lo hc (fr_0 _) (loE_refl _)) (MI_0 hm _) (by omega) (by omega))
    · refine ⟨rfl, ?_⟩
      show _ ∧ _
      refine ⟨in1, g_218 (s := s) (hX _) hm hce (fun y => absurd y q) (fun _ => ?_)⟩
      show _ ∧ _
      exact lTd (zu_s _ _ _ _) (fun z => absurd z (by decide)) (K s _ _ _ _ _ (CI_lo hc (fr_0 _) (loE_refl _)) (MI_0 hm _) (by omega) (by omega))
  · refine g_128 hc ?_
    show zz _ _ _ _ _ _ _ _ _ _
    refine g_219 (s := s) hm hce ?_
    show _ ∧ _
    exact lTe rfl (K s _ _ _ _ _ (CI_lo hc (fr_0 _) (loE_refl _)) (MI_0 hm _) (by omega) (by omega))
  · exact K s _ _ _ _ _ hc hm (by omega) (by omega)
end Law

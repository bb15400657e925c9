/-! ===== the class's reading: expressions ===== -/
def qEp (T : qTk) (c : Nat) (r : Nat ⊕ (Nat × List zOp)) (I I' : zI) : Prop := zfr [8, 9, 10, 11] I I' ∧ match r with
  | .inl j => qFl j I'
  | .inr q => qFk T q.1 I' ∧ qcN c q.2 I I'
theorem pE_lo {s : Nat → Nat} {f m dp k : Nat} (h : m < 5) : pE s (f + 1) m dp k = pB (pE s f (m + 1) dp k) (fun k1 o => pB (pE s f (m + 10) dp k1) (fun k2 o2 => pO k2 (o ++ o2))) := by
  show (if m < 5 then _ else _) = _
  rw [if_pos h]
theorem pE_fa {s : Nat → Nat} {f dp k : Nat} : pE s (f + 1) 5 dp k = pFc s (pE s f 0) (pE s f 5) dp k := rfl
theorem pE_lp {s : Nat → Nat} {f l dp k : Nat} : pE s (f + 1) (l + 10) dp k = if pLv (s k) = l then pB (pE s f (l + 1) dp (k + 1)) (fun k1 o => if l = 2 then pO k1 (o ++ [(s k, 0)]) else pB (pE s f (l + 10) dp k1) (fun k2 o2 => pO k2 (o ++ (s k, 0) :: o2))) else pO k [] := by
  show (if l + 10 < 5 then _ else if l + 10 < 10 then _ else if pLv (s k) = l + 10 - 10 then _ else _) = _
  rw [if_neg (by omega), if_neg (by omega), show l + 10 - 10 = l by omega, show l + 10 - 9 = l + 1 by omega]
  by_cases c : l = 2
  · subst c
    rfl
  · have e : ∀ {α : Type} (a b : α), (if l + 10 = 12 then a else b) = if l = 2 then a else b := fun a b => by rw [if_neg (by omega), if_neg c]
    simp only [e]
def cA (RO : zRo) (T : qTk) (f : Nat) : Prop := ∀ {m dp k c e bc bs : Nat} {r : Nat ⊕ (Nat × List zOp)} {I : zI} {J : zJ} {D : zD} {P : zP}, pE T.1 f m dp k = some r → m ≤ 5 → dp ≤ 8 → 8 * (8 - dp) + 12 - m ≤ e → qTc T I → I 8 2 = zi (c : Int) → c + 1 ≤ k → k ≤ 450 → qFk T k I → (∀ I', qEp T c r I I' → P (.inl none) I' J D) → zz RO e 22 [.ref 11, .int (zi (m : Int)), .int (zi (dp : Int))] I J D bc bs P
def cB (RO : zRo) (T : qTk) (f : Nat) : Prop := ∀ {dp k c e bc bs : Nat} {r : Nat ⊕ (Nat × List zOp)} {I : zI} {J : zJ} {D : zD} {P : zP}, pE T.1 f 5 dp k = some r → dp ≤ 8 → 8 * (8 - dp) + 6 ≤ e → qTc T I → I 8 2 = zi (c : Int) → c + 1 ≤ k → k ≤ 450 → qFk T k I → (∀ I', qEp T c r I I' → P (.inl none) I' J D) → zz RO e 24 [.ref 11, .int (zi (T.1 k : Int)), .int (zi (dp : Int))] I J D bc bs P
def cL (RO : zRo) (T : qTk) (f : Nat) : Prop := ∀ {l dp k c d n bc bs : Nat} {r : Nat ⊕ (Nat × List zOp)} {I : zI} {J : zJ} {D : zD} {P : zP}, pE T.1 f (l + 10) dp k = some r → l ≤ 4 → dp ≤ 8 → 8 * (8 - dp) + 12 - l ≤ d + 2 → qTc T I → I 8 2 = zi (c : Int) → c + 1 ≤ k → k ≤ 450 → n + 1 ≤ k → qFk T k I → (∀ I', qEp T c r I I' → P (.inl none) I' J D) → zw RO (d + 1) 22 P 25 [(0, .ref 11), (1, .int (zi (l : Int))), (2, .int (zi (dp : Int))), (3, .int (zi (n : Int)))] [] I J D bc bs
section CForm2
variable {RO : zRo} {d : Nat} {P : zP} {I : zI} {J : zJ} {D : zD} {bc bs : Nat} {T : qTk} {k j c : Nat}
theorem zfr_811 {I I' : zI} (f : zfr [8, 9, 10] I I') : zfr [8, 9, 10, 11] I I' := zfr_sub f (by simp)
theorem zfr_11 {I I' : zI} (f : zfr [11] I I') : zfr [8, 9, 10, 11] I I' := zfr_sub f (by simp)
theorem r_24x {p : Int32} (hk : qFl j I) (K : ∀ I', qFl j I' → zfr [11] I I' → P (.inl none) I' J D) : zz RO (d + 3) 24 [.ref 11, .int 0, .int p] I J D bc bs P := by
  refine w_24 ⟨fun q => absurd q (by decide), fun _ => ⟨fun q => absurd q (by decide), fun _ => ⟨fun q => absurd q (by decide), fun _ => ?_⟩⟩⟩
  exact r_9 hk.1 (fun I1 h1 f1 => K I1 h1 f1)
theorem r_22_25x {l n : Nat} {p : Int32} (hl : l ≤ 4) (hn : n < 450) (hk : qFl j I) (K : P (.inl none) I J D) : zw RO (d + 1) 22 P 25 [(0, .ref 11), (1, .int (zi (l : Int))), (2, .int p), (3, .int (zi (n : Int)))] [] I J D bc bs := by
  refine wl_22_25 ⟨fun q => absurd q (by rw [show (450 : Int32) = zi 450 from rfl, zi_le (by omega) (by omega)]; omega), fun _ => ⟨fun _ => K, fun q => absurd ?_ q⟩⟩
  rw [hk.2]
  intro e
  have := (n_23 (I := I) (J := J) (c := 0) (m := l) (by omega) hl).mp e
  exact absurd this (by unfold pLv; simp; omega)
theorem r_22x {p : Int32} : ∀ (i : Nat) {m : Nat} {d : Nat} {P : zP} {I : zI} {J : zJ} {D : zD} {bc bs : Nat}, m + i = 5 → qFl j I → (∀ I', qFl j I' → zfr [11] I I' → P (.inl none) I' J D) → zz RO (d + 4 + i) 22 [.ref 11, .int (zi (m : Int)), .int p] I J D bc bs P
  | 0, m, d, P, I, J, D, bc, bs, hm, hk, K => by
    refine w_22 (d := d + 2) ⟨fun q => absurd q (by rw [show (5 : Int32) = zi 5 from rfl, zi_lt (by omega) (by omega)]; omega), fun _ => ?_⟩
    rw [hk.2]
    exact r_24x (d := d) hk (fun I1 h1 f1 => K I1 h1 f1)
  | i + 1, m, d, P, I, J, D, bc, bs, hm, hk, K => by
    rw [show d + 4 + (i + 1) = d + 3 + i + 2 by omega]
    refine w_22 (d := d + 3 + i) ⟨fun _ => ?_, fun q => absurd (by rw [show (5 : Int32) = zi 5 from rfl, zi_lt (by omega) (by omega)]; omega) q⟩
    rw [zi_succ, show d + 3 + i + 1 = d + 4 + i by omega]
    refine r_22x i (by omega) hk (fun I1 h1 f1 => ?_)
    show zw RO (d + 4 + i) 22 P 25 _ _ I1 J D bc bs
    rw [show d + 4 + i = d + 3 + i + 1 by omega]
    exact r_22_25x (n := 0) (by omega) (by omega) h1 (K I1 h1 f1)
theorem cB_step {f : Nat} (hw : qTw T) (ihA : cA RO T f) (ihB : cB RO T f) : cB RO T (f + 1) := by
  intro dp k c e bc bs r I J D P h hdp he ht hc hck hk9 hk K
  rw [pE_fa] at h
  have hle := qTw_le hw k
  obtain ⟨d, rfl⟩ : ∃ d, e = d + 3 + 3 := ⟨e - 6, by omega⟩
  have E : ∀ a : Nat, a ≤ 100 → (zi (T.1 k : Int) = zi (a : Int) ↔ T.1 k = a) := fun a ha => by
    rw [zi_eq (by omega) (by omega)]
    omega
  have e2 : zi (T.1 k : Int) = 2 ↔ T.1 k = 2 := E 2 (by omega)
  have e25 : zi (T.1 k : Int) = 25 ↔ T.1 k = 25 := E 25 (by omega)
  have e26 : zi (T.1 k : Int) = 26 ↔ T.1 k = 26 := E 26 (by omega)
  have e3 : zi (T.1 k : Int) = 3 ↔ T.1 k = 3 := E 3 (by omega)
  have e28 : zi (T.1 k : Int) = 28 ↔ T.1 k = 28 := E 28 (by omega)
  have e29 : zi (T.1 k : Int) = 29 ↔ T.1 k = 29 := E 29 (by omega)
  have e30 : zi (T.1 k : Int) = 30 ↔ T.1 k = 30 := E 30 (by omega)
  have e31 : zi (T.1 k : Int) = 31 ↔ T.1 k = 31 := E 31 (by omega)
  have e32 : zi (T.1 k : Int) = 32 ↔ T.1 k = 32 := E 32 (by omega)
  have e27 : zi (T.1 k : Int) = 27 ↔ T.1 k = 27 := E 27 (by omega)
  have e35 : zi (T.1 k : Int) = 35 ↔ T.1 k = 35 := E 35 (by omega)
  have e36 : zi (T.1 k : Int) = 36 ↔ T.1 k = 36 := E 36 (by omega)
  have e43 : zi (T.1 k : Int) = 43 ↔ T.1 k = 43 := E 43 (by omega)
  have g1 : (zi (T.1 k : Int) = 2 ∨ zi (T.1 k : Int) = 25 ∨ zi (T.1 k : Int) = 26) ↔ (T.1 k = 2 ∨ T.1 k = 25 ∨ T.1 k = 26) := by rw [e2, e25, e26]
  have g2 : (zi (T.1 k : Int) = 3 ∨ zi (T.1 k : Int) = 28 ∨ zi (T.1 k : Int) = 29 ∨ zi (T.1 k : Int) = 30 ∨ zi (T.1 k : Int) = 31 ∨ zi (T.1 k : Int) = 32) ↔ (T.1 k = 3 ∨ 28 ≤ T.1 k ∧ T.1 k ≤ 32) := by
    rw [e3, e28, e29, e30, e31, e32]
    omega
  have g3 : (zi (T.1 k : Int) = 27 ∨ zi (T.1 k : Int) = 35 ∨ zi (T.1 k : Int) = 36 ∨ zi (T.1 k : Int) = 43) ↔ (T.1 k = 27 ∨ T.1 k = 35 ∨ T.1 k = 36 ∨ T.1 k = 43) := by rw [e27, e35, e36, e43]
  refine w_24 (d := d + 5) ?_
  rw [g1, g2, g3]
  unfold pFc at h
  by_cases d1 : T.1 k = 3 ∨ 28 ≤ T.1 k ∧ T.1 k ≤ 32
  · rw [if_pos d1] at h
    cases pO_inv h
    refine ⟨fun q => by omega, fun _ => ⟨fun _ => ?_, fun q => absurd d1 q⟩⟩
    rw [hk.1]
    have hlt := qTw_lt hw (k := k) (by omega)
    have hn := hw.2.1
    refine r_1 (d := d + 4) hc (by omega) (fun I1 z1 f1 => ?_)
    have k1 := qFk_fr hk f1
    refine r_8t (d := d + 3) (by omega) hw (qTc_fr ht (zfr_811 f1)) k1 (by omega) rfl (fun I2 k2 f2 => ?_)
    exact K I2 ⟨zfr_trans (zfr_811 f1) (zfr_11 f2), k2, qcN_of z1 (zfr_refl _) f2⟩
  · rw [if_neg d1] at h
    by_cases d2 : T.1 k = 2
    · rw [if_pos d2] at h
      cases pO_inv h
      have hlt := qTw_lt hw (k := k) (by omega)
      have hn := hw.2.1
      have hp : pPl T.1 k = pO (k + 1) k := by
        unfold pPl
        rw [if_neg (by omega), if_pos d2]
      refine ⟨fun _ => ?_, fun q => absurd (Or.inl d2) q⟩
      refine r_21t (d := d + 2) hw ht hk (by omega) hp (fun I1 k1 f1 => ?_)
      refine r_1 (d := d + 4) (o := 2) (c := c) (by rw [f1 8 (by simp)]; exact hc) (by omega) (fun I2 z2 f2 => ?_)
      exact K I2 ⟨zfr_trans (zfr_11 f1) (zfr_811 f2), qFk_fr k1 f2, qcN_of z2 f1 (zfr_refl _)⟩
    · rw [if_neg d2] at h
      by_cases d3 : T.1 k = 25 ∨ T.1 k = 26
      · rw [if_pos d3] at h
        have hlt := qTw_lt hw (k := k) (by omega)
        have hn := hw.2.1
        refine ⟨fun _ => ?_, fun q => absurd (by omega) q⟩
        by_cases d4 : T.1 (k + 1) = 2
        · rw [if_pos d4] at h
          cases pO_inv h
          have hlt2 := qTw_lt hw (k := k + 1) (by omega)
          have hp : pPl T.1 k = pO (k + 2) (k + 1) := by
            unfold pPl
            rw [if_pos d3, if_pos d4]
          refine r_21t (d := d + 2) hw ht hk (by omega) hp (fun I1 k1 f1 => ?_)
          refine r_1 (d := d + 4) (o := 2) (c := c) (by rw [f1 8 (by simp)]; exact hc) (by omega) (fun I2 z2 f2 => ?_)
          exact K I2 ⟨zfr_trans (zfr_11 f1) (zfr_811 f2), qFk_fr k1 f2, qcN_of z2 f1 (zfr_refl _)⟩
        · rw [if_neg d4] at h
          cases pF_inv h
          have hp : pPl T.1 k = pF (k + 1) := by
            unfold pPl
            rw [if_pos d3, if_neg d4]
          refine r_21f (d := d + 2) hw ht hk (by omega) hp (fun v I1 k1 f1 => ?_)
          refine r_1x (d := d + 4) (fun v2 I2 f2 => ?_)
          exact K I2 ⟨zfr_trans (zfr_11 f1) (zfr_811 f2), qFl_fr k1 f2⟩
      · rw [if_neg d3] at h
        have sd : zi (dp : Int) + 1 = zi ((dp + 1 : Nat) : Int) := zi_succ dp
        by_cases d5 : T.1 k = 36
        · rw [if_pos d5] at h
          refine ⟨fun q => by omega, fun _ => ⟨fun q => absurd q d1, fun _ => ⟨fun _ => ?_, fun q => absurd (by omega) q⟩⟩⟩
          have hlt := qTw_lt hw (k := k) (by omega)
          have hn := hw.2.1
          rw [sd]
          by_cases d6 : dp < 8
          · rw [if_pos d6] at h
            refine w_25 (d := d + 4) ⟨fun _ => ?_, fun q => absurd (by rw [show (8 : Int32) = zi 8 from rfl, zi_le (by omega) (by omega)]; omega) q⟩
            refine r_8t (d := d + 2) (by omega) hw ht hk (by omega) rfl (fun I1 k1 f1 => ?_)
            show _ ∧ _
            refine ⟨fun q => absurd (e36.mpr d5) q, fun _ => ?_⟩
            have t1 := qTc_fr ht (zfr_11 f1)
            have c1 : I1 8 2 = zi (c : Int) := by rw [f1 8 (by simp)]; exact hc
            rcases pB_inv h with ⟨i, h1, e9⟩ | ⟨k9, o1, h1, h⟩
            · cases e9
              refine ihA (m := 0) (c := c) h1 (by omega) (by omega) (by omega) t1 c1 (by omega) (by omega) k1 (fun I2 z2 => ?_)
              refine r_8x (d := d + 2) (a := 37) (by omega) z2.2 (fun I3 k3 f3 => ?_)
              exact K I3 ⟨zfr_trans (zfr_11 f1) (zfr_trans z2.1 (zfr_11 f3)), k3⟩
            · have a := pE_ok h1 (by omega)
              have a0 := a.1.1
              have a1 := hw.2.1
              have ae : k9 ≤ 450 := by
                have := qTw_lt hw (k := k9 - 1) (by have := a.1.2.2.1 (k9 - 1) (by omega) (by omega); unfold xs at this; omega)
                omega
              refine ihA (m := 0) (c := c) h1 (by omega) (by omega) (by omega) t1 c1 (by omega) (by omega) k1 (fun I2 z2 => ?_)
              have t2 := qTc_fr t1 z2.1
              by_cases d7 : T.1 k9 = 37
              · have h : (if T.1 k9 = 37 then pO (k9 + 1) o1 else pF k9) = some r := h
                rw [if_pos d7] at h
                cases pO_inv h
                refine r_8t (d := d + 2) (a := 37) (by omega) hw t2 z2.2.1 ae d7 (fun I3 k3 f3 => ?_)
                exact K I3 ⟨zfr_trans (zfr_11 f1) (zfr_trans z2.1 (zfr_11 f3)), k3, qcN_of z2.2.2 f1 f3⟩
              · have h : (if T.1 k9 = 37 then pO (k9 + 1) o1 else pF k9) = some r := h
                rw [if_neg d7] at h
                cases pF_inv h
                refine r_8f (d := d + 2) (a := 37) (by omega) z2.2.1 (qTw_le hw _) d7 (fun I3 k3 f3 => ?_)
                exact K I3 ⟨zfr_trans (zfr_11 f1) (zfr_trans z2.1 (zfr_11 f3)), k3⟩
          · rw [if_neg d6] at h
            cases pF_inv h
            refine w_25 (d := d + 4) ⟨fun q => absurd q (by rw [show (8 : Int32) = zi 8 from rfl, zi_le (by omega) (by omega)]; omega), fun _ => ?_⟩
            exact r_9 (d := d + 3) hk.1 (fun I1 k1 f1 => K I1 ⟨zfr_11 f1, k1⟩)
        · rw [if_neg d5] at h
          by_cases d8 : T.1 k = 43 ∨ T.1 k = 35 ∨ T.1 k = 27
          · rw [if_pos d8] at h
            refine ⟨fun q => by omega, fun _ => ⟨fun q => absurd q d1, fun _ => ⟨fun _ => ?_, fun q => absurd (by omega) q⟩⟩⟩
            have hlt := qTw_lt hw (k := k) (by omega)
            have hn := hw.2.1
            rw [sd]
            by_cases d6 : dp < 8
            · rw [if_pos d6] at h
              refine w_25 (d := d + 4) ⟨fun _ => ?_, fun q => absurd (by rw [show (8 : Int32) = zi 8 from rfl, zi_le (by omega) (by omega)]; omega) q⟩
              refine r_8t (d := d + 2) (by omega) hw ht hk (by omega) rfl (fun I1 k1 f1 => ?_)
              show _ ∧ _
              refine ⟨fun _ => ?_, fun q => absurd (fun z => d5 (e36.mp z)) q⟩
              have t1 := qTc_fr ht (zfr_11 f1)
              have c1 : I1 8 2 = zi (c : Int) := by rw [f1 8 (by simp)]; exact hc
              rw [k1.2]
              rcases pB_inv h with ⟨i, h1, e9⟩ | ⟨k9, o1, h1, h⟩
              · cases e9
                refine ihB (c := c) h1 (by omega) (by omega) t1 c1 (by omega) (by omega) k1 (fun I2 z2 => ?_)
                show _ ∧ _
                refine ⟨fun _ => ?_, fun _ => ?_⟩
                · exact r_1x (d := d + 3) (fun v I3 f3 => K I3 ⟨zfr_trans (zfr_11 f1) (zfr_trans z2.1 (zfr_811 f3)), qFl_fr z2.2 f3⟩)
                · exact r_1x (d := d + 3) (fun v I3 f3 => K I3 ⟨zfr_trans (zfr_11 f1) (zfr_trans z2.1 (zfr_811 f3)), qFl_fr z2.2 f3⟩)
              · have a := pE_ok h1 (by omega)
                have a0 := a.1.1
                have a2 := a.1.2.1
                have ae : k9 ≤ 450 := by
                  have := qTw_lt hw (k := k9 - 1) (by have := a.1.2.2.1 (k9 - 1) (by omega) (by omega); unfold xs at this; omega)
                  omega
                cases pO_inv h
                refine ihB (c := c) h1 (by omega) (by omega) t1 c1 (by omega) (by omega) k1 (fun I2 z2 => ?_)
                by_cases d9 : T.1 k = 43
                · show _ ∧ _
                  refine ⟨fun q => absurd (e43.mpr d9) q, fun _ => ?_⟩
                  refine r_1 (d := d + 3) (o := 52) (c := c + o1.length) z2.2.2.1 (by omega) (fun I3 z3 f3 => ?_)
                  refine K I3 ⟨zfr_trans (zfr_11 f1) (zfr_trans z2.1 (zfr_811 f3)), qFk_fr z2.2.1 f3, ?_⟩
                  rw [if_pos d9]
                  exact qcN_of (qcN_app z2.2.2 z3) f1 (zfr_refl _)
                · show _ ∧ _
                  refine ⟨fun _ => ?_, fun q => absurd (fun z => d9 (e43.mp z)) q⟩
                  refine r_1 (d := d + 3) (c := c + o1.length) z2.2.2.1 (by omega) (fun I3 z3 f3 => ?_)
                  refine K I3 ⟨zfr_trans (zfr_11 f1) (zfr_trans z2.1 (zfr_811 f3)), qFk_fr z2.2.1 f3, ?_⟩
                  rw [if_neg d9]
                  exact qcN_of (qcN_app z2.2.2 z3) f1 (zfr_refl _)
            · rw [if_neg d6] at h
              cases pF_inv h
              refine w_25 (d := d + 4) ⟨fun q => absurd q (by rw [show (8 : Int32) = zi 8 from rfl, zi_le (by omega) (by omega)]; omega), fun _ => ?_⟩
              exact r_9 (d := d + 3) hk.1 (fun I1 k1 f1 => K I1 ⟨zfr_11 f1, k1⟩)
          · rw [if_neg d8] at h
            cases pF_inv h
            refine ⟨fun q => by omega, fun _ => ⟨fun q => absurd q d1, fun _ => ⟨fun q => by omega, fun _ => ?_⟩⟩⟩
            exact r_9 (d := d + 4) hk.1 (fun I1 k1 f1 => K I1 ⟨zfr_11 f1, k1⟩)
theorem cE_end {k k2 : Nat} {o : List zOp} (hw : qTw T) (hk : k ≤ 450) (a : pEok T.1 k o k2) : k2 ≤ 450 := by
  have hn := hw.2.1
  by_cases c : k = k2
  · omega
  · have a0 := a.1
    have := qTw_lt hw (k := k2 - 1) (by have := a.2.2.1 (k2 - 1) (by omega) (by omega); unfold xs at this; omega)
    omega
theorem cL_step {f : Nat} (hw : qTw T) (ihA : cA RO T f) (ihL : cL RO T f) : cL RO T (f + 1) := by
  intro l dp k c d n bc bs r I J D P h hl hdp he ht hc hck hk9 hn hk K
  rw [pE_lp] at h
  have hle := qTw_le hw k
  have hN := hw.2.1
  have e23 := n_23 (I := I) (J := J) (c := T.1 k) (m := l) hle hl
  obtain ⟨d, rfl⟩ : ∃ d', d = d' + 6 := ⟨d - 6, by omega⟩
  refine wl_22_25 ⟨fun q => absurd q (by rw [show (450 : Int32) = zi 450 from rfl, zi_le (by omega) (by omega)]; omega), fun _ => ?_⟩
  rw [hk.2]
  by_cases c1 : pLv (T.1 k) = l
  · rw [if_pos c1] at h
    have hx := pLv_xs c1 (by omega)
    have hlt := qTw_lt hw (k := k) (by have := hx.1; unfold xs at this; omega)
    refine ⟨fun q => absurd (e23.mpr c1) q, fun _ => ?_⟩
    refine r_8t (d := d + 5) (by omega) hw ht hk (by omega) rfl (fun I1 k1 f1 => ?_)
    have t1 := qTc_fr ht (zfr_11 f1)
    have c1 : I1 8 2 = zi (c : Int) := by rw [f1 8 (by simp)]; exact hc
    show zz RO (d + 7) 22 [.ref 11, .int (zi (l : Int) + 1), .int (zi (dp : Int))] I1 J D 0 0 _
    rw [zi_succ]
    rcases pB_inv h with ⟨i, h1, e9⟩ | ⟨k9, o1, h1, h⟩
    · cases e9
      refine ihA (c := c) h1 (by omega) hdp (by omega) t1 c1 (by omega) (by omega) k1 (fun I2 z2 => ?_)
      refine r_1x (d := d + 6) (fun v I3 f3 => ?_)
      have k3 := qFl_fr z2.2 f3
      have K3 : P (.inl none) I3 J D := K I3 ⟨zfr_trans (zfr_11 f1) (zfr_trans z2.1 (zfr_811 f3)), k3⟩
      show _ ∧ _
      refine ⟨fun _ => ?_, fun _ => K3⟩
      rw [zi_succ]
      exact r_22_25x (d := d + 6) (by omega) (by omega) k3 K3
    · have a := pE_ok h1 (by omega)
      have a0 := a.1.1
      have a2 := a.1.2.1
      have a3 := a.2 (by omega)
      have ae := cE_end hw (by omega) a.1
      refine ihA (c := c) h1 (by omega) hdp (by omega) t1 c1 (by omega) (by omega) k1 (fun I2 z2 => ?_)
      have t2 := qTc_fr t1 z2.1
      refine r_1 (d := d + 6) (c := c + o1.length) z2.2.2.1 (by omega) (fun I3 z3 f3 => ?_)
      have t3 := qTc_fr t2 (zfr_811 f3)
      have k3 := qFk_fr z2.2.1 f3
      have f9 : zfr [8, 9, 10, 11] I I3 := zfr_trans (zfr_11 f1) (zfr_trans z2.1 (zfr_811 f3))
      have z9 : qcN c (o1 ++ [(T.1 k, 0)]) I I3 := qcN_of (qcN_app z2.2.2 z3) f1 (zfr_refl _)
      have l9 : c + (o1 ++ [(T.1 k, (0 : Int32))]).length + 1 ≤ k9 := by
        rw [List.length_append, List.length_singleton]
        omega
      show _ ∧ _
      have i2 : zi (l : Int) = 2 ↔ l = 2 := by
        rw [show (2 : Int32) = zi ((2 : Nat) : Int) from rfl, zi_eq (by omega) (by omega)]
        omega
      by_cases c2 : l = 2
      · have h : (if l = 2 then pO k9 (o1 ++ [(T.1 k, 0)]) else pB (pE T.1 f (l + 10) dp k9) (fun k2 o2 => pO k2 (o1 ++ (T.1 k, 0) :: o2))) = some r := h
        rw [if_pos c2] at h
        cases pO_inv h
        exact ⟨fun q => absurd (i2.mpr c2) q, fun _ => K I3 ⟨f9, k3, z9⟩⟩
      · have h : (if l = 2 then pO k9 (o1 ++ [(T.1 k, 0)]) else pB (pE T.1 f (l + 10) dp k9) (fun k2 o2 => pO k2 (o1 ++ (T.1 k, 0) :: o2))) = some r := h
        rw [if_neg c2] at h
        refine ⟨fun _ => ?_, fun q => absurd (fun z => c2 (i2.mp z)) q⟩
        rw [zi_succ]
        rcases pB_inv h with ⟨i, h3, e9⟩ | ⟨k5, o5, h3, h⟩
        · cases e9
          exact ihL (d := d + 6) (c := c + (o1 ++ [(T.1 k, (0 : Int32))]).length) h3 hl hdp (by omega) t3 z9.1 l9 ae (by omega) k3 (fun I4 z4 => K I4 ⟨zfr_trans f9 z4.1, z4.2⟩)
        · cases pO_inv h
          refine ihL (d := d + 6) (c := c + (o1 ++ [(T.1 k, (0 : Int32))]).length) h3 hl hdp (by omega) t3 z9.1 l9 ae (by omega) k3 (fun I4 z4 => K I4 ⟨zfr_trans f9 z4.1, z4.2.1, ?_⟩)
          have := qcN_app z9 z4.2.2
          rw [List.append_assoc] at this
          exact this
  · rw [if_neg c1] at h
    cases pO_inv h
    exact ⟨fun _ => K I ⟨zfr_refl _, hk, qcN_nil hc⟩, fun q => absurd (fun z => c1 (e23.mp z)) q⟩
theorem cA_step {f : Nat} (hw : qTw T) (ihA : cA RO T f) (ihB : cB RO T (f + 1)) (ihL : cL RO T f) : cA RO T (f + 1) := by
  intro m dp k c e bc bs r I J D P h hm hdp he ht hc hck hk9 hk K
  obtain ⟨d, rfl⟩ : ∃ d, e = d + 7 := ⟨e - 7, by omega⟩
  by_cases c1 : m < 5
  · rw [pE_lo c1] at h
    refine w_22 (d := d + 5) ⟨fun _ => ?_, fun q => absurd (by rw [show (5 : Int32) = zi 5 from rfl, zi_lt (by omega) (by omega)]; omega) q⟩
    rw [zi_succ]
    rcases pB_inv h with ⟨i, h1, e9⟩ | ⟨k1, o1, h1, h⟩
    · cases e9
      refine ihA (c := c) h1 (by omega) hdp (by omega) ht hc hck hk9 hk (fun I1 z1 => ?_)
      exact r_22_25x (d := d + 5) (n := 0) (by omega) (by omega) z1.2 (K I1 z1)
    · have a := pE_ok h1 (by omega)
      have a0 := a.1.1
      have a2 := a.1.2.1
      have ae := cE_end hw hk9 a.1
      refine ihA (c := c) h1 (by omega) hdp (by omega) ht hc hck hk9 hk (fun I1 z1 => ?_)
      have t1 := qTc_fr ht z1.1
      rcases pB_inv h with ⟨i, h3, e9⟩ | ⟨k3, o3, h3, h⟩
      · cases e9
        exact ihL (d := d + 5) (n := 0) (c := c + o1.length) h3 (by omega) hdp (by omega) t1 z1.2.2.1 (by omega) ae (by omega) z1.2.1 (fun I2 z2 => K I2 ⟨zfr_trans z1.1 z2.1, z2.2⟩)
      · cases pO_inv h
        exact ihL (d := d + 5) (n := 0) (c := c + o1.length) h3 (by omega) hdp (by omega) t1 z1.2.2.1 (by omega) ae (by omega) z1.2.1 (fun I2 z2 => K I2 ⟨zfr_trans z1.1 z2.1, z2.2.1, qcN_app z1.2.2 z2.2.2⟩)
  · have e5 : m = 5 := by omega
    subst e5
    refine w_22 (d := d + 5) ⟨fun q => absurd q (by decide), fun _ => ?_⟩
    rw [hk.2]
    exact ihB (c := c) h hdp (by omega) ht hc hck hk9 hk (fun I1 z1 => K I1 z1)
theorem cE_all (hw : qTw T) (f : Nat) : cA RO T f ∧ cB RO T f ∧ cL RO T f := by
  induction f with
  | zero =>
    refine ⟨?_, ?_, ?_⟩
    · intro m dp k c e bc bs r I J D P h
      cases h
    · intro dp k c e bc bs r I J D P h
      cases h
    · intro l dp k c d n bc bs r I J D P h
      cases h
  | succ f ih =>
    obtain ⟨h1, h2, h3⟩ := ih
    have h4 : cB RO T (f + 1) := cB_step hw h1 h2
    exact ⟨cA_step hw h1 h4 h3, h4, cL_step hw h1 h3⟩
/-- an expression of a condition or a statement -/
theorem r_22 {r : Nat ⊕ (Nat × List zOp)} (hw : qTw T) (h : pEx T.1 k = some r) (ht : qTc T I) (hc : I 8 2 = zi (c : Int)) (hck : c + 1 ≤ k) (hk9 : k ≤ 450) (hk : qFk T k I) (K : ∀ I', qEp T c r I I' → P (.inl none) I' J D) : zz RO (d + 76) 22 [.ref 11, .int 0, .int 0] I J D bc bs P :=
  (cE_all hw 4000).1 (m := 0) (dp := 0) (c := c) h (by omega) (by omega) (by omega) ht hc hck hk9 hk K
end CForm2

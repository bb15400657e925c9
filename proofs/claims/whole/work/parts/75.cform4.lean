/-! ===== the class's reading: if, all, rows of statements ===== -/
def t19 (RO : zRo) (d : Nat) (P : zP) (p v : Int32) : zI → zJ → zD → Prop := fun I5 J5 D5 =>
  (¬ (I5 11 3) = 20 → zz RO d 2 [.ref 8, .int v] I5 J5 D5 0 0 (zNv P fun I6 J6 D6 => zz RO d 8 [.ref 11, .int 15] I6 J6 D6 0 0 (zNv P fun I7 J7 D7 => P (.inl none) I7 J7 D7))) ∧
  (¬ (¬ (I5 11 3) = 20) → zz RO d 8 [.ref 11, .int 20] I5 J5 D5 0 0 (zNv P fun I8 J8 D8 => zz RO d 1 [.ref 8, .int 20, .int 0] I8 J8 D8 0 0 (zNi P fun v9 I9 J9 D9 => zz RO d 2 [.ref 8, .int v] I9 J9 D9 0 0 (zNv P fun I10 J10 D10 => zz RO d 16 [.ref 11, .int p] I10 J10 D10 0 0 (zNv P fun I11 J11 D11 => zz RO d 2 [.ref 8, .int v9] I11 J11 D11 0 0 (zNv P fun I12 J12 D12 => zz RO d 8 [.ref 11, .int 15] I12 J12 D12 0 0 (zNv P fun I13 J13 D13 => P (.inl none) I13 J13 D13)))))))
section CForm4
variable {RO : zRo} {d : Nat} {P : zP} {I : zI} {J : zJ} {D : zD} {bc bs : Nat} {T : qTk} {k j c : Nat}
theorem t19x {p v : Int32} (hk : qFl j I) (K : ∀ I', qFl j I' → zfr [8, 9, 10, 11] I I' → P (.inl none) I' J D) : t19 RO (d + 2) P p v I J D := by
  refine ⟨fun _ => ?_, fun q => absurd (by rw [hk.2]; decide) q⟩
  refine r_2x (d := d + 1) (fun I1 f1 => ?_)
  refine r_8x (d := d) (a := 15) (by omega) (qFl_fr hk f1) (fun I2 k2 f2 => ?_)
  exact K I2 k2 (zfr_trans (zfr_811 f1) (zfr_11 f2))
theorem s19x {p : Int32} (hk : qFl j I) (K : ∀ I', qFl j I' → zfr [8, 9, 10, 11] I I' → P (.inl none) I' J D) : zz RO (d + 2) 1 [.ref 8, .int 18, .int 0] I J D 0 0 (zNi P fun v4 I4 J4 D4 => zz RO (d + 2) 16 [.ref 11, .int p] I4 J4 D4 0 0 (zNv P (t19 RO (d + 2) P p v4))) := by
  refine r_1x (d := d + 1) (fun v I1 f1 => ?_)
  have k1 := qFl_fr hk f1
  refine r_16x (d := d) k1 ?_
  exact t19x k1 (fun I2 k2 f2 => K I2 k2 (zfr_trans (zfr_811 f1) f2))
theorem qEp_of {r : Nat ⊕ (Nat × List zOp)} {I0 : zI} (f : zfr [11] I0 I) {I' : zI} (h : qEp T c r I I') : qEp T c r I0 I' := ⟨zfr_trans (zfr_11 f) h.1, by
    have z2 := h.2
    cases r with
    | inl j => exact z2
    | inr q => exact ⟨z2.1, qcN_of z2.2 f (zfr_refl _)⟩⟩
theorem r_20 {f n nest : Nat} {r : Nat ⊕ (Nat × zSt (n + 1))} (hw : qTw T) (ihS : cS RO T f) (h : pAl T.1 n (pS T.1 f n) k = some r) (h24 : T.1 k = 24) (hn : nest + n = 4) (hd : 3 * n + 3 ≤ d) (ht : qTc T I) (hc : I 8 2 = zi (c : Int)) (hck : c + 1 ≤ k) (hk : qFk T k I) (K : ∀ I', qEp T c (qMp (fun x => zkc (n + 1) x c) r) I I' → P (.inl none) I' J D) : zz RO (d + 78) 20 [.ref 11, .int (zi (nest : Int))] I J D bc bs P := by
  have hN := hw.2.1
  have hlt := qTw_lt hw (k := k) (by omega)
  refine w_20 (d := d + 77) ?_
  refine r_8t (d := d + 75) (a := 24) (by omega) hw ht hk (by omega) h24 (fun I1 k1 f1 => ?_)
  have t1 := qTc_fr ht (zfr_11 f1)
  have c1 : I1 8 2 = zi (c : Int) := by rw [f1 8 (by simp)]; exact hc
  refine r_1 (d := d + 76) (o := 24) (c := c) c1 (by omega) (fun I2 z2 f2 => ?_)
  have t2 := qTc_fr t1 (zfr_811 f2)
  have k2 := qFk_fr k1 f2
  have f02 := zfr_trans (zfr_11 f1) (zfr_811 f2)
  unfold pAl at h
  rcases pB_inv h with ⟨i, h1, e9⟩ | ⟨k9, b, h1, h⟩
  · cases e9
    refine ihS (c := c + 1) h1 hn (by omega) t2 z2.1 (by omega) (by omega) k2 (fun I3 z3 => ?_)
    refine r_1x (d := d + 76) (fun v I4 f4 => ?_)
    refine r_8x (d := d + 75) (a := 15) (by omega) (qFl_fr z3.2 f4) (fun I5 k5 f5 => ?_)
    exact K I5 ⟨zfr_trans f02 (zfr_trans z3.1 (zfr_trans (zfr_811 f4) (zfr_11 f5))), k5⟩
  · have a := pS_ok f h1
    have a0 := a.1.1
    have a2 := a.2.1 (c + 1)
    have ae : k9 ≤ 450 := by
      by_cases c9 : k + 1 = k9
      · omega
      · have := qTw_lt hw (k := k9 - 1) (by have := a.1.2 (k9 - 1) (by omega) (by omega); unfold ys xs at this; omega)
        omega
    refine ihS (c := c + 1) h1 hn (by omega) t2 z2.1 (by omega) (by omega) k2 (fun I3 z3 => ?_)
    have t3 := qTc_fr t2 z3.1
    show zz RO (d + 77) 1 [.ref 8, .int 53, .int (zi (c : Int) + 1)] I3 J D 0 0 _
    rw [zi_succ]
    refine r_1 (d := d + 76) (o := 53) (c := c + 1 + (zcat (zkc n) b (c + 1)).length) z3.2.2.1 (by omega) (fun I4 z4 f4 => ?_)
    have t4 := qTc_fr t3 (zfr_811 f4)
    have k4 := qFk_fr z3.2.1 f4
    have f9 : zfr [8, 9, 10, 11] I I4 := zfr_trans f02 (zfr_trans z3.1 (zfr_811 f4))
    have z9 : qcN c (zkc (n + 1) (.inr (.inr b)) c) I I4 := by
      have q1 := qcN_app (o := [(24, (0 : Int32))]) (c := c) z2 z3.2.2
      have q2 := qcN_app (o := [(24, (0 : Int32))] ++ zcat (zkc n) b (c + 1)) (c := c) (o2 := [(53, zi ((c + 1 : Nat) : Int))]) q1 (by
        rw [List.length_append, List.length_singleton, ← Nat.add_assoc]
        exact z4)
      exact qcN_of q2 f1 (zfr_refl _)
    by_cases c2 : T.1 k9 = 15
    · have h : (if T.1 k9 = 15 then pO (k9 + 1) (.inr (.inr b) : zSt (n + 1)) else pF k9) = some r := h
      rw [if_pos c2] at h
      cases pO_inv h
      refine r_8t (d := d + 75) (a := 15) (by omega) hw t4 k4 ae c2 (fun I5 k5 f5 => ?_)
      exact K I5 ⟨zfr_trans f9 (zfr_11 f5), k5, qcN_of z9 (zfr_refl _) f5⟩
    · have h : (if T.1 k9 = 15 then pO (k9 + 1) (.inr (.inr b) : zSt (n + 1)) else pF k9) = some r := h
      rw [if_neg c2] at h
      cases pF_inv h
      refine r_8f (d := d + 75) (a := 15) (by omega) k4 (qTw_le hw _) c2 (fun I5 k5 f5 => ?_)
      exact K I5 ⟨zfr_trans f9 (zfr_11 f5), k5⟩
theorem qS_end {n k k2 f : Nat} {l : List (zSt n)} (hw : qTw T) (hk : k ≤ 450) (h : pS T.1 f n k = pO k2 l) : k2 ≤ 450 := by
  have hN := hw.2.1
  have a := pS_ok f h
  have a0 := a.1.1
  by_cases c9 : k = k2
  · omega
  · have := qTw_lt hw (k := k2 - 1) (by have := a.1.2 (k2 - 1) (by omega) (by omega); unfold ys xs at this; omega)
    omega
theorem zfr_10 {I I1 : zI} (f : zfr [8, 9, 10, 11] I I1) (a : Nat) (x : Int32) : zfr [8, 9, 10, 11] I (zu I1 10 a x) := zfr_zu f _ _ (by simp)
theorem r_19 {f n nest : Nat} {r : Nat ⊕ (Nat × zSt (n + 1))} (hw : qTw T) (ihS : cS RO T f) (h : pIf T.1 n (pS T.1 f n) k = some r) (h18 : T.1 k = 18) (hn : nest + n = 4) (hd : 3 * n + 3 ≤ d) (ht : qTc T I) (hc : I 8 2 = zi (c : Int)) (hck : c + 1 ≤ k) (hk : qFk T k I) (K : ∀ I', qEp T c (qMp (fun x => zkc (n + 1) x c) r) I I' → P (.inl none) I' J D) : zz RO (d + 78) 19 [.ref 11, .int (zi (nest : Int))] I J D bc bs P := by
  have hN := hw.2.1
  have hlt := qTw_lt hw (k := k) (by omega)
  refine w_19 (d := d + 77) ?_
  refine r_8t (d := d + 75) (a := 18) (by omega) hw ht hk (by omega) h18 (fun I1 k1 f1 => ?_)
  have t1 := qTc_fr ht (zfr_11 f1)
  have c1 : I1 8 2 = zi (c : Int) := by rw [f1 8 (by simp)]; exact hc
  unfold pIf at h
  rcases pB_inv h with ⟨i, h1, e9⟩ | ⟨k9, o, h1, h⟩
  · cases e9
    refine r_22 (d := d + 1) (c := c) hw h1 t1 c1 (by omega) (by omega) k1 (fun I2 z2 => ?_)
    refine r_8x (d := d + 75) (a := 19) (by omega) z2.2 (fun I3 k3 f3 => ?_)
    exact s19x (d := d + 75) k3 (fun I4 k4 f4 => K I4 ⟨zfr_trans (zfr_11 f1) (zfr_trans z2.1 (zfr_trans (zfr_11 f3) f4)), k4⟩)
  · have a := tks_ex h1
    have a3 := pE_ok h1 (by omega)
    have ae := cE_end hw (by omega) a3.1
    refine r_22 (d := d + 1) (c := c) hw h1 t1 c1 (by omega) (by omega) k1 (fun I2 z2 => ?_)
    have t2 := qTc_fr t1 z2.1
    by_cases c2 : T.1 k9 = 19
    · have h : (if T.1 k9 = 19 then pB (pS T.1 f n (k9 + 1)) fun k2 t => (if T.1 k2 = 20 then pB (pS T.1 f n (k2 + 1)) fun k3 e => (if T.1 k3 = 15 then pO (k3 + 1) (.inr (.inl (o, t, some e)) : zSt (n + 1)) else pF k3) else if T.1 k2 = 15 then pO (k2 + 1) (.inr (.inl (o, t, none)) : zSt (n + 1)) else pF k2) else pF k9) = some r := h
      rw [if_pos c2] at h
      have hlt9 := qTw_lt hw (k := k9) (by omega)
      refine r_8t (d := d + 75) (a := 19) (by omega) hw t2 z2.2.1 ae c2 (fun I3 k3 f3 => ?_)
      have t3 := qTc_fr t2 (zfr_11 f3)
      have c3 : I3 8 2 = zi ((c + o.length : Nat) : Int) := by rw [f3 8 (by simp)]; exact z2.2.2.1
      refine r_1 (d := d + 76) (o := 18) (c := c + o.length) c3 (by omega) (fun I4 z4 f4 => ?_)
      have t4 := qTc_fr t3 (zfr_811 f4)
      have k4 := qFk_fr k3 f4
      have f04 : zfr [8, 9, 10, 11] I I4 := zfr_trans (zfr_11 f1) (zfr_trans z2.1 (zfr_trans (zfr_11 f3) (zfr_811 f4)))
      have z04 : qcN c (o ++ [(18, (0 : Int32))]) I I4 := qcN_app (qcN_of z2.2.2 f1 f3) z4
      show zz RO (d + 77) 16 [.ref 11, .int (zi (nest : Int))] I4 J D 0 0 (zNv P (t19 RO (d + 77) P (zi (nest : Int)) (zi ((c + o.length : Nat) : Int))))
      have c4 : I4 8 2 = zi ((c + o.length + 1 : Nat) : Int) := z4.1
      rcases pB_inv h with ⟨i, h5, e9⟩ | ⟨k5, t, h5, h⟩
      · cases e9
        refine ihS (c := c + o.length + 1) h5 hn (by omega) t4 c4 (by omega) (by omega) k4 (fun I5 z5 => ?_)
        exact t19x (d := d + 75) z5.2 (fun I6 k6 f6 => K I6 ⟨zfr_trans f04 (zfr_trans z5.1 f6), k6⟩)
      · have a5 := pS_ok f h5
        have a50 := a5.1.1
        have a52 := a5.2.1 (c + o.length + 1)
        have ae5 := qS_end hw (by omega) h5
        refine ihS (c := c + o.length + 1) h5 hn (by omega) t4 c4 (by omega) (by omega) k4 (fun I5 z5 => ?_)
        have t5 := qTc_fr t4 z5.1
        have f05 := zfr_trans f04 z5.1
        have hle5 := qTw_le hw k5
        have w5 : qFk T k5 I5 := z5.2.1
        have y5 : qcN (c + o.length + 1) (zcat (zkc n) t (c + o.length + 1)) I4 I5 := z5.2.2
        have e20 : I5 11 3 = 20 ↔ T.1 k5 = 20 := by
          rw [w5.2, show (20 : Int32) = zi ((20 : Nat) : Int) from rfl, zi_eq (by omega) (by omega)]
          omega
        have z05 : qcN c (o ++ (18, (0 : Int32)) :: zcat (zkc n) t (c + o.length + 1)) I I5 := by
          have q := qcN_app z04 (by
            rw [List.length_append, List.length_singleton, ← Nat.add_assoc]
            exact y5)
          rw [List.append_assoc] at q
          exact q
        by_cases c5 : T.1 k5 = 20
        · rw [if_pos c5] at h
          have hlt5 := qTw_lt hw (k := k5) (by omega)
          refine ⟨fun q => absurd (e20.mpr c5) q, fun _ => ?_⟩
          refine r_8t (d := d + 75) (a := 20) (by omega) hw t5 w5 ae5 c5 (fun I6 k6 f6 => ?_)
          have c6 : I6 8 2 = zi ((c + o.length + 1 + (zcat (zkc n) t (c + o.length + 1)).length : Nat) : Int) := by rw [f6 8 (by simp)]; exact y5.1
          refine r_1 (d := d + 76) (o := 20) (c := c + o.length + 1 + (zcat (zkc n) t (c + o.length + 1)).length) c6 (by omega) (fun I7 z7 f7 => ?_)
          have k7 := qFk_fr k6 f7
          have f07 : zfr [8, 9, 10, 11] I I7 := zfr_trans f05 (zfr_trans (zfr_11 f6) (zfr_811 f7))
          have z07 : qcN c (o ++ (18, (0 : Int32)) :: (zcat (zkc n) t (c + o.length + 1) ++ [(20, (0 : Int32))])) I I7 := by
            have q := qcN_app (qcN_of z05 (zfr_refl _) f6) (by
              rw [List.length_append, List.length_cons, show c + (o.length + ((zcat (zkc n) t (c + o.length + 1)).length + 1)) = c + o.length + 1 + (zcat (zkc n) t (c + o.length + 1)).length by omega]
              exact z7)
            rw [List.append_assoc, List.cons_append] at q
            exact q
          have c7 : I7 8 2 = zi ((c + o.length + 1 + (zcat (zkc n) t (c + o.length + 1)).length + 1 : Nat) : Int) := z7.1
          refine r_2 (d := d + 76) c7 (by omega) (by omega) (fun I8 e8 => ?_)
          have z08 : qcN c (o ++ (18, zi ((c + o.length + 1 + (zcat (zkc n) t (c + o.length + 1)).length + 1 : Nat) : Int)) :: (zcat (zkc n) t (c + o.length + 1) ++ [(20, (0 : Int32))])) I I8 := by
            rw [e8]
            exact qcN_land z07
          have f08 : zfr [8, 9, 10, 11] I I8 := by
            rw [e8]
            exact zfr_10 f07 _ _
          have k8 : qFk T (k5 + 1) I8 := by
            rw [e8]
            exact qFk_fr k7 (zfr_zu (zfr_refl _) _ _ (by simp))
          have c8 : I8 8 2 = zi ((c + o.length + 1 + (zcat (zkc n) t (c + o.length + 1)).length + 1 : Nat) : Int) := by
            rw [e8, zu_n _ _ (by omega)]
            exact c7
          have t8 := qTc_fr ht f08
          rcases pB_inv h with ⟨i, h9, e9⟩ | ⟨k10, e, h9, h⟩
          · cases e9
            refine ihS (c := c + o.length + 1 + (zcat (zkc n) t (c + o.length + 1)).length + 1) h9 hn (by omega) t8 c8 (by omega) (by omega) k8 (fun I9 z9 => ?_)
            refine r_2x (d := d + 76) (fun I10 f10 => ?_)
            refine r_8x (d := d + 75) (a := 15) (by omega) (qFl_fr z9.2 f10) (fun I11 k11 f11 => ?_)
            exact K I11 ⟨zfr_trans f08 (zfr_trans z9.1 (zfr_trans (zfr_811 f10) (zfr_11 f11))), k11⟩
          · have a9 := pS_ok f h9
            have a90 := a9.1.1
            have a92 := a9.2.1 (c + o.length + 1 + (zcat (zkc n) t (c + o.length + 1)).length + 1)
            have ae9 := qS_end hw (by omega) h9
            refine ihS (c := c + o.length + 1 + (zcat (zkc n) t (c + o.length + 1)).length + 1) h9 hn (by omega) t8 c8 (by omega) (by omega) k8 (fun I9 z9 => ?_)
            have w9 : qFk T k10 I9 := z9.2.1
            have y9 : qcN (c + o.length + 1 + (zcat (zkc n) t (c + o.length + 1)).length + 1) (zcat (zkc n) e (c + o.length + 1 + (zcat (zkc n) t (c + o.length + 1)).length + 1)) I8 I9 := z9.2.2
            have f09 := zfr_trans f08 z9.1
            have z09 : qcN c ((o ++ (18, zi ((c + o.length + 1 + (zcat (zkc n) t (c + o.length + 1)).length + 1 : Nat) : Int)) :: zcat (zkc n) t (c + o.length + 1)) ++ (20, (0 : Int32)) :: zcat (zkc n) e (c + o.length + 1 + (zcat (zkc n) t (c + o.length + 1)).length + 1)) I I9 := by
              have q := qcN_app z08 (by
                rw [List.length_append, List.length_cons, List.length_append, List.length_singleton, show c + (o.length + ((zcat (zkc n) t (c + o.length + 1)).length + 1 + 1)) = c + o.length + 1 + (zcat (zkc n) t (c + o.length + 1)).length + 1 by omega]
                exact y9)
              rw [List.append_assoc, List.cons_append, List.append_assoc] at q
              rw [List.append_assoc, List.cons_append]
              exact q
            refine r_2 (d := d + 76) (a := c + o.length + 1 + (zcat (zkc n) t (c + o.length + 1)).length) y9.1 (by omega) (by omega) (fun I10 e10 => ?_)
            have t10 : qTc T I10 := by
              rw [e10]
              exact qTc_fr (qTc_fr ht f09) (zfr_zu (zfr_refl _) _ _ (by simp))
            have f010 : zfr [8, 9, 10, 11] I I10 := by
              rw [e10]
              exact zfr_10 f09 _ _
            have k10' : qFk T k10 I10 := by
              rw [e10]
              exact qFk_fr w9 (zfr_zu (zfr_refl _) _ _ (by simp))
            have z10 : qcN c (zkc (n + 1) (.inr (.inl (o, t, some e))) c) I I10 := by
              have ep : c + (o ++ (18, zi ((c + o.length + 1 + (zcat (zkc n) t (c + o.length + 1)).length + 1 : Nat) : Int)) :: zcat (zkc n) t (c + o.length + 1)).length = c + o.length + 1 + (zcat (zkc n) t (c + o.length + 1)).length := by
                rw [List.length_append, List.length_cons]
                omega
              have q := qcN_land (x := zi ((c + o.length + 1 + (zcat (zkc n) t (c + o.length + 1)).length + 1 + (zcat (zkc n) e (c + o.length + 1 + (zcat (zkc n) t (c + o.length + 1)).length + 1)).length : Nat) : Int)) z09
              rw [ep, ← e10] at q
              have el : zkc (n + 1) (.inr (.inl (o, t, some e))) c = (o ++ (18, zi ((c + o.length + 1 + (zcat (zkc n) t (c + o.length + 1)).length + 1 : Nat) : Int)) :: zcat (zkc n) t (c + o.length + 1)) ++ (20, zi ((c + o.length + 1 + (zcat (zkc n) t (c + o.length + 1)).length + 1 + (zcat (zkc n) e (c + o.length + 1 + (zcat (zkc n) t (c + o.length + 1)).length + 1)).length : Nat) : Int)) :: zcat (zkc n) e (c + o.length + 1 + (zcat (zkc n) t (c + o.length + 1)).length + 1) := by
                show o ++ [(18, zi (c + o.length + 2 + (zcat (zkc n) t (c + o.length + 1)).length : Nat))] ++ zcat (zkc n) t (c + o.length + 1) ++ [(20, zi (c + o.length + 2 + (zcat (zkc n) t (c + o.length + 1)).length + (zcat (zkc n) e (c + o.length + 2 + (zcat (zkc n) t (c + o.length + 1)).length)).length : Nat))] ++ zcat (zkc n) e (c + o.length + 2 + (zcat (zkc n) t (c + o.length + 1)).length) = _
                rw [show c + o.length + 2 + (zcat (zkc n) t (c + o.length + 1)).length = c + o.length + 1 + (zcat (zkc n) t (c + o.length + 1)).length + 1 by omega]
                simp only [List.append_assoc, List.cons_append, List.nil_append]
              rw [el]
              exact q
            by_cases c10 : T.1 k10 = 15
            · have h : (if T.1 k10 = 15 then pO (k10 + 1) (.inr (.inl (o, t, some e)) : zSt (n + 1)) else pF k10) = some r := h
              rw [if_pos c10] at h
              cases pO_inv h
              refine r_8t (d := d + 75) (a := 15) (by omega) hw t10 k10' ae9 c10 (fun I11 k11 f11 => ?_)
              exact K I11 ⟨zfr_trans f010 (zfr_11 f11), k11, qcN_of z10 (zfr_refl _) f11⟩
            · have h : (if T.1 k10 = 15 then pO (k10 + 1) (.inr (.inl (o, t, some e)) : zSt (n + 1)) else pF k10) = some r := h
              rw [if_neg c10] at h
              cases pF_inv h
              refine r_8f (d := d + 75) (a := 15) (by omega) k10' (qTw_le hw _) c10 (fun I11 k11 f11 => ?_)
              exact K I11 ⟨zfr_trans f010 (zfr_11 f11), k11⟩
        · have h : (if T.1 k5 = 20 then pB (pS T.1 f n (k5 + 1)) fun k3 e => (if T.1 k3 = 15 then pO (k3 + 1) (.inr (.inl (o, t, some e)) : zSt (n + 1)) else pF k3) else if T.1 k5 = 15 then pO (k5 + 1) (.inr (.inl (o, t, none)) : zSt (n + 1)) else pF k5) = some r := h
          rw [if_neg c5] at h
          refine ⟨fun _ => ?_, fun q => absurd (fun z => c5 (e20.mp z)) q⟩
          refine r_2 (d := d + 76) (a := c + o.length) y5.1 (by omega) (by omega) (fun I6 e6 => ?_)
          have f06 : zfr [8, 9, 10, 11] I I6 := by
            rw [e6]
            exact zfr_10 f05 _ _
          have t6 := qTc_fr ht f06
          have k6 : qFk T k5 I6 := by
            rw [e6]
            exact qFk_fr w5 (zfr_zu (zfr_refl _) _ _ (by simp))
          have z6 : qcN c (zkc (n + 1) (.inr (.inl (o, t, none))) c) I I6 := by
            have q := qcN_land (x := zi ((c + o.length + 1 + (zcat (zkc n) t (c + o.length + 1)).length : Nat) : Int)) z05
            rw [← e6] at q
            have el : zkc (n + 1) (.inr (.inl (o, t, none))) c = o ++ (18, zi ((c + o.length + 1 + (zcat (zkc n) t (c + o.length + 1)).length : Nat) : Int)) :: zcat (zkc n) t (c + o.length + 1) := by
              show o ++ [(18, zi (c + o.length + 1 + (zcat (zkc n) t (c + o.length + 1)).length : Nat))] ++ zcat (zkc n) t (c + o.length + 1) = _
              simp only [List.append_assoc, List.cons_append, List.nil_append]
            rw [el]
            exact q
          by_cases c6 : T.1 k5 = 15
          · rw [if_pos c6] at h
            cases pO_inv h
            refine r_8t (d := d + 75) (a := 15) (by omega) hw t6 k6 ae5 c6 (fun I7 k7 f7 => ?_)
            exact K I7 ⟨zfr_trans f06 (zfr_11 f7), k7, qcN_of z6 (zfr_refl _) f7⟩
          · rw [if_neg c6] at h
            cases pF_inv h
            refine r_8f (d := d + 75) (a := 15) (by omega) k6 (qTw_le hw _) c6 (fun I7 k7 f7 => ?_)
            exact K I7 ⟨zfr_trans f06 (zfr_11 f7), k7⟩
    · have h : (if T.1 k9 = 19 then pB (pS T.1 f n (k9 + 1)) fun k2 t => (if T.1 k2 = 20 then pB (pS T.1 f n (k2 + 1)) fun k3 e => (if T.1 k3 = 15 then pO (k3 + 1) (.inr (.inl (o, t, some e)) : zSt (n + 1)) else pF k3) else if T.1 k2 = 15 then pO (k2 + 1) (.inr (.inl (o, t, none)) : zSt (n + 1)) else pF k2) else pF k9) = some r := h
      rw [if_neg c2] at h
      cases pF_inv h
      refine r_8f (d := d + 75) (a := 19) (by omega) z2.2.1 (qTw_le hw _) c2 (fun I3 k3 f3 => ?_)
      exact s19x (d := d + 75) k3 (fun I4 k4 f4 => K I4 ⟨zfr_trans (zfr_11 f1) (zfr_trans z2.1 (zfr_trans (zfr_11 f3) f4)), k4⟩)
end CForm4

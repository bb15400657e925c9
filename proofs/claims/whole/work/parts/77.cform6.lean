/-! ===== the class's reading: names, conditions, bodies, items ===== -/
def qEnt (T : qTk) (t : Nat) (I : zI) (J : zJ) : Prop :=
  (T.1 t = 10 ∨ T.1 t = 13 → ∀ k2 o, pEx T.1 (t + 1) = pO k2 o → ∃ a : Nat, a ≤ 450 ∧ J 6 t = (zi (a : Int)).toInt64 ∧ zcR I a (o ++ [(54, 0)])) ∧
  (T.1 t = 14 → ∀ k2 l, pS T.1 500 4 (t + 1) = pO k2 l → ∃ a : Nat, a ≤ 450 ∧ J 6 t = (zi (a : Int)).toInt64 ∧ zcR I a (zcat (zkc 4) l a ++ [(54, 0)]))
def ent (c : Nat) : Prop := c = 10 ∨ c = 13 ∨ c = 14
theorem qEnt_vac {T : qTk} {t : Nat} {I : zI} {J : zJ} (h : ¬ ent (T.1 t)) : qEnt T t I J := by
  unfold ent at h
  exact ⟨fun q => absurd q (by omega), fun q => absurd q (by omega)⟩
theorem zcR_ext {I I' : zI} {a c c2 : Nat} {L : List zOp} (h : zcR I a L) (h1 : I 8 2 = zi (c : Int)) (hc : c ≤ 450) (h2 : I' 8 2 = zi (c2 : Int)) (h3 : c ≤ c2) (h4 : c2 ≤ 450) (h5 : ∀ j, j < c → I' 9 j = I 9 j ∧ I' 10 j = I 10 j) : zcR I' a L := by
  obtain ⟨q1, n, q2, q3, q4⟩ := h
  have en : n = c := by
    rw [h1, zi_eq (by omega) (by omega)] at q2
    omega
  subst en
  refine ⟨fun k hk => ?_, c2, h2, by omega, h4⟩
  have w := h5 (a + k) (by omega)
  rw [w.1, w.2]
  exact q1 k hk
theorem qEnt_ext {T : qTk} {t : Nat} {I I' : zI} {J J' : zJ} {c c2 : Nat} (h : qEnt T t I J) (hj : J' 6 t = J 6 t) (h1 : I 8 2 = zi (c : Int)) (hc : c ≤ 450) (h2 : I' 8 2 = zi (c2 : Int)) (h3 : c ≤ c2) (h4 : c2 ≤ 450) (h5 : ∀ j, j < c → I' 9 j = I 9 j ∧ I' 10 j = I 10 j) : qEnt T t I' J' := by
  refine ⟨fun q k2 o e => ?_, fun q k2 l e => ?_⟩
  · obtain ⟨a, a0, a1, a2⟩ := h.1 q k2 o e
    exact ⟨a, a0, by rw [hj]; exact a1, zcR_ext a2 h1 hc h2 h3 h4 h5⟩
  · obtain ⟨a, a0, a1, a2⟩ := h.2 q k2 l e
    exact ⟨a, a0, by rw [hj]; exact a1, zcR_ext a2 h1 hc h2 h3 h4 h5⟩
/-- what a piece of an item leaves -/
def qIt (T : qTk) (e k c : Nat) (r : Nat ⊕ (Nat × Unit)) (I I' : zI) (J J' : zJ) : Prop := zfr [8, 9, 10, 11] I I' ∧ zfr [6] J J' ∧ match r with
  | .inl j => qFl j I'
  | .inr q => qFk T q.1 I' ∧ (k ≤ q.1 ∧ q.1 ≤ 450) ∧ (∀ t, ¬ (k ≤ t ∧ ent (T.1 t)) → J' 6 t = J 6 t) ∧ (∃ c2 : Nat, c ≤ c2 ∧ c2 + e ≤ q.1 ∧ I' 8 2 = zi (c2 : Int) ∧ ∀ j, j < c → I' 9 j = I 9 j ∧ I' 10 j = I 10 j) ∧ ∀ t, k ≤ t → t < q.1 → qEnt T t I' J'
theorem qIt_fail {T : qTk} {e k c j : Nat} {I I' : zI} {J J' : zJ} (f : zfr [8, 9, 10, 11] I I') (g : zfr [6] J J') (h : qFl j I') : qIt T e k c (.inl j) I I' J J' := ⟨f, g, h⟩
/-- a piece that yields no code -/
theorem qIt_no {T : qTk} {e k c : Nat} {r : Nat ⊕ (Nat × Unit)} {I I' : zI} {J : zJ} (f : zfr [11] I I') (h : qSt T r I') (hc : I 8 2 = zi (c : Int)) (hr : ∀ q, r = .inr q → tks T.1 (fun c => ¬ ent c) k q.1 ∧ q.1 ≤ 450 ∧ c + e ≤ q.1) : qIt T e k c r I I' J J := by
  refine ⟨zfr_11 f, zfr_refl _, ?_⟩
  cases r with
  | inl j => exact h
  | inr q =>
    obtain ⟨h1, h2, h3⟩ := hr q rfl
    refine ⟨h, ⟨h1.1, h2⟩, fun _ _ => rfl, ⟨c, Nat.le_refl _, h3, by rw [f 8 (by simp)]; exact hc, fun j _ => by rw [f 9 (by simp), f 10 (by simp)]; exact ⟨rfl, rfl⟩⟩, fun t q1 q2 => qEnt_vac (h1.2 t q1 q2)⟩
theorem qIt_app {T : qTk} {e k k1 c c1 : Nat} {r : Nat ⊕ (Nat × Unit)} {I I1 I2 : zI} {J J1 J2 : zJ} (h : qIt T e k c (.inr (k1, ())) I I1 J J1) (hc1 : I1 8 2 = zi (c1 : Int)) (hc9 : c1 ≤ 450) (h2 : qIt T e k1 c1 r I1 I2 J1 J2) : qIt T e k c r I I2 J J2 := by
  obtain ⟨f, g, a1, a2, a3, ⟨c2, a4, a5, a6, a7⟩, a8⟩ := h
  obtain ⟨f2, g2, h2⟩ := h2
  refine ⟨zfr_trans f f2, zfr_trans g g2, ?_⟩
  have a2 : k ≤ k1 ∧ k1 ≤ 450 := a2
  have a5 : c2 + e ≤ k1 := a5
  have ec : c2 = c1 := by
    rw [a6, zi_eq (by omega) (by omega)] at hc1
    omega
  subst ec
  cases r with
  | inl j => exact h2
  | inr q =>
    obtain ⟨b1, b2, b3, ⟨c3, b4, b5, b6, b7⟩, b8⟩ := h2
    have b2 : k1 ≤ q.1 ∧ q.1 ≤ 450 := b2
    refine ⟨b1, ⟨by omega, b2.2⟩, fun t ht => ?_, ⟨c3, by omega, b5, b6, fun j hj => ?_⟩, fun t q1 q2 => ?_⟩
    · rw [b3 t (fun z => ht ⟨by omega, z.2⟩)]
      exact a3 t ht
    · have w := b7 j (by omega)
      rw [w.1, w.2]
      exact a7 j hj
    · by_cases ct : t < k1
      · exact qEnt_ext (a8 t q1 ct) (b3 t (fun z => by omega)) a6 (by omega) b6 b4 (by omega) b7
      · exact b8 t (by omega) q2
/-- behind what was read, or stopped, with code and values -/
theorem qIt_len {T : qTk} {e k c k1 : Nat} {I I1 : zI} {J J1 : zJ} (h : qIt T e k c (.inr (k1, ())) I I1 J J1) : ∃ c1 : Nat, I1 8 2 = zi (c1 : Int) ∧ c1 + e ≤ k1 ∧ k1 ≤ 450 := by
  obtain ⟨f, g, a1, a2, a3, ⟨c2, a4, a5, a6, a7⟩, a8⟩ := h
  exact ⟨c2, a6, a5, a2.2⟩
def tBd (RO : zRo) (d : Nat) (P : zP) : zI → zJ → zD → Prop := fun I5 J5 D5 => zz RO d 12 [.ref 11, .int 14] I5 J5 D5 0 0 (zNv P fun I6 J6 D6 => zz RO d 16 [.ref 11, .int 0] I6 J6 D6 0 0 (zNv P fun I7 J7 D7 => zz RO d 1 [.ref 8, .int 54, .int 0] I7 J7 D7 0 0 (zNi P fun _ I8 J8 D8 => zz RO d 8 [.ref 11, .int 15] I8 J8 D8 0 0 (zNv P fun I9 J9 D9 => P (.inl none) I9 J9 D9))))
def tAc (RO : zRo) (d : Nat) (P : zP) : zI → zJ → zD → Prop := fun I J D => (¬ (I 11 3) = 13 → tBd RO d P I J D) ∧ (¬ (¬ (I 11 3) = 13) → zz RO d 11 [.ref 11, .int 13] I J D 0 0 (zNv P (tBd RO d P)))
section CForm6
variable {RO : zRo} {d : Nat} {P : zP} {I : zI} {J : zJ} {D : zD} {bc bs : Nat} {T : qTk} {k j c : Nat}
theorem r_15_13 {r : Nat ⊕ (Nat × Unit)} (hw : qTw T) : ∀ {f i k : Nat} {I : zI}, pNs T.1 f k = some r → qTc T I → i + 1 ≤ k → k ≤ 450 → qFk T k I → (∀ I', qSt T r I' → zfr [11] I I' → P (.inl none) I' J D) → zw RO (d + 2) 15 P 13 [(0, .ref 11), (1, .int (zi (i : Int)))] [] I J D bc bs
  | 0, _, _, _, h, _, _, _, _, _ => by cases h
  | f + 1, i, k, I, h, ht, hi, hk9, hk, K => by
    have hN := hw.2.1
    have hle := qTw_le hw k
    unfold pNs at h
    have e38 : I 11 3 = 38 ↔ T.1 k = 38 := by
      rw [hk.2, show (38 : Int32) = zi ((38 : Nat) : Int) from rfl, zi_eq (by omega) (by omega)]
      omega
    refine wl_15_13 ⟨fun q => absurd q (by rw [show (450 : Int32) = zi 450 from rfl, zi_le (by omega) (by omega)]; omega), fun _ => ?_⟩
    by_cases c1 : T.1 k = 38
    · rw [if_pos c1] at h
      have hlt := qTw_lt hw (k := k) (by omega)
      refine ⟨fun q => absurd (e38.mpr c1) q, fun _ => ?_⟩
      refine r_8t (d := d) (a := 38) (by omega) hw ht hk (by omega) c1 (fun I1 k1 f1 => ?_)
      have t1 := qTc_fr ht (zfr_11 f1)
      by_cases c2 : T.1 (k + 1) = 2
      · have h : pB (if T.1 (k + 1) = 2 then pO (k + 1 + 1) () else pF (k + 1)) (fun k1 _ => pNs T.1 f k1) = some r := h
        rw [if_pos c2] at h
        have hlt2 := qTw_lt hw (k := k + 1) (by omega)
        refine r_8t (d := d) (a := 2) (by omega) hw t1 k1 (by omega) c2 (fun I2 k2 f2 => ?_)
        rw [zi_succ]
        exact r_15_13 hw (f := f) (i := i + 1) (k := k + 1 + 1) h (qTc_fr t1 (zfr_11 f2)) (by omega) (by omega) k2 (fun I3 k3 f3 => K I3 k3 (zfr_trans f1 (zfr_trans f2 f3)))
      · have h : pB (if T.1 (k + 1) = 2 then pO (k + 1 + 1) () else pF (k + 1)) (fun k1 _ => pNs T.1 f k1) = some r := h
        rw [if_neg c2] at h
        cases h
        refine r_8f (d := d) (a := 2) (by omega) k1 (qTw_le hw _) c2 (fun I2 k2 f2 => ?_)
        rw [zi_succ]
        refine wl_15_13 ⟨fun q => absurd q (by rw [show (450 : Int32) = zi 450 from rfl, zi_le (by omega) (by omega)]; omega), fun _ => ⟨fun _ => ?_, fun q => absurd (by rw [k2.2]; decide) q⟩⟩
        exact r_8x (d := d) (a := 39) (by omega) k2 (fun I3 k3 f3 => K I3 k3 (zfr_trans f1 (zfr_trans f2 f3)))
    · rw [if_neg c1] at h
      refine ⟨fun _ => ?_, fun q => absurd (fun z => c1 (e38.mp z)) q⟩
      exact r_8 (d := d) (a := 39) (by omega) hw h ht hk (fun I2 z2 => K I2 z2.2 z2.1)
theorem r_15 {r : Nat ⊕ (Nat × Unit)} (hw : qTw T) (h : pPh T.1 k = some r) (ht : qTc T I) (hk : qFk T k I) (K : ∀ I', qSt T r I' → zfr [11] I I' → P (.inl none) I' J D) : zz RO (d + 3) 15 [.ref 11] I J D bc bs P := by
  have hN := hw.2.1
  unfold pPh at h
  refine w_15 ?_
  by_cases c1 : T.1 k = 40
  · have hlt := qTw_lt hw (k := k) (by omega)
    refine r_8t (d := d) (a := 40) (by omega) hw ht hk (by omega) c1 (fun I1 k1 f1 => ?_)
    have t1 := qTc_fr ht (zfr_11 f1)
    have h : pB (if T.1 k = 40 then pO (k + 1) () else pF k) (fun k1 _ => pB (pT T.1 2 k1) fun k2 _ => pNs T.1 500 k2) = some r := h
    rw [if_pos c1] at h
    by_cases c2 : T.1 (k + 1) = 2
    · have h : pB (if T.1 (k + 1) = 2 then pO (k + 1 + 1) () else pF (k + 1)) (fun k2 _ => pNs T.1 500 k2) = some r := h
      rw [if_pos c2] at h
      have hlt2 := qTw_lt hw (k := k + 1) (by omega)
      refine r_8t (d := d) (a := 2) (by omega) hw t1 k1 (by omega) c2 (fun I2 k2 f2 => ?_)
      exact r_15_13 hw (f := 500) (i := 0) (k := k + 1 + 1) h (qTc_fr t1 (zfr_11 f2)) (by omega) (by omega) k2 (fun I3 k3 f3 => K I3 k3 (zfr_trans f1 (zfr_trans f2 f3)))
    · have h : pB (if T.1 (k + 1) = 2 then pO (k + 1 + 1) () else pF (k + 1)) (fun k2 _ => pNs T.1 500 k2) = some r := h
      rw [if_neg c2] at h
      cases h
      refine r_8f (d := d) (a := 2) (by omega) k1 (qTw_le hw _) c2 (fun I2 k2 f2 => ?_)
      refine wl_15_13 ⟨fun q => absurd q (by decide), fun _ => ⟨fun _ => ?_, fun q => absurd (by rw [k2.2]; decide) q⟩⟩
      exact r_8x (d := d) (a := 39) (by omega) k2 (fun I3 k3 f3 => K I3 k3 (zfr_trans f1 (zfr_trans f2 f3)))
  · have h : pB (if T.1 k = 40 then pO (k + 1) () else pF k) (fun k1 _ => pB (pT T.1 2 k1) fun k2 _ => pNs T.1 500 k2) = some r := h
    rw [if_neg c1] at h
    cases h
    refine r_8f (d := d) (a := 40) (by omega) hk (qTw_le hw _) c1 (fun I1 k1 f1 => ?_)
    refine r_8x (d := d) (a := 2) (by omega) k1 (fun I2 k2 f2 => ?_)
    refine wl_15_13 ⟨fun q => absurd q (by decide), fun _ => ⟨fun _ => ?_, fun q => absurd (by rw [k2.2]; decide) q⟩⟩
    exact r_8x (d := d) (a := 39) (by omega) k2 (fun I3 k3 f3 => K I3 k3 (zfr_trans f1 (zfr_trans f2 f3)))
/-- a keyword that the meaning finds the code by -/
theorem r_12t {a : Nat} (ha : 2 ≤ a ∧ a ≤ 100) (hw : qTw T) (ht : qTc T I) (hc : I 8 2 = zi (c : Int)) (hk : qFk T k I) (hs : T.1 k = a) (K : ∀ I', qFk T (k + 1) I' → zfr [11] I I' → P (.inl none) I' (zu J 6 k (zi (c : Int)).toInt64) D) : zz RO (d + 3) 12 [.ref 11, .int (zi (a : Int))] I J D bc bs P := by
  have hN := hw.2.1
  have hlt := qTw_lt hw (k := k) (by omega)
  refine w_12 ⟨fun q => absurd (by rw [hk.2, hs]) q, fun _ => ?_⟩
  rw [hk.1, hc]
  refine w_96 (d := d + 1) ?_
  rw [ht.1, show (451 : Int32) = zi 451 from rfl, show (0 : Int32) = zi ((0 : Nat) : Int) from rfl, zi_cl (by omega) (by omega), show ((k : Nat) : Int).toNat = k by omega]
  refine ⟨fun q => absurd q (by rw [zi_lt (by omega) (by omega)]; omega), fun _ => ⟨fun q => absurd q (by rw [zi_le (by omega) (by omega)]; omega), fun _ => ⟨fun q => absurd q (by rw [zi_le (by omega) (by omega)]; omega), fun _ => ?_⟩⟩⟩
  exact r_8t (d := d) (by omega) hw ht hk (by omega) hs (fun I1 k1 f1 => K I1 k1 f1)
theorem r_12f {a : Nat} (ha : 2 ≤ a ∧ a ≤ 100) (hw : qTw T) (hk : qFk T k I) (hs : ¬ T.1 k = a) (K : ∀ I', qFl k I' → zfr [11] I I' → P (.inl none) I' J D) : zz RO (d + 3) 12 [.ref 11, .int (zi (a : Int))] I J D bc bs P := by
  have hle := qTw_le hw k
  refine w_12 ⟨fun _ => ?_, fun q => absurd (by rw [hk.2, zi_eq (by omega) (by omega)]; omega) q⟩
  exact r_8f (d := d) (by omega) hk hle hs (fun I1 k1 f1 => K I1 k1 f1)
theorem r_12x {a : Nat} (ha : 2 ≤ a ∧ a ≤ 100) (hk : qFl j I) (K : ∀ I', qFl j I' → zfr [11] I I' → P (.inl none) I' J D) : zz RO (d + 3) 12 [.ref 11, .int (zi (a : Int))] I J D bc bs P := by
  refine w_12 ⟨fun _ => ?_, fun q => absurd (by rw [hk.2, show (0 : Int32) = zi ((0 : Nat) : Int) from rfl, zi_eq (by omega) (by omega)]; omega) q⟩
  exact r_8x (d := d) (by omega) hk (fun I1 k1 f1 => K I1 k1 f1)
end CForm6
section CForm7
variable {RO : zRo} {d : Nat} {P : zP} {I : zI} {J : zJ} {D : zD} {bc bs : Nat} {T : qTk} {k j c : Nat}
/-- a condition: the keyword, the expression, the end of its code -/
theorem r_11 {a e : Nat} {r : Nat ⊕ (Nat × Unit)} (ha : a = 10 ∨ a = 13) (hw : qTw T) (hs : T.1 k = a) (h : pB (pEx T.1 (k + 1)) (fun k1 _ => pO k1 ()) = some r) (ht : qTc T I) (hc : I 8 2 = zi (c : Int)) (hck : c + e ≤ k) (hk : qFk T k I) (K : ∀ I' J', qIt T e k c r I I' J J' → P (.inl none) I' J' D) : zz RO (d + 77) 11 [.ref 11, .int (zi (a : Int))] I J D bc bs P := by
  have hN := hw.2.1
  have hlt := qTw_lt hw (k := k) (by omega)
  refine w_11 (d := d + 76) ?_
  refine r_12t (d := d + 73) (by omega) hw ht hc hk hs (fun I1 k1 f1 => ?_)
  have t1 := qTc_fr ht (zfr_11 f1)
  have c1 : I1 8 2 = zi (c : Int) := by rw [f1 8 (by simp)]; exact hc
  have g1 : zfr [6] J (zu J 6 k (zi (c : Int)).toInt64) := zfr_zu (zfr_refl _) _ _ (by simp)
  rcases pB_inv h with ⟨i, h1, e9⟩ | ⟨k9, o, h1, h⟩
  · cases e9
    refine r_22 (d := d) (c := c) hw h1 t1 c1 (by omega) (by omega) k1 (fun I2 z2 => ?_)
    refine r_1x (d := d + 75) (fun v I3 f3 => ?_)
    exact K I3 _ (qIt_fail (zfr_trans (zfr_11 f1) (zfr_trans z2.1 (zfr_811 f3))) g1 (qFl_fr z2.2 f3))
  · cases pO_inv h
    have a1 := tks_ex h1
    have a3 := pE_ok h1 (by omega)
    have ae := cE_end hw (by omega) a3.1
    refine r_22 (d := d) (c := c) hw h1 t1 c1 (by omega) (by omega) k1 (fun I2 z2 => ?_)
    have w2 : qFk T k9 I2 := z2.2.1
    have y2 : qcN c o I1 I2 := z2.2.2
    refine r_1 (d := d + 75) (o := 54) (c := c + o.length) y2.1 (by omega) (fun I3 z3 f3 => ?_)
    have z9 : qcN c (o ++ [(54, (0 : Int32))]) I1 I3 := qcN_app y2 z3
    refine K I3 _ ⟨zfr_trans (zfr_11 f1) (zfr_trans z2.1 (zfr_811 f3)), g1, qFk_fr w2 f3, ⟨by show k ≤ k9; omega, ae⟩, fun t ht9 => ?_, ⟨c + o.length + 1, by omega, by show c + o.length + 1 + e ≤ k9; omega, z3.1, fun j hj => ?_⟩, fun t q1 q2 => ?_⟩
    · refine zu_n _ _ (fun ee => ht9 ⟨by omega, ?_⟩)
      rw [ee.2, hs]
      unfold ent
      omega
    · have w := z9.2.1 j hj
      rw [w.1, w.2, f1 9 (by simp), f1 10 (by simp)]
      exact ⟨rfl, rfl⟩
    · have q2 : t < k9 := q2
      by_cases ct : t = k
      · subst ct
        refine ⟨fun _ k2 o2 ee => ?_, fun ee => by omega⟩
        rw [h1] at ee
        cases ee
        refine ⟨c, by omega, zu_s _ _ _ _, fun j hj => z9.2.2 j hj, c + o.length + 1, z3.1, ?_, by omega⟩
        rw [List.length_append, List.length_singleton]
        omega
      · refine qEnt_vac (fun ee => ?_)
        have := a1.1.2 t (by omega) q2
        unfold ys xs at this
        unfold ent at ee
        omega
/-- do: the keyword, the statements, the end of their code, end -/
theorem tBd_ok {r : Nat ⊕ (Nat × Unit)} (hw : qTw T) (h : pBd T.1 k = some r) (ht : qTc T I) (hc : I 8 2 = zi (c : Int)) (hck : c + 1 ≤ k) (hk : qFk T k I) (K : ∀ I' J', qIt T 1 k c r I I' J J' → P (.inl none) I' J' D) : tBd RO (d + 92) P I J D := by
  have hN := hw.2.1
  unfold pBd at h
  by_cases c0 : T.1 k = 14
  · rw [if_pos c0] at h
    have hlt := qTw_lt hw (k := k) (by omega)
    refine r_12t (d := d + 89) (a := 14) (by omega) hw ht hc hk c0 (fun I1 k1 f1 => ?_)
    have t1 := qTc_fr ht (zfr_11 f1)
    have c1 : I1 8 2 = zi (c : Int) := by rw [f1 8 (by simp)]; exact hc
    have g1 : zfr [6] J (zu J 6 k (zi (c : Int)).toInt64) := zfr_zu (zfr_refl _) _ _ (by simp)
    rcases pB_inv h with ⟨i, h1, e9⟩ | ⟨k9, l, h1, h⟩
    · cases e9
      refine r_16 (d := d) (c := c) hw h1 t1 c1 (by omega) (by omega) k1 (fun I2 z2 => ?_)
      refine r_1x (d := d + 91) (fun v I3 f3 => ?_)
      refine r_8x (d := d + 90) (a := 15) (by omega) (qFl_fr z2.2 f3) (fun I4 k4 f4 => ?_)
      exact K I4 _ (qIt_fail (zfr_trans (zfr_11 f1) (zfr_trans z2.1 (zfr_trans (zfr_811 f3) (zfr_11 f4)))) g1 k4)
    · have a1 := pS_ok 500 h1
      have a2 := a1.2.1 c
      have a0 := a1.1.1
      have ae := qS_end hw (by omega) h1
      refine r_16 (d := d) (c := c) hw h1 t1 c1 (by omega) (by omega) k1 (fun I2 z2 => ?_)
      have w2 : qFk T k9 I2 := z2.2.1
      have y2 : qcN c (zcat (zkc 4) l c) I1 I2 := z2.2.2
      have t2 := qTc_fr t1 z2.1
      refine r_1 (d := d + 91) (o := 54) (c := c + (zcat (zkc 4) l c).length) y2.1 (by omega) (fun I3 z3 f3 => ?_)
      have z9 : qcN c (zcat (zkc 4) l c ++ [(54, (0 : Int32))]) I1 I3 := qcN_app y2 z3
      have t3 := qTc_fr t2 (zfr_811 f3)
      have f03 := zfr_trans (zfr_11 f1) (zfr_trans z2.1 (zfr_811 f3))
      refine r_8 (d := d + 90) (a := 15) (by omega) hw h t3 (qFk_fr w2 f3) (fun I4 z4 => ?_)
      rcases r with j | q
      · exact K I4 _ (qIt_fail (zfr_trans f03 (zfr_11 z4.1)) g1 z4.2)
      · have eq9 : T.1 k9 = 15 ∧ q.1 = k9 + 1 := by
          have h : (if T.1 k9 = 15 then pO (k9 + 1) () else pF k9) = some (.inr q) := h
          by_cases c9 : T.1 k9 = 15
          · rw [if_pos c9] at h
            have := pO_inv h
            cases this
            exact ⟨c9, rfl⟩
          · rw [if_neg c9] at h
            cases h
        have hl9 := qTw_lt hw (k := k9) (by omega)
        have e8 : I4 8 = I3 8 := z4.1 8 (by simp)
        have z10 := qcN_of z9 (zfr_refl _) z4.1
        refine K I4 _ ⟨zfr_trans f03 (zfr_11 z4.1), g1, z4.2, ⟨by omega, by omega⟩, fun t ht9 => ?_, ⟨c + (zcat (zkc 4) l c).length + 1, by omega, by omega, by rw [e8]; exact z3.1, fun j hj => ?_⟩, fun t q1 q2 => ?_⟩
        · refine zu_n _ _ (fun e => ht9 ⟨by omega, ?_⟩)
          rw [e.2, c0]
          unfold ent
          omega
        · have w := z10.2.1 j hj
          rw [w.1, w.2, f1 9 (by simp), f1 10 (by simp)]
          exact ⟨rfl, rfl⟩
        · by_cases ct : t = k
          · subst ct
            refine ⟨fun e => by omega, fun _ k2 o2 e => ?_⟩
            rw [h1] at e
            cases e
            refine ⟨c, by omega, zu_s _ _ _ _, fun j hj => z10.2.2 j hj, c + (zcat (zkc 4) l c).length + 1, by rw [e8]; exact z3.1, ?_, by omega⟩
            rw [List.length_append, List.length_singleton]
            omega
          · refine qEnt_vac (fun e => ?_)
            unfold ent at e
            by_cases ct2 : t < k9
            · have := a1.1.2 t (by omega) ct2
              unfold ys xs at this
              omega
            · have : t = k9 := by omega
              rw [this] at e
              omega
  · rw [if_neg c0] at h
    cases pF_inv h
    refine r_12f (d := d + 89) (a := 14) (by omega) hw hk c0 (fun I1 k1 f1 => ?_)
    refine r_16x (d := d + 90) k1 ?_
    refine r_1x (d := d + 91) (fun v I3 f3 => ?_)
    refine r_8x (d := d + 90) (a := 15) (by omega) (qFl_fr k1 f3) (fun I4 k4 f4 => ?_)
    exact K I4 _ (qIt_fail (zfr_trans (zfr_11 f1) (zfr_trans (zfr_811 f3) (zfr_11 f4))) (zfr_refl _) k4)
theorem tBd_x (hk : qFl j I) (K : ∀ I', qFl j I' → zfr [8, 9, 10, 11] I I' → P (.inl none) I' J D) : tBd RO (d + 92) P I J D := by
  refine r_12x (d := d + 89) (a := 14) (by omega) hk (fun I1 k1 f1 => ?_)
  refine r_16x (d := d + 90) k1 ?_
  refine r_1x (d := d + 91) (fun v I3 f3 => ?_)
  refine r_8x (d := d + 90) (a := 15) (by omega) (qFl_fr k1 f3) (fun I4 k4 f4 => ?_)
  exact K I4 k4 (zfr_trans (zfr_11 f1) (zfr_trans (zfr_811 f3) (zfr_11 f4)))
theorem tAc_ok {r : Nat ⊕ (Nat × Unit)} (hw : qTw T) (h : pAc T.1 k = some r) (ht : qTc T I) (hc : I 8 2 = zi (c : Int)) (hck : c + 1 ≤ k) (hk : qFk T k I) (K : ∀ I' J', qIt T 1 k c r I I' J J' → P (.inl none) I' J' D) : tAc RO (d + 92) P I J D := by
  have hN := hw.2.1
  have hle := qTw_le hw k
  have e13 : I 11 3 = 13 ↔ T.1 k = 13 := by
    rw [hk.2, show (13 : Int32) = zi ((13 : Nat) : Int) from rfl, zi_eq (by omega) (by omega)]
    omega
  unfold pAc at h
  by_cases c0 : T.1 k = 13
  · rw [if_pos c0] at h
    refine ⟨fun q => absurd (e13.mpr c0) q, fun _ => ?_⟩
    rw [show pB (pEx T.1 (k + 1)) (fun k1 _ => pBd T.1 k1) = pB (pEx T.1 (k + 1)) (fun k1 _ => pB (pO k1 ()) (fun k1 _ => pBd T.1 k1)) from rfl, pB_assoc] at h
    obtain ⟨r1, h1⟩ := pB_some h
    rw [h1] at h
    refine r_11 (d := d + 15) (a := 13) (e := 1) (c := c) (by omega) hw c0 h1 ht hc (by omega) hk (fun I1 J1 z1 => ?_)
    rcases r1 with j | ⟨k1, u⟩
    · cases h
      obtain ⟨f1, g1, w1⟩ := z1
      exact tBd_x (d := d) w1 (fun I2 k2 f2 => K I2 _ (qIt_fail (zfr_trans f1 f2) g1 k2))
    · have h : pBd T.1 k1 = some r := h
      obtain ⟨c1, l1, l2, l3⟩ := qIt_len z1
      refine tBd_ok (d := d) (c := c1) hw h (qTc_fr ht z1.1) l1 l2 z1.2.2.1 (fun I2 J2 z2 => ?_)
      exact K I2 J2 (qIt_app z1 l1 (by omega) z2)
  · rw [if_neg c0] at h
    refine ⟨fun _ => ?_, fun q => absurd (fun z => c0 (e13.mp z)) q⟩
    exact tBd_ok (d := d) (c := c) hw h ht hc hck hk K
theorem tAc_x (hk : qFl j I) (K : ∀ I', qFl j I' → zfr [8, 9, 10, 11] I I' → P (.inl none) I' J D) : tAc RO (d + 92) P I J D :=
  ⟨fun _ => tBd_x hk K, fun q => absurd (by rw [hk.2]; decide) q⟩
end CForm7

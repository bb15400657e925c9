/-! ===== the class's reading: rows of statements; whole numbers, ranges, names ===== -/
def cSL (RO : zRo) (T : qTk) (f : Nat) : Prop := ∀ {n nest k c d i bc bs : Nat} {r : Nat ⊕ (Nat × List (zSt n))} {I : zI} {J : zJ} {D : zD} {P : zP}, pS T.1 f n k = some r → nest + n = 4 → 3 * n + 78 ≤ d → qTc T I → I 8 2 = zi (c : Int) → c + 1 ≤ k → k ≤ 450 → i + 1 ≤ k → qFk T k I → (∀ I', qEp T c (qMp (fun l => zcat (zkc n) l c) r) I I' → P (.inl none) I' J D) → zw RO (d + 1) 16 P 2 [(0, .ref 11), (1, .int (zi (nest : Int))), (2, .int (zi (i : Int)))] [] I J D bc bs
section CForm5
variable {RO : zRo} {d : Nat} {P : zP} {I : zI} {J : zJ} {D : zD} {bc bs : Nat} {T : qTk} {k j c : Nat}
theorem cS_of {f : Nat} (h : cSL RO T f) : cS RO T f := by
  intro n nest k c e bc bs r I J D P h1 hn he ht hc hck hk9 hk K
  obtain ⟨d, rfl⟩ : ∃ d, e = d + 2 := ⟨e - 2, by omega⟩
  exact w_16 (h (i := 0) h1 hn (by omega) ht hc hck hk9 (by omega) hk K)
theorem r_18 {f n nest e : Nat} {r : Nat ⊕ (Nat × zSt n)} (hw : qTw T) (ihS : cS RO T f) (h : pStm T.1 (pS T.1 f) n k = some r) (hb : bst (T.1 k)) (hn : nest + n = 4) (he : 3 * n + 79 ≤ e) (ht : qTc T I) (hc : I 8 2 = zi (c : Int)) (hck : c + 1 ≤ k) (hk : qFk T k I) (K : ∀ I', qEp T c (qMp (fun x => zkc n x c) r) I I' → P (.inl none) I' J D) : zz RO e 18 [.ref 11, .int (zi (T.1 k : Int)), .int (zi (nest : Int))] I J D bc bs P := by
  obtain ⟨d, rfl⟩ : ∃ d, e = d + 79 := ⟨e - 79, by omega⟩
  have hle := qTw_le hw k
  have E : ∀ a : Nat, a ≤ 100 → (zi (T.1 k : Int) = zi (a : Int) ↔ T.1 k = a) := fun a ha => by
    rw [zi_eq (by omega) (by omega)]
    omega
  have e18 : zi (T.1 k : Int) = 18 ↔ T.1 k = 18 := E 18 (by omega)
  have e24 : zi (T.1 k : Int) = 24 ↔ T.1 k = 24 := E 24 (by omega)
  cases n with
  | zero =>
    have h : (if T.1 k = 18 ∨ T.1 k = 24 then pF k else pSt T.1 0 k) = some r := h
    by_cases c1 : T.1 k = 18 ∨ T.1 k = 24
    · rw [if_pos c1] at h
      cases pF_inv h
      have n4 : ¬ zi (nest : Int) < 4 := by
        rw [show (4 : Int32) = zi 4 from rfl, zi_lt (by omega) (by omega)]
        omega
      by_cases c2 : T.1 k = 18
      · refine w_18 (d := d + 78) ⟨fun _ => ⟨fun q => absurd q n4, fun _ => ?_⟩, fun q => absurd (e18.mpr c2) q⟩
        exact r_9 (d := d + 77) hk.1 (fun I1 k1 f1 => K I1 ⟨zfr_11 f1, k1⟩)
      · refine w_18 (d := d + 78) ⟨fun q => absurd (e18.mp q) c2, fun _ => ⟨fun q => absurd (e24.mpr (by omega)) q, fun _ => ⟨fun q => absurd q n4, fun _ => ?_⟩⟩⟩
        exact r_9 (d := d + 77) hk.1 (fun I1 k1 f1 => K I1 ⟨zfr_11 f1, k1⟩)
    · rw [if_neg c1] at h
      exact r_18s hw hb (by omega) h ht hc hck hk K
  | succ n =>
    have h : (if T.1 k = 18 then pIf T.1 n (pS T.1 f n) k else if T.1 k = 24 then pAl T.1 n (pS T.1 f n) k else pSt T.1 (n + 1) k) = some r := h
    have n4 : zi (nest : Int) < 4 := by
      rw [show (4 : Int32) = zi 4 from rfl, zi_lt (by omega) (by omega)]
      omega
    by_cases c2 : T.1 k = 18
    · rw [if_pos c2] at h
      refine w_18 (d := d + 78) ⟨fun _ => ⟨fun _ => ?_, fun q => absurd n4 q⟩, fun q => absurd (e18.mpr c2) q⟩
      rw [zi_succ]
      exact r_19 (c := c) hw ihS h c2 (by omega) (by omega) ht hc hck hk (fun I1 z1 => K I1 z1)
    · rw [if_neg c2] at h
      by_cases c3 : T.1 k = 24
      · rw [if_pos c3] at h
        refine w_18 (d := d + 78) ⟨fun q => absurd (e18.mp q) c2, fun _ => ⟨fun q => absurd (e24.mpr c3) q, fun _ => ⟨fun _ => ?_, fun q => absurd n4 q⟩⟩⟩
        rw [zi_succ]
        exact r_20 (c := c) hw ihS h c3 (by omega) (by omega) ht hc hck hk (fun I1 z1 => K I1 z1)
      · rw [if_neg c3] at h
        exact r_18s hw hb ⟨c2, c3⟩ h ht hc hck hk K
theorem cSL_step {f : Nat} (hw : qTw T) (ih : cSL RO T f) : cSL RO T (f + 1) := by
  intro n nest k c d i bc bs r I J D P h hn hd ht hc hck hk9 hi hk K
  have hN := hw.2.1
  have hle := qTw_le hw k
  unfold pS at h
  refine wl_16_2 ⟨fun q => absurd q (by rw [show (450 : Int32) = zi 450 from rfl, zi_le (by omega) (by omega)]; omega), fun _ => ?_⟩
  rw [hk.2]
  have e17 := n_17 (I := I) (J := J) hle
  by_cases c1 : bst (T.1 k)
  · rw [if_pos c1] at h
    refine ⟨fun q => absurd c1 (e17.mp q), fun _ => ?_⟩
    have hlt := qTw_lt hw (k := k) (by unfold bst at c1; omega)
    rcases pB_inv h with ⟨j, h1, e9⟩ | ⟨k1, x, h1, h⟩
    · cases e9
      refine r_18 (c := c) hw (cS_of ih) h1 c1 hn (by omega) ht hc hck hk (fun I1 z1 => ?_)
      rw [zi_succ]
      have K1 : P (.inl none) I1 J D := K I1 z1
      exact r_16_2x (by omega) z1.2 K1
    · have a := pStm_ok (pS_ok f) c1 h1
      have a2 := a.2.2 c
      have a0 := a.1.1
      have ae : k1 ≤ 450 := by
        have := qTw_lt hw (k := k1 - 1) (by have := a.1.2 (k1 - 1) (by omega) (by omega); unfold ys xs at this; omega)
        omega
      refine r_18 (c := c) hw (cS_of ih) h1 c1 hn (by omega) ht hc hck hk (fun I1 z1 => ?_)
      rw [zi_succ]
      have t1 := qTc_fr ht z1.1
      have w1 : qFk T k1 I1 := z1.2.1
      have y1 : qcN c (zkc n x c) I I1 := z1.2.2
      rcases pB_inv h with ⟨j, h3, e9⟩ | ⟨k3, l, h3, h⟩
      · cases e9
        exact ih (c := c + (zkc n x c).length) h3 hn hd t1 y1.1 (by omega) ae (by omega) w1 (fun I2 z2 => K I2 ⟨zfr_trans z1.1 z2.1, z2.2⟩)
      · cases pO_inv h
        exact ih (c := c + (zkc n x c).length) h3 hn hd t1 y1.1 (by omega) ae (by omega) w1 (fun I2 z2 => K I2 ⟨zfr_trans z1.1 z2.1, z2.2.1, qcN_app y1 z2.2.2⟩)
  · rw [if_neg c1] at h
    cases pO_inv h
    exact ⟨fun _ => K I ⟨zfr_refl _, hk, qcN_nil hc⟩, fun q => absurd (e17.mpr c1) q⟩
theorem cS_all (hw : qTw T) (f : Nat) : cSL RO T f := by
  induction f with
  | zero =>
    intro n nest k c d i bc bs r I J D P h
    cases h
  | succ f ih => exact cSL_step hw ih
/-- the statements of a body -/
theorem r_16 {r : Nat ⊕ (Nat × List (zSt 4))} (hw : qTw T) (h : pS T.1 500 4 k = some r) (ht : qTc T I) (hc : I 8 2 = zi (c : Int)) (hck : c + 1 ≤ k) (hk9 : k ≤ 450) (hk : qFk T k I) (K : ∀ I', qEp T c (qMp (fun l => zcat (zkc 4) l c) r) I I' → P (.inl none) I' J D) : zz RO (d + 92) 16 [.ref 11, .int 0] I J D bc bs P :=
  cS_of (cS_all hw 500) (nest := 0) (c := c) h (by omega) (by omega) ht hc hck hk9 hk K
/-! what reads no code: a result of units -/
def qEu (T : qTk) (r : Nat ⊕ (Nat × Unit)) (I I' : zI) : Prop := zfr [11] I I' ∧ match r with
  | .inl j => qFl j I'
  | .inr q => qFk T q.1 I'
theorem r_8 {a : Nat} {r : Nat ⊕ (Nat × Unit)} (ha : 2 ≤ a ∧ a ≤ 100) (hw : qTw T) (h : pT T.1 a k = some r) (ht : qTc T I) (hk : qFk T k I) (K : ∀ I', qEu T r I I' → P (.inl none) I' J D) : zz RO (d + 2) 8 [.ref 11, .int (zi (a : Int))] I J D bc bs P := by
  have hN := hw.2.1
  unfold pT at h
  by_cases c1 : T.1 k = a
  · rw [if_pos c1] at h
    cases pO_inv h
    have hlt := qTw_lt hw (k := k) (by omega)
    exact r_8t (by omega) hw ht hk (by omega) c1 (fun I1 k1 f1 => K I1 ⟨f1, k1⟩)
  · rw [if_neg c1] at h
    cases pF_inv h
    exact r_8f (by omega) hk (qTw_le hw _) c1 (fun I1 k1 f1 => K I1 ⟨f1, k1⟩)
/-- from a state read up to k, or stopped -/
def qSt (T : qTk) (r : Nat ⊕ (Nat × Unit)) (I : zI) : Prop := match r with
  | .inl j => qFl j I
  | .inr q => qFk T q.1 I
/-- a step behind what was read, or nothing where it has stopped -/
theorem r_8n {a : Nat} {r r2 : Nat ⊕ (Nat × Unit)} (ha : 2 ≤ a ∧ a ≤ 100) (hw : qTw T) (h : pB (some r) (fun k _ => pT T.1 a k) = some r2) (ht : qTc T I) (hk : qSt T r I) (K : ∀ I', qSt T r2 I' → zfr [11] I I' → P (.inl none) I' J D) : zz RO (d + 2) 8 [.ref 11, .int (zi (a : Int))] I J D bc bs P := by
  rcases r with j | q
  · cases h
    exact r_8x (by omega) hk (fun I1 k1 f1 => K I1 k1 f1)
  · exact r_8 ha hw h ht hk (fun I1 z1 => K I1 z1.2 z1.1)
theorem pB_some {α β : Type} {r : zRs α} {f : Nat → α → zRs β} {x : Nat ⊕ (Nat × β)} (h : pB r f = some x) : ∃ y, r = some y := by
  rcases pB_inv h with ⟨j, h1, _⟩ | ⟨k, a, h1, _⟩
  · exact ⟨_, h1⟩
  · exact ⟨_, h1⟩
theorem pB_assoc {α β γ : Type} {r : zRs α} {f : Nat → α → zRs β} {g : Nat → β → zRs γ} : pB r (fun k a => pB (f k a) g) = pB (pB r f) g := by
  rcases r with _ | ⟨j | q⟩ <;> rfl
theorem r_14 {r2 : Nat ⊕ (Nat × Unit)} (hw : qTw T) (h : pWh T.1 k = some r2) (ht : qTc T I) (hk : qFk T k I) (K : ∀ I', qSt T r2 I' → zfr [11] I I' → P (.inl none) I' J D) : zz RO (d + 3) 14 [.ref 11] I J D bc bs P := by
  have hN := hw.2.1
  have hle := qTw_le hw k
  have e43 : I 11 3 = 43 ↔ T.1 k = 43 := by
    rw [hk.2, show (43 : Int32) = zi ((43 : Nat) : Int) from rfl, zi_eq (by omega) (by omega)]
    omega
  unfold pWh at h
  by_cases c1 : T.1 k = 43
  · rw [if_pos c1] at h
    have hlt := qTw_lt hw (k := k) (by omega)
    refine w_14 ⟨fun q => absurd (e43.mpr c1) q, fun _ => ?_⟩
    refine r_8t (d := d) (a := 43) (by omega) hw ht hk (by omega) c1 (fun I1 k1 f1 => ?_)
    refine r_8 (d := d) (a := 3) (by omega) hw h (qTc_fr ht (zfr_11 f1)) k1 (fun I2 z2 => ?_)
    exact K I2 z2.2 (zfr_trans f1 z2.1)
  · rw [if_neg c1] at h
    refine w_14 ⟨fun _ => ?_, fun q => absurd (fun z => c1 (e43.mp z)) q⟩
    exact r_8 (d := d) (a := 3) (by omega) hw h ht hk (fun I2 z2 => K I2 z2.2 z2.1)
theorem r_14n {r r2 : Nat ⊕ (Nat × Unit)} (hw : qTw T) (h : pB (some r) (fun k _ => pWh T.1 k) = some r2) (ht : qTc T I) (hk : qSt T r I) (K : ∀ I', qSt T r2 I' → zfr [11] I I' → P (.inl none) I' J D) : zz RO (d + 3) 14 [.ref 11] I J D bc bs P := by
  rcases r with j | q
  · cases h
    have hk : qFl j I := hk
    refine w_14 ⟨fun _ => ?_, fun q => absurd (by rw [hk.2]; decide) q⟩
    exact r_8x (d := d) (a := 3) (by omega) hk (fun I1 k1 f1 => K I1 k1 f1)
  · exact r_14 hw h ht hk K
theorem r_13 {r2 : Nat ⊕ (Nat × Unit)} (hw : qTw T) (h : pRg T.1 k = some r2) (ht : qTc T I) (hk : qFk T k I) (K : ∀ I', qSt T r2 I' → zfr [11] I I' → P (.inl none) I' J D) : zz RO (d + 4) 13 [.ref 11] I J D bc bs P := by
  unfold pRg at h
  rw [pB_assoc, pB_assoc, pB_assoc, pB_assoc] at h
  obtain ⟨r5, h5⟩ := pB_some h
  obtain ⟨r4, h4⟩ := pB_some h5
  obtain ⟨r3, h3⟩ := pB_some h4
  obtain ⟨r9, h9⟩ := pB_some h3
  obtain ⟨r1, h1⟩ := pB_some h9
  rw [h5] at h
  rw [h4] at h5
  rw [h3] at h4
  rw [h9] at h3
  rw [h1] at h9
  refine w_13 ?_
  refine r_14 (d := d) hw h1 ht hk (fun I1 k1 f1 => ?_)
  have t1 := qTc_fr ht (zfr_11 f1)
  refine r_8n (d := d + 1) (a := 11) (by omega) hw h9 t1 k1 (fun I2 k2 f2 => ?_)
  have t2 := qTc_fr t1 (zfr_11 f2)
  refine r_14n (d := d) hw h3 t2 k2 (fun I3 k3 f3 => ?_)
  have t3 := qTc_fr t2 (zfr_11 f3)
  refine r_8n (d := d + 1) (a := 12) (by omega) hw h4 t3 k3 (fun I4 k4 f4 => ?_)
  have t4 := qTc_fr t3 (zfr_11 f4)
  refine r_14n (d := d) hw h5 t4 k4 (fun I5 k5 f5 => ?_)
  have t5 := qTc_fr t4 (zfr_11 f5)
  refine r_8n (d := d + 1) (a := 39) (by omega) hw h t5 k5 (fun I6 k6 f6 => ?_)
  exact K I6 k6 (zfr_trans f1 (zfr_trans f2 (zfr_trans f3 (zfr_trans f4 (zfr_trans f5 f6)))))
end CForm5

/-! ===== the class's reading: items, the first wrong token ===== -/
def nen (c : Nat) : Prop := 2 ≤ c ∧ ¬ ent c
theorem pT_inv {s : Nat → Nat} {a k : Nat} {q : Nat × Unit} (h : pT s a k = some (.inr q)) : s k = a ∧ q.1 = k + 1 := by
  unfold pT at h
  by_cases c : s k = a
  · rw [if_pos c] at h
    have := pO_inv h
    cases this
    exact ⟨c, rfl⟩
  · rw [if_neg c] at h
    cases h
theorem tks_T {s : Nat → Nat} {a k k2 : Nat} {u : Unit} (h : pT s a k = pO k2 u) (ha : nen a) : tks s nen k k2 ∧ k < k2 := by
  have a1 := pT_inv (q := (k2, u)) h
  have e : k2 = k + 1 := a1.2
  subst e
  exact ⟨tks_one (by rw [a1.1]; exact ha), by omega⟩
theorem tks_Wh {s : Nat → Nat} {k k2 : Nat} {u : Unit} (h : pWh s k = pO k2 u) : tks s nen k k2 ∧ k < k2 := by
  unfold pWh at h
  by_cases c : s k = 43
  · rw [if_pos c] at h
    have a := tks_T h (by unfold nen ent; omega)
    exact ⟨tks_app (tks_one (by rw [c]; unfold nen ent; omega)) a.1, by omega⟩
  · rw [if_neg c] at h
    exact tks_T h (by unfold nen ent; omega)
theorem tks_Rg {s : Nat → Nat} {k k2 : Nat} {u : Unit} (h : pRg s k = pO k2 u) : tks s nen k k2 ∧ k < k2 := by
  unfold pRg at h
  rcases pB_inv h with ⟨i, h1, e⟩ | ⟨k1, a, h1, h⟩
  · cases e
  rcases pB_inv h with ⟨i, h3, e⟩ | ⟨k3, a3, h3, h⟩
  · cases e
  rcases pB_inv h with ⟨i, h4, e⟩ | ⟨k4, a4, h4, h⟩
  · cases e
  rcases pB_inv h with ⟨i, h5, e⟩ | ⟨k5, a5, h5, h⟩
  · cases e
  rcases pB_inv h with ⟨i, h6, e⟩ | ⟨k6, a6, h6, h⟩
  · cases e
  have b1 := tks_Wh h1
  have b3 := tks_T h3 (by unfold nen ent; omega)
  have b4 := tks_Wh h4
  have b5 := tks_T h5 (by unfold nen ent; omega)
  have b6 := tks_Wh h6
  have b7 := tks_T h (by unfold nen ent; omega)
  exact ⟨tks_app b1.1 (tks_app b3.1 (tks_app b4.1 (tks_app b5.1 (tks_app b6.1 b7.1)))), by omega⟩
theorem tks_Ns {s : Nat → Nat} : ∀ {f k k2 : Nat} {u : Unit}, pNs s f k = pO k2 u → tks s nen k k2 ∧ k < k2
  | 0, _, _, _, h => by cases h
  | f + 1, k, k2, u, h => by
    unfold pNs at h
    by_cases c : s k = 38
    · rw [if_pos c] at h
      rcases pB_inv h with ⟨i, h1, e⟩ | ⟨k1, a, h1, h⟩
      · cases e
      have b1 := tks_T h1 (by unfold nen ent; omega)
      have b2 := tks_Ns h
      exact ⟨tks_app (tks_one (by rw [c]; unfold nen ent; omega)) (tks_app b1.1 b2.1), by omega⟩
    · rw [if_neg c] at h
      exact tks_T h (by unfold nen ent; omega)
theorem tks_Ph {s : Nat → Nat} {k k2 : Nat} {u : Unit} (h : pPh s k = pO k2 u) : tks s nen k k2 ∧ k < k2 := by
  unfold pPh at h
  rcases pB_inv h with ⟨i, h1, e⟩ | ⟨k1, a, h1, h⟩
  · cases e
  rcases pB_inv h with ⟨i, h3, e⟩ | ⟨k3, a3, h3, h⟩
  · cases e
  have b1 := tks_T h1 (by unfold nen ent; omega)
  have b3 := tks_T h3 (by unfold nen ent; omega)
  have b4 := tks_Ns h
  exact ⟨tks_app b1.1 (tks_app b3.1 b4.1), by omega⟩
theorem qN_end {T : qTk} {k k2 : Nat} (hw : qTw T) (h : tks T.1 nen k k2 ∧ k < k2) : k2 ≤ 450 := by
  have hN := hw.2.1
  have := qTw_lt hw (k := k2 - 1) (h.1.2 (k2 - 1) (by omega) (by omega)).1
  omega
theorem qN_no {T : qTk} {k k2 : Nat} (h : tks T.1 nen k k2) : tks T.1 (fun c => ¬ ent c) k k2 := ⟨h.1, fun j q1 q2 => (h.2 j q1 q2).2⟩
theorem qIt_weak {T : qTk} {k c : Nat} {r : Nat ⊕ (Nat × Unit)} {I I' : zI} {J J' : zJ} (h : qIt T 1 k c r I I' J J') : qIt T 0 k c r I I' J J' := by
  obtain ⟨f, g, h⟩ := h
  refine ⟨f, g, ?_⟩
  cases r with
  | inl j => exact h
  | inr q =>
    obtain ⟨a1, a2, a3, ⟨c2, a4, a5, a6, a7⟩, a8⟩ := h
    exact ⟨a1, a2, a3, ⟨c2, a4, by omega, a6, a7⟩, a8⟩
section CForm8
variable {RO : zRo} {d : Nat} {P : zP} {I : zI} {J : zJ} {D : zD} {bc bs : Nat} {T : qTk} {k j c : Nat}
theorem r_10w {r : Nat ⊕ (Nat × Unit)} (hw : qTw T) (h0 : T.1 k = 10) (h : pWi T.1 k = some r) (ht : qTc T I) (hc : I 8 2 = zi (c : Int)) (hck : c ≤ k) (hk : qFk T k I) (K : ∀ I' J', qIt T 0 k c r I I' J J' → P (.inl none) I' J' D) : zz RO (d + 94) 10 [.ref 11, .int (zi ((10 : Nat) : Int))] I J D bc bs P := by
  have hN := hw.2.1
  refine w_10 (d := d + 93) ⟨fun q => absurd q (by decide), fun _ => ⟨fun _ => ⟨fun q => absurd rfl q, fun _ => ?_⟩, fun q => absurd (by decide) q⟩⟩
  unfold pWi at h
  rw [show pB (pEx T.1 (k + 1)) (fun k1 _ => pT T.1 39 k1) = pB (pEx T.1 (k + 1)) (fun k1 _ => pB (pO k1 ()) (fun k1 _ => pT T.1 39 k1)) from rfl, pB_assoc] at h
  obtain ⟨r1, h1⟩ := pB_some h
  rw [h1] at h
  refine r_11 (d := d + 16) (a := 10) (e := 0) (c := c) (by omega) hw h0 h1 ht hc (by omega) hk (fun I1 J1 z1 => ?_)
  rcases r1 with j | ⟨k1, u⟩
  · cases h
    obtain ⟨f1, g1, w1⟩ := z1
    exact r_8x (d := d + 91) (a := 39) (by omega) w1 (fun I2 k2 f2 => K I2 _ (qIt_fail (zfr_trans f1 (zfr_11 f2)) g1 k2))
  · have h : pT T.1 39 k1 = some r := h
    obtain ⟨c1, l1, l2, l3⟩ := qIt_len z1
    refine r_8 (d := d + 91) (a := 39) (by omega) hw h (qTc_fr ht z1.1) z1.2.2.1 (fun I2 z2 => ?_)
    refine K I2 _ (qIt_app z1 l1 (by omega) (qIt_no z2.1 z2.2 l1 (fun q hq => ?_)))
    subst hq
    have a1 := pT_inv h
    have a2 := tks_T (u := ()) (k2 := q.1) h (by unfold nen ent; omega)
    exact ⟨qN_no a2.1, qN_end hw a2, by omega⟩
theorem r_10 {r : Nat ⊕ (Nat × Unit)} (hw : qTw T) (h0 : ¬ T.1 k = 10) (h : pI T.1 k = some r) (ht : qTc T I) (hc : I 8 2 = zi (c : Int)) (hck : c ≤ k) (hk9 : k ≤ 450) (hk : qFk T k I) (K : ∀ I' J', qIt T 0 k c r I I' J J' → P (.inl none) I' J' D) : zz RO (d + 94) 10 [.ref 11, .int (zi (T.1 k : Int))] I J D bc bs P := by
  have hN := hw.2.1
  have hle := qTw_le hw k
  unfold pI at h
  rw [if_neg h0] at h
  have E : ∀ a : Nat, a ≤ 100 → (zi (T.1 k : Int) = zi (a : Int) ↔ T.1 k = a) := fun a ha => by
    rw [zi_eq (by omega) (by omega)]
    omega
  have e4 : zi (T.1 k : Int) = 4 ↔ T.1 k = 4 := E 4 (by omega)
  have e5 : zi (T.1 k : Int) = 5 ↔ T.1 k = 5 := E 5 (by omega)
  have e6 : zi (T.1 k : Int) = 6 ↔ T.1 k = 6 := E 6 (by omega)
  have e9 : zi (T.1 k : Int) = 9 ↔ T.1 k = 9 := E 9 (by omega)
  have e10 : zi (T.1 k : Int) = 10 ↔ T.1 k = 10 := E 10 (by omega)
  have l4 : zi (T.1 k : Int) < 4 ↔ T.1 k < 4 := by
    rw [show (4 : Int32) = zi ((4 : Nat) : Int) from rfl, zi_lt (by omega) (by omega)]
    omega
  have l10 : zi (T.1 k : Int) ≤ 10 ↔ T.1 k ≤ 10 := by
    rw [show (10 : Int32) = zi ((10 : Nat) : Int) from rfl, zi_le (by omega) (by omega)]
    omega
  by_cases c1 : 4 ≤ T.1 k ∧ T.1 k ≤ 9
  · rw [if_pos c1] at h
    have hlt := qTw_lt hw (k := k) (by omega)
    refine w_10 (d := d + 93) ⟨fun q => absurd (l4.mp q) (by omega), fun _ => ⟨fun _ => ⟨fun _ => ?_, fun q => absurd (fun z => h0 (e10.mp z)) q⟩, fun q => absurd (l10.mpr (by omega)) q⟩⟩
    refine r_8t (d := d + 91) (by omega) hw ht hk (by omega) rfl (fun I1 k1 f1 => ?_)
    have t1 := qTc_fr ht (zfr_11 f1)
    by_cases c2 : T.1 (k + 1) = 2
    · have hlt2 := qTw_lt hw (k := k + 1) (by omega)
      have h : (if T.1 k ≤ 5 then pRg T.1 (k + 2) else if T.1 k = 6 then pPh T.1 (k + 2) else if T.1 k = 9 then pRu T.1 (k + 2) else pAc T.1 (k + 2)) = some r := by
        unfold pT at h
        rw [if_pos c2] at h
        exact h
      refine r_8t (d := d + 91) (a := 2) (by omega) hw t1 k1 (by omega) c2 (fun I2 k2 f2 => ?_)
      have t2 := qTc_fr t1 (zfr_11 f2)
      have f02 : zfr [11] I I2 := zfr_trans f1 f2
      have c02 : I2 8 2 = zi (c : Int) := by rw [f02 8 (by simp)]; exact hc
      have z2 : qIt T 1 k c (.inr (k + 2, ())) I I2 J J := qIt_no f02 k2 hc (fun q hq => by
        cases hq
        exact ⟨qN_no (tks_app (tks_one (by unfold nen ent; omega)) (tks_one (by rw [c2]; unfold nen ent; omega))), by omega, by omega⟩)
      have K2 : ∀ {I' : zI} {J' : zJ}, qIt T 1 (k + 2) c r I2 I' J J' → P (.inl none) I' J' D := fun {I' J'} z => K I' J' (qIt_weak (qIt_app z2 c02 (by omega) z))
      show _ ∧ _
      by_cases c3 : T.1 k ≤ 5
      · rw [if_pos c3] at h
        have G : zz RO (d + 93) 13 [.ref 11] I2 J D 0 0 (zNv P fun I4 J4 D4 => P (.inl none) I4 J4 D4) := by
          refine r_13 (d := d + 89) hw h t2 k2 (fun I3 k3 f3 => K2 (qIt_no f3 k3 c02 (fun q hq => ?_)))
          subst hq
          have a2 := tks_Rg (u := ()) (k2 := q.1) h
          exact ⟨qN_no a2.1, qN_end hw a2, by omega⟩
        by_cases c4 : T.1 k = 4
        · exact ⟨fun _ => G, fun q => absurd (e4.mpr c4) q⟩
        · exact ⟨fun q => absurd (e4.mp q) c4, fun _ => ⟨fun q => absurd (e5.mpr (by omega)) q, fun _ => G⟩⟩
      · rw [if_neg c3] at h
        refine ⟨fun q => by have := e4.mp q; omega, fun _ => ⟨fun _ => ?_, fun q => absurd (fun z => by have := e5.mp z; omega) q⟩⟩
        by_cases c6 : T.1 k = 6
        · rw [if_pos c6] at h
          refine ⟨fun q => absurd (e6.mpr c6) q, fun _ => ?_⟩
          refine r_15 (d := d + 90) hw h t2 k2 (fun I3 k3 f3 => K2 (qIt_no f3 k3 c02 (fun q hq => ?_)))
          subst hq
          have a2 := tks_Ph (u := ()) (k2 := q.1) h
          exact ⟨qN_no a2.1, qN_end hw a2, by omega⟩
        · rw [if_neg c6] at h
          refine ⟨fun _ => ?_, fun q => absurd (fun z => c6 (e6.mp z)) q⟩
          by_cases c9 : T.1 k = 9
          · rw [if_pos c9] at h
            refine ⟨fun q => absurd (e9.mpr c9) q, fun _ => ?_⟩
            unfold pRu at h
            by_cases d1 : T.1 (k + 2) = 12
            · have hlt3 := qTw_lt hw (k := k + 2) (by omega)
              have h : pB (pT T.1 2 (k + 3)) (fun k2 _ => pAc T.1 k2) = some r := by
                unfold pT at h
                rw [if_pos d1] at h
                exact h
              refine r_8t (d := d + 91) (a := 12) (by omega) hw t2 k2 (by omega) d1 (fun I3 k3 f3 => ?_)
              have t3 := qTc_fr t2 (zfr_11 f3)
              by_cases d2 : T.1 (k + 3) = 2
              · have hlt4 := qTw_lt hw (k := k + 3) (by omega)
                have h : pAc T.1 (k + 4) = some r := by
                  unfold pT at h
                  rw [if_pos d2] at h
                  exact h
                refine r_8t (d := d + 91) (a := 2) (by omega) hw t3 k3 (by omega) d2 (fun I4 k4 f4 => ?_)
                have f24 : zfr [11] I2 I4 := zfr_trans f3 f4
                have c24 : I4 8 2 = zi (c : Int) := by rw [f24 8 (by simp)]; exact c02
                have z4 : qIt T 1 (k + 2) c (.inr (k + 4, ())) I2 I4 J J := qIt_no f24 k4 c02 (fun q hq => by
                  cases hq
                  exact ⟨qN_no (tks_app (tks_one (by rw [d1]; unfold nen ent; omega)) (tks_one (by rw [d2]; unfold nen ent; omega))), by omega, by omega⟩)
                exact tAc_ok (d := d + 1) (c := c) hw h (qTc_fr t3 (zfr_11 f4)) c24 (by omega) k4 (fun I5 J5 z5 => K2 (qIt_app z4 c24 (by omega) z5))
              · have h : pF (k + 3) = some r := by
                  unfold pT at h
                  rw [if_neg d2] at h
                  exact h
                cases pF_inv h
                refine r_8f (d := d + 91) (a := 2) (by omega) k3 (qTw_le hw _) d2 (fun I4 k4 f4 => ?_)
                exact tAc_x (d := d + 1) k4 (fun I5 k5 f5 => K2 (qIt_fail (zfr_trans (zfr_11 f3) (zfr_trans (zfr_11 f4) f5)) (zfr_refl _) k5))
            · have h : pF (k + 2) = some r := by
                unfold pT at h
                rw [if_neg d1] at h
                exact h
              cases pF_inv h
              refine r_8f (d := d + 91) (a := 12) (by omega) k2 (qTw_le hw _) d1 (fun I3 k3 f3 => ?_)
              refine r_8x (d := d + 91) (a := 2) (by omega) k3 (fun I4 k4 f4 => ?_)
              exact tAc_x (d := d + 1) k4 (fun I5 k5 f5 => K2 (qIt_fail (zfr_trans (zfr_11 f3) (zfr_trans (zfr_11 f4) f5)) (zfr_refl _) k5))
          · rw [if_neg c9] at h
            refine ⟨fun _ => ?_, fun q => absurd (fun z => c9 (e9.mp z)) q⟩
            exact tAc_ok (d := d + 1) (c := c) hw h t2 c02 (by omega) k2 (fun I5 J5 z5 => K2 z5)
    · have h : pF (k + 1) = some r := by
        unfold pT at h
        rw [if_neg c2] at h
        exact h
      cases pF_inv h
      have K2 : ∀ {I' : zI} {J' : zJ}, zfr [8, 9, 10, 11] I I' → zfr [6] J J' → qFl (k + 1) I' → P (.inl none) I' J' D := fun {I' J'} a b c => K I' J' (qIt_fail a b c)
      refine r_8f (d := d + 91) (a := 2) (by omega) k1 (qTw_le hw _) c2 (fun I2 k2 f2 => ?_)
      have f02 : zfr [8, 9, 10, 11] I I2 := zfr_trans (zfr_11 f1) (zfr_11 f2)
      have G13 : zz RO (d + 93) 13 [.ref 11] I2 J D 0 0 (zNv P fun I4 J4 D4 => P (.inl none) I4 J4 D4) := by
        refine w_13 ?_
        refine r_14n (d := d + 89) (r := .inl (k + 1)) (r2 := .inl (k + 1)) hw rfl (qTc_fr ht f02) k2 (fun I3 k3 f3 => ?_)
        refine r_8x (d := d + 90) (a := 11) (by omega) k3 (fun I4 k4 f4 => ?_)
        refine r_14n (d := d + 89) (r := .inl (k + 1)) (r2 := .inl (k + 1)) hw rfl (qTc_fr ht (zfr_trans f02 (zfr_trans (zfr_11 f3) (zfr_11 f4)))) k4 (fun I5 k5 f5 => ?_)
        refine r_8x (d := d + 90) (a := 12) (by omega) k5 (fun I6 k6 f6 => ?_)
        refine r_14n (d := d + 89) (r := .inl (k + 1)) (r2 := .inl (k + 1)) hw rfl (qTc_fr ht (zfr_trans f02 (zfr_trans (zfr_11 f3) (zfr_trans (zfr_11 f4) (zfr_trans (zfr_11 f5) (zfr_11 f6)))))) k6 (fun I7 k7 f7 => ?_)
        refine r_8x (d := d + 90) (a := 39) (by omega) k7 (fun I8 k8 f8 => ?_)
        exact K2 (zfr_trans f02 (zfr_trans (zfr_11 f3) (zfr_trans (zfr_11 f4) (zfr_trans (zfr_11 f5) (zfr_trans (zfr_11 f6) (zfr_trans (zfr_11 f7) (zfr_11 f8))))))) (zfr_refl _) k8
      refine ⟨fun _ => G13, fun _ => ⟨fun _ => ⟨fun _ => ⟨fun _ => ?_, fun _ => ?_⟩, fun _ => ?_⟩, fun _ => G13⟩⟩
      · exact tAc_x (d := d + 1) k2 (fun I5 k5 f5 => K2 (zfr_trans f02 f5) (zfr_refl _) k5)
      · refine r_8x (d := d + 91) (a := 12) (by omega) k2 (fun I3 k3 f3 => ?_)
        refine r_8x (d := d + 91) (a := 2) (by omega) k3 (fun I4 k4 f4 => ?_)
        exact tAc_x (d := d + 1) k4 (fun I5 k5 f5 => K2 (zfr_trans f02 (zfr_trans (zfr_11 f3) (zfr_trans (zfr_11 f4) f5))) (zfr_refl _) k5)
      · refine w_15 (d := d + 92) ?_
        refine r_8x (d := d + 90) (a := 40) (by omega) k2 (fun I3 k3 f3 => ?_)
        refine r_8x (d := d + 90) (a := 2) (by omega) k3 (fun I4 k4 f4 => ?_)
        refine wl_15_13 ⟨fun q => absurd q (by decide), fun _ => ⟨fun _ => ?_, fun q => absurd (by rw [k4.2]; decide) q⟩⟩
        exact r_8x (d := d + 90) (a := 39) (by omega) k4 (fun I5 k5 f5 => K2 (zfr_trans f02 (zfr_trans (zfr_11 f3) (zfr_trans (zfr_11 f4) (zfr_11 f5)))) (zfr_refl _) k5)
  · rw [if_neg c1] at h
    cases pF_inv h
    have G : zz RO (d + 93) 9 [.ref 11] I J D 0 0 (zNv P fun I4 J4 D4 => P (.inl none) I4 J4 D4) :=
      r_9 (d := d + 92) hk.1 (fun I1 k1 f1 => K I1 J (qIt_fail (zfr_11 f1) (zfr_refl _) k1))
    exact w_10 (d := d + 93) ⟨fun _ => G, fun q => ⟨fun q2 => by
      have := l10.mp q2
      exact absurd (l4.mpr (by omega)) q, fun _ => G⟩⟩
end CForm8

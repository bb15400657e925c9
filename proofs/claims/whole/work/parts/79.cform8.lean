/-! ===== the class's reading: the first wrong token ===== -/
section CForm9
variable {RO : zRo} {d : Nat} {P : zP} {I : zI} {J : zJ} {D : zD} {bc bs : Nat} {T : qTk} {k j c : Nat}
theorem r_10a {r : Nat ⊕ (Nat × Unit)} (hw : qTw T) (h : pI T.1 k = some r) (ht : qTc T I) (hc : I 8 2 = zi (c : Int)) (hck : c ≤ k) (hk9 : k ≤ 450) (hk : qFk T k I) (K : ∀ I' J', qIt T 0 k c r I I' J J' → P (.inl none) I' J' D) : zz RO (d + 94) 10 [.ref 11, .int (zi (T.1 k : Int))] I J D bc bs P := by
  by_cases h0 : T.1 k = 10
  · unfold pI at h
    rw [if_pos h0] at h
    rw [h0]
    exact r_10w hw h0 h ht hc hck hk K
  · exact r_10 hw h0 h ht hc hck hk9 hk K
theorem tks_pos {T : qTk} {k k2 : Nat} {u : Unit} (h : pI T.1 k = pO k2 u) : k + 1 < k2 := by
  unfold pI at h
  by_cases c : T.1 k = 10
  · rw [if_pos c] at h
    unfold pWi at h
    rcases pB_inv h with ⟨i, h1, e⟩ | ⟨k1, a, h1, h⟩
    · cases e
    have b1 := tks_ex h1
    have b2 := tks_T h (by unfold nen ent; omega)
    omega
  · rw [if_neg c] at h
    by_cases c1 : 4 ≤ T.1 k ∧ T.1 k ≤ 9
    · rw [if_pos c1] at h
      rcases pB_inv h with ⟨i, h1, e⟩ | ⟨k1, a, h1, h⟩
      · cases e
      have b1 := tks_T h1 (by unfold nen ent; omega)
      by_cases c2 : T.1 k ≤ 5
      · rw [if_pos c2] at h
        have := tks_Rg h
        omega
      · rw [if_neg c2] at h
        by_cases c3 : T.1 k = 6
        · rw [if_pos c3] at h
          have := tks_Ph h
          omega
        · rw [if_neg c3] at h
          have hb : ∀ {k k2 : Nat} {u : Unit}, pBd T.1 k = pO k2 u → k ≤ k2 := fun {k k2 u} h => by
            unfold pBd at h
            by_cases d : T.1 k = 14
            · rw [if_pos d] at h
              rcases pB_inv h with ⟨i, h1, e⟩ | ⟨k1, a, h1, h⟩
              · cases e
              have b1 := (pS_ok 500 h1).1.1
              have b2 := tks_T h (by unfold nen ent; omega)
              omega
            · rw [if_neg d] at h
              cases pF_inv h
          have ha : ∀ {k k2 : Nat} {u : Unit}, pAc T.1 k = pO k2 u → k ≤ k2 := fun {k k2 u} h => by
            unfold pAc at h
            by_cases d : T.1 k = 13
            · rw [if_pos d] at h
              rcases pB_inv h with ⟨i, h1, e⟩ | ⟨k1, a, h1, h⟩
              · cases e
              have b1 := tks_ex h1
              have b2 := hb h
              omega
            · rw [if_neg d] at h
              exact hb h
          by_cases c4 : T.1 k = 9
          · rw [if_pos c4] at h
            unfold pRu at h
            rcases pB_inv h with ⟨i, h3, e⟩ | ⟨k3, a3, h3, h⟩
            · cases e
            rcases pB_inv h with ⟨i, h4, e⟩ | ⟨k4, a4, h4, h⟩
            · cases e
            have b3 := tks_T h3 (by unfold nen ent; omega)
            have b4 := tks_T h4 (by unfold nen ent; omega)
            have := ha h
            omega
          · rw [if_neg c4] at h
            have := ha h
            omega
    · rw [if_neg c1] at h
      cases pF_inv h
theorem r_7_30 {I0 : zI} {J0 : zJ} {r : Nat ⊕ (Nat × Unit)} (hw : qTw T) (K1 : ∀ j, r = .inl j → ∀ I' J', zfr [8, 9, 10, 11] I0 I' → zfr [6] J0 J' → P (.inl (some (.int (zi (j : Int))))) I' J' D) (K2 : ∀ q, r = .inr q → ∀ I' J', qIt T 0 0 0 (.inr q) I0 I' J0 J' → T.1 q.1 = 1 → P (.inl (some (.int (-1)))) I' J' D) :
    ∀ {f k i : Nat} {I : zI} {J : zJ}, pP T.1 f k = some r → qTc T I → 2 * i ≤ k → qIt T 0 0 0 (.inr (k, ())) I0 I J0 J → zw RO (d + 95) 7 P 30 [(0, .ref 11), (1, .int (zi (i : Int)))] [] I J D bc bs
  | 0, _, _, _, _, h, _, _, _ => by cases h
  | f + 1, k, i, I, J, h, ht, hi, hz => by
    have hle := qTw_le hw k
    obtain ⟨c, hc, hck, hk9⟩ := qIt_len hz
    have hk : qFk T k I := hz.2.2.1
    have h0 := h
    unfold pP at h
    refine wl_7_30 (d := d + 94) ⟨fun q => absurd q (by rw [show (450 : Int32) = zi 450 from rfl, zi_le (by omega) (by omega)]; omega), fun _ => ?_⟩
    rw [hk.1, hk.2]
    have e0 : zi (T.1 k : Int) = 0 ↔ T.1 k = 0 := by
      rw [show (0 : Int32) = zi ((0 : Nat) : Int) from rfl, zi_eq (by omega) (by omega)]
      omega
    refine ⟨fun q => ?_, fun _ => ?_⟩
    · have hp : pI T.1 k = pF k := by
        have := e0.mp q
        unfold pI
        rw [if_neg (by omega), if_neg (by omega)]
      rw [hp] at h
      cases h
      exact K1 k rfl I J hz.1 hz.2.1
    · obtain ⟨r1, h1⟩ := pB_some h
      rw [h1] at h
      refine r_10a (d := d + 1) (c := c) hw h1 ht hc (by omega) hk9 hk (fun I1 J1 z1 => ?_)
      have t1 := qTc_fr ht z1.1
      show _ ∧ _
      rcases r1 with j | ⟨k1, u⟩
      · cases h
        have w1 : qFl j I1 := z1.2.2
        have G : P (.inl (some (.int (zi (j : Int))))) I1 J1 D := K1 j rfl I1 J1 (zfr_trans hz.1 z1.1) (zfr_trans hz.2.1 z1.2.1)
        refine ⟨fun _ => ?_, fun q => absurd (by rw [w1.2]; decide) q⟩
        refine wl_7_30 (d := d + 94) ?_
        rw [w1.1, w1.2]
        exact ⟨fun _ => G, fun _ => ⟨fun _ => G, fun q => absurd rfl q⟩⟩
      · have z9 := qIt_app hz hc (by omega) z1
        have hp := tks_pos (k2 := k1) (u := u) h1
        have w1 : qFk T k1 I1 := z1.2.2.1
        have hle1 := qTw_le hw k1
        have e1 : I1 11 3 = 1 ↔ T.1 k1 = 1 := by
          rw [w1.2, show (1 : Int32) = zi ((1 : Nat) : Int) from rfl, zi_eq (by omega) (by omega)]
          omega
        by_cases c1 : T.1 k1 = 1
        · have h : (if T.1 k1 = 1 then pO k1 () else pP T.1 f k1) = some r := h
          rw [if_pos c1] at h
          have er := pO_inv h
          exact ⟨fun q => absurd (e1.mpr c1) q, fun _ => K2 (k1, ()) er I1 J1 z9 c1⟩
        · have h : (if T.1 k1 = 1 then pO k1 () else pP T.1 f k1) = some r := h
          rw [if_neg c1] at h
          refine ⟨fun _ => ?_, fun q => absurd (fun z => c1 (e1.mp z)) q⟩
          rw [zi_succ]
          exact r_7_30 hw K1 K2 h t1 (by omega) z9
/-- the whole reading of the class: the first wrong token, or the code and where it begins -/
theorem r_7 {f : Nat} {r : Nat ⊕ (Nat × Unit)} (hw : qTw T) (h : pP T.1 f 0 = some r) (ht : qTc T I) (K1 : ∀ j, r = .inl j → ∀ I' J', zfr [8, 9, 10, 11] I I' → zfr [6] J J' → P (.inl (some (.int (zi (j : Int))))) I' J' D)
    (K2 : ∀ q, r = .inr q → T.1 q.1 = 1 → ∀ I' J' c, zfr [8, 9, 10, 11] I I' → zfr [6] J J' → (∀ t, ¬ ent (T.1 t) → J' 6 t = J 6 t) → I' 8 2 = zi (c : Int) → c ≤ 450 → (∀ t, t < q.1 → qEnt T t I' J') → P (.inl (some (.int (-1)))) I' J' D) : zz RO (d + 96) 7 [.ref 11] I J D bc bs P := by
  refine w_7 (d := d + 94) ?_
  have hn := hw.1
  have hN := hw.2.1
  have t1 : qTc T (zu I 11 2 0) := qTc_keep ht (zu_row _ _ (by decide)) (zu_row _ _ (by decide)) (zu_row _ _ (by decide))
  rw [show zv_93 (zu I 11 2 0) J 0 = zi (T.1 0 : Int) from n_93 (k := 0) hw t1 (by omega)]
  have f0 : zfr [8, 9, 10, 11] I (zu (zu (zu I 11 2 0) 11 3 (zi (T.1 0 : Int))) 8 2 0) := zfr_zu (zfr_zu (zfr_zu (zfr_refl _) _ _ (by simp)) _ _ (by simp)) _ _ (by simp)
  have k0 : qFk T 0 (zu (zu (zu I 11 2 0) 11 3 (zi (T.1 0 : Int))) 8 2 0) := ⟨by rw [zu_n _ _ (by omega), zu_n _ _ (by omega), zu_s]; rfl, by rw [zu_n _ _ (by omega), zu_s]⟩
  have c0 : (zu (zu (zu I 11 2 0) 11 3 (zi (T.1 0 : Int))) 8 2 0) 8 2 = zi ((0 : Nat) : Int) := zu_s _ _ _ _
  generalize (zu (zu (zu I 11 2 0) 11 3 (zi (T.1 0 : Int))) 8 2 0) = I1 at f0 k0 c0 ⊢
  have z0 : qIt T 0 0 0 (.inr (0, ())) I1 I1 J J := ⟨zfr_refl _, zfr_refl _, k0, ⟨Nat.le_refl _, by show 0 ≤ 450; omega⟩, fun _ _ => rfl, ⟨0, Nat.le_refl _, Nat.le_refl _, c0, fun j hj => absurd hj (Nat.not_lt_zero j)⟩, fun t q1 q2 => absurd q2 (Nat.not_lt_zero t)⟩
  refine r_7_30 (d := d) (i := 0) (r := r) hw (fun j hj I' J' f g => K1 j hj I' J' (zfr_trans f0 f) g) (fun q hq I' J' z hs => ?_) h (qTc_fr ht f0) (by omega) z0
  obtain ⟨a1, a2, a3, ⟨a4, a5⟩, a6, ⟨c2, a7, a8, a9, a10⟩, a11⟩ := z
  exact K2 q hq hs I' J' c2 (zfr_trans f0 a1) a2 (fun t ht2 => a6 t (fun z => ht2 z.2)) a9 (by omega) (fun t q2 => a11 t (by omega) q2)
end CForm9

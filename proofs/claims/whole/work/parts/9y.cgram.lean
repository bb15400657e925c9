/-! ===== programs right by the grammar: what the class's meaning wants of their tokens ===== -/
/-- a token within an item that begins with c -/
def gIt (T : qTk) (c j : Nat) : Prop := nk (T.1 j) ∧ (T.1 j = 13 ∨ T.1 j = 14 → 7 ≤ c ∧ c ≤ 9) ∧ (T.1 j = 13 → ∃ k2 o, pEx T.1 (j + 1) = pO k2 o) ∧ (T.1 j = 14 → ∃ k2 l, pS T.1 500 4 (j + 1) = pO k2 l)
def gIs (T : qTk) (c k k2 : Nat) : Prop := k ≤ k2 ∧ ∀ j, k ≤ j → j < k2 → gIt T c j
theorem gIs_app {T : qTk} {c k k1 k2 : Nat} (h : gIs T c k k1) (h2 : gIs T c k1 k2) : gIs T c k k2 := ⟨Nat.le_trans h.1 h2.1, fun j q1 q2 => by
  by_cases e : j < k1
  · exact h.2 j q1 e
  · exact h2.2 j (by omega) q2⟩
theorem gIt_no {T : qTk} {c j : Nat} (h : nk (T.1 j)) (h3 : ¬ T.1 j = 13) (h4 : ¬ T.1 j = 14) : gIt T c j := ⟨h, fun z => z.elim (fun z => absurd z h3) (fun z => absurd z h4), fun z => absurd z h3, fun z => absurd z h4⟩
theorem gIs_tk {T : qTk} {c k k2 : Nat} {ok : Nat → Prop} (h : tks T.1 ok k k2) (hm : ∀ x, ok x → nk x ∧ ¬ x = 13 ∧ ¬ x = 14) : gIs T c k k2 := ⟨h.1, fun j q1 q2 => by
  have := hm _ (h.2 j q1 q2)
  exact gIt_no this.1 this.2.1 this.2.2⟩
theorem ys_13 {x : Nat} (h : ys x) : nk x ∧ ¬ x = 13 ∧ ¬ x = 14 := ⟨ys_nk h, by have := ys_not h; omega, by have := ys_not h; omega⟩
theorem gIs_T {T : qTk} {c k k2 a : Nat} {u : Unit} (h : pT T.1 a k = pO k2 u) (ha : nk a ∧ ¬ a = 13 ∧ ¬ a = 14) : gIs T c k k2 := gIs_tk (pT_tk (ok := fun x => x = a) h rfl) (fun x hx => by rw [hx]; exact ha)
theorem pBd_gm {T : qTk} {c k k2 : Nat} {u : Unit} (hc : 7 ≤ c ∧ c ≤ 9) (h : pBd T.1 k = pO k2 u) : gIs T c k k2 ∧ k < k2 ∧ T.1 k = 14 := by
  unfold pBd at h
  by_cases c1 : T.1 k = 14
  · rw [if_pos c1] at h
    rcases pB_inv h with ⟨j, _, e⟩ | ⟨k1, l, h1, h⟩
    · cases e
    have t1 := pS_ok (f := 500) h1
    have g1 : gIs T c k (k + 1) := ⟨by omega, fun j q1 q2 => by
      rw [show j = k by omega]
      exact ⟨by rw [c1]; decide, fun _ => hc, fun z => by omega, fun _ => ⟨k1, l, h1⟩⟩⟩
    have g := gIs_app g1 (gIs_app (gIs_tk t1.1 (fun _ => ys_13)) (gIs_T h (by decide)))
    have l1 := t1.1.1
    have l2 := (gIs_T (c := c) h (by decide)).1
    exact ⟨g, by omega, c1⟩
  · rw [if_neg c1] at h
    cases pF_inv h
theorem pAc_gm {T : qTk} {c k k2 : Nat} {u : Unit} (hc : 7 ≤ c ∧ c ≤ 9) (h : pAc T.1 k = pO k2 u) : gIs T c k k2 ∧ ∃ j, k ≤ j ∧ j < k2 ∧ T.1 j = 14 := by
  unfold pAc at h
  by_cases c1 : T.1 k = 13
  · rw [if_pos c1] at h
    rcases pB_inv h with ⟨j, _, e⟩ | ⟨k1, o, h1, h⟩
    · cases e
    have t1 := tks_ex h1
    have g1 : gIs T c k (k + 1) := ⟨by omega, fun j q1 q2 => by
      rw [show j = k by omega]
      exact ⟨by rw [c1]; decide, fun _ => hc, fun _ => ⟨k1, o, h1⟩, fun z => by omega⟩⟩
    obtain ⟨b1, b2, b3⟩ := pBd_gm hc h
    exact ⟨gIs_app g1 (gIs_app (gIs_tk t1.1 (fun _ => ys_13)) b1), k1, by omega, b2, b3⟩
  · rw [if_neg c1] at h
    obtain ⟨b1, b2, b3⟩ := pBd_gm hc h
    exact ⟨b1, k, Nat.le_refl _, b2, b3⟩
/-- the wholes of a track or a pool -/
def gWs (T : qTk) (k k2 : Nat) : Prop := ∃ k1 k3 k5, pWh T.1 k = pO k1 () ∧ T.1 k1 = 11 ∧ pWh T.1 (k1 + 1) = pO k3 () ∧ T.1 k3 = 12 ∧ pWh T.1 (k3 + 1) = pO k5 () ∧ T.1 k5 = 39 ∧ k5 + 1 = k2
theorem pRg_gm {T : qTk} {k k2 : Nat} {u : Unit} (h : pRg T.1 k = pO k2 u) : gWs T k k2 := by
  unfold pRg at h
  rcases pB_inv h with ⟨j, _, e⟩ | ⟨k1, u1, h1, h⟩
  · cases e
  rcases pB_inv h with ⟨j, _, e⟩ | ⟨k2', u2, h2, h⟩
  · cases e
  rcases pB_inv h with ⟨j, _, e⟩ | ⟨k3, u3, h3, h⟩
  · cases e
  rcases pB_inv h with ⟨j, _, e⟩ | ⟨k4, u4, h4, h⟩
  · cases e
  rcases pB_inv h with ⟨j, _, e⟩ | ⟨k5, u5, h5, h⟩
  · cases e
  have i2 := pT_inv (q := (k2', u2)) h2
  have i4 := pT_inv (q := (k4, u4)) h4
  have i6 := pT_inv (q := (k2, u)) h
  have e2 : k2' = k1 + 1 := i2.2
  have e4 : k4 = k3 + 1 := i4.2
  have e6 : k2 = k5 + 1 := i6.2
  subst e2
  subst e4
  exact ⟨k1, k3, k5, h1, i2.1, h3, i4.1, h5, i6.1, e6.symm⟩
/-- an item -/
def gOne (T : qTk) (k k2 : Nat) : Prop := (4 ≤ T.1 k ∧ T.1 k ≤ 10) ∧ k + 1 < k2 ∧ gIs T (T.1 k) (k + 1) k2 ∧ (T.1 k = 10 → ∃ k3 o, pEx T.1 (k + 1) = pO k3 o) ∧ (T.1 k = 4 ∨ T.1 k = 5 → gWs T (k + 2) k2) ∧ (7 ≤ T.1 k ∧ T.1 k ≤ 9 → ∃ j, k < j ∧ j < k2 ∧ T.1 j = 14) ∧ (T.1 k = 9 → T.1 (k + 2) = 12 ∧ T.1 (k + 3) = 2 ∧ k + 3 < k2) ∧ (T.1 k ≤ 9 → T.1 (k + 1) = 2)
theorem pI_gm {T : qTk} {k k2 : Nat} {u : Unit} (h : pI T.1 k = pO k2 u) : gOne T k k2 := by
  have lt := tks_pos h
  have nm := (pI_tk h).2.2
  unfold pI at h
  by_cases c1 : T.1 k = 10
  · rw [if_pos c1] at h
    unfold pWi at h
    rcases pB_inv h with ⟨j, _, e⟩ | ⟨k1, o, h1, h⟩
    · cases e
    exact ⟨by omega, lt, gIs_app (gIs_tk (tks_ex h1).1 (fun _ => ys_13)) (gIs_T h (by decide)), fun _ => ⟨k1, o, h1⟩, fun z => by omega, fun z => by omega, fun z => by omega, nm⟩
  · rw [if_neg c1] at h
    by_cases c2 : 4 ≤ T.1 k ∧ T.1 k ≤ 9
    · rw [if_pos c2] at h
      rcases pB_inv h with ⟨j, _, e⟩ | ⟨k1, u1, h1, h⟩
      · cases e
      have i1 := pT_inv (q := (k1, u1)) h1
      have e1 : k1 = k + 1 + 1 := i1.2
      have g0 : gIs T (T.1 k) (k + 1) k1 := gIs_T h1 (by decide)
      subst e1
      by_cases e1 : T.1 k ≤ 5
      · rw [if_pos e1] at h
        exact ⟨by omega, lt, gIs_app g0 (gIs_tk (pRg_tk h) (fun x hx => ⟨fun z => by omega, by omega, by omega⟩)), fun z => by omega, fun _ => pRg_gm h, fun z => by omega, fun z => by omega, nm⟩
      · rw [if_neg e1] at h
        by_cases e2 : T.1 k = 6
        · rw [if_pos e2] at h
          exact ⟨by omega, lt, gIs_app g0 (gIs_tk (pPh_tk h) (fun x hx => ⟨fun z => by omega, by omega, by omega⟩)), fun z => by omega, fun z => by omega, fun z => by omega, fun z => by omega, nm⟩
        · rw [if_neg e2] at h
          by_cases e3 : T.1 k = 9
          · rw [if_pos e3] at h
            unfold pRu at h
            rcases pB_inv h with ⟨j, _, e⟩ | ⟨k3, u3, h3, h⟩
            · cases e
            rcases pB_inv h with ⟨j, _, e⟩ | ⟨k4, u4, h4, h⟩
            · cases e
            have i3 := pT_inv (q := (k3, u3)) h3
            have i4 := pT_inv (q := (k4, u4)) h4
            have q3 : k3 = k + 1 + 1 + 1 := i3.2
            have q4 : k4 = k3 + 1 := i4.2
            obtain ⟨a1, j, a2, a3, a4⟩ := pAc_gm (c := T.1 k) (by omega) h
            subst q4
            subst q3
            refine ⟨by omega, lt, gIs_app g0 (gIs_app (gIs_T h3 (by decide)) (gIs_app (gIs_T h4 (by decide)) a1)), fun z => by omega, fun z => by omega, fun _ => ⟨j, by omega, a3, a4⟩, fun _ => ⟨i3.1, i4.1, by omega⟩, nm⟩
          · rw [if_neg e3] at h
            obtain ⟨a1, j, a2, a3, a4⟩ := pAc_gm (c := T.1 k) (by omega) h
            exact ⟨by omega, lt, gIs_app g0 a1, fun z => by omega, fun z => by omega, fun _ => ⟨j, by omega, a3, a4⟩, fun z => by omega, nm⟩
    · rw [if_neg c2] at h
      cases pF_inv h
/-- kind and number within an item -/
theorem qMm_in {T : qTk} {k : Nat} (c : 4 ≤ T.1 k ∧ T.1 k ≤ 10) {j : Nat} (h1 : k + 1 ≤ j) (hy : ∀ i, k + 1 ≤ i → i < j → nk (T.1 i)) : (qMm T j).1 10 = T.1 k ∧ (qMm T j).1 11 = (qMm T k).1 (T.1 k - 4) := by
  induction j with
  | zero => omega
  | succ j ih =>
    by_cases e : k = j
    · subst e
      obtain ⟨i1, i2, i3, -⟩ := qM1_it (m := qMm T k) c
      exact ⟨i2, i3⟩
    · obtain ⟨a1, a2⟩ := ih (by omega) (fun i q1 q2 => hy i q1 (by omega))
      have f := qM1_f (m := qMm T j) (hy j (by omega) (by omega))
      exact ⟨(f.1 10 (by omega) (by omega)).trans a1, (f.1 11 (by omega) (by omega)).trans a2⟩
/-- a whole: what it writes -/
theorem w14_wh {T : qTk} {k k1 : Nat} {u : Unit} (h : pWh T.1 k = pO k1 u) (hk : (qMm T k).1 10 = 4 ∨ (qMm T k).1 10 = 5) : w14 T k1 (3 * qTg ((qMm T k).1 10) ((qMm T k).1 11) + (qMm T k).1 12) ∧ (qMm T k1).1 12 = (qMm T k).1 12 + 1 ∧ (qMm T k1).1 10 = (qMm T k).1 10 ∧ (qMm T k1).1 11 = (qMm T k).1 11 ∧ k < k1 := by
  obtain ⟨a1, a2, a3⟩ := qWh_at h
  have e := qMm_w43 (T := T) (k := k) (j := k1 - 1) (by omega) a3
  have w := (qMm_wh h hk rfl rfl).1
  refine ⟨⟨k1 - 1, by omega, a2, by rw [e]; exact hk, by rw [e]⟩, ?_, ?_, ?_, a1⟩
  · rw [w]
    exact qup_s (qMm T k).1 12 ((qMm T k).1 12 + 1)
  · rw [w]
    exact qup_n (k := 12) (j := 10) (qMm T k).1 ((qMm T k).1 12 + 1) (by decide)
  · rw [w]
    exact qup_n (k := 12) (j := 11) (qMm T k).1 ((qMm T k).1 12 + 1) (by decide)
theorem w14_up {T : qTk} {k k2 x : Nat} (h : w14 T k x) (hk : k ≤ k2) : w14 T k2 x := by
  obtain ⟨j, h1, h2⟩ := h
  exact ⟨j, by omega, h2⟩
theorem w16_up {T : qTk} {k k2 x : Nat} (h : w16 T k x) (hk : k ≤ k2) : w16 T k2 x := by
  obtain ⟨j, h1, h2⟩ := h
  exact ⟨j, by omega, h2⟩
theorem w17_up {T : qTk} {k k2 x : Nat} (h : w17 T k x) (hk : k ≤ k2) : w17 T k2 x := by
  obtain ⟨j, h1, h2⟩ := h
  exact ⟨j, by omega, h2⟩
theorem w18_up {T : qTk} {k k2 x : Nat} (h : w18 T k x) (hk : k ≤ k2) : w18 T k2 x := by
  obtain ⟨j, h1, h2⟩ := h
  exact ⟨j, by omega, h2⟩
/-- what holds at the beginning of an item, or behind all -/
def gAll (T : qTk) (k : Nat) : Prop :=
  (∀ j, j < k → T.1 j = 13 ∨ T.1 j = 14 → 7 ≤ (qMm T j).1 10 ∧ (qMm T j).1 10 ≤ 9) ∧ (∀ j, j < k → (T.1 j = 10 ∨ T.1 j = 13 → ∃ k2 o, pEx T.1 (j + 1) = pO k2 o) ∧ (T.1 j = 14 → ∃ k2 l, pS T.1 500 4 (j + 1) = pO k2 l)) ∧
  (∀ c, c = 4 ∨ c = 5 → ∀ i, i < (qMm T k).1 (c - 4) → ∀ w, w < 3 → w14 T k (3 * qTg c i + w)) ∧ (∀ i, i < (qMm T k).1 5 → w16 T k i) ∧ (∀ c, 7 ≤ c ∧ c ≤ 9 → ∀ i, i < (qMm T k).1 (c - 4) → w17 T k (qBd c i) ∧ w18 T k (qBd c i))
theorem gAll_0 {T : qTk} : gAll T 0 := ⟨fun j h => by omega, fun j h => by omega, fun c _ i h => by
  have h : i < 0 := h
  omega, fun i h => by
  have h : i < 0 := h
  omega, fun c _ i h => by
  have h : i < 0 := h
  omega⟩
theorem gAll_one {T : qTk} {k k2 : Nat} (g : gAll T k) (h : gOne T k k2) : gAll T k2 := by
  obtain ⟨g1, g2, g3, g4, g5⟩ := g
  obtain ⟨h1, h2, h3, h4, h5, h6, h7, h8⟩ := h
  have inn : ∀ j, k + 1 ≤ j → j ≤ k2 → (qMm T j).1 10 = T.1 k ∧ (qMm T j).1 11 = (qMm T k).1 (T.1 k - 4) := fun j q1 q2 => qMm_in h1 q1 (fun i r1 r2 => (h3.2 i r1 (by omega)).1)
  have cn : ∀ x, x ≤ 6 → (qMm T k2).1 x = if x = T.1 k - 4 then (qMm T k).1 x + 1 else (qMm T k).1 x := fun x hx => by
    rw [qMm_c hx h3.1 (fun j q1 q2 => (h3.2 j q1 q2).1)]
    exact (qM1_it (m := qMm T k) h1).1 x hx
  refine ⟨fun j q1 q2 => ?_, fun j q1 => ?_, fun c hc i hi w hw => ?_, fun i hi => ?_, fun c hc i hi => ?_⟩
  · by_cases e : j < k
    · exact g1 j e q2
    · by_cases e2 : j = k
      · rw [e2] at q2
        omega
      · rw [(inn j (by omega) (by omega)).1]
        exact (h3.2 j (by omega) q1).2.1 q2
  · by_cases e : j < k
    · exact g2 j e
    · by_cases e2 : j = k
      · rw [e2]
        exact ⟨fun z => h4 (by omega), fun z => by omega⟩
      · have w := h3.2 j (by omega) q1
        exact ⟨fun z => w.2.2.1 (by have := w.1; unfold nk at this; omega), w.2.2.2⟩
  · by_cases e : i < (qMm T k).1 (c - 4)
    · exact w14_up (g3 c hc i e w hw) (by omega)
    · rw [cn (c - 4) (by omega)] at hi
      by_cases ec : c - 4 = T.1 k - 4
      · rw [if_pos ec] at hi
        have ec : T.1 k = c := by omega
        have ei : i = (qMm T k).1 (c - 4) := by omega
        obtain ⟨k1, k3, k5, p1, p2, p3, p4, p5, p39, p6⟩ := h5 (by omega)
        have s0 := inn (k + 2) (by omega) (by omega)
        have z0 : (qMm T (k + 2)).1 12 = 0 := by
          rw [qMm_nm (h8 (by omega)) (by omega)]
          exact (qM1_it (m := qMm T k) h1).2.2.2.1
        have v1 := w14_wh p1 (by rw [s0.1]; omega)
        have m1 : qMm T (k1 + 1) = qMm T k1 := qMm_0 (by omega)
        have v3 := w14_wh p3 (by rw [m1, v1.2.2.1, s0.1]; omega)
        have m3 : qMm T (k3 + 1) = qMm T k3 := qMm_0 (by omega)
        have v5 := w14_wh p5 (by rw [m3, v3.2.2.1, m1, v1.2.2.1, s0.1]; omega)
        obtain ⟨v11, v12, v13, v14, v15⟩ := v1
        obtain ⟨v31, v32, v33, v34, v35⟩ := v3
        obtain ⟨v51, v52, v53, v54, v55⟩ := v5
        rw [m3, v32, v33, v34, m1, v12, v13, v14, z0, s0.1, s0.2] at v51
        rw [m1, v12, v13, v14, z0, s0.1, s0.2] at v31
        rw [z0, s0.1, s0.2] at v11
        rw [ec] at v11 v31 v51
        rw [ei]
        have : w = 0 ∨ w = 1 ∨ w = 2 := by omega
        rcases this with z | z | z
        · rw [z]
          exact w14_up v11 (by omega)
        · rw [z]
          exact w14_up v31 (by omega)
        · rw [z]
          exact w14_up v51 (by omega)
      · rw [if_neg ec] at hi
        omega
  · by_cases e : i < (qMm T k).1 5
    · exact w16_up (g4 i e) (by omega)
    · rw [cn 5 (by omega)] at hi
      by_cases ec : 5 = T.1 k - 4
      · rw [if_pos ec] at hi
        obtain ⟨p1, p2, p3⟩ := h7 (by omega)
        have s := inn (k + 3) (by omega) (by omega)
        rw [show T.1 k - 4 = 5 by omega] at s
        exact ⟨k + 3, by omega, p2, by rw [show k + 3 - 1 = k + 2 by omega]; exact p1, by rw [s.2]; omega⟩
      · rw [if_neg ec] at hi
        omega
  · by_cases e : i < (qMm T k).1 (c - 4)
    · have := g5 c hc i e
      exact ⟨w17_up this.1 (by omega), w18_up this.2 (by omega)⟩
    · rw [cn (c - 4) (by omega)] at hi
      by_cases ec : c - 4 = T.1 k - 4
      · rw [if_pos ec] at hi
        have ec : T.1 k = c := by omega
        have ei : i = (qMm T k).1 (c - 4) := by omega
        obtain ⟨j, j1, j2, j3⟩ := h6 (by omega)
        have s := inn j (by omega) (by omega)
        rw [ec] at s
        exact ⟨⟨k, by omega, by omega, by rw [ec, ei]⟩, ⟨j, j2, j3, by rw [s.1, s.2, ei]⟩⟩
      · rw [if_neg ec] at hi
        omega
theorem pP_gm {T : qTk} : ∀ {f k k2 : Nat} {u : Unit}, pP T.1 f k = pO k2 u → gAll T k → gAll T k2 ∧ 4 ≤ T.1 k ∧ T.1 k ≤ 10
  | 0, _, _, _, h, _ => by cases h
  | f + 1, k, k2, u, h, g => by
    have h : (pB (pI T.1 k) fun k1 _ => if T.1 k1 = 1 then pO k1 () else pP T.1 f k1) = pO k2 u := h
    rcases pB_inv h with ⟨j, _, e⟩ | ⟨k1, u1, h1, h⟩
    · cases e
    have o := pI_gm h1
    have g1 := gAll_one g o
    by_cases c : T.1 k1 = 1
    · rw [if_pos c] at h
      cases pO_inv h
      exact ⟨g1, o.1⟩
    · rw [if_neg c] at h
      exact ⟨(pP_gm h g1).1, o.1⟩
/-! where the meaning has the codes from -/
theorem qMm_w13 {T : qTk} : ∀ k b t, (qMm T k).2.2.2.2.1 b = some t → T.1 t = 13 ∧ t < k
  | 0, _, _, h => by cases h
  | k + 1, b, t, h => by
    have ih := qMm_w13 (T := T) k b t
    have h : (qM1 T k (qMm T k)).2.2.2.2.1 b = some t := h
    have old : (qMm T k).2.2.2.2.1 b = some t → T.1 t = 13 ∧ t < k + 1 := fun z => ⟨(ih z).1, by have := (ih z).2; omega⟩
    by_cases c : 4 ≤ T.1 k ∧ T.1 k ≤ 10
    · rw [(qM1_it (m := qMm T k) c).2.2.2.2.2.2.2.2.2.1] at h
      by_cases z : 7 ≤ T.1 k ∧ T.1 k ≤ 9
      · rw [if_pos z] at h
        unfold qup at h
        split at h
        · cases h
        · exact old h
      · rw [if_neg z] at h
        exact old h
    · have f := qM1_f (m := qMm T k) c
      by_cases c13 : T.1 k = 13
      · have e : (qM1 T k (qMm T k)).2.2.2.2.1 = qup (qMm T k).2.2.2.2.1 (qBd ((qMm T k).1 10) ((qMm T k).1 11)) (some k) := (qMm_13 c13).2.2.2.2.1
        rw [e] at h
        unfold qup at h
        split at h
        · cases h
          exact ⟨c13, by omega⟩
        · exact old h
      · rw [f.2.2.2.2.1 c13] at h
        exact old h
theorem qMm_w14 {T : qTk} : ∀ k b, w18 T k b → T.1 ((qMm T k).2.2.2.2.2 b) = 14 ∧ (qMm T k).2.2.2.2.2 b < k
  | 0, _, ⟨_, h, _⟩ => by omega
  | k + 1, b, h => by
    have ih := qMm_w14 (T := T) k b
    show T.1 ((qM1 T k (qMm T k)).2.2.2.2.2 b) = 14 ∧ (qM1 T k (qMm T k)).2.2.2.2.2 b < k + 1
    have old : w18 T k b → T.1 ((qMm T k).2.2.2.2.2 b) = 14 ∧ (qMm T k).2.2.2.2.2 b < k + 1 := fun z => ⟨(ih z).1, by have := (ih z).2; omega⟩
    by_cases c : 4 ≤ T.1 k ∧ T.1 k ≤ 10
    · rw [(qM1_it (m := qMm T k) c).2.2.2.2.2.2.2.2.2.2]
      exact old (w18_old h (fun z => by omega))
    · have f := qM1_f (m := qMm T k) c
      by_cases c14 : T.1 k = 14
      · have e : (qM1 T k (qMm T k)).2.2.2.2.2 = qup (qMm T k).2.2.2.2.2 (qBd ((qMm T k).1 10) ((qMm T k).1 11)) k := (qMm_d14 c14).2.2.2.2.2
        rw [e]
        unfold qup
        split
        · exact ⟨c14, by omega⟩
        · rename_i z
          exact old (w18_old h (fun _ => z))
      · rw [f.2.2.2.2.2.1 c14]
        exact old (w18_old h (fun z => absurd z c14))
theorem qMm_w10 {T : qTk} : ∀ k, 0 < (qMm T k).1 6 → T.1 ((qMm T k).1 14) = 10 ∧ (qMm T k).1 14 < k
  | 0, h => by
    have h : 0 < 0 := h
    omega
  | k + 1, h => by
    have ih := qMm_w10 (T := T) k
    have h : 0 < (qM1 T k (qMm T k)).1 6 := h
    show T.1 ((qM1 T k (qMm T k)).1 14) = 10 ∧ (qM1 T k (qMm T k)).1 14 < k + 1
    by_cases c : 4 ≤ T.1 k ∧ T.1 k ≤ 10
    · rw [(qM1_it (m := qMm T k) c).1 6 (by omega)] at h
      rw [(qM1_it (m := qMm T k) c).2.2.2.2.2.1]
      by_cases z : T.1 k = 10
      · rw [if_pos z]
        exact ⟨z, by omega⟩
      · rw [if_neg z]
        rw [if_neg (by omega)] at h
        have := ih h
        exact ⟨this.1, by omega⟩
    · have f := qM1_f (m := qMm T k) c
      rw [f.1 6 (by omega) (by omega)] at h
      rw [f.1 14 (by omega) (by omega)]
      have := ih h
      exact ⟨this.1, by omega⟩

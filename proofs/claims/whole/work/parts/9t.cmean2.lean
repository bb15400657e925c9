/-! ===== the class's meaning: what holds of the fold, token by token ===== -/
theorem qWv_z {T : qTk} {k : Nat} (hv : qTv T) (h3 : T.1 k = 3) : (-9999 ≤ qWv T k ∧ qWv T k ≤ 9999) ∧ (if T.1 (k - 1) = 43 then -((T.2.2.1 k).toInt32) else (T.2.2.1 k).toInt32) = zi (qWv T k) := by
  obtain ⟨m, hm, e⟩ := hv k h3
  have e2 : (T.2.2.1 k).toInt32 = zi (m : Int) := by rw [e, Int32.toInt32_toInt64]
  unfold qWv
  rw [e2, zi_toInt (by omega) (by omega)]
  by_cases c : T.1 (k - 1) = 43
  · rw [if_pos c, if_pos c, zi_neg]
    exact ⟨⟨by omega, by omega⟩, rfl⟩
  · rw [if_neg c, if_neg c]
    exact ⟨⟨by omega, by omega⟩, rfl⟩
theorem qM1_n {T : qTk} {k : Nat} {m : qMt} (h : T.1 k = 3) : (m.1 10 = 4 ∨ m.1 10 = 5 → qM1 T k m = (qup m.1 12 (m.1 12 + 1), qup m.2.1 (3 * qTg (m.1 10) (m.1 11) + m.1 12) (qWv T k), m.2.2)) ∧ (¬ (m.1 10 = 4 ∨ m.1 10 = 5) → qM1 T k m = m) := by
  unfold qM1
  rw [if_neg (by omega), if_neg (by omega), if_pos h]
  exact ⟨fun z => if_pos z, fun z => if_neg z⟩
/-- a name, and how it changes what is known -/
theorem qM1_pl {T : qTk} {k : Nat} {m : qMt} (h : T.1 k = 2) (ha : ¬ (T.1 (k - 1) = 40 ∨ T.1 (k - 1) = 38) ∧ ¬ T.1 (k - 1) = 12) : qM1 T k m = m := by
  unfold qM1
  rw [if_neg (by omega), if_pos h, if_neg ha.1, if_neg ha.2]
theorem qMm_12 {T : qTk} : ∀ k, (qMm T k).1 12 ≤ k
  | 0 => Nat.le_refl _
  | k + 1 => by
    have ih := qMm_12 (T := T) k
    show (qM1 T k (qMm T k)).1 12 ≤ k + 1
    by_cases c : 4 ≤ T.1 k ∧ T.1 k ≤ 10
    · rw [(qM1_it (m := qMm T k) c).2.2.2.1]
      omega
    · have f := qM1_f (m := qMm T k) c
      by_cases c3 : T.1 k = 3 ∧ ((qMm T k).1 10 = 4 ∨ (qMm T k).1 10 = 5)
      · rw [(qM1_n c3.1).1 c3.2]
        show qup (qMm T k).1 12 ((qMm T k).1 12 + 1) 12 ≤ k + 1
        rw [qup_s]
        omega
      · rw [(f.2.1 (fun h3 z => c3 ⟨h3, z⟩)).2]
        omega
theorem qMm_b {T : qTk} (hv : qTv T) : ∀ k x, -9999 ≤ (qMm T k).2.1 x ∧ (qMm T k).2.1 x ≤ 9999
  | 0, x => ⟨by show (-9999 : Int) ≤ 0; omega, by show (0 : Int) ≤ 9999; omega⟩
  | k + 1, x => by
    have ih := qMm_b hv k x
    show -9999 ≤ (qM1 T k (qMm T k)).2.1 x ∧ (qM1 T k (qMm T k)).2.1 x ≤ 9999
    by_cases c : 4 ≤ T.1 k ∧ T.1 k ≤ 10
    · rw [(qM1_it (m := qMm T k) c).2.2.2.2.2.2.1]
      exact ih
    · have f := qM1_f (m := qMm T k) c
      by_cases c3 : T.1 k = 3 ∧ ((qMm T k).1 10 = 4 ∨ (qMm T k).1 10 = 5)
      · rw [(qM1_n c3.1).1 c3.2]
        show -9999 ≤ qup (qMm T k).2.1 _ (qWv T k) x ∧ qup (qMm T k).2.1 _ (qWv T k) x ≤ 9999
        unfold qup
        split
        · exact (qWv_z hv c3.1).1
        · exact ih
      · rw [(f.2.1 (fun h3 z => c3 ⟨h3, z⟩)).1]
        exact ih
theorem qMm_13v {T : qTk} : ∀ k, (qMm T k).1 13 = 0 ∨ (qMm T k).1 13 = 1
  | 0 => Or.inl rfl
  | k + 1 => by
    have ih := qMm_13v (T := T) k
    show (qM1 T k (qMm T k)).1 13 = 0 ∨ (qM1 T k (qMm T k)).1 13 = 1
    by_cases c : 4 ≤ T.1 k ∧ T.1 k ≤ 10
    · rw [(qM1_it (m := qMm T k) c).2.2.2.2.1]
      split
      · exact Or.inr rfl
      · exact Or.inl rfl
    · have f := qM1_f (m := qMm T k) c
      by_cases c13 : T.1 k = 13
      · unfold qM1
        rw [if_neg c, if_neg (by omega), if_neg (by omega), if_pos c13]
        refine Or.inr ?_
        show qup (qMm T k).1 13 1 13 = 1
        exact qup_s _ _ _
      · by_cases c14 : T.1 k = 14
        · unfold qM1
          rw [if_neg c, if_neg (by omega), if_neg (by omega), if_neg c13, if_pos c14]
          refine Or.inl ?_
          show qup (qMm T k).1 13 0 13 = 0
          exact qup_s _ _ _
        · rw [f.2.2.2.2.2.2.1 c13 c14]
          exact ih
/-- the kind and the number of the item that a token stands in -/
theorem qMm_kn {T : qTk} (h0 : 4 ≤ T.1 0 ∧ T.1 0 ≤ 10) : ∀ k, 1 ≤ k → (∀ i, i < k → qEE T i = 0) → (4 ≤ (qMm T k).1 10 ∧ (qMm T k).1 10 ≤ 10) ∧ (qMm T k).1 11 < qMost ((qMm T k).1 10 - 4) ∧ (qMm T k).1 11 < (qMm T k).1 ((qMm T k).1 10 - 4)
  | 0, h1, _ => by omega
  | k + 1, _, hcl => by
    show (4 ≤ (qM1 T k (qMm T k)).1 10 ∧ (qM1 T k (qMm T k)).1 10 ≤ 10) ∧ (qM1 T k (qMm T k)).1 11 < qMost ((qM1 T k (qMm T k)).1 10 - 4) ∧ (qM1 T k (qMm T k)).1 11 < (qM1 T k (qMm T k)).1 ((qM1 T k (qMm T k)).1 10 - 4)
    by_cases c : 4 ≤ T.1 k ∧ T.1 k ≤ 10
    · obtain ⟨i1, i2, i3, -⟩ := qM1_it (m := qMm T k) c
      rw [i2, i3, i1 _ (by omega), if_pos rfl]
      have e := hcl k (by omega)
      unfold qEE qE1 at e
      rw [if_pos c] at e
      by_cases y : qMost (T.1 k - 4) ≤ (qMm T k).1 (T.1 k - 4)
      · rw [if_pos y] at e
        cases e
      · exact ⟨c, by omega, by omega⟩
    · have f := qM1_f (m := qMm T k) c
      have k1 : 1 ≤ k := by
        by_cases z : k = 0
        · rw [z] at c
          exact absurd h0 c
        · omega
      have ih := qMm_kn h0 k k1 (fun i hi => hcl i (by omega))
      rw [f.1 10 (by omega) (by omega), f.1 11 (by omega) (by omega), f.1 _ (by omega) (by omega)]
      exact ih
/-! what was written -/
def w14 (T : qTk) (k x : Nat) : Prop := ∃ j, j < k ∧ T.1 j = 3 ∧ ((qMm T j).1 10 = 4 ∨ (qMm T j).1 10 = 5) ∧ x = 3 * qTg ((qMm T j).1 10) ((qMm T j).1 11) + (qMm T j).1 12
def w16 (T : qTk) (k x : Nat) : Prop := ∃ j, j < k ∧ T.1 j = 2 ∧ T.1 (j - 1) = 12 ∧ x = (qMm T j).1 11
def w17 (T : qTk) (k x : Nat) : Prop := ∃ j, j < k ∧ (7 ≤ T.1 j ∧ T.1 j ≤ 9) ∧ x = qBd (T.1 j) ((qMm T j).1 (T.1 j - 4))
def w18 (T : qTk) (k x : Nat) : Prop := ∃ j, j < k ∧ T.1 j = 14 ∧ x = qBd ((qMm T j).1 10) ((qMm T j).1 11)
theorem w14_old {T : qTk} {k x : Nat} (h : w14 T (k + 1) x) (hn : T.1 k = 3 → (qMm T k).1 10 = 4 ∨ (qMm T k).1 10 = 5 → ¬ x = 3 * qTg ((qMm T k).1 10) ((qMm T k).1 11) + (qMm T k).1 12) : w14 T k x := by
  obtain ⟨j, h1, h2, h3, h4⟩ := h
  by_cases e : j = k
  · subst e
    exact absurd h4 (hn h2 h3)
  · exact ⟨j, by omega, h2, h3, h4⟩
theorem w16_old {T : qTk} {k x : Nat} (h : w16 T (k + 1) x) (hn : T.1 k = 2 → T.1 (k - 1) = 12 → ¬ x = (qMm T k).1 11) : w16 T k x := by
  obtain ⟨j, h1, h2, h3, h4⟩ := h
  by_cases e : j = k
  · subst e
    exact absurd h4 (hn h2 h3)
  · exact ⟨j, by omega, h2, h3, h4⟩
theorem w17_old {T : qTk} {k x : Nat} (h : w17 T (k + 1) x) (hn : 7 ≤ T.1 k ∧ T.1 k ≤ 9 → ¬ x = qBd (T.1 k) ((qMm T k).1 (T.1 k - 4))) : w17 T k x := by
  obtain ⟨j, h1, h2, h3⟩ := h
  by_cases e : j = k
  · subst e
    exact absurd h3 (hn h2)
  · exact ⟨j, by omega, h2, h3⟩
theorem w18_old {T : qTk} {k x : Nat} (h : w18 T (k + 1) x) (hn : T.1 k = 14 → ¬ x = qBd ((qMm T k).1 10) ((qMm T k).1 11)) : w18 T k x := by
  obtain ⟨j, h1, h2, h3⟩ := h
  by_cases e : j = k
  · subst e
    exact absurd h3 (hn h2)
  · exact ⟨j, by omega, h2, h3⟩
/-- the wholes of the item that are read are written -/
theorem w14_cur {T : qTk} : ∀ k, (qMm T k).1 10 = 4 ∨ (qMm T k).1 10 = 5 → ∀ w, w < (qMm T k).1 12 → w14 T k (3 * qTg ((qMm T k).1 10) ((qMm T k).1 11) + w)
  | 0, h, w, hw => by
    have : w < 0 := hw
    omega
  | k + 1, h, w, hw => by
    have ih := w14_cur (T := T) k
    have up : ∀ x, w14 T k x → w14 T (k + 1) x := fun x ⟨j, h1, h2⟩ => ⟨j, by omega, h2⟩
    have h : (qM1 T k (qMm T k)).1 10 = 4 ∨ (qM1 T k (qMm T k)).1 10 = 5 := h
    have hw : w < (qM1 T k (qMm T k)).1 12 := hw
    show w14 T (k + 1) (3 * qTg ((qM1 T k (qMm T k)).1 10) ((qM1 T k (qMm T k)).1 11) + w)
    by_cases c : 4 ≤ T.1 k ∧ T.1 k ≤ 10
    · rw [(qM1_it (m := qMm T k) c).2.2.2.1] at hw
      omega
    · have f := qM1_f (m := qMm T k) c
      rw [f.1 10 (by omega) (by omega)] at h ⊢
      rw [f.1 11 (by omega) (by omega)]
      by_cases c3 : T.1 k = 3
      · rw [(qM1_n c3).1 h] at hw
        have hw : w < qup (qMm T k).1 12 ((qMm T k).1 12 + 1) 12 := hw
        rw [qup_s] at hw
        by_cases e : w = (qMm T k).1 12
        · exact ⟨k, by omega, c3, h, by rw [e]⟩
        · exact up _ (ih h w (by omega))
      · rw [(f.2.1 (fun z => absurd z c3)).2] at hw
        exact up _ (ih h w hw)

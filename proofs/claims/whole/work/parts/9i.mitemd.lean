/-! ===== the reference's items: what a body leaves of the meaning ===== -/
theorem qMm_13 {T : qTk} {k : Nat} (h : T.1 k = 13) : (∀ x, ¬ x = 13 → (qMm T (k + 1)).1 x = (qMm T k).1 x) ∧ (qMm T (k + 1)).2.1 = (qMm T k).2.1 ∧ (qMm T (k + 1)).2.2.1 = (qMm T k).2.2.1 ∧ (qMm T (k + 1)).2.2.2.1 = (qMm T k).2.2.2.1 ∧ (qMm T (k + 1)).2.2.2.2.1 = qup (qMm T k).2.2.2.2.1 (qBd ((qMm T k).1 10) ((qMm T k).1 11)) (some k) ∧ (qMm T (k + 1)).2.2.2.2.2 = (qMm T k).2.2.2.2.2 := by
  show (∀ x, ¬ x = 13 → (qM1 T k (qMm T k)).1 x = _) ∧ (qM1 T k (qMm T k)).2.1 = _ ∧ (qM1 T k (qMm T k)).2.2.1 = _ ∧ (qM1 T k (qMm T k)).2.2.2.1 = _ ∧ (qM1 T k (qMm T k)).2.2.2.2.1 = _ ∧ (qM1 T k (qMm T k)).2.2.2.2.2 = _
  unfold qM1
  rw [if_neg (by omega), if_neg (by omega), if_neg (by omega), if_pos h]
  exact ⟨fun x hx => qup_n _ _ hx, rfl, rfl, rfl, rfl, rfl⟩
theorem qMm_d14 {T : qTk} {k : Nat} (h : T.1 k = 14) : (∀ x, ¬ x = 13 → (qMm T (k + 1)).1 x = (qMm T k).1 x) ∧ (qMm T (k + 1)).2.1 = (qMm T k).2.1 ∧ (qMm T (k + 1)).2.2.1 = (qMm T k).2.2.1 ∧ (qMm T (k + 1)).2.2.2.1 = (qMm T k).2.2.2.1 ∧ (qMm T (k + 1)).2.2.2.2.1 = (qMm T k).2.2.2.2.1 ∧ (qMm T (k + 1)).2.2.2.2.2 = qup (qMm T k).2.2.2.2.2 (qBd ((qMm T k).1 10) ((qMm T k).1 11)) k := by
  show (∀ x, ¬ x = 13 → (qM1 T k (qMm T k)).1 x = _) ∧ (qM1 T k (qMm T k)).2.1 = _ ∧ (qM1 T k (qMm T k)).2.2.1 = _ ∧ (qM1 T k (qMm T k)).2.2.2.1 = _ ∧ (qM1 T k (qMm T k)).2.2.2.2.1 = _ ∧ (qM1 T k (qMm T k)).2.2.2.2.2 = _
  unfold qM1
  rw [if_neg (by omega), if_neg (by omega), if_neg (by omega), if_neg (by omega), if_pos h]
  exact ⟨fun x hx => qup_n _ _ hx, rfl, rfl, rfl, rfl, rfl⟩
theorem qMm_ac {T : qTk} {k k0 k1 : Nat} {l : List (zSt 4)} (h4 : ¬ ((qMm T k).1 10 = 4 ∨ (qMm T k).1 10 = 5)) (hq : (T.1 k = 13 ∧ ∃ o, pEx T.1 (k + 1) = pO k0 o) ∨ (¬ T.1 k = 13 ∧ k0 = k)) (hS : pS T.1 500 4 (k0 + 1) = pO k1 l) (h14 : T.1 k0 = 14) (h15 : T.1 k1 = 15) : (∀ x, ¬ x = 13 → (qMm T (k1 + 1)).1 x = (qMm T k).1 x) ∧ (qMm T (k1 + 1)).2.1 = (qMm T k).2.1 ∧ (qMm T (k1 + 1)).2.2.1 = (qMm T k).2.2.1 ∧ (qMm T (k1 + 1)).2.2.2.1 = (qMm T k).2.2.2.1 ∧ (qMm T (k1 + 1)).2.2.2.2.1 = (if T.1 k = 13 then qup (qMm T k).2.2.2.2.1 (qBd ((qMm T k).1 10) ((qMm T k).1 11)) (some k) else (qMm T k).2.2.2.2.1) ∧ (qMm T (k1 + 1)).2.2.2.2.2 = qup (qMm T k).2.2.2.2.2 (qBd ((qMm T k).1 10) ((qMm T k).1 11)) k0 := by
  have a : (∀ x, ¬ x = 13 → (qMm T k0).1 x = (qMm T k).1 x) ∧ (qMm T k0).2.1 = (qMm T k).2.1 ∧ (qMm T k0).2.2.1 = (qMm T k).2.2.1 ∧ (qMm T k0).2.2.2.1 = (qMm T k).2.2.2.1 ∧ (qMm T k0).2.2.2.2.1 = (if T.1 k = 13 then qup (qMm T k).2.2.2.2.1 (qBd ((qMm T k).1 10) ((qMm T k).1 11)) (some k) else (qMm T k).2.2.2.2.1) ∧ (qMm T k0).2.2.2.2.2 = (qMm T k).2.2.2.2.2 := by
    rcases hq with ⟨c, o, ho⟩ | ⟨c, e⟩
    · have w := qMm_13 c
      have t := tks_ex ho
      have y : qMm T k0 = qMm T (k + 1) := qMm_ys (by rw [Nat.add_sub_cancel]; omega) (by rw [w.1 10 (by omega)]; exact h4) t.1.1 t.1.2
      rw [y, if_pos c]
      exact w
    · rw [e, if_neg c]
      exact ⟨fun _ _ => rfl, rfl, rfl, rfl, rfl, rfl⟩
  have b := qMm_d14 h14
  have t := pS_ok (f := 500) hS
  have y : qMm T k1 = qMm T (k0 + 1) := qMm_ys (by rw [Nat.add_sub_cancel]; omega) (by rw [b.1 10 (by omega), a.1 10 (by omega)]; exact h4) t.1.1 t.1.2
  rw [qMm_0 (by omega), y]
  refine ⟨fun x hx => (b.1 x hx).trans (a.1 x hx), b.2.1.trans a.2.1, b.2.2.1.trans a.2.2.1, b.2.2.2.1.trans a.2.2.2.1, b.2.2.2.2.1.trans a.2.2.2.2.1, ?_⟩
  rw [b.2.2.2.2.2, a.2.2.2.2.2, a.1 10 (by omega), a.1 11 (by omega)]

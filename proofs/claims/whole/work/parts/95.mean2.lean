/-! ===== the meaning (spec): what tokens leave as it is; an expression's context ===== -/
theorem qM1_f {T : qTk} {k : Nat} {m : qMt} (h : ¬ (4 ≤ T.1 k ∧ T.1 k ≤ 10)) :
    (∀ c, ¬ c = 12 → ¬ c = 13 → (qM1 T k m).1 c = m.1 c) ∧ ((T.1 k = 3 → ¬ (m.1 10 = 4 ∨ m.1 10 = 5)) → (qM1 T k m).2.1 = m.2.1 ∧ (qM1 T k m).1 12 = m.1 12) ∧ ((T.1 k = 2 → ¬ (T.1 (k - 1) = 40 ∨ T.1 (k - 1) = 38)) → (qM1 T k m).2.2.1 = m.2.2.1) ∧ ((T.1 k = 2 → ¬ T.1 (k - 1) = 12) → (qM1 T k m).2.2.2.1 = m.2.2.2.1) ∧
    (¬ T.1 k = 13 → (qM1 T k m).2.2.2.2.1 = m.2.2.2.2.1) ∧ (¬ T.1 k = 14 → (qM1 T k m).2.2.2.2.2 = m.2.2.2.2.2) ∧ (¬ T.1 k = 13 → ¬ T.1 k = 14 → (qM1 T k m).1 13 = m.1 13) ∧ (∀ x, ¬ x = 3 * qTg (m.1 10) (m.1 11) + m.1 12 → (qM1 T k m).2.1 x = m.2.1 x) ∧ (∀ i, ¬ i = m.1 11 → (qM1 T k m).2.2.1 i = m.2.2.1 i) ∧ (∀ i, ¬ i = m.1 11 → (qM1 T k m).2.2.2.1 i = m.2.2.2.1 i) ∧
    (∀ b, ¬ b = qBd (m.1 10) (m.1 11) → (qM1 T k m).2.2.2.2.1 b = m.2.2.2.2.1 b) ∧ ∀ b, ¬ b = qBd (m.1 10) (m.1 11) → (qM1 T k m).2.2.2.2.2 b = m.2.2.2.2.2 b := by
  unfold qM1
  rw [if_neg h]
  by_cases c2 : T.1 k = 2
  · rw [if_pos c2]
    by_cases c4 : T.1 (k - 1) = 40 ∨ T.1 (k - 1) = 38
    · rw [if_pos c4]
      refine ⟨fun _ _ _ => rfl, fun _ => ⟨rfl, rfl⟩, fun z => absurd c4 (z c2), fun _ => rfl, fun _ => rfl, fun _ => rfl, fun _ _ => rfl, fun _ _ => rfl, fun i hi => ?_, fun _ _ => rfl, fun _ _ => rfl, fun _ _ => rfl⟩
      show (if (qFd T 7 (T.2.2.1 k) T.2.2.2).getD 0 < 12 then qup m.2.2.1 (m.1 11) (m.2.2.1 (m.1 11) ||| (1 <<< (zi (((qFd T 7 (T.2.2.1 k) T.2.2.2).getD 0 : Nat) : Int) &&& 31))) else m.2.2.1) i = _
      split
      · exact qup_n _ _ hi
      · rfl
    · rw [if_neg c4]
      by_cases c12 : T.1 (k - 1) = 12
      · rw [if_pos c12]
        exact ⟨fun _ _ _ => rfl, fun _ => ⟨rfl, rfl⟩, fun _ => rfl, fun z => absurd c12 (z c2), fun _ => rfl, fun _ => rfl, fun _ _ => rfl, fun _ _ => rfl, fun _ _ => rfl, fun i hi => qup_n _ _ hi, fun _ _ => rfl, fun _ _ => rfl⟩
      · rw [if_neg c12]
        exact ⟨fun _ _ _ => rfl, fun _ => ⟨rfl, rfl⟩, fun _ => rfl, fun _ => rfl, fun _ => rfl, fun _ => rfl, fun _ _ => rfl, fun _ _ => rfl, fun _ _ => rfl, fun _ _ => rfl, fun _ _ => rfl, fun _ _ => rfl⟩
  · rw [if_neg c2]
    by_cases c3 : T.1 k = 3
    · rw [if_pos c3]
      by_cases c5 : m.1 10 = 4 ∨ m.1 10 = 5
      · rw [if_pos c5]
        exact ⟨fun c h1 _ => qup_n _ _ h1, fun z => absurd c5 (z c3), fun _ => rfl, fun _ => rfl, fun _ => rfl, fun _ => rfl, fun _ _ => qup_n (k := 12) (j := 13) m.1 (m.1 12 + 1) (by decide), fun x hx => qup_n _ _ hx, fun _ _ => rfl, fun _ _ => rfl, fun _ _ => rfl, fun _ _ => rfl⟩
      · rw [if_neg c5]
        exact ⟨fun _ _ _ => rfl, fun _ => ⟨rfl, rfl⟩, fun _ => rfl, fun _ => rfl, fun _ => rfl, fun _ => rfl, fun _ _ => rfl, fun _ _ => rfl, fun _ _ => rfl, fun _ _ => rfl, fun _ _ => rfl, fun _ _ => rfl⟩
    · rw [if_neg c3]
      by_cases c13 : T.1 k = 13
      · rw [if_pos c13]
        exact ⟨fun c _ h2 => qup_n _ _ h2, fun _ => ⟨rfl, qup_n (k := 13) (j := 12) m.1 1 (by decide)⟩, fun _ => rfl, fun _ => rfl, fun z => absurd c13 z, fun _ => rfl, fun z => absurd c13 z, fun _ _ => rfl, fun _ _ => rfl, fun _ _ => rfl, fun b hb => qup_n _ _ hb, fun _ _ => rfl⟩
      · rw [if_neg c13]
        by_cases c14 : T.1 k = 14
        · rw [if_pos c14]
          exact ⟨fun c _ h2 => qup_n _ _ h2, fun _ => ⟨rfl, qup_n (k := 13) (j := 12) m.1 0 (by decide)⟩, fun _ => rfl, fun _ => rfl, fun _ => rfl, fun z => absurd c14 z, fun _ z => absurd c14 z, fun _ _ => rfl, fun _ _ => rfl, fun _ _ => rfl, fun _ _ => rfl, fun b hb => qup_n _ _ hb⟩
        · rw [if_neg c14]
          exact ⟨fun _ _ _ => rfl, fun _ => ⟨rfl, rfl⟩, fun _ => rfl, fun _ => rfl, fun _ => rfl, fun _ => rfl, fun _ _ => rfl, fun _ _ => rfl, fun _ _ => rfl, fun _ _ => rfl, fun _ _ => rfl, fun _ _ => rfl⟩
theorem ys_not {c : Nat} (h : ys c) : ¬ (4 ≤ c ∧ c ≤ 14) ∧ ¬ c = 38 ∧ ¬ c = 40 ∧ 2 ≤ c := by
  unfold ys xs at h
  omega
/-- a run of tokens of expressions and statements leaves all as it is -/
theorem qMm_ys {T : qTk} {k : Nat} (hk : ¬ (4 ≤ T.1 (k - 1) ∧ T.1 (k - 1) ≤ 9) ∧ ¬ T.1 (k - 1) = 12 ∧ ¬ T.1 (k - 1) = 38 ∧ ¬ T.1 (k - 1) = 40) (h4 : ¬ ((qMm T k).1 10 = 4 ∨ (qMm T k).1 10 = 5)) : ∀ {k2 : Nat}, k ≤ k2 → (∀ j, k ≤ j → j < k2 → ys (T.1 j)) → qMm T k2 = qMm T k := by
  intro k2
  induction k2 with
  | zero =>
    intro h1 h2
    have : k = 0 := by omega
    rw [this]
  | succ j ih =>
    intro h1 h2
    by_cases e : k = j + 1
    · rw [e]
    · have e1 := ih (by omega) (fun i q1 q2 => h2 i q1 (by omega))
      have y := ys_not (h2 j (by omega) (by omega))
      have ya : ¬ T.1 (j - 1) = 12 ∧ ¬ T.1 (j - 1) = 38 ∧ ¬ T.1 (j - 1) = 40 := by
        by_cases ej : j = k
        · rw [ej]
          exact hk.2
        · have := ys_not (h2 (j - 1) (by omega) (by omega))
          omega
      show qM1 T j (qMm T j) = _
      rw [e1]
      unfold qM1
      rw [if_neg (by omega)]
      by_cases c2 : T.1 j = 2
      · rw [if_pos c2, if_neg (by omega), if_neg (by omega)]
      · rw [if_neg c2]
        by_cases c3 : T.1 j = 3
        · rw [if_pos c3, if_neg h4]
        · rw [if_neg c3, if_neg (by omega), if_neg (by omega)]
/-- errors by the pass -/
def qEp9 (T : qTk) (mn j : Nat) : Nat := if mn = 1 then qEE T j else 0
def qTb9 (T : qTk) (mn k : Nat) : List (Int64 × Nat × Nat) := if mn = 1 then qIm T k else []
/-- nothing is wrong ahead: there are no more than there may be -/
theorem qCn_most {T : qTk} {c k : Nat} (hc : c ≤ 6) (h : ∀ i, i < k → qEE T i = 0) : qCn T.1 (c + 4) k ≤ qMost c := by
  induction k with
  | zero => exact Nat.zero_le _
  | succ k ih =>
    have ih1 := ih (fun i hi => h i (by omega))
    show (if T.1 k = c + 4 then qCn T.1 (c + 4) k + 1 else qCn T.1 (c + 4) k) ≤ _
    by_cases z : T.1 k = c + 4
    · rw [if_pos z]
      have e := h k (by omega)
      unfold qEE qE1 at e
      rw [if_pos (by omega), show T.1 k - 4 = c by omega, qMm_cn hc] at e
      by_cases y : qMost c ≤ qCn T.1 (c + 4) k
      · rw [if_pos y] at e
        cases e
      · omega
    · rw [if_neg z]
      exact ih1
theorem qCn_ys {T : qTk} {c k k2 : Nat} (hc : 4 ≤ c ∧ c ≤ 10) (h1 : k ≤ k2) (h2 : ∀ j, k ≤ j → j < k2 → ¬ T.1 j = c) : qCn T.1 c k2 = qCn T.1 c k := by
  induction k2 with
  | zero =>
    have : k = 0 := by omega
    rw [this]
  | succ j ih =>
    by_cases e : k = j + 1
    · rw [e]
    · rw [← ih (by omega) (fun i q1 q2 => h2 i q1 (by omega))]
      show (if T.1 j = c then _ else _) = _
      rw [if_neg (h2 j (by omega) (by omega))]
/-- the context of an expression, or of statements, from k on -/
theorem qGx_mk {T : qTk} {mn ct k : Nat} (hw : qTw T) (hm : mn = 0 ∨ mn = 1) (hct : ct = 0 ∨ ct = 1) (hk : ¬ (4 ≤ T.1 (k - 1) ∧ T.1 (k - 1) ≤ 9) ∧ ¬ T.1 (k - 1) = 12 ∧ ¬ T.1 (k - 1) = 38 ∧ ¬ T.1 (k - 1) = 40) (hcl : mn = 1 → ∀ i, i < k → qEE T i = 0) (h4 : mn = 1 → ¬ ((qMm T k).1 10 = 4 ∨ (qMm T k).1 10 = 5)) (h13 : mn = 1 → (qMm T k).1 13 = 1 - ct) : qGx T (qEp9 T mn) mn ct (qPl T) (qTb9 T mn k) k := by
  refine ⟨hm, hct, fun j h1 h2 => ?_, fun m1 j h1 h2 hj => ?_⟩
  · unfold qEp9
    rcases hm with m0 | m1
    · rw [if_neg (by omega), if_pos m0]
    · rw [if_pos m1, if_neg (by omega)]
      have eM := qMm_ys hk (h4 m1) h1 (fun i q1 q2 => h2 i q1 (by omega))
      have y := ys_not (h2 j h1 (Nat.le_refl _))
      have ya : ¬ (4 ≤ T.1 (j - 1) ∧ T.1 (j - 1) ≤ 9) ∧ ¬ T.1 (j - 1) = 12 ∧ ¬ T.1 (j - 1) = 38 ∧ ¬ T.1 (j - 1) = 40 := by
        by_cases ej : j = k
        · rw [ej]
          exact hk
        · have := ys_not (h2 (j - 1) (by omega) (by omega))
          omega
      have h13 := h13 m1
      unfold qEE qE1 eX
      rw [eM, if_neg (by omega)]
      by_cases c2 : T.1 j = 2
      · rw [if_pos c2, if_neg ya.1, if_neg (by omega), if_neg (by omega)]
        by_cases c5 : (qPl T j).isNone = true
        · rw [if_pos c5, if_pos ⟨c2, c5⟩]
        · rw [if_neg c5, if_neg (fun z => c5 z.2), if_neg (by omega)]
      · rw [if_neg c2]
        by_cases c3 : T.1 j = 3
        · rw [if_pos c3, if_neg (fun z => h4 m1 z.1), if_neg (fun z => c2 z.1), if_neg (by omega)]
        · rw [if_neg c3, if_neg (show ¬ (T.1 j = 2 ∧ (qPl T j).isNone = true) from fun z => c2 z.1)]
          by_cases c27 : T.1 j = 27
          · rw [if_pos c27]
            by_cases c0 : ct = 0
            · rw [if_pos (by rw [h13, c0]), if_pos ⟨c27, c0⟩]
            · rw [if_neg (by omega), if_neg (fun z => c0 z.2)]
          · rw [if_neg c27, if_neg (fun z => c27 z.1)]
  · have e4 : ∀ c w, 4 ≤ c ∧ c ≤ 9 → qFd T c w j = qFd T c w k := fun c w hc => qFd_ys hc h1 (fun i q1 q2 => by
      by_cases ei : i = k
      · rw [ei]
        exact hk.1
      · have := ys_not (h2 (i - 1) (by omega) (by omega))
        omega)
    have bd : ∀ c w n, 4 ≤ c ∧ c ≤ 5 → qFd T c w k = some n → n < 6 := fun c w n hc hq => by
      have l1 := qFd_lt hq
      have l2 := qCn_most (T := T) (c := c - 4) (k := k) (by omega) (hcl m1)
      rw [show c - 4 + 4 = c by omega] at l2
      have l3 : qMost (c - 4) = 6 := by
        have : c = 4 ∨ c = 5 := by omega
        rcases this with z | z <;> rw [z] <;> rfl
      omega
    have et : qTb9 T mn k = qIm T k := by
      unfold qTb9
      rw [if_pos m1]
    rw [et]
    unfold qPl
    by_cases c25 : T.1 (j - 1) = 25
    · rw [if_pos (Or.inl c25), if_pos c25]
      have e0 : tLk (qIm T k) (T.2.2.1 j) 0 = qFd T 4 (T.2.2.1 j) k := qIm_lk hw (c := 4) (by omega) k
      rw [e0, e4 4 _ (by omega)]
      refine ⟨?_, fun p hp => ⟨fun _ => bd 4 _ p (by omega) hp, fun z => by omega, fun z => absurd (Or.inl c25) z⟩⟩
      cases hq : qFd T 4 (T.2.2.1 j) k with
      | none => rfl
      | some n =>
        have := bd 4 _ n (by omega) hq
        show some n = some (n % 6)
        rw [Nat.mod_eq_of_lt this]
    · by_cases c26 : T.1 (j - 1) = 26
      · rw [if_pos (Or.inr c26), if_neg c25, if_pos c26]
        have e0 : tLk (qIm T k) (T.2.2.1 j) 0 = qFd T 4 (T.2.2.1 j) k := qIm_lk hw (c := 4) (by omega) k
        rw [e0, e4 4 _ (by omega)]
        cases hq : qFd T 4 (T.2.2.1 j) k with
        | none => exact ⟨rfl, fun p hp => by cases hp⟩
        | some n =>
          have := bd 4 _ n (by omega) hq
          refine ⟨?_, fun p hp => ?_⟩
          · show some n = some ((n + 6) % 6)
            rw [show (n + 6) % 6 = n by omega]
          · have hp : some (n + 6) = some p := hp
            cases hp
            exact ⟨fun z => absurd z c25, fun _ => by omega, fun z => absurd (Or.inr c26) z⟩
      · rw [if_neg (by omega), if_neg c25, if_neg c26]
        have e0 : tLk (qIm T k) (T.2.2.1 j) 1 = qFd T 5 (T.2.2.1 j) k := qIm_lk hw (c := 5) (by omega) k
        rw [e0, e4 5 _ (by omega)]
        cases hq : qFd T 5 (T.2.2.1 j) k with
        | none => exact ⟨rfl, fun p hp => by cases hp⟩
        | some n =>
          have := bd 5 _ n (by omega) hq
          refine ⟨?_, fun p hp => ?_⟩
          · show some n = some ((n + 12) % 6)
            rw [show (n + 12) % 6 = n by omega]
          · have hp : some (n + 12) = some p := hp
            cases hp
            exact ⟨fun z => absurd z c25, fun z => absurd z c26, fun _ => by omega⟩

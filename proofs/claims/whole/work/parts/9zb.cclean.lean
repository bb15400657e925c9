/-! ===== a program without errors: what holds of it ===== -/
/-- no error in any token but the last -/
def qCln (T : qTk) : Prop := ∀ i, i + 1 < T.2.2.2 → qEE T i = 0
theorem qCn_end {T : qTk} (hw : qTw T) {c : Nat} (hc : 4 ≤ c) : ∀ x, qCn T.1 c x ≤ qCn T.1 c (T.2.2.2 - 1)
  | 0 => Nat.zero_le _
  | x + 1 => by
    have ih := qCn_end hw hc x
    by_cases z : x + 1 ≤ T.2.2.2 - 1
    · exact qCn_le z
    · show (if T.1 x = c then qCn T.1 c x + 1 else qCn T.1 c x) ≤ _
      have := qTw_N hw x (by omega)
      rw [if_neg (by omega)]
      exact ih
theorem qCl_mx {T : qTk} (hcl : qCln T) {c : Nat} (hc : c ≤ 6) : qCn T.1 (c + 4) (T.2.2.2 - 1) ≤ qMost c := qCn_most hc (fun i hi => hcl i (by omega))
theorem qPl_18 {T : qTk} (hw : qTw T) (hcl : qCln T) (x : Nat) : plD (qPl T) x < 18 := by
  have b : ∀ c n w e, c = 4 ∨ c = 5 → qFd T c w e = some n → n < 6 := fun c n w e hc h => by
    have l1 := qFd_lt h
    have l2 := qCn_end hw (c := c) (by omega) e
    rcases hc with z | z
    · have l3 := qCl_mx hcl (c := 0) (by omega)
      have l3 : qCn T.1 4 (T.2.2.2 - 1) ≤ 6 := l3
      rw [z] at l1 l2
      omega
    · have l3 := qCl_mx hcl (c := 1) (by omega)
      have l3 : qCn T.1 5 (T.2.2.2 - 1) ≤ 6 := l3
      rw [z] at l1 l2
      omega
  unfold plD qPl
  by_cases c1 : T.1 (x - 1) = 25
  · rw [if_pos c1]
    cases q : qFd T 4 (T.2.2.1 x) x with
    | none => decide
    | some n =>
      have := b 4 n _ _ (Or.inl rfl) q
      show n < 18
      omega
  · rw [if_neg c1]
    by_cases c2 : T.1 (x - 1) = 26
    · rw [if_pos c2]
      cases q : qFd T 4 (T.2.2.1 x) x with
      | none => decide
      | some n =>
        have := b 4 n _ _ (Or.inl rfl) q
        show n + 6 < 18
        omega
    · rw [if_neg c2]
      cases q : qFd T 5 (T.2.2.1 x) x with
      | none => decide
      | some n =>
        have := b 5 n _ _ (Or.inr rfl) q
        show n + 12 < 18
        omega
/-- a piece of code begins behind t -/
def qPc (T : qTk) (t hi : Nat) : Prop := (T.1 t = 10 ∨ T.1 t = 13 ∨ T.1 t = 14) ∧ t + 1 ≤ hi ∧ hi + 1 ≤ T.2.2.2 ∧ ∀ j, t + 1 ≤ j → j < hi → ys (T.1 j)
theorem qPc_pn {T : qTk} {t hi : Nat} (h : qPc T t hi) {j : Nat} (h1 : t + 1 ≤ j) (h2 : j < hi) : qPn (T.1 (j - 1)) := by
  obtain ⟨a, b, c, d⟩ := h
  unfold qPn
  by_cases e : j = t + 1
  · rw [e, Nat.add_sub_cancel]
    omega
  · have := ys_not (d (j - 1) (by omega) (by omega))
    omega
/-- the name of a place, where nothing is wrong -/
theorem qPl_some {T : qTk} {j : Nat} (h2 : T.1 j = 2) (hp : qPn (T.1 (j - 1))) (he : qEE T j = 0) : ∃ p, qPl T j = some p := by
  unfold qEE qE1 at he
  rw [if_neg (by omega), if_pos h2, if_neg hp.1, if_neg (fun z => z.elim hp.2.1 hp.2.2.1), if_neg hp.2.2.2] at he
  cases q : qPl T j with
  | none =>
    rw [q] at he
    cases he
  | some p => exact ⟨p, rfl⟩
theorem qPc_ok {T : qTk} {t hi : Nat} (hw : qTw T) (hcl : qCln T) (h : qPc T t hi) : qPok T (qPl T) (qCn T.1 4 (T.2.2.2 - 1)) (qCn T.1 5 (T.2.2.2 - 1)) (t + 1) hi := by
  have hN := hw.2.1
  have hp := fun {j : Nat} => qPc_pn h (j := j)
  obtain ⟨a, b, c, d⟩ := h
  refine ⟨by omega, fun j h1 h2 h3 => ?_⟩
  obtain ⟨p, hq⟩ := qPl_some h3 (hp h1 h2) (hcl j (by omega))
  have e : plD (qPl T) j = p := by
    unfold plD
    rw [hq]
    rfl
  rw [e]
  have m4 : qCn T.1 4 (T.2.2.2 - 1) ≤ 6 := qCl_mx hcl (c := 0) (by omega)
  unfold qPl at hq
  by_cases c1 : T.1 (j - 1) = 25
  · rw [if_pos c1] at hq
    have l1 := qFd_lt hq
    have l2 := qCn_end hw (c := 4) (by omega) j
    exact ⟨fun _ => by omega, fun _ => by omega⟩
  · rw [if_neg c1] at hq
    by_cases c2 : T.1 (j - 1) = 26
    · rw [if_pos c2] at hq
      cases q : qFd T 4 (T.2.2.1 j) j with
      | none => rw [q] at hq; cases hq
      | some n =>
        rw [q] at hq
        have hq : some (n + 6) = some p := hq
        cases hq
        have l1 := qFd_lt q
        have l2 := qCn_end hw (c := 4) (by omega) j
        exact ⟨fun _ => by omega, fun _ => by omega⟩
    · rw [if_neg c2] at hq
      cases q : qFd T 5 (T.2.2.1 j) j with
      | none => rw [q] at hq; cases hq
      | some n =>
        rw [q] at hq
        have hq : some (n + 12) = some p := hq
        cases hq
        have l1 := qFd_lt q
        have l2 := qCn_end hw (c := 5) (by omega) j
        exact ⟨fun _ => by omega, fun _ => by omega⟩
theorem qPc_J {T : qTk} {t hi : Nat} {J0 J : zJ} (hw : qTw T) (hcl : qCln T) (h : qPc T t hi) (hJ0 : ∀ t, t < T.2.2.2 → ¬ ent (T.1 t) → J0 6 t = T.2.2.1 t) (hJ : ∀ j, j < T.2.2.2 → J 6 j = qJv T J0 (T.2.2.2 - 1) j) : qJok T (qPl T) J (t + 1) hi := by
  have hN := hw.2.1
  have hp := fun {j : Nat} => qPc_pn h (j := j)
  obtain ⟨a, b, c, d⟩ := h
  refine ⟨by omega, fun j h1 h2 => ⟨fun h3 => ?_, fun h3 => ?_⟩⟩
  · obtain ⟨p, hq⟩ := qPl_some h3 (hp h1 h2) (hcl j (by omega))
    rw [hJ j (by omega)]
    unfold qJv plD
    rw [if_pos ⟨by omega, h3, hp h1 h2⟩, hq]
    rfl
  · rw [hJ j (by omega), qJv_n (fun z => by omega), hJ0 j (by omega) (by unfold ent; omega)]
/-- no die in a condition -/
theorem pEx_dl {T : qTk} {t k2 : Nat} {o : List zOp} (hc : (T.1 t = 13 ∧ 7 ≤ (qMm T t).1 10 ∧ (qMm T t).1 10 ≤ 9) ∨ T.1 t = 10) (h : pEx T.1 (t + 1) = pO k2 o) (hcl : ∀ i, i < k2 → qEE T i = 0) : zdl (o.map (qRo T (qPl T))) := by
  have tk := tks_ex h
  have a := (pE_ok h (by omega)).1
  have m1 : (qMm T (t + 1)).1 13 = 1 ∧ ¬ ((qMm T (t + 1)).1 10 = 4 ∨ (qMm T (t + 1)).1 10 = 5) := by
    rcases hc with ⟨c, c1, c2⟩ | c
    · have w := (qMm_13 c).1 10 (by omega)
      refine ⟨?_, by rw [w]; omega⟩
      show (qM1 T t (qMm T t)).1 13 = 1
      unfold qM1
      rw [if_neg (by omega), if_neg (by omega), if_neg (by omega), if_pos c]
      exact qup_s (qMm T t).1 13 1
    · have w := qM1_it (m := qMm T t) (T := T) (k := t) (by omega)
      refine ⟨?_, ?_⟩
      · show (qM1 T t (qMm T t)).1 13 = 1
        rw [w.2.2.2.2.1, if_pos c]
      · show ¬ ((qM1 T t (qMm T t)).1 10 = 4 ∨ (qM1 T t (qMm T t)).1 10 = 5)
        rw [w.2.1]
        omega
  have nod : ∀ j, t + 1 ≤ j → j < k2 → ¬ T.1 j = 27 := fun j h1 h2 z => by
    have e : qMm T j = qMm T (t + 1) := qMm_ys (by rw [Nat.add_sub_cancel]; omega) m1.2 h1 (fun i q1 q2 => tk.1.2 i q1 (by omega))
    have x := hcl j h2
    unfold qEE qE1 at x
    rw [if_neg (by omega), if_neg (by omega), if_neg (by omega), if_pos z, e, if_pos m1.1] at x
    cases x
  intro q hq hz
  obtain ⟨q0, hq0, rfl⟩ := List.mem_map.mp hq
  have e1 : (qRo T (qPl T) q0).1 = q0.1 := by
    unfold qRo
    split
    · rfl
    · split
      · rename_i z
        exact z.symm
      · rfl
  rw [e1] at hz
  rcases a.2.2.2 q0 hq0 with ⟨j, j1, j2, e, j3⟩ | ⟨j, j1, j2, e⟩
  · rw [e] at hz
    exact nod j j1 j2 hz
  · rcases e with ⟨e, z⟩ | ⟨e, z⟩
    · rw [e] at hz
      exact nod j j1 j2 hz
    · rw [e] at hz
      cases hz
/-- the phases of rules are phases -/
theorem qMm_rp {T : qTk} : ∀ k, (∀ i, i < k → qEE T i = 0) → ∀ i, w16 T k i → (qMm T k).2.2.2.1 i < qCn T.1 6 T.2.2.2
  | 0, _, _, ⟨_, h, _⟩ => by omega
  | k + 1, hcl, i, h => by
    have ih := qMm_rp (T := T) k (fun j hj => hcl j (by omega)) i
    show (qM1 T k (qMm T k)).2.2.2.1 i < _
    by_cases c : 4 ≤ T.1 k ∧ T.1 k ≤ 10
    · rw [(qM1_it (m := qMm T k) c).2.2.2.2.2.2.2.2.1]
      exact ih (w16_old h (fun z => by omega))
    · have f := qM1_f (m := qMm T k) c
      by_cases c2 : T.1 k = 2 ∧ T.1 (k - 1) = 12
      · obtain ⟨eM, eE⟩ := qMm_ph c2.1 c2.2
        have eM : qM1 T k (qMm T k) = _ := eM
        rw [eM]
        show qup (qMm T k).2.2.2.1 ((qMm T k).1 11) ((qFd T 6 (T.2.2.1 k) T.2.2.2).getD 0) i < _
        unfold qup
        split
        · rw [hcl k (by omega)] at eE
          cases q : qFd T 6 (T.2.2.1 k) T.2.2.2 with
          | none => rw [q] at eE; cases eE
          | some n => exact qFd_lt q
        · rename_i z
          exact ih (w16_old h (fun _ _ => z))
      · rw [f.2.2.2.1 (fun z1 z2 => c2 ⟨z1, z2⟩)]
        exact ih (w16_old h (fun z1 z2 => absurd ⟨z1, z2⟩ c2))
/-! the wholes in their order -/
def gOrd (T : qTk) (k : Nat) : Prop := ∀ c, c = 4 ∨ c = 5 → ∀ i, i < (qMm T k).1 (c - 4) → (qMm T k).2.1 (3 * qTg c i) ≤ (qMm T k).2.1 (3 * qTg c i + 1)
theorem qMm_wo {T : qTk} {k k2 : Nat} (h : k ≤ k2) (hy : ∀ j, k ≤ j → j < k2 → nk (T.1 j)) (h4 : ¬ ((qMm T k).1 10 = 4 ∨ (qMm T k).1 10 = 5)) : (qMm T k2).2.1 = (qMm T k).2.1 ∧ (qMm T k2).1 10 = (qMm T k).1 10 := by
  induction k2 with
  | zero =>
    have : k = 0 := by omega
    rw [this]
    exact ⟨rfl, rfl⟩
  | succ j ih =>
    by_cases e : k = j + 1
    · rw [e]
      exact ⟨rfl, rfl⟩
    · obtain ⟨a1, a2⟩ := ih (by omega) (fun i q1 q2 => hy i q1 (by omega))
      have f := qM1_f (m := qMm T j) (hy j (by omega) (by omega))
      exact ⟨(f.2.1 (fun _ => by rw [a2]; exact h4)).1.trans a1, (f.1 10 (by omega) (by omega)).trans a2⟩
theorem gOrd_one {T : qTk} {k k2 : Nat} (g : gOrd T k) (h : gOne T k k2) (hcl : ∀ i, i < k2 → qEE T i = 0) : gOrd T k2 := by
  obtain ⟨h1, h2, h3, h4, h5, h6, h7, h8⟩ := h
  obtain ⟨i1, i2, i3, i4, i5, i6, i7, -⟩ := qM1_it (m := qMm T k) h1
  have cn : ∀ x, x ≤ 6 → (qMm T k2).1 x = if x = T.1 k - 4 then (qMm T k).1 x + 1 else (qMm T k).1 x := fun x hx => by
    rw [qMm_c hx h3.1 (fun j q1 q2 => (h3.2 j q1 q2).1)]
    exact i1 x hx
  by_cases c45 : T.1 k = 4 ∨ T.1 k = 5
  · obtain ⟨k1, k3, k5, p1, p2, p3, p4, p5, p39, p6⟩ := h5 c45
    have s0 := qMm_in h1 (j := k + 2) (by omega) (fun i r1 r2 => (h3.2 i r1 (by omega)).1)
    have e0 : qMm T (k + 2) = qM1 T k (qMm T k) := qMm_nm (h8 (by omega)) (by omega)
    have z0 : (qMm T (k + 2)).1 12 = 0 := by rw [e0]; exact i4
    have b0 : (qMm T (k + 2)).2.1 = (qMm T k).2.1 := by rw [e0]; exact i7
    have v1 := w14_wh p1 (by rw [s0.1]; omega)
    have w1 := (qMm_wh p1 (by rw [s0.1]; omega) rfl rfl).1
    have m1 : qMm T (k1 + 1) = qMm T k1 := qMm_0 (by omega)
    have v3 := w14_wh p3 (by rw [m1, v1.2.2.1, s0.1]; omega)
    have w3 := qMm_wh p3 (by rw [m1, v1.2.2.1, s0.1]; omega) rfl rfl
    have m3 : qMm T (k3 + 1) = qMm T k3 := qMm_0 (by omega)
    have v5 := w14_wh p5 (by rw [m3, v3.2.2.1, m1, v1.2.2.1, s0.1]; omega)
    have w5 := (qMm_wh p5 (by rw [m3, v3.2.2.1, m1, v1.2.2.1, s0.1]; omega) rfl rfl).1
    obtain ⟨v11, v12, v13, v14, v15⟩ := v1
    obtain ⟨v31, v32, v33, v34, v35⟩ := v3
    obtain ⟨v51, v52, v53, v54, v55⟩ := v5
    have a5 : T.1 (k5 - 1) = 3 := (qWh_at p5).2.1
    -- what the three wrote
    have N9 : (qMm T k).1 (T.1 k - 4) < qMost (T.1 k - 4) := by
      have e := hcl k (by omega)
      unfold qEE qE1 at e
      rw [if_pos h1] at e
      by_cases y : qMost (T.1 k - 4) ≤ (qMm T k).1 (T.1 k - 4)
      · rw [if_pos y] at e
        cases e
      · omega
    have N6 : (qMm T k).1 (T.1 k - 4) < 6 := by
      rcases c45 with z | z <;> rw [z] at N9 ⊢ <;> exact N9
    have f1 : (qMm T k1).2.1 = qup (qMm T k).2.1 (3 * qTg (T.1 k) ((qMm T k).1 (T.1 k - 4))) (qWv T (k1 - 1)) := by
      rw [w1]
      show qup (qMm T (k + 2)).2.1 _ _ = _
      rw [z0, s0.1, s0.2, b0]
      rfl
    have f3 : (qMm T k3).2.1 = qup (qMm T k1).2.1 (3 * qTg (T.1 k) ((qMm T k).1 (T.1 k - 4)) + 1) (qWv T (k3 - 1)) := by
      rw [w3.1]
      show qup (qMm T (k1 + 1)).2.1 _ _ = _
      rw [m1, v12, v13, v14, z0, s0.1, s0.2]
    have f5 : (qMm T k5).2.1 = qup (qMm T k3).2.1 (3 * qTg (T.1 k) ((qMm T k).1 (T.1 k - 4)) + 2) (qWv T (k5 - 1)) := by
      rw [w5]
      show qup (qMm T (k3 + 1)).2.1 _ _ = _
      rw [m3, v32, v33, v34, m1, v12, v13, v14, z0, s0.1, s0.2]
    have f6 : (qMm T k2).2.1 = (qMm T k5).2.1 := by
      rw [← p6]
      have nk5 := (h3.2 k5 (by omega) (by omega)).1
      exact ((qM1_f (m := qMm T k5) nk5).2.1 (fun z => by omega)).1
    have le3 : qWv T (k1 - 1) ≤ qWv T (k3 - 1) := by
      have e := hcl (k3 - 1) (by omega)
      rw [w3.2.2, m1, v12, z0, v13, v14, s0.1, s0.2, f1, qup_s, if_neg (show ¬ 0 + 1 = 0 by omega)] at e
      by_cases y : qWv T (k1 - 1) ≤ qWv T (k3 - 1)
      · exact y
      · rw [if_neg (fun z => y z.1)] at e
        cases e
    have row : ∀ x, (qMm T k2).2.1 x = if x = 3 * qTg (T.1 k) ((qMm T k).1 (T.1 k - 4)) + 2 then qWv T (k5 - 1) else if x = 3 * qTg (T.1 k) ((qMm T k).1 (T.1 k - 4)) + 1 then qWv T (k3 - 1) else if x = 3 * qTg (T.1 k) ((qMm T k).1 (T.1 k - 4)) then qWv T (k1 - 1) else (qMm T k).2.1 x := fun x => by
      rw [f6, f5, f3, f1]
      rfl
    intro c hc i hi
    rw [row, row]
    rw [cn (c - 4) (by omega)] at hi
    by_cases ec : c = T.1 k ∧ i = (qMm T k).1 (c - 4)
    · obtain ⟨rfl, ei⟩ := ec
      rw [ei, if_neg (by omega), if_neg (by omega), if_pos rfl, if_neg (by omega), if_pos rfl]
      exact le3
    · have ilt : i < (qMm T k).1 (c - 4) := by
        by_cases z : c - 4 = T.1 k - 4
        · rw [if_pos z] at hi
          have : ¬ i = (qMm T k).1 (c - 4) := fun y => ec ⟨by omega, y⟩
          omega
        · rw [if_neg z] at hi
          exact hi
      have i6 : i < 6 := by
        have e2 : (qMm T k).1 (c - 4) ≤ qMost (c - 4) := by
          rw [qMm_cn (by omega), show c - 4 + 4 = c by omega]
          have := qCn_most (T := T) (c := c - 4) (k := k) (by omega) (fun i hi => hcl i (by omega))
          rw [show c - 4 + 4 = c by omega] at this
          exact this
        have : qMost (c - 4) = 6 := by rcases hc with z | z <;> rw [z] <;> rfl
        omega
      have ap := qTg_apart (d := c) (c := T.1 k) (i := i) (N := (qMm T k).1 (T.1 k - 4)) (w := 0) hc c45 i6 N6 (fun z => by rw [z] at ilt; exact ilt) (by omega)
      have ap1 := qTg_apart (d := c) (c := T.1 k) (i := i) (N := (qMm T k).1 (T.1 k - 4)) (w := 1) hc c45 i6 N6 (fun z => by rw [z] at ilt; exact ilt) (by omega)
      rw [if_neg (by omega), if_neg (by omega), if_neg (by omega), if_neg (by omega), if_neg (by omega), if_neg (by omega)]
      exact g c hc i ilt
  · have w := qMm_wo (T := T) (k := k + 1) (k2 := k2) (by omega) (fun j q1 q2 => (h3.2 j q1 q2).1) (by
      show ¬ ((qM1 T k (qMm T k)).1 10 = 4 ∨ (qM1 T k (qMm T k)).1 10 = 5)
      rw [i2]
      exact c45)
    have e : (qMm T k2).2.1 = (qMm T k).2.1 := w.1.trans i7
    intro c hc i hi
    rw [e]
    rw [cn (c - 4) (by omega), if_neg (by omega)] at hi
    exact g c hc i hi
theorem pP_ord {T : qTk} : ∀ {f k k2 : Nat} {u : Unit}, pP T.1 f k = pO k2 u → (∀ i, i < k2 → qEE T i = 0) → gOrd T k → gOrd T k2
  | 0, _, _, _, h, _, _ => by cases h
  | f + 1, k, k2, u, h, hcl, g => by
    have h : (pB (pI T.1 k) fun k1 _ => if T.1 k1 = 1 then pO k1 () else pP T.1 f k1) = pO k2 u := h
    rcases pB_inv h with ⟨j, _, e⟩ | ⟨k1, u1, h1, h⟩
    · cases e
    by_cases c : T.1 k1 = 1
    · rw [if_pos c] at h
      cases pO_inv h
      exact gOrd_one g (pI_gm h1) hcl
    · rw [if_neg c] at h
      have l := (pP_tk h).1
      exact pP_ord h hcl (gOrd_one g (pI_gm h1) (fun i hi => hcl i (by omega)))

/-! ===== the meaning (spec): names told, what is known behind k tokens, errors ===== -/
/-- how many of a sort among the first k tokens -/
def qCn (s : Nat → Nat) (c : Nat) : Nat → Nat
  | 0 => 0
  | k + 1 => if s k = c then qCn s c k + 1 else qCn s c k
/-- the number of the first item of sort c with name w, its name ahead of token e -/
def qFd (T : qTk) (c : Nat) (w : Int64) : Nat → Option Nat
  | 0 => none
  | e + 1 => match qFd T c w e with
    | some n => some n
    | none => if 1 ≤ e ∧ T.1 (e - 1) = c ∧ T.2.2.1 e = w then some (qCn T.1 c (e - 1)) else none
/-- items told ahead of token k: name, sort as the reference has it, number -/
def qIm (T : qTk) : Nat → List (Int64 × Nat × Nat)
  | 0 => []
  | k + 1 => if 1 ≤ k ∧ 4 ≤ T.1 (k - 1) ∧ T.1 (k - 1) ≤ 9 then qIm T k ++ [(T.2.2.1 k, qkm (T.1 (k - 1)), qCn T.1 (T.1 (k - 1)) (k - 1))] else qIm T k
def qTn (T : qTk) (k : Nat) : Bool := (qIm T k).any (fun q => decide (q.1 = T.2.2.1 k))
/-- the place that a name tells: my tracks, their tracks, pools -/
def qPl (T : qTk) (k : Nat) : Option Nat := if T.1 (k - 1) = 25 then qFd T 4 (T.2.2.1 k) k else if T.1 (k - 1) = 26 then (qFd T 4 (T.2.2.1 k) k).map (fun n => n + 6) else (qFd T 5 (T.2.2.1 k) k).map (fun n => n + 12)
/-- scalars: 0 to 6 counts, 10 kind, 11 number, 12 wholes read, 13 dieless, 14 win; wholes; acts of phases; phases of rules; when, do of bodies -/
abbrev qMt : Type := (Nat → Nat) × (Nat → Int) × (Nat → Int32) × (Nat → Nat) × (Nat → Option Nat) × (Nat → Nat)
def qup {α : Type} (f : Nat → α) (k : Nat) (v : α) : Nat → α := fun j => if j = k then v else f j
theorem qup_s {α : Type} (f : Nat → α) (k : Nat) (v : α) : qup f k v k = v := by unfold qup; rw [if_pos rfl]
theorem qup_n {α : Type} (f : Nat → α) {k j : Nat} (v : α) (h : ¬ j = k) : qup f k v j = f j := by unfold qup; rw [if_neg h]
def qMost (c : Nat) : Nat := if c = 0 then 6 else if c = 1 then 6 else if c = 2 then 6 else if c = 3 then 12 else if c = 4 then 8 else if c = 5 then 8 else 1
def qBd (kind number : Nat) : Nat := if kind = 7 then number else if kind = 8 then 12 + number else 20 + number
def qTg (kind number : Nat) : Nat := if kind = 4 then number else 6 + number
/-- a whole number, with its sign -/
def qWv (T : qTk) (k : Nat) : Int := if T.1 (k - 1) = 43 then -((T.2.2.1 k).toInt32.toInt) else (T.2.2.1 k).toInt32.toInt
def qM1 (T : qTk) (k : Nat) (m : qMt) : qMt :=
  if 4 ≤ T.1 k ∧ T.1 k ≤ 10 then
    (qup (qup (qup (qup (qup (qup m.1 (T.1 k - 4) (m.1 (T.1 k - 4) + 1)) 10 (T.1 k)) 11 (m.1 (T.1 k - 4))) 12 0) 13 (if T.1 k = 10 then 1 else 0)) 14 (if T.1 k = 10 then k else m.1 14), m.2.1,
      (if T.1 k = 6 then qup m.2.2.1 (m.1 2) 0 else m.2.2.1), m.2.2.2.1, (if 7 ≤ T.1 k ∧ T.1 k ≤ 9 then qup m.2.2.2.2.1 (qBd (T.1 k) (m.1 (T.1 k - 4))) none else m.2.2.2.2.1), m.2.2.2.2.2)
  else if T.1 k = 2 then
    (if T.1 (k - 1) = 40 ∨ T.1 (k - 1) = 38 then (m.1, m.2.1, (if (qFd T 7 (T.2.2.1 k) T.2.2.2).getD 0 < 12 then qup m.2.2.1 (m.1 11) (m.2.2.1 (m.1 11) ||| (1 <<< (zi (((qFd T 7 (T.2.2.1 k) T.2.2.2).getD 0 : Nat) : Int) &&& 31))) else m.2.2.1), m.2.2.2)
    else if T.1 (k - 1) = 12 then (m.1, m.2.1, m.2.2.1, qup m.2.2.2.1 (m.1 11) ((qFd T 6 (T.2.2.1 k) T.2.2.2).getD 0), m.2.2.2.2)
    else m)
  else if T.1 k = 3 then (if m.1 10 = 4 ∨ m.1 10 = 5 then (qup m.1 12 (m.1 12 + 1), qup m.2.1 (3 * qTg (m.1 10) (m.1 11) + m.1 12) (qWv T k), m.2.2) else m)
  else if T.1 k = 13 then (qup m.1 13 1, m.2.1, m.2.2.1, m.2.2.2.1, qup m.2.2.2.2.1 (qBd (m.1 10) (m.1 11)) (some k), m.2.2.2.2.2)
  else if T.1 k = 14 then (qup m.1 13 0, m.2.1, m.2.2.1, m.2.2.2.1, m.2.2.2.2.1, qup m.2.2.2.2.2 (qBd (m.1 10) (m.1 11)) k)
  else m
def qMm (T : qTk) : Nat → qMt
  | 0 => (fun _ => 0, fun _ => 0, fun _ => 0, fun _ => 0, fun _ => none, fun _ => 0)
  | k + 1 => qM1 T k (qMm T k)
/-- the error at token k -/
def qE1 (T : qTk) (k : Nat) (m : qMt) : Nat :=
  if 4 ≤ T.1 k ∧ T.1 k ≤ 10 then (if qMost (T.1 k - 4) ≤ m.1 (T.1 k - 4) then 4 else 0)
  else if T.1 k = 2 then
    (if 4 ≤ T.1 (k - 1) ∧ T.1 (k - 1) ≤ 9 then (if qTn T k = true then 3 else 0)
    else if T.1 (k - 1) = 40 ∨ T.1 (k - 1) = 38 then (if (qFd T 7 (T.2.2.1 k) T.2.2.2).isNone = true then 2 else 0)
    else if T.1 (k - 1) = 12 then (if (qFd T 6 (T.2.2.1 k) T.2.2.2).isNone = true then 2 else 0)
    else if (qPl T k).isNone = true then 2 else 0)
  else if T.1 k = 3 then (if (m.1 10 = 4 ∨ m.1 10 = 5) ∧ ¬ ((if m.1 12 = 0 then -999 else m.2.1 (3 * qTg (m.1 10) (m.1 11))) ≤ qWv T k ∧ qWv T k ≤ (if m.1 12 = 2 then m.2.1 (3 * qTg (m.1 10) (m.1 11) + 1) else 999)) then 5 else 0)
  else if T.1 k = 27 then (if m.1 13 = 1 then 6 else 0)
  else 0
def qEE (T : qTk) (k : Nat) : Nat := qE1 T k (qMm T k)
theorem qCn_le {s : Nat → Nat} {c k j : Nat} (h : k ≤ j) : qCn s c k ≤ qCn s c j := by
  induction j with
  | zero =>
    have : k = 0 := by omega
    rw [this]
    exact Nat.le_refl _
  | succ j ih =>
    by_cases e : k = j + 1
    · rw [e]
      exact Nat.le_refl _
    · have := ih (by omega)
      show _ ≤ if s j = c then qCn s c j + 1 else qCn s c j
      split <;> omega
theorem qFd_lt {T : qTk} {c : Nat} {w : Int64} : ∀ {e n : Nat}, qFd T c w e = some n → n < qCn T.1 c e
  | 0, _, h => by cases h
  | e + 1, n, h => by
    unfold qFd at h
    have l := qCn_le (s := T.1) (c := c) (show e ≤ e + 1 by omega)
    cases hq : qFd T c w e with
    | some m =>
      rw [hq] at h
      have h : some m = some n := h
      cases h
      have := qFd_lt hq
      omega
    | none =>
      rw [hq] at h
      have h : (if 1 ≤ e ∧ T.1 (e - 1) = c ∧ T.2.2.1 e = w then some (qCn T.1 c (e - 1)) else none) = some n := h
      by_cases z : 1 ≤ e ∧ T.1 (e - 1) = c ∧ T.2.2.1 e = w
      · rw [if_pos z] at h
        cases h
        have l1 := qCn_le (s := T.1) (c := c) (show e - 1 + 1 ≤ e + 1 by omega)
        have : qCn T.1 c (e - 1 + 1) = qCn T.1 c (e - 1) + 1 := by
          show (if T.1 (e - 1) = c then _ else _) = _
          rw [if_pos z.2.1]
        omega
      · rw [if_neg z] at h
        cases h
theorem qFd_mono {T : qTk} {c : Nat} {w : Int64} {e e2 n : Nat} (h : qFd T c w e = some n) (he : e ≤ e2) : qFd T c w e2 = some n := by
  induction e2 with
  | zero =>
    have : e = 0 := by omega
    rw [this] at h
    cases h
  | succ e2 ih =>
    by_cases z : e = e2 + 1
    · rw [← z]
      exact h
    · unfold qFd
      rw [ih (by omega)]
/-- the table yields what the tokens tell -/
theorem qIm_lk {T : qTk} (hw : qTw T) {c : Nat} {w : Int64} (hc : 4 ≤ c ∧ c ≤ 9) : ∀ e, tLk (qIm T e) w (qkm c) = qFd T c w e
  | 0 => rfl
  | e + 1 => by
    have ih := qIm_lk hw (w := w) hc e
    have hle := qTw_le hw (e - 1)
    unfold qIm qFd
    by_cases z : 1 ≤ e ∧ 4 ≤ T.1 (e - 1) ∧ T.1 (e - 1) ≤ 9
    · rw [if_pos z]
      unfold tLk at ih ⊢
      rw [List.find?_append]
      cases hq : qFd T c w e with
      | some m =>
        rw [hq] at ih
        cases hf : (qIm T e).find? (fun q => decide (q.1 = w ∧ q.2.1 = qkm c)) with
        | none => rw [hf] at ih; cases ih
        | some x =>
          rw [hf] at ih
          exact ih
      | none =>
        rw [hq] at ih
        cases hf : (qIm T e).find? (fun q => decide (q.1 = w ∧ q.2.1 = qkm c)) with
        | some x => rw [hf] at ih; cases ih
        | none =>
          show ((List.find? (fun q => decide (q.1 = w ∧ q.2.1 = qkm c)) [(T.2.2.1 e, qkm (T.1 (e - 1)), qCn T.1 (T.1 (e - 1)) (e - 1))]).map (fun q => q.2.2)) = _
          rw [List.find?_cons]
          by_cases y : T.1 (e - 1) = c ∧ T.2.2.1 e = w
          · rw [decide_eq_true (show T.2.2.1 e = w ∧ qkm (T.1 (e - 1)) = qkm c from ⟨y.2, by rw [y.1]⟩), if_pos ⟨z.1, y⟩, y.1]
            rfl
          · rw [decide_eq_false (show ¬ (T.2.2.1 e = w ∧ qkm (T.1 (e - 1)) = qkm c) from fun x => y ⟨(qkm_eq hle (by omega)).mp x.2, x.1⟩), if_neg (fun x => y x.2)]
            rfl
    · rw [if_neg z, ih]
      cases hq : qFd T c w e with
      | some m => rfl
      | none =>
        show none = if 1 ≤ e ∧ T.1 (e - 1) = c ∧ T.2.2.1 e = w then some (qCn T.1 c (e - 1)) else none
        rw [if_neg (fun x => z ⟨x.1, by omega, by omega⟩)]
/-- tokens that no name of an item is among -/
theorem qIm_ys {T : qTk} {k k2 : Nat} (h : k ≤ k2) (hy : ∀ j, k ≤ j → j < k2 → ¬ (4 ≤ T.1 (j - 1) ∧ T.1 (j - 1) ≤ 9)) : qIm T k2 = qIm T k := by
  induction k2 with
  | zero =>
    have : k = 0 := by omega
    rw [this]
  | succ j ih =>
    by_cases e : k = j + 1
    · rw [e]
    · rw [← ih (by omega) (fun i h1 h2 => hy i h1 (by omega))]
      show (if 1 ≤ j ∧ 4 ≤ T.1 (j - 1) ∧ T.1 (j - 1) ≤ 9 then _ else _) = _
      rw [if_neg (fun x => hy j (by omega) (by omega) x.2)]
theorem qFd_ys {T : qTk} {c : Nat} {w : Int64} {k k2 : Nat} (hc : 4 ≤ c ∧ c ≤ 9) (h : k ≤ k2) (hy : ∀ j, k ≤ j → j < k2 → ¬ (4 ≤ T.1 (j - 1) ∧ T.1 (j - 1) ≤ 9)) : qFd T c w k2 = qFd T c w k := by
  induction k2 with
  | zero =>
    have : k = 0 := by omega
    rw [this]
  | succ j ih =>
    by_cases e : k = j + 1
    · rw [e]
    · rw [← ih (by omega) (fun i h1 h2 => hy i h1 (by omega))]
      show (match qFd T c w j with
        | some n => some n
        | none => if 1 ≤ j ∧ T.1 (j - 1) = c ∧ T.2.2.1 j = w then some (qCn T.1 c (j - 1)) else none) = _
      cases hq : qFd T c w j with
      | some m => rfl
      | none =>
        show (if 1 ≤ j ∧ T.1 (j - 1) = c ∧ T.2.2.1 j = w then some (qCn T.1 c (j - 1)) else none) = none
        rw [if_neg (fun x => hy j (by omega) (by omega) (by omega))]
/-- while nothing is wrong the counts are of the tokens -/
theorem qMm_cn {T : qTk} {c : Nat} (hc : c ≤ 6) : ∀ k, (qMm T k).1 c = qCn T.1 (c + 4) k
  | 0 => rfl
  | k + 1 => by
    have ih := qMm_cn (T := T) hc k
    show (qM1 T k (qMm T k)).1 c = if T.1 k = c + 4 then qCn T.1 (c + 4) k + 1 else qCn T.1 (c + 4) k
    rw [← ih]
    generalize qMm T k = m
    unfold qM1
    by_cases z : 4 ≤ T.1 k ∧ T.1 k ≤ 10
    · rw [if_pos z]
      show qup (qup (qup (qup (qup (qup m.1 (T.1 k - 4) (m.1 (T.1 k - 4) + 1)) 10 (T.1 k)) 11 (m.1 (T.1 k - 4))) 12 0) 13 (if T.1 k = 10 then 1 else 0)) 14 (if T.1 k = 10 then k else m.1 14) c = _
      rw [qup_n _ _ (by omega), qup_n _ _ (by omega), qup_n _ _ (by omega), qup_n _ _ (by omega), qup_n _ _ (by omega)]
      by_cases y : T.1 k = c + 4
      · rw [if_pos y, show T.1 k - 4 = c by omega, qup_s]
      · rw [if_neg y, qup_n _ _ (by omega)]
    · rw [if_neg z, if_neg (show ¬ T.1 k = c + 4 by omega)]
      by_cases z2 : T.1 k = 2
      · rw [if_pos z2]
        (repeat' split) <;> rfl
      · rw [if_neg z2]
        by_cases z3 : T.1 k = 3
        · rw [if_pos z3]
          split
          · show qup m.1 12 (m.1 12 + 1) c = _
            rw [qup_n _ _ (by omega)]
          · rfl
        · rw [if_neg z3]
          by_cases z4 : T.1 k = 13
          · rw [if_pos z4]
            show qup m.1 13 1 c = _
            rw [qup_n _ _ (by omega)]
          · rw [if_neg z4]
            by_cases z5 : T.1 k = 14
            · rw [if_pos z5]
              show qup m.1 13 0 c = _
              rw [qup_n _ _ (by omega)]
            · rw [if_neg z5]

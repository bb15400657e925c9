/-! ===== reading (spec): what a reading yields; expressions by the grammar ===== -/
/-- none: out of steps; .inl k: token k is wrong; .inr (k, a): read up to k, with a -/
abbrev zRs (α : Type) : Type := Option (Nat ⊕ (Nat × α))
def pF {α : Type} (k : Nat) : zRs α := some (.inl k)
def pO {α : Type} (k : Nat) (a : α) : zRs α := some (.inr (k, a))
def pB {α β : Type} (r : zRs α) (f : Nat → α → zRs β) : zRs β := match r with
  | none => none
  | some (.inl k) => some (.inl k)
  | some (.inr q) => f q.1 q.2
theorem pB_inv {α β : Type} {r : zRs α} {f : Nat → α → zRs β} {x : Nat ⊕ (Nat × β)} (h : pB r f = some x) : (∃ k, r = pF k ∧ x = .inl k) ∨ ∃ k a, r = pO k a ∧ f k a = some x := by
  unfold pB at h
  split at h
  · cases h
  · rename_i k
    exact Or.inl ⟨k, rfl, (Option.some.inj h).symm⟩
  · rename_i q
    exact Or.inr ⟨q.1, q.2, rfl, h⟩
theorem pF_inv {α : Type} {k : Nat} {x : Nat ⊕ (Nat × α)} (h : pF k = some x) : x = .inl k := (Option.some.inj h).symm
theorem pO_inv {α : Type} {k : Nat} {a : α} {x : Nat ⊕ (Nat × α)} (h : pO k a = some x) : x = .inr (k, a) := (Option.some.inj h).symm
/-- one token of a sort -/
def pT (s : Nat → Nat) (c k : Nat) : zRs Unit := if s k = c then pO (k + 1) () else pF k
/-- the level of an operator of two operands -/
def pLv (c : Nat) : Nat := if c = 34 then 0 else if c = 33 then 1 else if c = 41 ∨ 47 ≤ c ∧ c ≤ 51 then 2 else if c = 42 ∨ c = 43 then 3 else if 44 ≤ c ∧ c ≤ 46 then 4 else 9
def pFc (s : Nat → Nat) (ex fc : Nat → Nat → zRs (List zOp)) (dp k : Nat) : zRs (List zOp) :=
  if s k = 3 ∨ 28 ≤ s k ∧ s k ≤ 32 then pO (k + 1) [(s k, zi (k : Int))]
  else if s k = 2 then pO (k + 1) [(2, zi (k : Int))]
  else if s k = 25 ∨ s k = 26 then (if s (k + 1) = 2 then pO (k + 2) [(2, zi ((k + 1 : Nat) : Int))] else pF (k + 1))
  else if s k = 36 then (if dp < 8 then pB (ex (dp + 1) (k + 1)) (fun k1 o => if s k1 = 37 then pO (k1 + 1) o else pF k1) else pF k)
  else if s k = 43 ∨ s k = 35 ∨ s k = 27 then (if dp < 8 then pB (fc (dp + 1) (k + 1)) (fun k1 o => pO k1 (o ++ [(if s k = 43 then 52 else s k, 0)])) else pF k)
  else pF k
/-- modes: 0 to 4 a level, 5 a factor, 10 to 14 what follows at a level; depth; token -/
def pE (s : Nat → Nat) : Nat → Nat → Nat → Nat → zRs (List zOp)
  | 0, _, _, _ => none
  | f + 1, m, dp, k =>
    if m < 5 then pB (pE s f (m + 1) dp k) (fun k1 o => pB (pE s f (m + 10) dp k1) (fun k2 o2 => pO k2 (o ++ o2)))
    else if m < 10 then pFc s (pE s f 0) (pE s f 5) dp k
    else if pLv (s k) = m - 10 then pB (pE s f (m - 9) dp (k + 1)) (fun k1 o => if m = 12 then pO k1 (o ++ [(s k, 0)]) else pB (pE s f m dp k1) (fun k2 o2 => pO k2 (o ++ (s k, 0) :: o2)))
    else pO k []
/-- tokens that can stand in an expression -/
def xs (c : Nat) : Prop := c = 2 ∨ c = 3 ∨ 25 ≤ c ∧ c ≤ 37 ∨ 41 ≤ c ∧ c ≤ 51
theorem pLv_xs {c m : Nat} (h : pLv c = m) (hm : m < 5) : xs c ∧ zbnK c := by
  unfold pLv at h
  unfold xs zbnK
  by_cases c1 : c = 34
  · omega
  · rw [if_neg c1] at h
    by_cases c2 : c = 33
    · omega
    · rw [if_neg c2] at h
      by_cases c3 : c = 41 ∨ 47 ≤ c ∧ c ≤ 51
      · omega
      · rw [if_neg c3] at h
        by_cases c4 : c = 42 ∨ c = 43
        · omega
        · rw [if_neg c4] at h
          by_cases c5 : 44 ≤ c ∧ c ≤ 46
          · omega
          · rw [if_neg c5] at h
            omega
/-- what holds of an expression that was read from k to k2: from n operands to n2 -/
def pEok (s : Nat → Nat) (k : Nat) (o : List zOp) (k2 : Nat) : Prop :=
  k ≤ k2 ∧ o.length ≤ k2 - k ∧ (∀ j, k ≤ j → j < k2 → xs (s j)) ∧ ∀ q ∈ o, (∃ j, k ≤ j ∧ j < k2 ∧ q = (s j, zi (j : Int)) ∧ (s j = 2 ∨ s j = 3 ∨ 28 ≤ s j ∧ s j ≤ 32)) ∨ (∃ j, k ≤ j ∧ j < k2 ∧ (q = (s j, 0) ∧ (s j = 35 ∨ s j = 27 ∨ zbnK (s j)) ∨ q = (52, 0) ∧ s j = 43))
theorem pEok_app {s : Nat → Nat} {k k1 k2 : Nat} {o o2 : List zOp} (h : pEok s k o k1) (h2 : pEok s k1 o2 k2) : pEok s k (o ++ o2) k2 := by
  obtain ⟨a1, a2, a3, a4⟩ := h
  obtain ⟨b1, b2, b3, b4⟩ := h2
  refine ⟨by omega, by rw [List.length_append]; omega, fun j h1 h2 => ?_, fun q hq => ?_⟩
  · by_cases c : j < k1
    · exact a3 j h1 c
    · exact b3 j (by omega) h2
  · rcases List.mem_append.mp hq with hq | hq
    · rcases a4 q hq with ⟨j, h1, h2, h3⟩ | ⟨j, h1, h2, h3⟩
      · exact Or.inl ⟨j, h1, by omega, h3⟩
      · exact Or.inr ⟨j, h1, by omega, h3⟩
    · rcases b4 q hq with ⟨j, h1, h2, h3⟩ | ⟨j, h1, h2, h3⟩
      · exact Or.inl ⟨j, by omega, h2, h3⟩
      · exact Or.inr ⟨j, by omega, h2, h3⟩
theorem pEok_nil {s : Nat → Nat} {k : Nat} : pEok s k [] k := ⟨Nat.le_refl _, Nat.zero_le _, fun j h1 h2 => absurd h1 (by omega), fun q hq => absurd hq List.not_mem_nil⟩
/-- a token that yields nothing -/
theorem pEok_tok {s : Nat → Nat} {k : Nat} (h : xs (s k)) : pEok s k [] (k + 1) := ⟨by omega, Nat.zero_le _, fun j h1 h2 => by
  have e : j = k := by omega
  rw [e]
  exact h, fun q hq => absurd hq List.not_mem_nil⟩
/-- an operation that a token ahead yields, which yielded nothing itself -/
theorem pEok_op {s : Nat → Nat} {k k2 : Nat} {o : List zOp} {q : zOp} (hx : xs (s k)) (h : pEok s (k + 1) o k2) (hq : q = (s k, 0) ∧ (s k = 35 ∨ s k = 27 ∨ zbnK (s k)) ∨ q = (52, 0) ∧ s k = 43) : pEok s k (o ++ [q]) k2 := by
  obtain ⟨a1, a2, a3, a4⟩ := h
  refine ⟨by omega, by rw [List.length_append, List.length_singleton]; omega, fun j h1 h2 => ?_, fun q2 hq2 => ?_⟩
  · by_cases c : j = k
    · rw [c]
      exact hx
    · exact a3 j (by omega) h2
  · rcases List.mem_append.mp hq2 with hq2 | hq2
    · rcases a4 q2 hq2 with ⟨j, h1, h2, h3⟩ | ⟨j, h1, h2, h3⟩
      · exact Or.inl ⟨j, by omega, h2, h3⟩
      · exact Or.inr ⟨j, by omega, h2, h3⟩
    · rw [List.mem_singleton.mp hq2]
      exact Or.inr ⟨k, Nat.le_refl _, by omega, hq⟩
theorem pEok_leaf {s : Nat → Nat} {k : Nat} (h : s k = 2 ∨ s k = 3 ∨ 28 ≤ s k ∧ s k ≤ 32) : pEok s k [(s k, zi (k : Int))] (k + 1) := by
  refine ⟨by omega, by rw [List.length_singleton]; omega, fun j h1 h2 => ?_, fun q hq => ?_⟩
  · have e : j = k := by omega
    rw [e]
    unfold xs
    omega
  · rw [List.mem_singleton.mp hq]
    exact Or.inl ⟨k, Nat.le_refl _, by omega, rfl, h⟩
theorem pE_ok {s : Nat → Nat} : ∀ {f m dp k k2 : Nat} {o : List zOp}, pE s f m dp k = pO k2 o → m ≤ 5 ∨ 10 ≤ m ∧ m ≤ 14 → pEok s k o k2 ∧ (m ≤ 5 → k < k2)
  | 0, _, _, _, _, _, h, _ => by cases h
  | f + 1, m, dp, k, k2, o, h, hm => by
    unfold pE at h
    by_cases c1 : m < 5
    · rw [if_pos c1] at h
      rcases pB_inv h with ⟨j, _, e⟩ | ⟨k1, o1, h1, h⟩
      · cases e
      · rcases pB_inv h with ⟨j, _, e⟩ | ⟨k3, o3, h3, h⟩
        · cases e
        · cases pO_inv h
          have a := pE_ok h1 (by omega)
          have b := pE_ok h3 (by omega)
          exact ⟨pEok_app a.1 b.1, fun _ => by have := a.2 (by omega); have := b.1.1; omega⟩
    · rw [if_neg c1] at h
      by_cases c2 : m < 10
      · rw [if_pos c2] at h
        unfold pFc at h
        by_cases d1 : s k = 3 ∨ 28 ≤ s k ∧ s k ≤ 32
        · rw [if_pos d1] at h
          cases pO_inv h
          exact ⟨pEok_leaf (by omega), fun _ => by omega⟩
        · rw [if_neg d1] at h
          by_cases d2 : s k = 2
          · rw [if_pos d2] at h
            cases pO_inv h
            have := pEok_leaf (s := s) (k := k) (by omega)
            rw [d2] at this
            exact ⟨this, fun _ => by omega⟩
          · rw [if_neg d2] at h
            by_cases d3 : s k = 25 ∨ s k = 26
            · rw [if_pos d3] at h
              by_cases d4 : s (k + 1) = 2
              · rw [if_pos d4] at h
                cases pO_inv h
                have := pEok_app (pEok_tok (s := s) (k := k) (by unfold xs; omega)) (pEok_leaf (s := s) (k := k + 1) (by omega))
                rw [d4] at this
                exact ⟨this, fun _ => by omega⟩
              · rw [if_neg d4] at h
                cases pF_inv h
            · rw [if_neg d3] at h
              by_cases d5 : s k = 36
              · rw [if_pos d5] at h
                by_cases d6 : dp < 8
                · rw [if_pos d6] at h
                  rcases pB_inv h with ⟨j, _, e⟩ | ⟨k1, o1, h1, h⟩
                  · cases e
                  · by_cases d7 : s k1 = 37
                    · rw [if_pos d7] at h
                      cases pO_inv h
                      have a := pE_ok h1 (by omega)
                      have := pEok_app (pEok_app (pEok_tok (s := s) (k := k) (by unfold xs; omega)) a.1) (pEok_tok (s := s) (k := k1) (by unfold xs; omega))
                      rw [List.nil_append, List.append_nil] at this
                      exact ⟨this, fun _ => by have := a.1.1; omega⟩
                    · rw [if_neg d7] at h
                      cases pF_inv h
                · rw [if_neg d6] at h
                  cases pF_inv h
              · rw [if_neg d5] at h
                by_cases d8 : s k = 43 ∨ s k = 35 ∨ s k = 27
                · rw [if_pos d8] at h
                  by_cases d6 : dp < 8
                  · rw [if_pos d6] at h
                    rcases pB_inv h with ⟨j, _, e⟩ | ⟨k1, o1, h1, h⟩
                    · cases e
                    · cases pO_inv h
                      have a := pE_ok h1 (by omega)
                      refine ⟨pEok_op (by unfold xs; omega) a.1 ?_, fun _ => by have := a.1.1; omega⟩
                      by_cases d9 : s k = 43
                      · rw [if_pos d9]
                        exact Or.inr ⟨rfl, d9⟩
                      · rw [if_neg d9]
                        exact Or.inl ⟨rfl, by omega⟩
                  · rw [if_neg d6] at h
                    cases pF_inv h
                · rw [if_neg d8] at h
                  cases pF_inv h
      · rw [if_neg c2] at h
        by_cases c3 : pLv (s k) = m - 10
        · rw [if_pos c3] at h
          have hx := pLv_xs c3 (by omega)
          rcases pB_inv h with ⟨j, _, e⟩ | ⟨k1, o1, h1, h⟩
          · cases e
          · have a := pE_ok h1 (by omega)
            have b := pEok_op (q := (s k, 0)) hx.1 a.1 (Or.inl ⟨rfl, Or.inr (Or.inr hx.2)⟩)
            by_cases c4 : m = 12
            · rw [if_pos c4] at h
              cases pO_inv h
              exact ⟨b, fun q => by omega⟩
            · rw [if_neg c4] at h
              rcases pB_inv h with ⟨j, _, e⟩ | ⟨k3, o3, h3, h⟩
              · cases e
              · cases pO_inv h
                have e := pE_ok h3 (by omega)
                have := pEok_app b e.1
                rw [List.append_assoc] at this
                exact ⟨this, fun q => by omega⟩
        · rw [if_neg c3] at h
          cases pO_inv h
          exact ⟨pEok_nil, fun q => by omega⟩
/-! where reading stops, it isn't ahead of where it began, and the token is of those that there are -/
theorem pE_fail {s : Nat → Nat} {N : Nat} (hN : ∀ k, N ≤ k → s k ≤ 1) : ∀ {f m dp k j : Nat}, pE s f m dp k = pF j → m ≤ 5 ∨ 10 ≤ m ∧ m ≤ 14 → k ≤ N → k ≤ j ∧ j ≤ N
  | 0, _, _, _, _, h, _, _ => by cases h
  | f + 1, m, dp, k, j, h, hm, hk => by
    have hlt : ∀ i, xs (s i) → i < N := fun i hx => by
      by_cases c : N ≤ i
      · have := hN i c
        unfold xs at hx
        omega
      · omega
    have hend : ∀ {k2 : Nat} {o : List zOp}, pEok s k o k2 → k2 ≤ N := fun {k2 o} q => by
      by_cases c : k2 ≤ N
      · exact c
      · have := hlt (k2 - 1) (q.2.2.1 (k2 - 1) (by have := q.1; omega) (by omega))
        omega
    have hend2 : ∀ {k1 k2 : Nat} {o : List zOp}, k1 ≤ N → pEok s k1 o k2 → k2 ≤ N := fun {k1 k2 o} hk1 q => by
      by_cases c : k2 ≤ N
      · exact c
      · have := hlt (k2 - 1) (q.2.2.1 (k2 - 1) (by have := q.1; omega) (by omega))
        omega
    unfold pE at h
    by_cases c1 : m < 5
    · rw [if_pos c1] at h
      rcases pB_inv h with ⟨i, h1, e⟩ | ⟨k1, o1, h1, h⟩
      · cases e
        exact pE_fail hN h1 (by omega) hk
      · have a := pE_ok h1 (by omega)
        rcases pB_inv h with ⟨i, h3, e⟩ | ⟨k3, o3, h3, h⟩
        · cases e
          have := pE_fail hN h3 (by omega) (hend a.1)
          have := a.1.1
          omega
        · cases pO_inv h
    · rw [if_neg c1] at h
      by_cases c2 : m < 10
      · rw [if_pos c2] at h
        unfold pFc at h
        by_cases d1 : s k = 3 ∨ 28 ≤ s k ∧ s k ≤ 32
        · rw [if_pos d1] at h
          cases pO_inv h
        · rw [if_neg d1] at h
          by_cases d2 : s k = 2
          · rw [if_pos d2] at h
            cases pO_inv h
          · rw [if_neg d2] at h
            by_cases d3 : s k = 25 ∨ s k = 26
            · rw [if_pos d3] at h
              have := hlt k (by unfold xs; omega)
              by_cases d4 : s (k + 1) = 2
              · rw [if_pos d4] at h
                cases pO_inv h
              · rw [if_neg d4] at h
                cases pF_inv h
                omega
            · rw [if_neg d3] at h
              by_cases d5 : s k = 36
              · rw [if_pos d5] at h
                have := hlt k (by unfold xs; omega)
                by_cases d6 : dp < 8
                · rw [if_pos d6] at h
                  rcases pB_inv h with ⟨i, h1, e⟩ | ⟨k1, o1, h1, h⟩
                  · cases e
                    have := pE_fail hN h1 (by omega) (by omega)
                    omega
                  · have a := pE_ok h1 (by omega)
                    by_cases d7 : s k1 = 37
                    · rw [if_pos d7] at h
                      cases pO_inv h
                    · rw [if_neg d7] at h
                      cases pF_inv h
                      have := hend2 (by omega) a.1
                      have := a.1.1
                      omega
                · rw [if_neg d6] at h
                  cases pF_inv h
                  omega
              · rw [if_neg d5] at h
                by_cases d8 : s k = 43 ∨ s k = 35 ∨ s k = 27
                · rw [if_pos d8] at h
                  have := hlt k (by unfold xs; omega)
                  by_cases d6 : dp < 8
                  · rw [if_pos d6] at h
                    rcases pB_inv h with ⟨i, h1, e⟩ | ⟨k1, o1, h1, h⟩
                    · cases e
                      have := pE_fail hN h1 (by omega) (by omega)
                      omega
                    · cases pO_inv h
                  · rw [if_neg d6] at h
                    cases pF_inv h
                    omega
                · rw [if_neg d8] at h
                  cases pF_inv h
                  omega
      · rw [if_neg c2] at h
        by_cases c3 : pLv (s k) = m - 10
        · rw [if_pos c3] at h
          have := hlt k (pLv_xs c3 (by omega)).1
          rcases pB_inv h with ⟨i, h1, e⟩ | ⟨k1, o1, h1, h⟩
          · cases e
            have := pE_fail hN h1 (by omega) (by omega)
            omega
          · have a := pE_ok h1 (by omega)
            by_cases c4 : m = 12
            · rw [if_pos c4] at h
              cases pO_inv h
            · rw [if_neg c4] at h
              rcases pB_inv h with ⟨i, h3, e⟩ | ⟨k3, o3, h3, h⟩
              · cases e
                have := pE_fail hN h3 (by omega) (hend2 (by omega) a.1)
                have := a.1.1
                omega
              · cases pO_inv h
        · rw [if_neg c3] at h
          cases pO_inv h
/-! steps enough -/
theorem pE_tot {s : Nat → Nat} {N : Nat} (hN : ∀ k, N ≤ k → s k ≤ 1) : ∀ {f m dp k : Nat}, m ≤ 5 ∨ 10 ≤ m ∧ m ≤ 14 → k ≤ N → 8 * (N - k) + (if m ≤ 5 then 6 - m else 1) ≤ f → ∃ x, pE s f m dp k = some x
  | 0, m, dp, k, hm, hk, hf => by
    split at hf <;> omega
  | f + 1, m, dp, k, hm, hk, hf => by
    have hlt : ∀ i, xs (s i) → i < N := fun i hx => by
      by_cases c : N ≤ i
      · have := hN i c
        unfold xs at hx
        omega
      · omega
    have hend : ∀ {k1 k2 : Nat} {o : List zOp}, k1 ≤ N → pEok s k1 o k2 → k2 ≤ N := fun {k1 k2 o} hk1 q => by
      by_cases c : k2 ≤ N
      · exact c
      · have := hlt (k2 - 1) (q.2.2.1 (k2 - 1) (by have := q.1; omega) (by omega))
        omega
    unfold pE
    by_cases c1 : m < 5
    · rw [if_pos c1]
      rw [if_pos (show m ≤ 5 by omega)] at hf
      obtain ⟨x, hx⟩ := pE_tot hN (f := f) (m := m + 1) (dp := dp) (k := k) (by omega) hk (by rw [if_pos (by omega)]; omega)
      rw [hx]
      rcases x with j | ⟨k1, o⟩
      · exact ⟨_, rfl⟩
      · have a := pE_ok hx (by omega)
        have a0 := hend hk a.1
        have a1 := a.1.1
        obtain ⟨y, hy⟩ := pE_tot hN (f := f) (m := m + 10) (dp := dp) (k := k1) (by omega) a0 (by rw [if_neg (by omega)]; omega)
        show ∃ x, pB (pE s f (m + 10) dp k1) (fun k2 o2 => pO k2 (o ++ o2)) = some x
        rw [hy]
        rcases y with j | ⟨k2, o2⟩
        · exact ⟨_, rfl⟩
        · exact ⟨_, rfl⟩
    · rw [if_neg c1]
      by_cases c2 : m < 10
      · rw [if_pos c2]
        rw [if_pos (show m ≤ 5 by omega)] at hf
        unfold pFc
        by_cases d1 : s k = 3 ∨ 28 ≤ s k ∧ s k ≤ 32
        · rw [if_pos d1]
          exact ⟨_, rfl⟩
        · rw [if_neg d1]
          by_cases d2 : s k = 2
          · rw [if_pos d2]
            exact ⟨_, rfl⟩
          · rw [if_neg d2]
            by_cases d3 : s k = 25 ∨ s k = 26
            · rw [if_pos d3]
              by_cases d4 : s (k + 1) = 2
              · rw [if_pos d4]
                exact ⟨_, rfl⟩
              · rw [if_neg d4]
                exact ⟨_, rfl⟩
            · rw [if_neg d3]
              by_cases d5 : s k = 36
              · rw [if_pos d5]
                have := hlt k (by unfold xs; omega)
                by_cases d6 : dp < 8
                · rw [if_pos d6]
                  obtain ⟨x, hx⟩ := pE_tot hN (f := f) (m := 0) (dp := dp + 1) (k := k + 1) (by omega) (by omega) (by rw [if_pos (by omega)]; omega)
                  rw [hx]
                  rcases x with j | ⟨k1, o⟩
                  · exact ⟨_, rfl⟩
                  · show ∃ x, (if s k1 = 37 then pO (k1 + 1) o else pF k1) = some x
                    split
                    · exact ⟨_, rfl⟩
                    · exact ⟨_, rfl⟩
                · rw [if_neg d6]
                  exact ⟨_, rfl⟩
              · rw [if_neg d5]
                by_cases d8 : s k = 43 ∨ s k = 35 ∨ s k = 27
                · rw [if_pos d8]
                  have := hlt k (by unfold xs; omega)
                  by_cases d6 : dp < 8
                  · rw [if_pos d6]
                    obtain ⟨x, hx⟩ := pE_tot hN (f := f) (m := 5) (dp := dp + 1) (k := k + 1) (by omega) (by omega) (by rw [if_pos (by omega)]; omega)
                    rw [hx]
                    rcases x with j | ⟨k1, o⟩
                    · exact ⟨_, rfl⟩
                    · exact ⟨_, rfl⟩
                  · rw [if_neg d6]
                    exact ⟨_, rfl⟩
                · rw [if_neg d8]
                  exact ⟨_, rfl⟩
      · rw [if_neg c2]
        rw [if_neg (show ¬ m ≤ 5 by omega)] at hf
        by_cases c3 : pLv (s k) = m - 10
        · rw [if_pos c3]
          have := hlt k (pLv_xs c3 (by omega)).1
          obtain ⟨x, hx⟩ := pE_tot hN (f := f) (m := m - 9) (dp := dp) (k := k + 1) (by omega) (by omega) (by rw [if_pos (by omega)]; omega)
          rw [hx]
          rcases x with j | ⟨k1, o⟩
          · exact ⟨_, rfl⟩
          · have a := pE_ok hx (by omega)
            have a0 := hend (by omega) a.1
            have a1 := a.1.1
            by_cases c4 : m = 12
            · show ∃ x, (if m = 12 then pO k1 (o ++ [(s k, 0)]) else pB (pE s f m dp k1) (fun k2 o2 => pO k2 (o ++ (s k, 0) :: o2))) = some x
              rw [if_pos c4]
              exact ⟨_, rfl⟩
            · show ∃ x, (if m = 12 then pO k1 (o ++ [(s k, 0)]) else pB (pE s f m dp k1) (fun k2 o2 => pO k2 (o ++ (s k, 0) :: o2))) = some x
              rw [if_neg c4]
              obtain ⟨y, hy⟩ := pE_tot hN (f := f) (m := m) (dp := dp) (k := k1) (by omega) a0 (by rw [if_neg (by omega)]; omega)
              rw [hy]
              rcases y with j | ⟨k2, o2⟩
              · exact ⟨_, rfl⟩
              · exact ⟨_, rfl⟩
        · rw [if_neg c3]
          exact ⟨_, rfl⟩

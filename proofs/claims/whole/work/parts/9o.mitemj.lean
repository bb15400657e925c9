/-! ===== keywords of items, and the names behind them ===== -/
abbrev nk (c : Nat) : Prop := ¬ (4 ≤ c ∧ c ≤ 10)
theorem tks_to {s : Nat → Nat} {ok ok2 : Nat → Prop} {k k2 : Nat} (h : tks s ok k k2) (hm : ∀ c, ok c → ok2 c) : tks s ok2 k k2 := ⟨h.1, fun j h1 h2 => hm _ (h.2 j h1 h2)⟩
theorem ys_nk {c : Nat} (h : ys c) : nk c := fun z => by
  have := ys_not h
  omega
theorem pBd_tk {s : Nat → Nat} {k k2 : Nat} {u : Unit} (h : pBd s k = pO k2 u) : tks s nk k k2 := by
  unfold pBd at h
  by_cases c : s k = 14
  · rw [if_pos c] at h
    rcases pB_inv h with ⟨j, _, e⟩ | ⟨k1, u1, h1, h⟩
    · cases e
    exact tks_app (tks_one (by rw [c]; decide)) (tks_app (tks_to (pS_ok (f := 500) h1).1 (fun _ => ys_nk)) (pT_tk h (by decide)))
  · rw [if_neg c] at h
    cases pF_inv h
theorem pAc_tk {s : Nat → Nat} {k k2 : Nat} {u : Unit} (h : pAc s k = pO k2 u) : tks s nk k k2 := by
  unfold pAc at h
  by_cases c : s k = 13
  · rw [if_pos c] at h
    rcases pB_inv h with ⟨j, _, e⟩ | ⟨k1, u1, h1, h⟩
    · cases e
    exact tks_app (tks_one (by rw [c]; decide)) (tks_app (tks_to (tks_ex h1).1 (fun _ => ys_nk)) (pBd_tk h))
  · rw [if_neg c] at h
    exact pBd_tk h
theorem pRu_tk {s : Nat → Nat} {k k2 : Nat} {u : Unit} (h : pRu s k = pO k2 u) : tks s nk k k2 := by
  unfold pRu at h
  rcases pB_inv h with ⟨j, _, e⟩ | ⟨k1, u1, h1, h⟩
  · cases e
  rcases pB_inv h with ⟨j, _, e⟩ | ⟨k3, u3, h3, h⟩
  · cases e
  exact tks_app (pT_tk h1 (by decide)) (tks_app (pT_tk h3 (by decide)) (pAc_tk h))
theorem pI_tk {s : Nat → Nat} {k k2 : Nat} {u : Unit} (h : pI s k = pO k2 u) : (4 ≤ s k ∧ s k ≤ 10) ∧ tks s nk (k + 1) k2 ∧ (s k ≤ 9 → s (k + 1) = 2) := by
  unfold pI at h
  by_cases c1 : s k = 10
  · rw [if_pos c1] at h
    unfold pWi at h
    rcases pB_inv h with ⟨j, _, e⟩ | ⟨k1, u1, h1, h⟩
    · cases e
    exact ⟨by omega, tks_app (tks_to (tks_ex h1).1 (fun _ => ys_nk)) (pT_tk h (by decide)), fun z => by omega⟩
  · rw [if_neg c1] at h
    by_cases c2 : 4 ≤ s k ∧ s k ≤ 9
    · rw [if_pos c2] at h
      rcases pB_inv h with ⟨j, _, e⟩ | ⟨k1, u1, h1, h⟩
      · cases e
      have n2 := (pT_inv (q := (k1, u1)) h1).1
      refine ⟨by omega, tks_app (pT_tk h1 (by decide)) ?_, fun _ => n2⟩
      by_cases e1 : s k ≤ 5
      · rw [if_pos e1] at h
        exact tks_to (pRg_tk h) (fun c hc => by
          show ¬ _
          omega)
      · rw [if_neg e1] at h
        by_cases e2 : s k = 6
        · rw [if_pos e2] at h
          exact tks_to (pPh_tk h) (fun c hc => by
            show ¬ _
            omega)
        · rw [if_neg e2] at h
          by_cases e3 : s k = 9
          · rw [if_pos e3] at h
            exact pRu_tk h
          · rw [if_neg e3] at h
            exact pAc_tk h
    · rw [if_neg c2] at h
      cases pF_inv h
/-- a program that is right by the grammar: names stand behind the keywords of its items -/
theorem pP_tk {s : Nat → Nat} : ∀ {f k k2 : Nat} {u : Unit}, pP s f k = pO k2 u → k < k2 ∧ s k2 = 1 ∧ ∀ j, k ≤ j → j < k2 → 4 ≤ s j ∧ s j ≤ 9 → s (j + 1) = 2
  | 0, _, _, _, h => by cases h
  | f + 1, k, k2, u, h => by
    have h : (pB (pI s k) fun k1 _ => if s k1 = 1 then pO k1 () else pP s f k1) = pO k2 u := h
    rcases pB_inv h with ⟨j, _, e⟩ | ⟨k1, u1, h1, h⟩
    · cases e
    obtain ⟨a1, a2, a3⟩ := pI_tk h1
    have a4 := a2.1
    have key : ∀ j, k ≤ j → j < k1 → 4 ≤ s j ∧ s j ≤ 9 → s (j + 1) = 2 := fun j q1 q2 q3 => by
      by_cases e : j = k
      · rw [e] at q3 ⊢
        exact a3 q3.2
      · exact absurd (show 4 ≤ s j ∧ s j ≤ 10 by omega) (a2.2 j (by omega) q2)
    by_cases c : s k1 = 1
    · rw [if_pos c] at h
      cases pO_inv h
      exact ⟨by omega, c, key⟩
    · rw [if_neg c] at h
      obtain ⟨b1, b2, b3⟩ := pP_tk h
      refine ⟨by omega, b2, fun j q1 q2 q3 => ?_⟩
      by_cases e : j < k1
      · exact key j q1 e q3
      · exact b3 j (by omega) q2 q3
theorem pP_end {T : qTk} (hw : qTw T) {f : Nat} {q : Nat × Unit} (h : pP T.1 f 0 = some (.inr q)) : q.1 + 1 = T.2.2.2 ∧ T.1 q.1 = 1 ∧ ∀ c, 4 ≤ c ∧ c ≤ 9 → ∀ i, T.1 i = c → T.1 (i + 1) = 2 := by
  have t := pP_tk (k2 := q.1) (u := q.2) h
  have p := pP_pos hw (by have := hw.1; omega) h
  have p2 : q.1 < T.2.2.2 := p.2
  have e : q.1 + 1 = T.2.2.2 := by
    by_cases z : q.1 + 1 < T.2.2.2
    · have := (hw.2.2.1 q.1 z).1
      omega
    · omega
  refine ⟨e, t.2.1, fun c hc i hi => ?_⟩
  by_cases l : i < q.1
  · exact t.2.2 i (Nat.zero_le _) l (by omega)
  · by_cases l2 : i = q.1
    · rw [l2] at hi
      omega
    · have := hw.2.2.2.2 i (by omega)
      omega

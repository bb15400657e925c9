/-! ===== reading (spec): statements, items, programs by the grammar ===== -/
def pEx (s : Nat → Nat) (k : Nat) : zRs (List zOp) := pE s 4000 0 0 k
def mkB : (n : Nat) → zB0 → zSt n
  | 0, b => b
  | _ + 1, b => .inl b
abbrev bst (c : Nat) : Prop := c = 16 ∨ c = 17 ∨ c = 18 ∨ c = 24 ∨ c = 21 ∨ c = 22 ∨ c = 23
def ys (c : Nat) : Prop := xs c ∨ 15 ≤ c ∧ c ≤ 24 ∨ c = 39
def pPl (s : Nat → Nat) (k : Nat) : zRs Nat := if s k = 25 ∨ s k = 26 then (if s (k + 1) = 2 then pO (k + 2) (k + 1) else pF (k + 1)) else if s k = 2 then pO (k + 1) k else pF k
def pIf (s : Nat → Nat) (n : Nat) (rec : Nat → zRs (List (zSt n))) (k : Nat) : zRs (zSt (n + 1)) :=
  pB (pEx s (k + 1)) fun k1 o => if s k1 = 19 then pB (rec (k1 + 1)) fun k2 t => (if s k2 = 20 then pB (rec (k2 + 1)) fun k3 e => (if s k3 = 15 then pO (k3 + 1) (.inr (.inl (o, t, some e))) else pF k3) else if s k2 = 15 then pO (k2 + 1) (.inr (.inl (o, t, none))) else pF k2) else pF k1
def pAl (s : Nat → Nat) (n : Nat) (rec : Nat → zRs (List (zSt n))) (k : Nat) : zRs (zSt (n + 1)) :=
  pB (rec (k + 1)) fun k1 b => if s k1 = 15 then pO (k1 + 1) (.inr (.inr b)) else pF k1
def pSt (s : Nat → Nat) (n k : Nat) : zRs (zSt n) :=
  if s k = 16 ∨ s k = 17 then pB (pPl s (k + 1)) fun k1 nm => pB (pEx s k1) fun k2 o => (if s k2 = 39 then pO (k2 + 1) (mkB n (s k, nm, o)) else pF k2)
  else if s (k + 1) = 39 then pO (k + 2) (mkB n (s k, 0, [])) else pF (k + 1)
def pStm (s : Nat → Nat) (rec : (n : Nat) → Nat → zRs (List (zSt n))) : (n : Nat) → Nat → zRs (zSt n)
  | 0, k => if s k = 18 ∨ s k = 24 then pF k else pSt s 0 k
  | n + 1, k => if s k = 18 then pIf s n (rec n) k else if s k = 24 then pAl s n (rec n) k else pSt s (n + 1) k
def pS (s : Nat → Nat) : Nat → (n : Nat) → Nat → zRs (List (zSt n))
  | 0, _, _ => none
  | f + 1, n, k => if bst (s k) then pB (pStm s (pS s f) n k) fun k1 x => pB (pS s f n k1) fun k2 l => pO k2 (x :: l) else pO k []
def pBd (s : Nat → Nat) (k : Nat) : zRs Unit := if s k = 14 then pB (pS s 500 4 (k + 1)) fun k1 _ => pT s 15 k1 else pF k
def pAc (s : Nat → Nat) (k : Nat) : zRs Unit := if s k = 13 then pB (pEx s (k + 1)) fun k1 _ => pBd s k1 else pBd s k
def pWh (s : Nat → Nat) (k : Nat) : zRs Unit := if s k = 43 then pT s 3 (k + 1) else pT s 3 k
def pRg (s : Nat → Nat) (k : Nat) : zRs Unit := pB (pWh s k) fun k1 _ => pB (pT s 11 k1) fun k2 _ => pB (pWh s k2) fun k3 _ => pB (pT s 12 k3) fun k4 _ => pB (pWh s k4) fun k5 _ => pT s 39 k5
def pNs (s : Nat → Nat) : Nat → Nat → zRs Unit
  | 0, _ => none
  | f + 1, k => if s k = 38 then pB (pT s 2 (k + 1)) fun k1 _ => pNs s f k1 else pT s 39 k
def pPh (s : Nat → Nat) (k : Nat) : zRs Unit := pB (pT s 40 k) fun k1 _ => pB (pT s 2 k1) fun k2 _ => pNs s 500 k2
def pRu (s : Nat → Nat) (k : Nat) : zRs Unit := pB (pT s 12 k) fun k1 _ => pB (pT s 2 k1) fun k2 _ => pAc s k2
def pWi (s : Nat → Nat) (k : Nat) : zRs Unit := pB (pEx s (k + 1)) fun k1 _ => pT s 39 k1
def pI (s : Nat → Nat) (k : Nat) : zRs Unit :=
  if s k = 10 then pWi s k
  else if 4 ≤ s k ∧ s k ≤ 9 then pB (pT s 2 (k + 1)) fun k1 _ => (if s k ≤ 5 then pRg s k1 else if s k = 6 then pPh s k1 else if s k = 9 then pRu s k1 else pAc s k1)
  else pF k
def pP (s : Nat → Nat) : Nat → Nat → zRs Unit
  | 0, _ => none
  | f + 1, k => pB (pI s k) fun k1 _ => if s k1 = 1 then pO k1 () else pP s f k1
/-! what holds of what was read -/
def tks (s : Nat → Nat) (ok : Nat → Prop) (k k2 : Nat) : Prop := k ≤ k2 ∧ ∀ j, k ≤ j → j < k2 → ok (s j)
theorem tks_nil {s : Nat → Nat} {ok : Nat → Prop} {k : Nat} : tks s ok k k := ⟨Nat.le_refl _, fun j h1 h2 => absurd h1 (by omega)⟩
theorem tks_app {s : Nat → Nat} {ok : Nat → Prop} {k k1 k2 : Nat} (h : tks s ok k k1) (h2 : tks s ok k1 k2) : tks s ok k k2 :=
  ⟨by have := h.1; have := h2.1; omega, fun j h3 h4 => by
    by_cases c : j < k1
    · exact h.2 j h3 c
    · exact h2.2 j (by omega) h4⟩
theorem tks_one {s : Nat → Nat} {ok : Nat → Prop} {k : Nat} (h : ok (s k)) : tks s ok k (k + 1) := ⟨by omega, fun j h1 h2 => by
  have e : j = k := by omega
  rw [e]
  exact h⟩
theorem tks_ex {s : Nat → Nat} {k k2 : Nat} {o : List zOp} (h : pEx s k = pO k2 o) : tks s ys k k2 ∧ k < k2 ∧ o.length ≤ k2 - k := by
  have a := pE_ok h (by omega)
  exact ⟨⟨a.1.1, fun j h1 h2 => Or.inl (a.1.2.2.1 j h1 h2)⟩, a.2 (by omega), a.1.2.1⟩
theorem zkc_mkB {n : Nat} {b : zB0} {a : Nat} : zkc n (mkB n b) a = b.2.2 ++ [(b.1, zi b.2.1)] := by
  cases n <;> rfl
theorem tks_pl {s : Nat → Nat} {k k2 nm : Nat} (h : pPl s k = pO k2 nm) : tks s ys k k2 ∧ k < k2 ∧ nm + 1 = k2 ∧ k ≤ nm ∧ s nm = 2 := by
  unfold pPl at h
  by_cases c : s k = 25 ∨ s k = 26
  · rw [if_pos c] at h
    by_cases c2 : s (k + 1) = 2
    · rw [if_pos c2] at h
      cases pO_inv h
      exact ⟨tks_app (tks_one (Or.inl (by unfold xs; omega))) (tks_one (Or.inl (by unfold xs; omega))), by omega, rfl, by omega, c2⟩
    · rw [if_neg c2] at h
      cases pF_inv h
  · rw [if_neg c] at h
    by_cases c2 : s k = 2
    · rw [if_pos c2] at h
      cases pO_inv h
      exact ⟨tks_one (Or.inl (by unfold xs; omega)), by omega, rfl, by omega, c2⟩
    · rw [if_neg c2] at h
      cases pF_inv h
theorem pSt_ok {s : Nat → Nat} {n k k2 : Nat} {x : zSt n} (h : pSt s n k = pO k2 x) (hb : bst (s k)) : tks s ys k k2 ∧ k < k2 ∧ ∀ a, (zkc n x a).length ≤ k2 - k := by
  unfold pSt at h
  by_cases c : s k = 16 ∨ s k = 17
  · rw [if_pos c] at h
    rcases pB_inv h with ⟨j, _, e⟩ | ⟨k1, nm, h1, h⟩
    · cases e
    rcases pB_inv h with ⟨j, _, e⟩ | ⟨k3, o, h3, h⟩
    · cases e
    by_cases c2 : s k3 = 39
    · rw [if_pos c2] at h
      cases pO_inv h
      have a := tks_pl h1
      have b := tks_ex h3
      refine ⟨tks_app (tks_one (Or.inr (Or.inl (by omega)))) (tks_app a.1 (tks_app b.1 (tks_one (Or.inr (Or.inr c2))))), by omega, fun a9 => ?_⟩
      rw [zkc_mkB, List.length_append, List.length_singleton]
      have := b.2.2
      show o.length + 1 ≤ _
      omega
    · rw [if_neg c2] at h
      cases pF_inv h
  · rw [if_neg c] at h
    by_cases c2 : s (k + 1) = 39
    · rw [if_pos c2] at h
      cases pO_inv h
      refine ⟨tks_app (tks_one (Or.inr (Or.inl (by unfold bst at hb; omega)))) (tks_one (Or.inr (Or.inr c2))), by omega, fun a9 => ?_⟩
      rw [zkc_mkB]
      show 1 ≤ _
      omega
    · rw [if_neg c2] at h
      cases pF_inv h
theorem zkc_if1 {n : Nat} {o : List zOp} {t : List (zSt n)} {a : Nat} : (zkc (n + 1) (.inr (.inl (o, t, none))) a).length = o.length + 1 + (zcat (zkc n) t (a + o.length + 1)).length := by
  show (o ++ [_] ++ zcat (zkc n) t (a + o.length + 1)).length = _
  rw [List.length_append, List.length_append, List.length_singleton]
theorem zkc_if2 {n : Nat} {o : List zOp} {t e : List (zSt n)} {a : Nat} : (zkc (n + 1) (.inr (.inl (o, t, some e))) a).length = o.length + 2 + (zcat (zkc n) t (a + o.length + 1)).length + (zcat (zkc n) e (a + o.length + 2 + (zcat (zkc n) t (a + o.length + 1)).length)).length := by
  show (o ++ [_] ++ zcat (zkc n) t (a + o.length + 1) ++ [_] ++ zcat (zkc n) e _).length = _
  rw [List.length_append, List.length_append, List.length_append, List.length_append, List.length_singleton, List.length_singleton]
  omega
theorem zkc_all {n : Nat} {b : List (zSt n)} {a : Nat} : (zkc (n + 1) (.inr (.inr b)) a).length = (zcat (zkc n) b (a + 1)).length + 2 := by
  show ([_] ++ zcat (zkc n) b (a + 1) ++ [_]).length = _
  rw [List.length_append, List.length_append, List.length_singleton, List.length_singleton]
  omega
def pSok (s : Nat → Nat) (f : Nat) : Prop := ∀ {n k k2 : Nat} {l : List (zSt n)}, pS s f n k = pO k2 l → tks s ys k k2 ∧ (∀ a, (zcat (zkc n) l a).length ≤ k2 - k) ∧ ¬ bst (s k2)
theorem pIf_ok {s : Nat → Nat} {f n k k2 : Nat} {x : zSt (n + 1)} (ih : pSok s f) (hb : s k = 18) (h : pIf s n (pS s f n) k = pO k2 x) : tks s ys k k2 ∧ k < k2 ∧ ∀ a, (zkc (n + 1) x a).length ≤ k2 - k := by
  unfold pIf at h
  rcases pB_inv h with ⟨j, _, e⟩ | ⟨k1, o, h1, h⟩
  · cases e
  have a1 := tks_ex h1
  by_cases c : s k1 = 19
  · rw [if_pos c] at h
    rcases pB_inv h with ⟨j, _, e⟩ | ⟨k3, t, h3, h⟩
    · cases e
    have a3 := ih h3
    have l3 := a3.2.1 
    have p3 := a3.1.1
    by_cases c2 : s k3 = 20
    · rw [if_pos c2] at h
      rcases pB_inv h with ⟨j, _, e⟩ | ⟨k4, t4, h4, h⟩
      · cases e
      have a4 := ih h4
      have p4 := a4.1.1
      by_cases c3 : s k4 = 15
      · rw [if_pos c3] at h
        cases pO_inv h
        refine ⟨tks_app (tks_one (Or.inr (Or.inl (by omega)))) (tks_app a1.1 (tks_app (tks_one (Or.inr (Or.inl (by omega)))) (tks_app a3.1 (tks_app (tks_one (Or.inr (Or.inl (by omega)))) (tks_app a4.1 (tks_one (Or.inr (Or.inl (by omega))))))))), by omega, fun a => ?_⟩
        rw [zkc_if2]
        have q1 := l3 (a + o.length + 1)
        have q2 := a4.2.1 (a + o.length + 2 + (zcat (zkc n) t (a + o.length + 1)).length)
        have q3 := a1.2.2
        omega
      · rw [if_neg c3] at h
        cases pF_inv h
    · rw [if_neg c2] at h
      by_cases c3 : s k3 = 15
      · rw [if_pos c3] at h
        cases pO_inv h
        refine ⟨tks_app (tks_one (Or.inr (Or.inl (by omega)))) (tks_app a1.1 (tks_app (tks_one (Or.inr (Or.inl (by omega)))) (tks_app a3.1 (tks_one (Or.inr (Or.inl (by omega))))))), by omega, fun a => ?_⟩
        rw [zkc_if1]
        have q1 := l3 (a + o.length + 1)
        have q3 := a1.2.2
        omega
      · rw [if_neg c3] at h
        cases pF_inv h
  · rw [if_neg c] at h
    cases pF_inv h
theorem pAl_ok {s : Nat → Nat} {f n k k2 : Nat} {x : zSt (n + 1)} (ih : pSok s f) (hb : s k = 24) (h : pAl s n (pS s f n) k = pO k2 x) : tks s ys k k2 ∧ k < k2 ∧ ∀ a, (zkc (n + 1) x a).length ≤ k2 - k := by
  unfold pAl at h
  rcases pB_inv h with ⟨j, _, e⟩ | ⟨k1, b, h1, h⟩
  · cases e
  have a1 := ih h1
  have p1 := a1.1.1
  by_cases c : s k1 = 15
  · rw [if_pos c] at h
    cases pO_inv h
    refine ⟨tks_app (tks_one (Or.inr (Or.inl (by omega)))) (tks_app a1.1 (tks_one (Or.inr (Or.inl (by omega))))), by omega, fun a => ?_⟩
    rw [zkc_all]
    have q1 := a1.2.1 (a + 1)
    omega
  · rw [if_neg c] at h
    cases pF_inv h
theorem pStm_ok {s : Nat → Nat} {f n k k2 : Nat} {x : zSt n} (ih : pSok s f) (hb : bst (s k)) (h : pStm s (pS s f) n k = pO k2 x) : tks s ys k k2 ∧ k < k2 ∧ ∀ a, (zkc n x a).length ≤ k2 - k := by
  cases n with
  | zero =>
    have h : (if s k = 18 ∨ s k = 24 then pF k else pSt s 0 k) = pO k2 x := h
    by_cases c : s k = 18 ∨ s k = 24
    · rw [if_pos c] at h
      cases pF_inv h
    · rw [if_neg c] at h
      exact pSt_ok h hb
  | succ n =>
    have h : (if s k = 18 then pIf s n (pS s f n) k else if s k = 24 then pAl s n (pS s f n) k else pSt s (n + 1) k) = pO k2 x := h
    by_cases c : s k = 18
    · rw [if_pos c] at h
      exact pIf_ok ih c h
    · rw [if_neg c] at h
      by_cases c2 : s k = 24
      · rw [if_pos c2] at h
        exact pAl_ok ih c2 h
      · rw [if_neg c2] at h
        exact pSt_ok h hb
theorem pS_ok {s : Nat → Nat} (f : Nat) : pSok s f := by
  induction f with
  | zero =>
    intro n k k2 l h
    cases h
  | succ f ih =>
    intro n k k2 l h
    unfold pS at h
    by_cases c : bst (s k)
    · rw [if_pos c] at h
      rcases pB_inv h with ⟨j, _, e⟩ | ⟨k1, x, h1, h⟩
      · cases e
      rcases pB_inv h with ⟨j, _, e⟩ | ⟨k3, l3, h3, h⟩
      · cases e
      cases pO_inv h
      have a1 := pStm_ok ih c h1
      have a3 := ih h3
      refine ⟨tks_app a1.1 a3.1, fun a => ?_, a3.2.2⟩
      rw [zcat_cons, List.length_append]
      have q1 := a1.2.2 a
      have q3 := a3.2.1 (a + (zkc n x a).length)
      have := a3.1.1
      omega
    · rw [if_neg c] at h
      cases pO_inv h
      exact ⟨tks_nil, fun a => by
        show 0 ≤ _
        omega, c⟩

/-! ===== reading ends ===== -/
theorem pB_tot {α β : Type} {r : zRs α} {f : Nat → α → zRs β} (h : ∃ x, r = some x) (hf : ∀ k a, r = pO k a → ∃ x, f k a = some x) : ∃ x, pB r f = some x := by
  obtain ⟨x, hx⟩ := h
  cases x with
  | inl j => exact ⟨.inl j, by rw [hx]; rfl⟩
  | inr q =>
    obtain ⟨y, hy⟩ := hf q.1 q.2 hx
    exact ⟨y, by rw [hx]; exact hy⟩
theorem pF_tot {α : Type} (k : Nat) : ∃ x, (pF k : zRs α) = some x := ⟨_, rfl⟩
theorem pO_tot {α : Type} (k : Nat) (a : α) : ∃ x, (pO k a : zRs α) = some x := ⟨_, rfl⟩
theorem pT_tot (s : Nat → Nat) (c k : Nat) : ∃ x, pT s c k = some x := by
  unfold pT
  split
  · exact pO_tot _ _
  · exact pF_tot _
section Tot
variable {s : Nat → Nat} {N : Nat}
theorem ys_N (hN : ∀ k, N ≤ k → s k ≤ 1) {k k2 : Nat} (h : tks s ys k k2) (hk : k ≤ N) : k2 ≤ N := by
  by_cases z : k2 ≤ N
  · exact z
  · have := ys_not (h.2 (k2 - 1) (by omega) (by omega))
    have := hN (k2 - 1) (by omega)
    omega
theorem at_N (hN : ∀ k, N ≤ k → s k ≤ 1) {k : Nat} (h : 2 ≤ s k) : k < N := by
  by_cases z : k < N
  · exact z
  · have := hN k (by omega)
    omega
theorem pEx_tot (hN : ∀ k, N ≤ k → s k ≤ 1) (h9 : N ≤ 450) {k : Nat} (hk : k ≤ N) : ∃ x, pEx s k = some x := pE_tot hN (by omega) hk (by rw [if_pos (by omega)]; omega)
theorem pPl_tot (s : Nat → Nat) (k : Nat) : ∃ x, pPl s k = some x := by
  unfold pPl
  split
  · split
    · exact pO_tot _ _
    · exact pF_tot _
  · split
    · exact pO_tot _ _
    · exact pF_tot _
theorem pSt_tot (hN : ∀ k, N ≤ k → s k ≤ 1) (h9 : N ≤ 450) {n k : Nat} (hk : k < N) : ∃ x, pSt s n k = some x := by
  unfold pSt
  split
  · refine pB_tot (pPl_tot _ _) (fun k1 nm h1 => pB_tot (pEx_tot hN h9 (ys_N hN (tks_pl h1).1 (by omega))) (fun k2 o h2 => ?_))
    split
    · exact pO_tot _ _
    · exact pF_tot _
  · split
    · exact pO_tot _ _
    · exact pF_tot _
def pStot (s : Nat → Nat) (N f : Nat) : Prop := ∀ {n k : Nat}, k ≤ N → N - k < f → ∃ x, pS s f n k = some x
theorem pIf_tot (hN : ∀ k, N ≤ k → s k ≤ 1) (h9 : N ≤ 450) {f n k : Nat} (ih : pStot s N f) (hk : k < N) (hf : N - k < f + 1) : ∃ x, pIf s n (pS s f n) k = some x := by
  unfold pIf
  refine pB_tot (pEx_tot hN h9 (by omega)) (fun k1 o h1 => ?_)
  have l1 := ys_N hN (tks_ex h1).1 (by omega)
  have g1 := (tks_ex h1).2.1
  split
  · rename_i c1
    have m1 := at_N hN (k := k1) (by omega)
    refine pB_tot (ih (by omega) (by omega)) (fun k2 t h2 => ?_)
    have l2 := ys_N hN (pS_ok (f := f) h2).1 (by omega)
    have g2 := (pS_ok (f := f) h2).1.1
    split
    · rename_i c2
      have m2 := at_N hN (k := k2) (by omega)
      refine pB_tot (ih (by omega) (by omega)) (fun k3 e h3 => ?_)
      split
      · exact pO_tot _ _
      · exact pF_tot _
    · split
      · exact pO_tot _ _
      · exact pF_tot _
  · exact pF_tot _
theorem pAl_tot {f n k : Nat} (ih : pStot s N f) (hk : k < N) (hf : N - k < f + 1) : ∃ x, pAl s n (pS s f n) k = some x := by
  unfold pAl
  refine pB_tot (ih (by omega) (by omega)) (fun k1 b h1 => ?_)
  split
  · exact pO_tot _ _
  · exact pF_tot _
theorem pS_tot (hN : ∀ k, N ≤ k → s k ≤ 1) (h9 : N ≤ 450) (f : Nat) : pStot s N f := by
  induction f with
  | zero =>
    intro n k hk hf
    omega
  | succ f ih =>
    intro n k hk hf
    unfold pS
    by_cases c : bst (s k)
    · rw [if_pos c]
      have m := at_N hN (k := k) (by unfold bst at c; omega)
      refine pB_tot ?_ (fun k1 x h1 => ?_)
      · cases n with
        | zero =>
          show ∃ x, (if s k = 18 ∨ s k = 24 then pF k else pSt s 0 k) = some x
          split
          · exact pF_tot _
          · exact pSt_tot hN h9 m
        | succ n =>
          show ∃ x, (if s k = 18 then pIf s n (pS s f n) k else if s k = 24 then pAl s n (pS s f n) k else pSt s (n + 1) k) = some x
          split
          · exact pIf_tot hN h9 ih m hf
          · split
            · exact pAl_tot ih m hf
            · exact pSt_tot hN h9 m
      · have a := pStm_ok (pS_ok f) c h1
        have l1 := ys_N hN a.1 (by omega)
        refine pB_tot (ih l1 (by omega)) (fun k2 l h2 => pO_tot _ _)
    · rw [if_neg c]
      exact pO_tot _ _
theorem pT_N (hN : ∀ k, N ≤ k → s k ≤ 1) {c k k2 : Nat} {u : Unit} (hc : 2 ≤ c) (h : pT s c k = pO k2 u) : k2 ≤ N ∧ k2 = k + 1 := by
  have a := pT_inv (q := (k2, u)) h
  have := at_N hN (k := k) (by omega)
  have e : k2 = k + 1 := a.2
  omega
theorem pBd_tot (hN : ∀ k, N ≤ k → s k ≤ 1) (h9 : N ≤ 450) {k : Nat} : ∃ x, pBd s k = some x := by
  unfold pBd
  split
  · rename_i c
    have m := at_N hN (k := k) (by omega)
    exact pB_tot (pS_tot hN h9 500 (by omega) (by omega)) (fun k1 _ _ => pT_tot _ _ _)
  · exact pF_tot _
theorem pAc_tot (hN : ∀ k, N ≤ k → s k ≤ 1) (h9 : N ≤ 450) {k : Nat} : ∃ x, pAc s k = some x := by
  unfold pAc
  split
  · rename_i c
    have m := at_N hN (k := k) (by omega)
    exact pB_tot (pEx_tot hN h9 (by omega)) (fun k1 _ _ => pBd_tot hN h9)
  · exact pBd_tot hN h9
theorem pWh_tot (s : Nat → Nat) (k : Nat) : ∃ x, pWh s k = some x := by
  unfold pWh
  split <;> exact pT_tot _ _ _
theorem pRg_tot (s : Nat → Nat) (k : Nat) : ∃ x, pRg s k = some x := by
  unfold pRg
  exact pB_tot (pWh_tot _ _) (fun _ _ _ => pB_tot (pT_tot _ _ _) (fun _ _ _ => pB_tot (pWh_tot _ _) (fun _ _ _ => pB_tot (pT_tot _ _ _) (fun _ _ _ => pB_tot (pWh_tot _ _) (fun _ _ _ => pT_tot _ _ _)))))
theorem pNs_tot (hN : ∀ k, N ≤ k → s k ≤ 1) : ∀ {f k : Nat}, k ≤ N → N - k < f → ∃ x, pNs s f k = some x
  | 0, k, hk, hf => by omega
  | f + 1, k, hk, hf => by
    unfold pNs
    split
    · refine pB_tot (pT_tot _ _ _) (fun k1 u h1 => ?_)
      have a := pT_N hN (by omega) h1
      exact pNs_tot hN a.1 (by omega)
    · exact pT_tot _ _ _
theorem pPh_tot (hN : ∀ k, N ≤ k → s k ≤ 1) (h9 : N ≤ 450) {k : Nat} : ∃ x, pPh s k = some x := by
  unfold pPh
  refine pB_tot (pT_tot _ _ _) (fun k1 _ _ => pB_tot (pT_tot _ _ _) (fun k2 u h2 => ?_))
  have a := pT_N hN (by omega) h2
  exact pNs_tot hN a.1 (by omega)
theorem pI_tot (hN : ∀ k, N ≤ k → s k ≤ 1) (h9 : N ≤ 450) {k : Nat} : ∃ x, pI s k = some x := by
  unfold pI
  split
  · rename_i c
    have m := at_N hN (k := k) (by omega)
    unfold pWi
    exact pB_tot (pEx_tot hN h9 (by omega)) (fun _ _ _ => pT_tot _ _ _)
  · split
    · refine pB_tot (pT_tot _ _ _) (fun k1 _ _ => ?_)
      split
      · exact pRg_tot _ _
      · split
        · exact pPh_tot hN h9
        · split
          · unfold pRu
            exact pB_tot (pT_tot _ _ _) (fun _ _ _ => pB_tot (pT_tot _ _ _) (fun _ _ _ => pAc_tot hN h9))
          · exact pAc_tot hN h9
    · exact pF_tot _
end Tot
theorem pP_tot {T : qTk} (hw : qTw T) : ∀ {f k : Nat}, k < T.2.2.2 → T.2.2.2 - k ≤ f → ∃ r, pP T.1 f k = some r
  | 0, k, h1, h2 => by omega
  | f + 1, k, h1, h2 => by
    have hN := qTw_N hw
    have h9 := hw.2.1
    show ∃ r, (pB (pI T.1 k) fun k1 _ => if T.1 k1 = 1 then pO k1 () else pP T.1 f k1) = some r
    refine pB_tot (pI_tot hN (by omega)) (fun k1 u hq => ?_)
    split
    · exact pO_tot _ _
    · have p := pI_pos hw h1 hq
      have l := tks_pos hq
      have p2 : k1 < T.2.2.2 := p.1.2
      exact pP_tot hw p2 (by omega)

/-! ===== code by the grammar: sound on operands, places that there are, names resolved ===== -/
theorem pE_wf {T : qTk} {pl : Nat → Option Nat} (hpl : ∀ x, plD pl x < 18) : ∀ {f m dp k k2 : Nat} {o : List zOp}, pE T.1 f m dp k = pO k2 o → m ≤ 5 ∨ 10 ≤ m ∧ m ≤ 14 → dp ≤ 8 → ∀ n, (m ≤ 5 → n + (6 - m) + 5 * (8 - dp) ≤ 60 → zwf n (o.map (qRo T pl)) (n + 1)) ∧ (10 ≤ m → n + (16 - m) + 5 * (8 - dp) ≤ 60 → zwf (n + 1) (o.map (qRo T pl)) (n + 1))
  | 0, _, _, _, _, _, h, _, _, _ => by cases h
  | f + 1, m, dp, k, k2, o, h, hm, hd, n => by
    unfold pE at h
    by_cases c1 : m < 5
    · rw [if_pos c1] at h
      rcases pB_inv h with ⟨j, _, e⟩ | ⟨k1, o1, h1, h⟩
      · cases e
      · rcases pB_inv h with ⟨j, _, e⟩ | ⟨k3, o3, h3, h⟩
        · cases e
        · cases pO_inv h
          have a := (pE_wf hpl h1 (by omega) hd n).1
          have b := (pE_wf hpl h3 (by omega) hd n).2
          refine ⟨fun _ hb => ?_, fun z => by omega⟩
          rw [List.map_append]
          exact zwf_app (a (by omega) (by omega)) (b (by omega) (by omega))
    · rw [if_neg c1] at h
      by_cases c2 : m < 10
      · rw [if_pos c2] at h
        have em : m = 5 := by omega
        refine ⟨fun _ hb => ?_, fun z => by omega⟩
        have leaf : ∀ q : zOp, zlfK q.1 → zwf n [qRo T pl q] (n + 1) := fun q hq => by
          have e1 : (qRo T pl q).1 = q.1 := by
            unfold qRo
            split
            · rfl
            · split
              · rename_i z
                exact z.symm
              · rfl
          refine Or.inl ⟨by rw [e1]; exact hq, by omega, fun z => ?_, rfl⟩
          rw [e1] at z
          refine ⟨plD pl q.2.toNatClampNeg, hpl _, ?_⟩
          unfold qRo
          rw [if_pos (Or.inl z)]
        have un : ∀ q : zOp, zunK q.1 → qRo T pl q = q := fun q hq => by
          unfold zunK at hq
          unfold qRo
          rw [if_neg (by omega), if_neg (by omega)]
        unfold pFc at h
        by_cases d1 : T.1 k = 3 ∨ 28 ≤ T.1 k ∧ T.1 k ≤ 32
        · rw [if_pos d1] at h
          cases pO_inv h
          exact leaf _ (by show zlfK (T.1 k); unfold zlfK; omega)
        · rw [if_neg d1] at h
          by_cases d2 : T.1 k = 2
          · rw [if_pos d2] at h
            cases pO_inv h
            exact leaf _ (Or.inl rfl)
          · rw [if_neg d2] at h
            by_cases d3 : T.1 k = 25 ∨ T.1 k = 26
            · rw [if_pos d3] at h
              by_cases d4 : T.1 (k + 1) = 2
              · rw [if_pos d4] at h
                cases pO_inv h
                exact leaf _ (Or.inl rfl)
              · rw [if_neg d4] at h
                cases pF_inv h
            · rw [if_neg d3] at h
              by_cases d5 : T.1 k = 36
              · rw [if_pos d5] at h
                by_cases d6 : dp < 8
                · rw [if_pos d6] at h
                  rcases pB_inv h with ⟨j, _, e⟩ | ⟨k1, o1, h1, h⟩
                  · cases e
                  · by_cases d7 : T.1 k1 = 37
                    · rw [if_pos d7] at h
                      cases pO_inv h
                      exact (pE_wf hpl h1 (by omega) (by omega) n).1 (by omega) (by omega)
                    · rw [if_neg d7] at h
                      cases pF_inv h
                · rw [if_neg d6] at h
                  cases pF_inv h
              · rw [if_neg d5] at h
                by_cases d8 : T.1 k = 43 ∨ T.1 k = 35 ∨ T.1 k = 27
                · rw [if_pos d8] at h
                  by_cases d6 : dp < 8
                  · rw [if_pos d6] at h
                    rcases pB_inv h with ⟨j, _, e⟩ | ⟨k1, o1, h1, h⟩
                    · cases e
                    · cases pO_inv h
                      have a := (pE_wf hpl h1 (by omega) (by omega) n).1 (by omega) (by omega)
                      rw [List.map_append]
                      refine zwf_app a ?_
                      have hu : zunK (if T.1 k = 43 then 52 else T.1 k) := by
                        unfold zunK
                        split <;> omega
                      show zwf (n + 1) [qRo T pl _] (n + 1)
                      rw [un _ hu]
                      exact Or.inr (Or.inl ⟨hu, by omega, rfl⟩)
                  · rw [if_neg d6] at h
                    cases pF_inv h
                · rw [if_neg d8] at h
                  cases pF_inv h
      · rw [if_neg c2] at h
        refine ⟨fun z => by omega, fun _ hb => ?_⟩
        by_cases c3 : pLv (T.1 k) = m - 10
        · rw [if_pos c3] at h
          have hbn := (pLv_xs c3 (by omega)).2
          have bn : ∀ v : Int32, qRo T pl (T.1 k, v) = (T.1 k, v) := fun v => by
            unfold zbnK at hbn
            unfold qRo
            rw [if_neg (by show ¬ (T.1 k = 2 ∨ T.1 k = 16 ∨ T.1 k = 17); omega), if_neg (by show ¬ T.1 k = 3; omega)]
          rcases pB_inv h with ⟨j, _, e⟩ | ⟨k1, o1, h1, h⟩
          · cases e
          have a := (pE_wf hpl h1 (by omega) hd (n + 1)).1 (by omega) (by omega)
          by_cases c4 : m = 12
          · rw [if_pos c4] at h
            cases pO_inv h
            rw [List.map_append]
            refine zwf_app a ?_
            show zwf (n + 1 + 1) [qRo T pl _] (n + 1)
            rw [bn]
            exact Or.inr (Or.inr ⟨hbn, by omega, rfl⟩)
          · rw [if_neg c4] at h
            rcases pB_inv h with ⟨j, _, e⟩ | ⟨k3, o3, h3, h⟩
            · cases e
            cases pO_inv h
            have b := (pE_wf hpl h3 (by omega) hd n).2 (by omega) (by omega)
            rw [List.map_append, List.map_cons]
            refine zwf_app a ?_
            rw [bn]
            exact Or.inr (Or.inr ⟨hbn, by omega, b⟩)
        · rw [if_neg c3] at h
          cases pO_inv h
          rfl
theorem pEx_wf {T : qTk} {pl : Nat → Option Nat} (hpl : ∀ x, plD pl x < 18) {k k2 : Nat} {o : List zOp} (h : pEx T.1 k = pO k2 o) : zwE (o.map (qRo T pl)) := (pE_wf hpl h (by omega) (by omega) 0).1 (by omega) (by omega)
/-! statements, part by part -/
def qSa (PB : zB0 → Prop) (PO : List zOp → Prop) : (n : Nat) → zSt n → Prop
  | 0, b => PB b
  | _ + 1, .inl b => PB b
  | n + 1, .inr (.inl (o, t, none)) => PO o ∧ ∀ s ∈ t, qSa PB PO n s
  | n + 1, .inr (.inl (o, t, some e)) => PO o ∧ (∀ s ∈ t, qSa PB PO n s) ∧ ∀ s ∈ e, qSa PB PO n s
  | n + 1, .inr (.inr b) => ∀ s ∈ b, qSa PB PO n s
theorem qSa_mkB {PB : zB0 → Prop} {PO : List zOp → Prop} {n : Nat} {b : zB0} (h : PB b) : qSa PB PO n (mkB n b) := by
  cases n <;> exact h
def qO0 (s : Nat → Nat) (lo hi : Nat) (o : List zOp) : Prop := ∃ k k2, lo ≤ k ∧ k2 ≤ hi ∧ pEx s k = pO k2 o
def qB0 (s : Nat → Nat) (lo hi : Nat) (b : zB0) : Prop := ((b.1 = 16 ∨ b.1 = 17) ∧ (lo ≤ b.2.1 ∧ b.2.1 < hi ∧ s b.2.1 = 2) ∧ qO0 s lo hi b.2.2) ∨ ((b.1 = 21 ∨ b.1 = 22 ∨ b.1 = 23) ∧ b.2.1 = 0 ∧ b.2.2 = [])
def pSal (s : Nat → Nat) (lo hi : Nat) (f : Nat) : Prop := ∀ {n k k2 : Nat} {l : List (zSt n)}, pS s f n k = pO k2 l → lo ≤ k → k2 ≤ hi → ∀ x ∈ l, qSa (qB0 s lo hi) (qO0 s lo hi) n x
theorem pSt_al {s : Nat → Nat} {lo hi n k k2 : Nat} {x : zSt n} (h : pSt s n k = pO k2 x) (hb : bst (s k)) (hn : ¬ s k = 18 ∧ ¬ s k = 24) (hl : lo ≤ k) (hh : k2 ≤ hi) : qSa (qB0 s lo hi) (qO0 s lo hi) n x := by
  unfold pSt at h
  by_cases c : s k = 16 ∨ s k = 17
  · rw [if_pos c] at h
    rcases pB_inv h with ⟨j, _, e⟩ | ⟨k1, nm, h1, h⟩
    · cases e
    rcases pB_inv h with ⟨j, _, e⟩ | ⟨k3, o, h3, h⟩
    · cases e
    by_cases c2 : s k3 = 39
    · rw [if_pos c2] at h
      cases pO_inv h
      have a := tks_pl h1
      have b := tks_ex h3
      exact qSa_mkB (Or.inl ⟨c, ⟨by show lo ≤ nm; omega, by show nm < hi; omega, a.2.2.2.2⟩, k1, k3, by omega, by omega, h3⟩)
    · rw [if_neg c2] at h
      cases pF_inv h
  · rw [if_neg c] at h
    by_cases c2 : s (k + 1) = 39
    · rw [if_pos c2] at h
      cases pO_inv h
      exact qSa_mkB (Or.inr ⟨by show s k = 21 ∨ s k = 22 ∨ s k = 23; unfold bst at hb; omega, rfl, rfl⟩)
    · rw [if_neg c2] at h
      cases pF_inv h
theorem pIf_al {s : Nat → Nat} {f lo hi n k k2 : Nat} {x : zSt (n + 1)} (ih : pSal s lo hi f) (h : pIf s n (pS s f n) k = pO k2 x) (hl : lo ≤ k) (hh : k2 ≤ hi) : qSa (qB0 s lo hi) (qO0 s lo hi) (n + 1) x := by
  unfold pIf at h
  rcases pB_inv h with ⟨j, _, e⟩ | ⟨k1, o, h1, h⟩
  · cases e
  have a1 := tks_ex h1
  by_cases c : s k1 = 19
  · rw [if_pos c] at h
    rcases pB_inv h with ⟨j, _, e⟩ | ⟨k3, t, h3, h⟩
    · cases e
    have p3 := (pS_ok (f := f) h3).1.1
    by_cases c2 : s k3 = 20
    · rw [if_pos c2] at h
      rcases pB_inv h with ⟨j, _, e⟩ | ⟨k4, t4, h4, h⟩
      · cases e
      have p4 := (pS_ok (f := f) h4).1.1
      by_cases c3 : s k4 = 15
      · rw [if_pos c3] at h
        cases pO_inv h
        exact ⟨⟨k + 1, k1, by omega, by omega, h1⟩, ih h3 (by omega) (by omega), ih h4 (by omega) (by omega)⟩
      · rw [if_neg c3] at h
        cases pF_inv h
    · rw [if_neg c2] at h
      by_cases c3 : s k3 = 15
      · rw [if_pos c3] at h
        cases pO_inv h
        exact ⟨⟨k + 1, k1, by omega, by omega, h1⟩, ih h3 (by omega) (by omega)⟩
      · rw [if_neg c3] at h
        cases pF_inv h
  · rw [if_neg c] at h
    cases pF_inv h
theorem pAl_al {s : Nat → Nat} {f lo hi n k k2 : Nat} {x : zSt (n + 1)} (ih : pSal s lo hi f) (h : pAl s n (pS s f n) k = pO k2 x) (hl : lo ≤ k) (hh : k2 ≤ hi) : qSa (qB0 s lo hi) (qO0 s lo hi) (n + 1) x := by
  unfold pAl at h
  rcases pB_inv h with ⟨j, _, e⟩ | ⟨k1, b, h1, h⟩
  · cases e
  by_cases c : s k1 = 15
  · rw [if_pos c] at h
    cases pO_inv h
    exact ih h1 (by omega) (by omega)
  · rw [if_neg c] at h
    cases pF_inv h
theorem pS_al {s : Nat → Nat} {lo hi : Nat} (f : Nat) : pSal s lo hi f := by
  induction f with
  | zero =>
    intro n k k2 l h
    cases h
  | succ f ih =>
    intro n k k2 l h hl hh
    unfold pS at h
    by_cases c : bst (s k)
    · rw [if_pos c] at h
      rcases pB_inv h with ⟨j, _, e⟩ | ⟨k1, x, h1, h⟩
      · cases e
      rcases pB_inv h with ⟨j, _, e⟩ | ⟨k3, l3, h3, h⟩
      · cases e
      cases pO_inv h
      have p1 := (pStm_ok (pS_ok f) c h1).2.1
      have p3 := (pS_ok (f := f) h3).1.1
      intro y hy
      rcases List.mem_cons.mp hy with e | hy
      · rw [e]
        cases n with
        | zero =>
          have h1 : (if s k = 18 ∨ s k = 24 then pF k else pSt s 0 k) = pO k1 x := h1
          by_cases c2 : s k = 18 ∨ s k = 24
          · rw [if_pos c2] at h1
            cases pF_inv h1
          · rw [if_neg c2] at h1
            exact pSt_al h1 c (by omega) hl (by omega)
        | succ n =>
          have h1 : (if s k = 18 then pIf s n (pS s f n) k else if s k = 24 then pAl s n (pS s f n) k else pSt s (n + 1) k) = pO k1 x := h1
          by_cases c2 : s k = 18
          · rw [if_pos c2] at h1
            exact pIf_al ih h1 hl (by omega)
          · rw [if_neg c2] at h1
            by_cases c3 : s k = 24
            · rw [if_pos c3] at h1
              exact pAl_al ih h1 hl (by omega)
            · rw [if_neg c3] at h1
              exact pSt_al h1 c ⟨c2, c3⟩ hl (by omega)
      · exact ih h3 (by omega) hh y hy
    · rw [if_neg c] at h
      cases pO_inv h
      intro y hy
      cases hy
/-- sound statements -/
theorem qSa_wf {T : qTk} {pl : Nat → Option Nat} {lo hi : Nat} (hpl : ∀ x, plD pl x < 18) : ∀ (n : Nat) (x : zSt n), qSa (qB0 T.1 lo hi) (qO0 T.1 lo hi) n x → zwS n (qRs T pl n x) := by
  have hB : ∀ b, qB0 T.1 lo hi b → zwB (qRb T pl b) := fun b h => by
    rcases h with ⟨h1, -, k, k2, -, -, h3⟩ | ⟨h1, h2, h3⟩
    · have w := pEx_wf hpl h3
      have e : (qRb T pl b).2.1 < 18 := by
        show (if b.1 = 16 ∨ b.1 = 17 then plD pl b.2.1 else b.2.1) < 18
        rw [if_pos h1]
        exact hpl _
      rcases h1 with z | z
      · exact Or.inl ⟨z, e, w⟩
      · exact Or.inr (Or.inl ⟨z, e, w⟩)
    · refine Or.inr (Or.inr ⟨h1, ?_, ?_⟩)
      · show (if b.1 = 16 ∨ b.1 = 17 then plD pl b.2.1 else b.2.1) = 0
        rw [if_neg (by omega)]
        exact h2
      · show b.2.2.map (qRo T pl) = []
        rw [h3]
        rfl
  have hO : ∀ o, qO0 T.1 lo hi o → zwE (o.map (qRo T pl)) := fun o ⟨k, k2, _, _, h⟩ => pEx_wf hpl h
  intro n
  induction n with
  | zero =>
    intro x h
    exact hB x h
  | succ n ih =>
    intro x h
    have lst : ∀ t : List (zSt n), (∀ s ∈ t, qSa (qB0 T.1 lo hi) (qO0 T.1 lo hi) n s) → ∀ s ∈ t.map (qRs T pl n), zwS n s := fun t ht s hs => by
      obtain ⟨y, hy, rfl⟩ := List.mem_map.mp hs
      exact ih y (ht y hy)
    match x, h with
    | .inl b, h => exact hB b h
    | .inr (.inl (o, t, none)), h => exact ⟨hO o h.1, lst t h.2⟩
    | .inr (.inl (o, t, some e)), h => exact ⟨hO o h.1, lst t h.2.1, lst e h.2.2⟩
    | .inr (.inr b), h => exact lst b h
/-- places that there are -/
def qPok (T : qTk) (pl : Nat → Option Nat) (nt np lo hi : Nat) : Prop := hi ≤ 1000 ∧ ∀ j, lo ≤ j → j < hi → T.1 j = 2 → zpv nt np (plD pl j)
theorem pEx_vO {T : qTk} {pl : Nat → Option Nat} {nt np lo hi k k2 : Nat} {o : List zOp} (hpl : ∀ x, plD pl x < 18) (hv : qPok T pl nt np lo hi) (h : pEx T.1 k = pO k2 o) (hl : lo ≤ k) (hh : k2 ≤ hi) : zvO nt np (o.map (qRo T pl)) := by
  intro q hq h2 p hp he
  obtain ⟨q0, hq0, rfl⟩ := List.mem_map.mp hq
  have a := (pE_ok h (by omega)).1
  rcases a.2.2.2 q0 hq0 with ⟨j, j1, j2, e, j3⟩ | ⟨j, j1, j2, e⟩
  · rw [e] at h2 he
    have c : T.1 j = 2 := by
      unfold qRo at h2
      by_cases z : T.1 j = 2
      · exact z
      · rw [if_neg (by show ¬ (T.1 j = 2 ∨ T.1 j = 16 ∨ T.1 j = 17); omega)] at h2
        by_cases z3 : T.1 j = 3
        · rw [if_pos z3] at h2
          cases h2
        · rw [if_neg z3] at h2
          exact h2
    have hv1 := hv.1
    have e9 : (qRo T pl (T.1 j, zi (j : Int))).2 = zi (plD pl j : Int) := by
      unfold qRo
      rw [if_pos (Or.inl c)]
      show zi (plD pl (zi (j : Int)).toNatClampNeg : Int) = _
      rw [zi_clk (by omega)]
    rw [e9, zi_eq (by have := hpl j; omega) (by omega)] at he
    have := hv.2 j (by omega) (by omega) c
    rw [show p = plD pl j by omega]
    exact this
  · have c : (qRo T pl q0).1 = q0.1 ∧ ¬ q0.1 = 2 := by
      have n : ¬ q0.1 = 2 ∧ ¬ q0.1 = 16 ∧ ¬ q0.1 = 17 ∧ ¬ q0.1 = 3 := by
        rcases e with ⟨e, z⟩ | ⟨e, z⟩
        · rw [e]
          unfold zbnK at z
          show ¬ T.1 j = 2 ∧ ¬ T.1 j = 16 ∧ ¬ T.1 j = 17 ∧ ¬ T.1 j = 3
          omega
        · rw [e]
          decide
      unfold qRo
      rw [if_neg (by omega), if_neg (by omega)]
      exact ⟨rfl, n.1⟩
    rw [c.1] at h2
    exact absurd h2 c.2
theorem qSa_vS {T : qTk} {pl : Nat → Option Nat} {nt np lo hi : Nat} (hpl : ∀ x, plD pl x < 18) (hv : qPok T pl nt np lo hi) : ∀ (n : Nat) (x : zSt n), qSa (qB0 T.1 lo hi) (qO0 T.1 lo hi) n x → zvS nt np n (qRs T pl n x) := by
  have hB : ∀ b, qB0 T.1 lo hi b → zvB nt np (qRb T pl b) := fun b h => by
    intro hb
    have hb : b.1 = 16 ∨ b.1 = 17 := hb
    rcases h with ⟨h1, ⟨h4, h5, h6⟩, k, k2, h7, h8, h3⟩ | ⟨h1, h2, h3⟩
    · refine ⟨?_, pEx_vO hpl hv h3 h7 h8⟩
      show zpv nt np (if b.1 = 16 ∨ b.1 = 17 then plD pl b.2.1 else b.2.1)
      rw [if_pos h1]
      exact hv.2 _ h4 h5 h6
    · omega
  have hO : ∀ o, qO0 T.1 lo hi o → zvO nt np (o.map (qRo T pl)) := fun o ⟨k, k2, h1, h2, h⟩ => pEx_vO hpl hv h h1 h2
  intro n
  induction n with
  | zero =>
    intro x h
    exact hB x h
  | succ n ih =>
    intro x h
    have lst : ∀ t : List (zSt n), (∀ s ∈ t, qSa (qB0 T.1 lo hi) (qO0 T.1 lo hi) n s) → ∀ s ∈ t.map (qRs T pl n), zvS nt np n s := fun t ht s hs => by
      obtain ⟨y, hy, rfl⟩ := List.mem_map.mp hs
      exact ih y (ht y hy)
    match x, h with
    | .inl b, h => exact hB b h
    | .inr (.inl (o, t, none)), h => exact ⟨hO o h.1, lst t h.2⟩
    | .inr (.inl (o, t, some e)), h => exact ⟨hO o h.1, lst t h.2.1, lst e h.2.2⟩
    | .inr (.inr b), h => exact lst b h

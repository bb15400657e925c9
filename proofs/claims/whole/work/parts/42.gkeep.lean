/-! ===== the game: what a move keeps (spec) ===== -/
/-- whatever the outcome -/
def gBs (p : zPg) (m : Nat) (G : zGm) : Prop := G.1 8 = (m : Int) ∧ (0 ≤ G.1 1 ∧ G.1 1 < m) ∧ gRg p G ∧ G.2.2.1.length ≤ 10 ∧ (∀ r ∈ G.2.2.1, gRow1 p m r)
def gAs (m : Nat) (G : zGm) : Prop := (G.2.2.1 = [] → G.1 3 = -1 ∧ G.1 7 = 0) ∧ (¬ G.2.2.1 = [] → 0 ≤ G.1 3 ∧ G.1 3 < m ∧ 0 ≤ G.1 7 ∧ G.1 7 < m - 1)
def gVd (p : zPg) (m : Nat) (G : zGm) : Prop := gBs p m G ∧ (G.1 9 = 0 → gAs m G)
theorem gIn_of {p : zPg} {m : Nat} {G : zGm} (h : gVd p m G) (h9 : G.1 9 = 0) : gIn p m G :=
  ⟨h.1.1, h.1.2.1, h.1.2.2.1, h.1.2.2.2.1, h.1.2.2.2.2, (h.2 h9).1, (h.2 h9).2⟩
theorem gBs_dns {p : zPg} {m : Nat} {G : zGm} {B : Nat → Int32} {n : Nat} {l : List (zSt n)} {ow tg : Nat} (h : gBs p m G) : gBs p m (zdns B n l ow tg G) := by
  refine ⟨by rw [zdns_k (by omega)]; exact h.1, by rw [zdns_k (by omega)]; exact h.2.1, gRg_dns h.2.2.1, Nat.le_trans zdns_len h.2.2.2.1, fun r hr => h.2.2.2.2 r (zdns_mem r hr)⟩
theorem gBs_look {p : zPg} {m : Nat} {G : zGm} (h : gBs p m G) : gBs p m (gLook p G) := by
  have hr := gRg_look (p := p) h.2.2.1
  rcases gLook_or (p := p) (G := G) with e | ⟨w, e⟩
  · rw [e]
    exact h
  · rw [e] at hr ⊢
    exact ⟨h.1, h.2.1, hr, h.2.2.2.1, h.2.2.2.2⟩
theorem gBs_rule {p : zPg} {m : Nat} {G : zGm} {r : Nat} (h : gBs p m G) : gBs p m (gRule p G r) := by
  unfold gRule
  split
  · exact gBs_look (gBs_dns h)
  · exact h
theorem gBs_rules {p : zPg} {m : Nat} {G : zGm} (h : gBs p m G) : gBs p m (gRules p G) := zfold_i (Q := gBs p m) (fun _ _ q => gBs_rule q) _ G h
theorem gBs_end {p : zPg} {m : Nat} {G : zGm} {by9 : Int} (h : gBs p m G) : gBs p m (gEnd G 2 by9) :=
  ⟨h.1, h.2.1, ⟨h.2.2.1.1, h.2.2.1.2.1, h.2.2.1.2.2.1, h.2.2.1.2.2.2.1, Or.inr (Or.inr rfl)⟩, h.2.2.2.1, h.2.2.2.2⟩
theorem gBs_new {p : zPg} {m : Nat} {G : zGm} {q : Nat} {R : Int} (hk : zPok p) (hq : q < m) (h : gBs p m G) (hR : 0 ≤ R ∧ R ≤ 50) : gBs p m (gNew (sS G 0 R) q) :=
  ⟨h.1, ⟨by show (0 : Int) ≤ (q : Int); omega, by show (q : Int) < (m : Int); omega⟩, gRg_new hk h.2.2.1 hR, h.2.2.2.1, h.2.2.2.2⟩
theorem gTurns_Bs {p : zPg} {m : Nat} (hk : zPok p) (hm : 2 ≤ m ∧ m ≤ 4) : ∀ (k : Nat) {G : zGm}, gBs p m G → gBs p m (gTurns p k G)
  | 0, _, h => h
  | k + 1, G, h => by
    obtain ⟨nx, R, h1, h0, hx, h2⟩ := gTurns_u p k G
    rw [h2]
    have hnx : nx < m := by
      rw [hx]
      split
      · exact gB_lt h.1 hm.1
      · have := h.2.1
        unfold gT
        omega
    by_cases c1 : 50 < R ∨ k = 0
    · rw [if_pos c1]
      exact gBs_end h
    · rw [if_neg c1]
      have h9 := gBs_rules (gBs_new hk hnx h (R := R) (by have := h.2.2.1.1; omega))
      by_cases c2 : (gRules p (gNew (sS G 0 R) nx)).1 9 = 0 ∧ (gRules p (gNew (sS G 0 R) nx)).1 5 = 1
      · rw [if_pos c2]
        exact gTurns_Bs hk hm k h9
      · rw [if_neg c2]
        exact h9
theorem gTurns_Q {p : zPg} {m : Nat} (hm : 2 ≤ m ∧ m ≤ 4) : ∀ (k : Nat) {t : Nat} {G : zGm}, t < m → gQ m t G → (gTurns p k G).1 9 = 0 → ∃ t', t' < m ∧ gQ m t' (gTurns p k G)
  | 0, t, _, ht, h => fun _ => ⟨t, ht, h⟩
  | k + 1, t, G, ht, h => by
    obtain ⟨nx, R, h1, h0, hx, h2⟩ := gTurns_u p k G
    rw [h2]
    have hnx : nx < m := by
      rw [hx]
      split
      · exact gB_lt h.1 hm.1
      · unfold gT
        rw [h.2.1]
        omega
    by_cases c1 : 50 < R ∨ k = 0
    · rw [if_pos c1]
      intro q
      exact absurd q (show ¬ (2 : Int) = 0 by decide)
    · rw [if_neg c1]
      have h9 : gQ m nx (gRules p (gNew (sS G 0 R) nx)) := gQ_rules _ (gQ_new h)
      by_cases c2 : (gRules p (gNew (sS G 0 R) nx)).1 9 = 0 ∧ (gRules p (gNew (sS G 0 R) nx)).1 5 = 1
      · rw [if_pos c2]
        exact gTurns_Q hm k hnx h9
      · rw [if_neg c2]
        exact fun _ => ⟨nx, hnx, h9⟩
theorem gAs_Q {m t : Nat} {G : zGm} (h : gQ m t G) : gAs m G := ⟨fun _ => ⟨h.2.2.1, h.2.2.2.1⟩, fun q => absurd h.2.2.2.2 q⟩
theorem gQ_of {p : zPg} {m : Nat} {G : zGm} (h : gVd p m G) (h9 : G.1 9 = 0) (hs : G.2.2.1 = []) : ∃ t, t < m ∧ gQ m t G := by
  have h1 := h.1.2.1
  have h3 := (h.2 h9).1 hs
  refine ⟨(G.1 1).toNat, by omega, h.1.1, by omega, h3.1, h3.2, hs⟩
theorem gVd_ask {p : zPg} {m : Nat} {G : zGm} (hm : 2 ≤ m ∧ m ≤ 4) (h : gBs p m G) : gVd p m (gAsk G) := by
  unfold gAsk
  split
  · rename_i e
    refine ⟨⟨h.1, h.2.1, h.2.2.1, h.2.2.2.1, h.2.2.2.2⟩, fun _ => ⟨fun _ => ⟨rfl, rfl⟩, fun q => absurd (zgd_none e) q⟩⟩
  · rename_i r e
    refine ⟨⟨h.1, h.2.1, h.2.2.1, h.2.2.2.1, h.2.2.2.2⟩, fun _ => ⟨fun q => ?_, fun _ => ?_⟩⟩
    · have q' : G.2.2.1 = [] := q
      rw [q'] at e
      exact absurd e (by simp)
    · have hb := gB_lt (q := (r 2).toNat) h.1 hm.1
      show (0 : Int) ≤ (gB G (r 2).toNat : Int) ∧ (gB G (r 2).toNat : Int) < m ∧ (0 : Int) ≤ 0 ∧ (0 : Int) < m - 1
      omega
theorem gVd_do {p : zPg} {m : Nat} {G : zGm} (hm : 2 ≤ m ∧ m ≤ 4) (h : gBs p m G) (hs : ¬ G.2.2.1 = []) : gVd p m (gDo p G) := by
  unfold gDo
  split
  · rename_i e
    exact absurd (zgd_none e) hs
  · rename_i r e
    have hb : gBs p m (sK (sS (sS G 7 0) 3 (-1)) G.2.2.1.dropLast) := ⟨h.1, h.2.1, h.2.2.1, by show G.2.2.1.dropLast.length ≤ 10; rw [List.length_dropLast]; have := h.2.2.2.1; omega, fun x hx => h.2.2.2.2 x (List.dropLast_subset _ hx)⟩
    have h1 := gBs_look (p := p) (gBs_dns (B := gPb p) (n := 4) (l := gPd p ((12 * r 0 + r 1).toNat)) (ow := (r 2).toNat) (tg := (r 3).toNat) hb)
    show gVd p m (if (gLook p (zdns (gPb p) 4 (gPd p ((12 * r 0 + r 1).toNat)) (r 2).toNat (r 3).toNat (sK (sS (sS G 7 0) 3 (-1)) G.2.2.1.dropLast))).1 9 = 0 then _ else _)
    split
    · exact gVd_ask hm h1
    · rename_i q
      exact ⟨h1, fun q2 => absurd q2 q⟩
theorem gVd_passOn {p : zPg} {m : Nat} {G : zGm} (hm : 2 ≤ m ∧ m ≤ 4) (h : gVd p m G) (h9 : G.1 9 = 0) (hs : ¬ G.2.2.1 = []) : gVd p m (gPassOn p G) := by
  have ha := (h.2 h9).2 hs
  have h8 := h.1.1
  unfold gPassOn
  split
  · rename_i q
    refine ⟨⟨h.1.1, h.1.2.1, h.1.2.2.1, h.1.2.2.2.1, h.1.2.2.2.2⟩, fun _ => ⟨fun q => absurd q hs, fun _ => ?_⟩⟩
    have hb := gB_lt (q := (G.1 3).toNat) h.1.1 hm.1
    show (0 : Int) ≤ (gB G (G.1 3).toNat : Int) ∧ (gB G (G.1 3).toNat : Int) < m ∧ 0 ≤ G.1 7 + 1 ∧ G.1 7 + 1 < m - 1
    omega
  · exact gVd_do hm h.1 hs
/-- the move itself, and whether the last phase is over -/
def gMk (p : zPg) (G0 : zGm) (sort num tg : Int) : zGm × Bool :=
  let who := if G0.2.2.1.isEmpty = true then G0.1 1 else G0.1 3
  let G := gNote G0 sort num tg who
  if ¬ sort = 2 then (gAsk (sK G (G.2.2.1 ++ [gRow sort num who tg])), false)
    else if ¬ G.2.2.1.isEmpty = true then (gPassOn p G, false)
    else if G.1 2 + 1 < gPc p 2 then (gRules p (sS G 2 (G.1 2 + 1)), false)
    else (G, true)
theorem gMake_eq (p : zPg) (G0 : zGm) (sort num tg : Int) : gMake p G0 sort num tg = gFin p (gMk p G0 sort num tg).1 (gMk p G0 sort num tg).2 := rfl
theorem gVd_fin {p : zPg} {m : Nat} {G : zGm} {over : Bool} (hk : zPok p) (hm : 2 ≤ m ∧ m ≤ 4) (h : gVd p m G) : gVd p m (gFin p G over) := by
  have he : ∀ G2 : zGm, gVd p m G2 → gVd p m (if G2.1 9 = 0 ∧ 250 ≤ G2.2.2.2.1.length then gEnd G2 2 (-1) else G2) := by
    intro G2 h2
    split
    · exact ⟨gBs_end h2.1, fun q => absurd q (show ¬ (2 : Int) = 0 by decide)⟩
    · exact h2
  by_cases c : G.1 9 = 0 ∧ G.2.2.1.isEmpty = true ∧ (over = true ∨ G.1 5 = 1)
  · rw [gFin_p c]
    refine he _ ⟨gTurns_Bs hk hm _ h.1, fun q => ?_⟩
    obtain ⟨t, ht, hq⟩ := gQ_of h c.1 (List.isEmpty_iff.mp c.2.1)
    obtain ⟨t', _, hq'⟩ := gTurns_Q hm 101 ht hq q
    exact gAs_Q hq'
  · rw [gFin_n c]
    exact he _ h
/-- what a move may be -/
def gMay (p : zPg) (m : Nat) (G : zGm) (sort num tg : Int) : Prop :=
  sort = 2 ∨ ((sort = 0 ∧ 0 ≤ num ∧ num < gPc p 3 ∨ sort = 1 ∧ 0 ≤ num ∧ num < gPc p 4) ∧ 0 ≤ tg ∧ tg < m ∧ G.2.2.1.length < 10)
theorem gMk_row {p : zPg} {m : Nat} {G : zGm} {sort num tg : Int} (h : gIn p m G) (hv : gMay p m G sort num tg) (hs : ¬ sort = 2) : gRow1 p m (gRow sort num (if G.2.2.1.isEmpty = true then G.1 1 else G.1 3) tg) := by
  rcases hv with e | ⟨e, h1, h2, _⟩
  · exact absurd e hs
  · refine ⟨e, ?_⟩
    show (0 : Int) ≤ (if G.2.2.1.isEmpty = true then G.1 1 else G.1 3) ∧ (if G.2.2.1.isEmpty = true then G.1 1 else G.1 3) < m ∧ 0 ≤ tg ∧ tg < m
    have ht := h.2.1
    split
    · omega
    · rename_i q
      have := h.2.2.2.2.2.2 (fun e => q (by rw [e]; rfl))
      omega
theorem gVd_mk {p : zPg} {m : Nat} {G : zGm} {sort num tg : Int} (hm : 2 ≤ m ∧ m ≤ 4) (h : gVd p m G) (h9 : G.1 9 = 0) (hv : gMay p m G sort num tg) : gVd p m (gMk p G sort num tg).1 := by
  have hI := gIn_of h h9
  have hN : gVd p m (gNote G sort num tg (if G.2.2.1.isEmpty = true then G.1 1 else G.1 3)) := ⟨⟨h.1.1, h.1.2.1, h.1.2.2.1, h.1.2.2.2.1, h.1.2.2.2.2⟩, fun _ => h.2 h9⟩
  unfold gMk
  by_cases c1 : ¬ sort = 2
  · simp only [if_pos c1]
    refine gVd_ask hm ⟨h.1.1, h.1.2.1, h.1.2.2.1, ?_, ?_⟩
    · rcases hv with e | e
      · exact absurd e c1
      · show (G.2.2.1 ++ [_]).length ≤ 10
        rw [List.length_append]
        show G.2.2.1.length + 1 ≤ 10
        omega
    · intro r hr
      rcases List.mem_append.mp hr with q | q
      · exact h.1.2.2.2.2 r q
      · rw [List.mem_singleton.mp q]
        exact gMk_row hI hv c1
  · simp only [if_neg c1]
    by_cases c2 : ¬ G.2.2.1.isEmpty = true
    · rw [if_pos (show ¬ (gNote G sort num tg (if G.2.2.1.isEmpty = true then G.1 1 else G.1 3)).2.2.1.isEmpty = true from c2)]
      exact gVd_passOn hm hN h9 (fun q => c2 (by rw [show G.2.2.1 = [] from q]; rfl))
    · rw [if_neg (show ¬ ¬ (gNote G sort num tg (if G.2.2.1.isEmpty = true then G.1 1 else G.1 3)).2.2.1.isEmpty = true from c2)]
      have hs : G.2.2.1 = [] := List.isEmpty_iff.mp (Classical.not_not.mp c2)
      by_cases c3 : G.1 2 + 1 < gPc p 2
      · rw [if_pos (show (gNote G sort num tg (if G.2.2.1.isEmpty = true then G.1 1 else G.1 3)).1 2 + 1 < gPc p 2 from c3)]
        obtain ⟨t, ht, hq⟩ := gQ_of h h9 hs
        refine ⟨gBs_rules ⟨h.1.1, h.1.2.1, ⟨h.1.2.2.1.1, ?_, h.1.2.2.1.2.2⟩, h.1.2.2.2.1, h.1.2.2.2.2⟩, fun _ => gAs_Q (m := m) (t := t) (gQ_rules _ ⟨hq.1, hq.2.1, hq.2.2.1, hq.2.2.2.1, hq.2.2.2.2⟩)⟩
        have := h.1.2.2.1.2.1
        show 0 ≤ G.1 2 + 1 ∧ G.1 2 + 1 < gPc p 2
        omega
      · rw [if_neg (show ¬ (gNote G sort num tg (if G.2.2.1.isEmpty = true then G.1 1 else G.1 3)).1 2 + 1 < gPc p 2 from c3)]
        exact hN
theorem gVd_make {p : zPg} {m : Nat} {G : zGm} {sort num tg : Int} (hk : zPok p) (hm : 2 ≤ m ∧ m ≤ 4) (h : gVd p m G) (h9 : G.1 9 = 0) (hv : gMay p m G sort num tg) : gVd p m (gMake p G sort num tg) := by
  rw [gMake_eq]
  exact gVd_fin hk hm (gVd_mk hm h h9 hv)
theorem gAsk_r {G : zGm} : (gAsk G).2.2.2.1 = G.2.2.2.1 := by
  unfold gAsk
  split <;> rfl
theorem gDo_r {p : zPg} {G : zGm} : (gDo p G).2.2.2.1 = G.2.2.2.1 := by
  unfold gDo
  split
  · rfl
  · rename_i r e
    have h1 : (gLook p (zdns (gPb p) 4 (gPd p ((12 * r 0 + r 1).toNat)) (r 2).toNat (r 3).toNat (sK (sS (sS G 7 0) 3 (-1)) G.2.2.1.dropLast))).2.2.2.1 = G.2.2.2.1 := by
      rw [gLook_r, zdns_r]
      rfl
    show (if (gLook p (zdns (gPb p) 4 (gPd p ((12 * r 0 + r 1).toNat)) (r 2).toNat (r 3).toNat (sK (sS (sS G 7 0) 3 (-1)) G.2.2.1.dropLast))).1 9 = 0 then _ else _ : zGm).2.2.2.1 = _
    split
    · rw [gAsk_r]
      exact h1
    · exact h1
theorem gPassOn_r {p : zPg} {G : zGm} : (gPassOn p G).2.2.2.1 = G.2.2.2.1 := by
  unfold gPassOn
  split
  · rfl
  · exact gDo_r
def gRec (G : zGm) (sort num tg : Int) : zR4 := fun k => if k = 0 then sort else if k = 1 then num else if k = 2 then tg else (if G.2.2.1.isEmpty = true then G.1 1 else G.1 3)
theorem gMk_r {p : zPg} {G : zGm} {sort num tg : Int} : (gMk p G sort num tg).1.2.2.2.1 = G.2.2.2.1 ++ [gRec G sort num tg] := by
  unfold gMk
  by_cases c1 : ¬ sort = 2
  · simp only [if_pos c1]
    rw [gAsk_r]
    rfl
  · simp only [if_neg c1]
    by_cases c2 : ¬ G.2.2.1.isEmpty = true
    · rw [if_pos (show ¬ (gNote G sort num tg (if G.2.2.1.isEmpty = true then G.1 1 else G.1 3)).2.2.1.isEmpty = true from c2)]
      rw [gPassOn_r]
      rfl
    · rw [if_neg (show ¬ ¬ (gNote G sort num tg (if G.2.2.1.isEmpty = true then G.1 1 else G.1 3)).2.2.1.isEmpty = true from c2)]
      by_cases c3 : G.1 2 + 1 < gPc p 2
      · rw [if_pos (show (gNote G sort num tg (if G.2.2.1.isEmpty = true then G.1 1 else G.1 3)).1 2 + 1 < gPc p 2 from c3), gRules_r]
        rfl
      · rw [if_neg (show ¬ (gNote G sort num tg (if G.2.2.1.isEmpty = true then G.1 1 else G.1 3)).1 2 + 1 < gPc p 2 from c3)]
        rfl
theorem gFin_r {p : zPg} {G : zGm} {over : Bool} : (gFin p G over).2.2.2.1 = G.2.2.2.1 := by
  have he : ∀ G2 : zGm, (if G2.1 9 = 0 ∧ 250 ≤ G2.2.2.2.1.length then gEnd G2 2 (-1) else G2 : zGm).2.2.2.1 = G2.2.2.2.1 := by
    intro G2
    split <;> rfl
  by_cases c : G.1 9 = 0 ∧ G.2.2.1.isEmpty = true ∧ (over = true ∨ G.1 5 = 1)
  · rw [gFin_p c, he, gTurns_r]
  · rw [gFin_n c, he]
theorem gMake_r {p : zPg} {G : zGm} {sort num tg : Int} : (gMake p G sort num tg).2.2.2.1 = G.2.2.2.1 ++ [gRec G sort num tg] := by
  rw [gMake_eq, gFin_r, gMk_r]
/-- while it goes on, fewer than 250 moves are made -/
theorem gFin_250 {p : zPg} {G : zGm} {over : Bool} (h : (gFin p G over).1 9 = 0) : (gFin p G over).2.2.2.1.length < 250 := by
  have he : ∀ G2 : zGm, (if G2.1 9 = 0 ∧ 250 ≤ G2.2.2.2.1.length then gEnd G2 2 (-1) else G2 : zGm).1 9 = 0 → (if G2.1 9 = 0 ∧ 250 ≤ G2.2.2.2.1.length then gEnd G2 2 (-1) else G2 : zGm).2.2.2.1.length < 250 := by
    intro G2
    split
    · intro q
      exact absurd q (show ¬ (2 : Int) = 0 by decide)
    · intro q
      omega
  by_cases c : G.1 9 = 0 ∧ G.2.2.1.isEmpty = true ∧ (over = true ∨ G.1 5 = 1)
  · rw [gFin_p c] at h ⊢
    exact he _ h
  · rw [gFin_n c] at h ⊢
    exact he _ h

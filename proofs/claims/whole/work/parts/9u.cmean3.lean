/-! ===== the class's meaning: what it holds behind k tokens; items ===== -/
theorem zq_e {c n : Nat} {l : Int32} (hl : l = zi (n : Int)) (hc : c ≤ 100000) (hn : n ≤ 100000) : zi (c : Int) = l ↔ c = n := by
  rw [hl, zi_eq (by omega) (by omega)]
  omega
theorem zq_l {c n : Nat} {l : Int32} (hl : l = zi (n : Int)) (hc : c ≤ 100000) (hn : n ≤ 100000) : zi (c : Int) < l ↔ c < n := by
  rw [hl, zi_lt (by omega) (by omega)]
  omega
theorem zq_g {c n : Nat} {l : Int32} (hl : l = zi (n : Int)) (hc : c ≤ 100000) (hn : n ≤ 100000) : l < zi (c : Int) ↔ n < c := by
  rw [hl, zi_lt (by omega) (by omega)]
  omega
theorem zq_o {c n : Nat} {l : Int32} (hl : l = zi (n : Int)) (hc : c ≤ 100000) (hn : n ≤ 100000) : zi (c : Int) ≤ l ↔ c ≤ n := by
  rw [hl, zi_le (by omega) (by omega)]
  omega
theorem zq_p {c n : Nat} {l : Int32} (hl : l = zi (n : Int)) (hc : c ≤ 100000) (hn : n ≤ 100000) : l ≤ zi (c : Int) ↔ n ≤ c := by
  rw [hl, zi_le (by omega) (by omega)]
  omega
abbrev qPn (c : Nat) : Prop := ¬ (4 ≤ c ∧ c ≤ 9) ∧ ¬ c = 40 ∧ ¬ c = 38 ∧ ¬ c = 12
/-- the values of the tokens behind k tokens: the places of the names that were read -/
def qJv (T : qTk) (J0 : zJ) (k j : Nat) : Int64 := if j < k ∧ T.1 j = 2 ∧ qPn (T.1 (j - 1)) then (match qPl T j with
  | some p => (zi (p : Int)).toInt64
  | none => J0 6 j) else J0 6 j
def qWn (J0 : zJ) : Option Nat → Int32
  | none => -1
  | some t => (J0 6 t).toInt32
def qCy (T : qTk) (J0 : zJ) (k : Nat) (I : zI) : Prop :=
  (∀ x, x < 36 → w14 T k x → I 14 x = zi ((qMm T k).2.1 x)) ∧ (∀ i, i < 6 → i < (qMm T k).1 2 → I 15 i = (qMm T k).2.2.1 i) ∧ (∀ i, i < 8 → w16 T k i → I 16 i = zi ((qMm T k).2.2.2.1 i : Int)) ∧
  (∀ b, b < 28 → w17 T k b → I 17 b = qWn J0 ((qMm T k).2.2.2.2.1 b)) ∧ (∀ b, b < 28 → w18 T k b → I 18 b = (J0 6 ((qMm T k).2.2.2.2.2 b)).toInt32) ∧ (0 < (qMm T k).1 6 → I 12 6 = (J0 6 ((qMm T k).1 14)).toInt32)
def qCx (T : qTk) (J0 : zJ) (k : Nat) (I : zI) (J : zJ) : Prop :=
  qTc T I ∧ (∀ x, x ≤ 6 → I 13 x = zi ((qMm T k).1 x : Int)) ∧ (1 ≤ k → I 19 4 = zi ((qMm T k).1 10 : Int) ∧ I 19 5 = zi ((qMm T k).1 11 : Int) ∧ I 19 6 = zi ((qMm T k).1 12 : Int) ∧ I 19 7 = zi ((qMm T k).1 13 : Int)) ∧ qCy T J0 k I ∧ ∀ j, j < T.2.2.2 → J 6 j = qJv T J0 k j
abbrev cmL : List Nat := [12, 13, 14, 15, 16, 17, 18, 19]
/-- what a token owes -/
def qCk (T : qTk) (J0 : zJ) (k : Nat) (P : zP) (D : zD) (I : zI) (J : zJ) : Prop :=
  (qEE T k = 0 → ∀ I' J', zfr cmL I I' → zfr [6] J J' → I' 12 7 = I 12 7 → I' 19 3 = I 19 3 → qCx T J0 (k + 1) I' J' → P (.inl none) I' J' D) ∧
  (¬ qEE T k = 0 → ∀ I' J', zfr cmL I I' → zfr [6] J J' → I' 12 7 = I 12 7 → I' 19 3 = zi (qEE T k : Int) → I' 19 2 = zi (k : Int) → P (.inl none) I' J' D)
theorem qJv_s {T : qTk} {J0 : zJ} {k : Nat} (h : ¬ (T.1 k = 2 ∧ qPn (T.1 (k - 1)))) (j : Nat) : qJv T J0 (k + 1) j = qJv T J0 k j := by
  unfold qJv
  by_cases c : j < k ∧ T.1 j = 2 ∧ qPn (T.1 (j - 1))
  · rw [if_pos c, if_pos ⟨by omega, c.2⟩]
  · rw [if_neg c, if_neg (fun z => ?_)]
    by_cases e : j = k
    · rw [e] at z
      exact h z.2
    · exact c ⟨by omega, z.2⟩
theorem qJv_n {T : qTk} {J0 : zJ} {k j : Nat} (h : ¬ (j < k ∧ T.1 j = 2 ∧ qPn (T.1 (j - 1)))) : qJv T J0 k j = J0 6 j := by
  unfold qJv
  rw [if_neg h]
theorem zM0_at {c : Nat} (h : 4 ≤ c ∧ c ≤ 10) : zM0 (c - 4) = zi (qMost (c - 4) : Int) := by
  have : c = 4 ∨ c = 5 ∨ c = 6 ∨ c = 7 ∨ c = 8 ∨ c = 9 ∨ c = 10 := by omega
  rcases this with z | z | z | z | z | z | z <;> rw [z] <;> rfl
/-- an item begins -/
theorem qCx_it {T : qTk} {J0 : zJ} {k : Nat} {I I' : zI} {J : zJ} (c : 4 ≤ T.1 k ∧ T.1 k ≤ 10) (h : qCx T J0 k I J) (f : zfr cmL I I') (h13 : ∀ x, x ≤ 6 → I' 13 x = if x = T.1 k - 4 then zi (((qMm T k).1 x + 1 : Nat) : Int) else I 13 x) (h4 : I' 19 4 = zi (T.1 k : Int)) (h5 : I' 19 5 = zi ((qMm T k).1 (T.1 k - 4) : Int)) (h6 : I' 19 6 = 0) (h7 : I' 19 7 = zi ((if T.1 k = 10 then 1 else 0 : Nat) : Int)) (h14 : I' 14 = I 14) (h16 : I' 16 = I 16) (h18 : I' 18 = I 18)
    (h15 : ∀ i, I' 15 i = if T.1 k = 6 ∧ i = (qMm T k).1 2 then 0 else I 15 i) (h17 : ∀ b, I' 17 b = if (7 ≤ T.1 k ∧ T.1 k ≤ 9) ∧ b = qBd (T.1 k) ((qMm T k).1 (T.1 k - 4)) then -1 else I 17 b) (h12 : I' 12 6 = if T.1 k = 10 then (J0 6 k).toInt32 else I 12 6) : qCx T J0 (k + 1) I' J := by
  obtain ⟨a1, a2, a3, ⟨b1, b2, b3, b4, b5, b6⟩, a5⟩ := h
  obtain ⟨i1, i2, i3, i4, i5, i6, i7, i8, i9, i10, i11⟩ := qM1_it (m := qMm T k) c
  refine ⟨qTc_keep a1 (f 3 (by decide)) (f 4 (by decide)) (f 5 (by decide)), fun x hx => ?_, fun _ => ?_, ⟨fun x hx hx2 => ?_, fun i hi hi2 => ?_, fun i hi hi2 => ?_, fun b hb hb2 => ?_, fun b hb hb2 => ?_, fun hp => ?_⟩, fun j hj => ?_⟩
  · show _ = zi ((qM1 T k (qMm T k)).1 x : Int)
    rw [h13 x hx, i1 x hx]
    split
    · rfl
    · exact a2 x hx
  · show I' 19 4 = zi ((qM1 T k (qMm T k)).1 10 : Int) ∧ I' 19 5 = zi ((qM1 T k (qMm T k)).1 11 : Int) ∧ I' 19 6 = zi ((qM1 T k (qMm T k)).1 12 : Int) ∧ I' 19 7 = zi ((qM1 T k (qMm T k)).1 13 : Int)
    rw [i2, i3, i4, i5]
    exact ⟨h4, h5, h6, h7⟩
  · show _ = zi ((qM1 T k (qMm T k)).2.1 x)
    rw [h14, i7]
    exact b1 x hx (w14_old hx2 (fun z => by omega))
  · have hi2 : i < (qM1 T k (qMm T k)).1 2 := hi2
    show _ = (qM1 T k (qMm T k)).2.2.1 i
    rw [h15, i8]
    rw [i1 2 (by omega)] at hi2
    by_cases c6 : T.1 k = 6
    · rw [if_pos c6]
      by_cases e : i = (qMm T k).1 2
      · rw [if_pos ⟨c6, e⟩, e, qup_s]
      · rw [if_neg (fun z => e z.2), qup_n _ _ e]
        rw [if_pos (by omega)] at hi2
        exact b2 i hi (by omega)
    · rw [if_neg c6, if_neg (fun z => c6 z.1)]
      rw [if_neg (by omega)] at hi2
      exact b2 i hi hi2
  · show _ = zi ((qM1 T k (qMm T k)).2.2.2.1 i : Int)
    rw [h16, i9]
    exact b3 i hi (w16_old hi2 (fun z => by omega))
  · show _ = qWn J0 ((qM1 T k (qMm T k)).2.2.2.2.1 b)
    rw [h17, i10]
    by_cases e : (7 ≤ T.1 k ∧ T.1 k ≤ 9) ∧ b = qBd (T.1 k) ((qMm T k).1 (T.1 k - 4))
    · rw [if_pos e, if_pos e.1, e.2, qup_s]
      rfl
    · rw [if_neg e]
      have o := b4 b hb (w17_old hb2 (fun z1 z2 => e ⟨z1, z2⟩))
      by_cases e1 : 7 ≤ T.1 k ∧ T.1 k ≤ 9
      · rw [if_pos e1, qup_n _ _ (fun z => e ⟨e1, z⟩)]
        exact o
      · rw [if_neg e1]
        exact o
  · show _ = (J0 6 ((qM1 T k (qMm T k)).2.2.2.2.2 b)).toInt32
    rw [h18, i11]
    exact b5 b hb (w18_old hb2 (fun z => by omega))
  · have hp : 0 < (qM1 T k (qMm T k)).1 6 := hp
    show _ = (J0 6 ((qM1 T k (qMm T k)).1 14)).toInt32
    rw [h12, i6]
    by_cases e : T.1 k = 10
    · rw [if_pos e, if_pos e]
    · rw [if_neg e, if_neg e]
      rw [i1 6 (by omega), if_neg (by omega)] at hp
      exact b6 hp
  · rw [qJv_s (fun z => by omega)]
    exact a5 j hj
section CMean2
variable {RO : zRo} {d : Nat} {P : zP} {I : zI} {J : zJ} {D : zD} {bc bs : Nat} {T : qTk} {k : Nat} {J0 : zJ}
theorem c_63 (hRO : zROk RO) (hw : qTw T) (hcl : ∀ i, i < k → qEE T i = 0) (hk : k + 1 < T.2.2.2) (c : 4 ≤ T.1 k ∧ T.1 k ≤ 10) (hx : qCx T J0 k I J) (H : qCk T J0 k P D I J) : zz RO (d + 2) 63 [.ref 19, .int (zi (k : Int)), .int (zi (T.1 k : Int))] I J D bc bs P := by
  have hN9 := hw.2.1
  obtain ⟨N, hN⟩ : ∃ N, N = (qMm T k).1 (T.1 k - 4) := ⟨_, rfl⟩
  have mx : N ≤ 12 := by
    rw [hN]
    exact qPg_mx hcl (T.1 k - 4) (by omega)
  have e13 : I 13 (T.1 k - 4) = zi (N : Int) := by
    rw [hN]
    exact hx.2.1 _ (by omega)
  have e4 : zi (T.1 k : Int) - 4 = zi ((T.1 k - 4 : Nat) : Int) := by
    rw [show (4 : Int32) = zi 4 from rfl, zi_sub]
    congr 1
    omega
  have ml := qMost_le (T.1 k - 4)
  have v95 : ∀ S : zI, S 3 4 = I 3 4 → zv_95 S J (zi (k : Int)) = J0 6 k := fun S hS => by
    have t : zv_95 S J (zi (k : Int)) = zv_95 I J (zi (k : Int)) := by
      unfold zv_95
      rw [hS]
    rw [t, n_95 hw hx.1 (by omega), hx.2.2.2.2 k (by omega), qJv_n (fun z => by omega)]
  have eE : qEE T k = if qMost (T.1 k - 4) ≤ N then 4 else 0 := by
    rw [hN]
    unfold qEE qE1
    rw [if_pos c]
  refine w_63 hRO ?_
  rw [e4, zi_clk (by omega), zM0_at c, e13]
  refine ⟨fun q => absurd q (by rw [zq_l (l := 0) (n := 0) rfl (by omega) (by omega)]; omega), fun _ => ⟨fun q => absurd q (by rw [zq_p (l := 7) (n := 7) rfl (by omega) (by omega)]; omega), fun _ => ⟨fun q => ?_, fun q => ?_⟩⟩⟩
  · have q : N < qMost (T.1 k - 4) := (zq_l (n := qMost (T.1 k - 4)) rfl (by omega) (by omega)).mp q
    rw [if_neg (by omega)] at eE
    have H := H.1 eE
    refine ⟨fun q10 => ⟨fun q6 => ?_, fun q6 => ?_⟩, fun q10 => ?_⟩
    · have c10 : ¬ T.1 k = 10 := fun z => q10 ((zq_e (l := 10) (n := 10) rfl (by omega) (by omega)).mpr z)
      have c6 : ¬ T.1 k = 6 := fun z => q6 ((zq_e (l := 6) (n := 6) rfl (by omega) (by omega)).mpr z)
      generalize hS : zu (zu (zu (zu (zu I 19 4 (zi (T.1 k : Int))) 19 5 (zi (N : Int))) 13 (T.1 k - 4) (zi (N : Int) + 1)) 19 6 0) 19 7 0 = S
      have s4 : S 19 4 = zi (T.1 k : Int) := by rw [← hS, zu_n _ _ (by omega), zu_n _ _ (by omega), zu_n _ _ (by omega), zu_n _ _ (by omega), zu_s]
      have s5 : S 19 5 = zi (N : Int) := by rw [← hS, zu_n _ _ (by omega), zu_n _ _ (by omega), zu_n _ _ (by omega), zu_s]
      have s6 : S 19 6 = 0 := by rw [← hS, zu_n _ _ (by omega), zu_s]
      have s7 : S 19 7 = 0 := by rw [← hS, zu_s]
      have s3 : S 19 3 = I 19 3 := by rw [← hS, zu_n _ _ (by omega), zu_n _ _ (by omega), zu_n _ _ (by omega), zu_n _ _ (by omega), zu_n _ _ (by omega)]
      have sf : zfr [13, 19] I S := by
        rw [← hS]
        exact zfr_zu (zfr_zu (zfr_zu (zfr_zu (zfr_zu (zfr_refl I) 4 _ (by simp)) 5 _ (by simp)) _ _ (by simp)) 6 _ (by simp)) 7 _ (by simp)
      have s13 : ∀ x, x ≤ 6 → S 13 x = if x = T.1 k - 4 then zi (((qMm T k).1 x + 1 : Nat) : Int) else I 13 x := fun x hx => by
        rw [← hS, zu_n _ _ (by omega), zu_n _ _ (by omega)]
        by_cases e : x = T.1 k - 4
        · rw [if_pos e, e, zu_s, zi_succ, hN]
        · rw [if_neg e, zu_n _ _ (fun z => e z.2), zu_n _ _ (by omega), zu_n _ _ (by omega)]
      have fin : ∀ S', zfr [17] S S' → (∀ b, S' 17 b = if (7 ≤ T.1 k ∧ T.1 k ≤ 9) ∧ b = qBd (T.1 k) ((qMm T k).1 (T.1 k - 4)) then -1 else I 17 b) → P (.inl none) S' J D := fun S' f h17 => by
        have e : ∀ o, ¬ o = 17 → S' o = S o := fun o ho => f o (by simp only [List.mem_cons, List.not_mem_nil, or_false]; exact ho)
        have e2 : ∀ o, ¬ o = 17 → ¬ o = 13 → ¬ o = 19 → S' o = I o := fun o h1 h2 h3 => (e o h1).trans (sf o (by simp only [List.mem_cons, List.not_mem_nil, or_false]; omega))
        have fr : zfr cmL I S' := zfr_trans (zfr_sub sf (by simp)) (zfr_sub f (by simp))
        refine H S' J fr (zfr_refl _) (by rw [e2 12 (by decide) (by decide) (by decide)]) (by rw [e 19 (by decide)]; exact s3) ?_
        refine qCx_it c hx fr (fun x hx => by rw [e 13 (by decide)]; exact s13 x hx) (by rw [e 19 (by decide)]; exact s4) (by rw [e 19 (by decide), ← hN]; exact s5) (by rw [e 19 (by decide)]; exact s6) (by rw [e 19 (by decide), if_neg c10]; exact s7) (e2 14 (by decide) (by decide) (by decide)) (e2 16 (by decide) (by decide) (by decide)) (e2 18 (by decide) (by decide) (by decide)) (fun i => by rw [if_neg (fun z => c6 z.1), e2 15 (by decide) (by decide) (by decide)]) h17 (by rw [if_neg c10, e2 12 (by decide) (by decide) (by decide)])
      have v64 : zv_64 S J = if 7 ≤ T.1 k ∧ T.1 k ≤ 9 then zi (qBd (T.1 k) N : Int) else -1 := by
        unfold zv_64
        rw [s4, s5]
        by_cases c7 : T.1 k = 7
        · rw [if_pos ((zq_e (l := 7) (n := 7) rfl (by omega) (by omega)).mpr c7), if_pos (by omega), c7]
          rfl
        · rw [if_neg (fun z => c7 ((zq_e (l := 7) (n := 7) rfl (by omega) (by omega)).mp z))]
          by_cases c8 : T.1 k = 8
          · rw [if_pos ((zq_e (l := 8) (n := 8) rfl (by omega) (by omega)).mpr c8), if_pos (by omega), c8, show (12 : Int32) = zi 12 from rfl, zi_add]
            rfl
          · rw [if_neg (fun z => c8 ((zq_e (l := 8) (n := 8) rfl (by omega) (by omega)).mp z))]
            by_cases c9 : T.1 k = 9
            · rw [if_pos ((zq_e (l := 9) (n := 9) rfl (by omega) (by omega)).mpr c9), if_pos (by omega), c9, show (20 : Int32) = zi 20 from rfl, zi_add]
              rfl
            · rw [if_neg (fun z => c9 ((zq_e (l := 9) (n := 9) rfl (by omega) (by omega)).mp z)), if_neg (by omega)]
      rw [v64]
      by_cases cb : 7 ≤ T.1 k ∧ T.1 k ≤ 9
      · rw [if_pos cb]
        have bl : qBd (T.1 k) N < 28 := by
          have : T.1 k = 7 ∨ T.1 k = 8 ∨ T.1 k = 9 := by omega
          rcases this with z | z | z <;> rw [z] at q ⊢
          · have q : N < 12 := q
            show N < 28
            omega
          · have q : N < 8 := q
            show 12 + N < 28
            omega
          · have q : N < 8 := q
            show 20 + N < 28
            omega
        refine ⟨fun z => absurd z (by rw [zq_l (l := 0) (n := 0) rfl (by omega) (by omega)]; omega), fun _ => ⟨fun z => absurd z (by rw [zq_p (l := 28) (n := 28) rfl (by omega) (by omega)]; omega), fun _ => ?_⟩⟩
        rw [zi_clk (by omega)]
        refine fin _ (zfr_zu (zfr_refl S) _ _ (by simp)) (fun b => ?_)
        by_cases e : b = qBd (T.1 k) N
        · rw [if_pos ⟨cb, by rw [← hN]; exact e⟩, e, zu_s]
        · rw [if_neg (fun z => e (by rw [hN]; exact z.2)), zu_n _ _ (fun z => e z.2), sf 17 (by decide)]
      · rw [if_neg cb]
        refine ⟨fun _ => fin S (zfr_refl S) (fun b => by rw [if_neg (fun z => cb z.1), sf 17 (by decide)]), fun z => absurd (by decide) z⟩
    · have c6 : T.1 k = 6 := (zq_e (l := 6) (n := 6) rfl (by omega) (by omega)).mp (Decidable.not_not.mp q6)
      have q6 : N < 6 := by
        rw [c6] at q
        exact q
      refine ⟨fun z => absurd z (by rw [zq_p (l := 6) (n := 6) rfl (by omega) (by omega)]; omega), fun _ => ⟨zi_in (by omega) (by omega) (by omega), ?_⟩⟩
      rw [zi_clk (by omega)]
      have fr : zfr cmL I (zu (zu (zu (zu (zu (zu I 19 4 (zi (T.1 k : Int))) 19 5 (zi (N : Int))) 13 (T.1 k - 4) (zi (N : Int) + 1)) 19 6 0) 19 7 0) 15 N 0) := zfr_zu (zfr_zu (zfr_zu (zfr_zu (zfr_zu (zfr_zu (zfr_refl I) 4 _ (by simp)) 5 _ (by simp)) _ _ (by simp)) 6 _ (by simp)) 7 _ (by simp)) _ _ (by simp)
      refine H _ J fr (zfr_refl _) ?_ ?_ ?_
      · rw [zu_row _ _ (by decide), zu_row _ _ (by decide), zu_row _ _ (by decide), zu_row _ _ (by decide), zu_row _ _ (by decide), zu_row _ _ (by decide)]
      · rw [zu_row _ _ (by decide), zu_n _ _ (by omega), zu_n _ _ (by omega), zu_n _ _ (by omega), zu_n _ _ (by omega), zu_n _ _ (by omega)]
      · refine qCx_it c hx fr (fun x hx => ?_) ?_ ?_ ?_ ?_ ?_ ?_ ?_ (fun i => ?_) (fun b => ?_) ?_
        · rw [zu_row _ _ (by decide), zu_n _ _ (by omega), zu_n _ _ (by omega)]
          by_cases e : x = T.1 k - 4
          · rw [if_pos e, e, zu_s, zi_succ, hN]
          · rw [if_neg e, zu_n _ _ (fun z => e z.2), zu_n _ _ (by omega), zu_n _ _ (by omega)]
        · rw [zu_row _ _ (by decide), zu_n _ _ (by omega), zu_n _ _ (by omega), zu_n _ _ (by omega), zu_n _ _ (by omega), zu_s]
        · rw [zu_row _ _ (by decide), zu_n _ _ (by omega), zu_n _ _ (by omega), zu_n _ _ (by omega), zu_s, hN]
        · rw [zu_row _ _ (by decide), zu_n _ _ (by omega), zu_s]
        · rw [zu_row _ _ (by decide), zu_s, if_neg (by omega)]
          rfl
        · rw [zu_row _ _ (by decide), zu_row _ _ (by decide), zu_row _ _ (by decide), zu_row _ _ (by decide), zu_row _ _ (by decide), zu_row _ _ (by decide)]
        · rw [zu_row _ _ (by decide), zu_row _ _ (by decide), zu_row _ _ (by decide), zu_row _ _ (by decide), zu_row _ _ (by decide), zu_row _ _ (by decide)]
        · rw [zu_row _ _ (by decide), zu_row _ _ (by decide), zu_row _ _ (by decide), zu_row _ _ (by decide), zu_row _ _ (by decide), zu_row _ _ (by decide)]
        · have eN : (qMm T k).1 2 = N := by rw [hN, c6]
          rw [eN]
          by_cases e : i = N
          · rw [if_pos ⟨c6, e⟩, e, zu_s]
          · rw [if_neg (fun z => e z.2), zu_n _ _ (fun z => e z.2), zu_row _ _ (by decide), zu_row _ _ (by decide), zu_row _ _ (by decide), zu_row _ _ (by decide), zu_row _ _ (by decide)]
        · rw [if_neg (by omega), zu_row _ _ (by decide), zu_row _ _ (by decide), zu_row _ _ (by decide), zu_row _ _ (by decide), zu_row _ _ (by decide), zu_row _ _ (by decide)]
        · rw [if_neg (by omega), zu_row _ _ (by decide), zu_row _ _ (by decide), zu_row _ _ (by decide), zu_row _ _ (by decide), zu_row _ _ (by decide), zu_row _ _ (by decide)]
    · have c10 : T.1 k = 10 := (zq_e (l := 10) (n := 10) rfl (by omega) (by omega)).mp (Decidable.not_not.mp q10)
      rw [v95 _ (by rw [zu_row _ _ (by decide), zu_row _ _ (by decide), zu_row _ _ (by decide), zu_row _ _ (by decide), zu_row _ _ (by decide)])]
      have fr : zfr cmL I (zu (zu (zu (zu (zu (zu I 19 4 (zi (T.1 k : Int))) 19 5 (zi (N : Int))) 13 (T.1 k - 4) (zi (N : Int) + 1)) 19 6 0) 19 7 1) 12 6 (J0 6 k).toInt32) := zfr_zu (zfr_zu (zfr_zu (zfr_zu (zfr_zu (zfr_zu (zfr_refl I) 4 _ (by simp)) 5 _ (by simp)) _ _ (by simp)) 6 _ (by simp)) 7 _ (by simp)) _ _ (by simp)
      refine H _ J fr (zfr_refl _) ?_ ?_ ?_
      · rw [zu_n _ _ (by omega), zu_row _ _ (by decide), zu_row _ _ (by decide), zu_row _ _ (by decide), zu_row _ _ (by decide), zu_row _ _ (by decide)]
      · rw [zu_row _ _ (by decide), zu_n _ _ (by omega), zu_n _ _ (by omega), zu_n _ _ (by omega), zu_n _ _ (by omega), zu_n _ _ (by omega)]
      · refine qCx_it c hx fr (fun x hx => ?_) ?_ ?_ ?_ ?_ ?_ ?_ ?_ (fun i => ?_) (fun b => ?_) ?_
        · rw [zu_row _ _ (by decide), zu_n _ _ (by omega), zu_n _ _ (by omega)]
          by_cases e : x = T.1 k - 4
          · rw [if_pos e, e, zu_s, zi_succ, hN]
          · rw [if_neg e, zu_n _ _ (fun z => e z.2), zu_n _ _ (by omega), zu_n _ _ (by omega)]
        · rw [zu_row _ _ (by decide), zu_n _ _ (by omega), zu_n _ _ (by omega), zu_n _ _ (by omega), zu_n _ _ (by omega), zu_s]
        · rw [zu_row _ _ (by decide), zu_n _ _ (by omega), zu_n _ _ (by omega), zu_n _ _ (by omega), zu_s, hN]
        · rw [zu_row _ _ (by decide), zu_n _ _ (by omega), zu_s]
        · rw [zu_row _ _ (by decide), zu_s, if_pos c10]
          rfl
        · rw [zu_row _ _ (by decide), zu_row _ _ (by decide), zu_row _ _ (by decide), zu_row _ _ (by decide), zu_row _ _ (by decide), zu_row _ _ (by decide)]
        · rw [zu_row _ _ (by decide), zu_row _ _ (by decide), zu_row _ _ (by decide), zu_row _ _ (by decide), zu_row _ _ (by decide), zu_row _ _ (by decide)]
        · rw [zu_row _ _ (by decide), zu_row _ _ (by decide), zu_row _ _ (by decide), zu_row _ _ (by decide), zu_row _ _ (by decide), zu_row _ _ (by decide)]
        · rw [if_neg (by omega), zu_row _ _ (by decide), zu_row _ _ (by decide), zu_row _ _ (by decide), zu_row _ _ (by decide), zu_row _ _ (by decide), zu_row _ _ (by decide)]
        · rw [if_neg (by omega), zu_row _ _ (by decide), zu_row _ _ (by decide), zu_row _ _ (by decide), zu_row _ _ (by decide), zu_row _ _ (by decide), zu_row _ _ (by decide)]
        · rw [if_pos c10, zu_s]
  · have q : ¬ N < qMost (T.1 k - 4) := fun z => q ((zq_l (n := qMost (T.1 k - 4)) rfl (by omega) (by omega)).mpr z)
    rw [if_pos (by omega)] at eE
    refine w_61 ?_
    refine H.2 (by omega) _ J (zfr_zu (zfr_zu (zfr_zu (zfr_zu (zfr_refl I) 4 _ (by simp)) 5 _ (by simp)) 3 _ (by simp)) 2 _ (by simp)) (zfr_refl _) ?_ ?_ ?_
    · rw [zu_row _ _ (by decide), zu_row _ _ (by decide), zu_row _ _ (by decide), zu_row _ _ (by decide)]
    · rw [zu_n _ _ (by omega), zu_s, eE]
      rfl
    · rw [zu_s]
end CMean2

/-! ===== the class's program, out of the tokens ===== -/
def qPb (T : qTk) (m : qMt) (I : zI) : zPg := (fun b => (m.2.2.2.2.1 b).map (qXo T), fun b => qXl T (m.2.2.2.2.2 b), qXo T (m.1 14), fun k => I 14 k, fun k => I 15 k, m.2.2.2.1, m.1)
theorem zBd_c {p : zPg} {b : Nat} (h : zBd p b) : ∃ c i, (7 ≤ c ∧ c ≤ 9) ∧ i < gPc p (c - 4) ∧ b = qBd c i ∧ b < 28 := by
  rcases h with ⟨h1, h2⟩ | ⟨h1, h2, h3⟩ | ⟨h1, h2, h3⟩
  · exact ⟨7, b, by omega, h2, rfl, by omega⟩
  · refine ⟨8, b - 12, by omega, h3, ?_, by omega⟩
    show b = 12 + (b - 12)
    omega
  · refine ⟨9, b - 20, by omega, h3, ?_, h2⟩
    show b = 20 + (b - 20)
    omega
/-- pieces of code end ahead of the last token -/
theorem ys_end {T : qTk} (hw : qTw T) {k k2 : Nat} (h : tks T.1 ys k k2) (hk : k + 1 ≤ T.2.2.2) : k2 + 1 ≤ T.2.2.2 := by
  by_cases z : k = k2
  · omega
  · have h1 := h.1
    have := ys_not (h.2 (k2 - 1) (by omega) (by omega))
    have l := qTw_lt hw (k := k2 - 1) (by omega)
    omega
theorem qPc_x {T : qTk} (hw : qTw T) {t k2 : Nat} {o : List zOp} (ht : T.1 t = 10 ∨ T.1 t = 13) (h : pEx T.1 (t + 1) = pO k2 o) : qPc T t k2 := by
  have a := tks_ex h
  have l := qTw_lt hw (k := t) (by omega)
  exact ⟨by omega, a.1.1, ys_end hw a.1 (by omega), a.1.2⟩
theorem qPc_s {T : qTk} (hw : qTw T) {t k2 : Nat} {l : List (zSt 4)} (ht : T.1 t = 14) (h : pS T.1 500 4 (t + 1) = pO k2 l) : qPc T t k2 := by
  have a := pS_ok (f := 500) h
  have l := qTw_lt hw (k := t) (by omega)
  exact ⟨by omega, a.1.1, ys_end hw a.1 (by omega), a.1.2⟩
section CProg
variable {T : qTk}
theorem qPb_ok {I : zI} (hw : qTw T) (hv : qTv T) (hcl : qCln T) (hg : gAll T (T.2.2.2 - 1)) (ho : gOrd T (T.2.2.2 - 1)) (h2 : ¬ ((qMm T (T.2.2.2 - 1)).1 2 = 0 ∨ (qMm T (T.2.2.2 - 1)).1 6 = 0)) (h14 : ∀ x, x < 36 → w14 T (T.2.2.2 - 1) x → I 14 x = zi ((qMm T (T.2.2.2 - 1)).2.1 x)) : zPok (qPb T (qMm T (T.2.2.2 - 1)) I) := by
  have hN := hw.1
  have hN9 := hw.2.1
  obtain ⟨g1, g2, g3, g4, g5⟩ := hg
  have pc : ∀ x, x ≤ 6 → gPc (qPb T (qMm T (T.2.2.2 - 1)) I) x = qCn T.1 (x + 4) (T.2.2.2 - 1) := fun x hx => qMm_cn hx _
  have mx : ∀ x, x ≤ 6 → (qMm T (T.2.2.2 - 1)).1 x ≤ qMost x := fun x hx => by
    rw [qMm_cn hx]
    exact qCl_mx hcl hx
  have hpl := qPl_18 hw hcl
  have cl9 : ∀ {k2 : Nat}, k2 + 1 ≤ T.2.2.2 → ∀ i, i < k2 → qEE T i = 0 := fun h i hi => hcl i (by omega)
  have p0 : gPc (qPb T (qMm T (T.2.2.2 - 1)) I) 0 = qCn T.1 4 (T.2.2.2 - 1) := pc 0 (by omega)
  have p1 : gPc (qPb T (qMm T (T.2.2.2 - 1)) I) 1 = qCn T.1 5 (T.2.2.2 - 1) := pc 1 (by omega)
  have ex : ∀ t k2 o, (T.1 t = 13 ∧ 7 ≤ (qMm T t).1 10 ∧ (qMm T t).1 10 ≤ 9) ∨ T.1 t = 10 → pEx T.1 (t + 1) = pO k2 o → zwE (qXo T t) ∧ zdl (qXo T t) ∧ zvO (gPc (qPb T (qMm T (T.2.2.2 - 1)) I) 0) (gPc (qPb T (qMm T (T.2.2.2 - 1)) I) 1) (qXo T t) := fun t k2 o hc h => by
    have q := qPc_x hw (t := t) (by omega) h
    rw [qXo_of h, p0, p1]
    exact ⟨pEx_wf hpl h, pEx_dl hc h (cl9 q.2.2.1), pEx_vO hpl (qPc_ok hw hcl q) h (Nat.le_refl _) (Nat.le_refl _)⟩
  refine ⟨⟨mx 0 (by omega), mx 1 (by omega), ?_, mx 2 (by omega), mx 3 (by omega), mx 4 (by omega), mx 5 (by omega), ?_⟩, fun b hb o hw9 => ?_, fun b hb s hs => ?_, ?_, fun t ht hbv => ?_, fun k hk => ?_⟩
  · show 1 ≤ (qMm T (T.2.2.2 - 1)).1 2
    omega
  · have m6 : (qMm T (T.2.2.2 - 1)).1 6 ≤ 1 := mx 6 (by omega)
    show (qMm T (T.2.2.2 - 1)).1 6 = 1
    omega
  · have hw9 : ((qMm T (T.2.2.2 - 1)).2.2.2.2.1 b).map (qXo T) = some o := hw9
    cases q : (qMm T (T.2.2.2 - 1)).2.2.2.2.1 b with
    | none => rw [q] at hw9; cases hw9
    | some t =>
      rw [q] at hw9
      have hw9 : some (qXo T t) = some o := hw9
      cases hw9
      obtain ⟨t1, t2⟩ := qMm_w13 _ _ _ q
      obtain ⟨k2, o, h⟩ := (g2 t t2).1 (Or.inr t1)
      have k9 := g1 t t2 (Or.inl t1)
      exact ex t k2 o (Or.inl ⟨t1, k9⟩) h
  · have hs : s ∈ qXl T ((qMm T (T.2.2.2 - 1)).2.2.2.2.2 b) := hs
    obtain ⟨c, i, hc, hi, rfl, hb28⟩ := zBd_c hb
    obtain ⟨t1, t2⟩ := qMm_w14 _ _ (g5 c hc i hi).2
    obtain ⟨k2, l, h⟩ := (g2 _ t2).2 t1
    have q := qPc_s hw t1 h
    rw [qXl_of h] at hs
    obtain ⟨y, hy, rfl⟩ := List.mem_map.mp hs
    have sa := pS_al 500 h (Nat.le_refl _) (Nat.le_refl _) y hy
    rw [p0, p1]
    exact ⟨qSa_wf hpl 4 y sa, qSa_vS hpl (qPc_ok hw hcl q) 4 y sa⟩
  · obtain ⟨t1, t2⟩ := qMm_w10 (T := T) (T.2.2.2 - 1) (by omega)
    obtain ⟨k2, o, h⟩ := (g2 _ t2).1 (Or.inl t1)
    exact ex _ k2 o (Or.inr t1) h
  · have key : ∀ c i, c = 4 ∨ c = 5 → i < (qMm T (T.2.2.2 - 1)).1 (c - 4) → qTg c i = t → I 14 (3 * t) ≤ I 14 (3 * t + 1) := fun c i hc hi e => by
      have a0 := g3 c hc i hi 0 (by omega)
      have a1 := g3 c hc i hi 1 (by omega)
      have o := ho c hc i hi
      have b0 := qMm_b hv (T.2.2.2 - 1) (3 * qTg c i)
      have b1 := qMm_b hv (T.2.2.2 - 1) (3 * qTg c i + 1)
      have e0 := h14 (3 * qTg c i + 0) (by omega) a0
      have e1 := h14 (3 * qTg c i + 1) (by omega) a1
      rw [Nat.add_zero] at e0
      rw [← e, e0, e1, zi_le (by omega) (by omega)]
      exact o
    show I 14 (3 * t) ≤ I 14 (3 * t + 1)
    obtain ⟨v1, v2⟩ := hbv
    by_cases z : t < 6
    · have := v1 (by omega)
      rw [p0] at this
      exact key 4 t (Or.inl rfl) (by
        show t < (qMm T (T.2.2.2 - 1)).1 0
        rw [qMm_cn (by omega)]
        show t < qCn T.1 4 (T.2.2.2 - 1)
        omega) rfl
    · have := v2 (by omega)
      rw [p1] at this
      refine key 5 (t - 6) (Or.inr rfl) ?_ ?_
      · show t - 6 < (qMm T (T.2.2.2 - 1)).1 1
        rw [qMm_cn (by omega)]
        show t - 6 < qCn T.1 5 (T.2.2.2 - 1)
        omega
      · show 6 + (t - 6) = t
        omega
  · have w := qMm_rp (T := T) (T.2.2.2 - 1) (fun i hi => hcl i (by omega)) k (g4 k hk)
    have l := qCn_end hw (c := 6) (by omega) T.2.2.2
    rw [pc 2 (by omega)]
    exact Nat.lt_of_lt_of_le w l
/-- what stands in code: operations, tokens -/
theorem pEx_mem {hi k k2 : Nat} {o : List zOp} (h9 : hi ≤ T.2.2.2) (h2 : k2 ≤ hi) (h : pEx T.1 k = pO k2 o) : ∀ q ∈ o, q.1 ≤ 1000 ∧ (q.1 = 2 ∨ q.1 = 3 ∨ q.1 = 16 ∨ q.1 = 17 → ∃ j : Nat, j < T.2.2.2 ∧ q.2 = zi (j : Int)) := fun q hq => by
  have a := (pE_ok h (by omega)).1
  rcases a.2.2.2 q hq with ⟨j, j1, j2, e, j3⟩ | ⟨j, j1, j2, e⟩
  · rw [e]
    exact ⟨by show T.1 j ≤ 1000; omega, fun _ => ⟨j, by omega, rfl⟩⟩
  · rcases e with ⟨e, z⟩ | ⟨e, z⟩
    · rw [e]
      unfold zbnK at z
      exact ⟨by show T.1 j ≤ 1000; omega, fun y => by
        have y : T.1 j = 2 ∨ T.1 j = 3 ∨ T.1 j = 16 ∨ T.1 j = 17 := y
        omega⟩
    · rw [e]
      exact ⟨by show 52 ≤ 1000; omega, fun y => by
        have y : (52 : Nat) = 2 ∨ (52 : Nat) = 3 ∨ (52 : Nat) = 16 ∨ (52 : Nat) = 17 := y
        omega⟩
theorem zkc_mem {lo hi : Nat} (h9 : hi ≤ T.2.2.2) : ∀ (n : Nat) (x : zSt n), qSa (qB0 T.1 lo hi) (qO0 T.1 lo hi) n x → ∀ a, ∀ q ∈ zkc n x a, q.1 ≤ 1000 ∧ (q.1 = 2 ∨ q.1 = 3 ∨ q.1 = 16 ∨ q.1 = 17 → ∃ j : Nat, j < T.2.2.2 ∧ q.2 = zi (j : Int)) := by
  have hO : ∀ o, qO0 T.1 lo hi o → ∀ q ∈ o, q.1 ≤ 1000 ∧ (q.1 = 2 ∨ q.1 = 3 ∨ q.1 = 16 ∨ q.1 = 17 → ∃ j : Nat, j < T.2.2.2 ∧ q.2 = zi (j : Int)) := fun o ⟨k, k2, h1, h2, h⟩ => pEx_mem h9 h2 h
  have hB : ∀ b, qB0 T.1 lo hi b → ∀ q ∈ b.2.2 ++ [(b.1, zi (b.2.1 : Int))], q.1 ≤ 1000 ∧ (q.1 = 2 ∨ q.1 = 3 ∨ q.1 = 16 ∨ q.1 = 17 → ∃ j : Nat, j < T.2.2.2 ∧ q.2 = zi (j : Int)) := fun b h q hq => by
    rcases h with ⟨h1, ⟨h4, h5, h6⟩, h3⟩ | ⟨h1, h2, h3⟩
    · rcases List.mem_append.mp hq with z | z
      · exact hO _ h3 q z
      · rw [List.mem_singleton.mp z]
        exact ⟨by show b.1 ≤ 1000; omega, fun _ => ⟨b.2.1, by omega, rfl⟩⟩
    · rw [h3] at hq
      rw [List.mem_singleton.mp hq]
      exact ⟨by show b.1 ≤ 1000; omega, fun y => by
        have y : b.1 = 2 ∨ b.1 = 3 ∨ b.1 = 16 ∨ b.1 = 17 := y
        omega⟩
  have one : ∀ (c : Nat) (v : Int32) (q : zOp), ¬ (c = 2 ∨ c = 3 ∨ c = 16 ∨ c = 17) → c ≤ 1000 → q ∈ [(c, v)] → q.1 ≤ 1000 ∧ (q.1 = 2 ∨ q.1 = 3 ∨ q.1 = 16 ∨ q.1 = 17 → ∃ j : Nat, j < T.2.2.2 ∧ q.2 = zi (j : Int)) := fun c v q h1 h2 hq => by
    rw [List.mem_singleton.mp hq]
    exact ⟨h2, fun y => absurd y h1⟩
  intro n
  induction n with
  | zero =>
    intro x h a
    exact hB x h
  | succ n ih =>
    intro x h
    have lst : ∀ t : List (zSt n), (∀ s ∈ t, qSa (qB0 T.1 lo hi) (qO0 T.1 lo hi) n s) → ∀ a, ∀ q ∈ zcat (zkc n) t a, q.1 ≤ 1000 ∧ (q.1 = 2 ∨ q.1 = 3 ∨ q.1 = 16 ∨ q.1 = 17 → ∃ j : Nat, j < T.2.2.2 ∧ q.2 = zi (j : Int)) := by
      intro t
      induction t with
      | nil =>
        intro _ a q hq
        cases hq
      | cons s t iht =>
        intro ht a q hq
        rw [zcat_cons] at hq
        rcases List.mem_append.mp hq with z | z
        · exact ih s (ht s List.mem_cons_self) a q z
        · exact iht (fun y hy => ht y (List.mem_cons_of_mem _ hy)) _ q z
    match x, h with
    | .inl b, h => exact fun a => hB b h
    | .inr (.inl (o, t, none)), h =>
      intro a q hq
      have hq : q ∈ o ++ [(18, _)] ++ zcat (zkc n) t (a + o.length + 1) := hq
      rcases List.mem_append.mp hq with z | z
      · rcases List.mem_append.mp z with z | z
        · exact hO o h.1 q z
        · exact one _ _ q (by decide) (by decide) z
      · exact lst t h.2 _ q z
    | .inr (.inl (o, t, some e)), h =>
      intro a q hq
      have hq : q ∈ o ++ [(18, _)] ++ zcat (zkc n) t (a + o.length + 1) ++ [(20, _)] ++ zcat (zkc n) e _ := hq
      rcases List.mem_append.mp hq with z | z
      · rcases List.mem_append.mp z with z | z
        · rcases List.mem_append.mp z with z | z
          · rcases List.mem_append.mp z with z | z
            · exact hO o h.1 q z
            · exact one _ _ q (by decide) (by decide) z
          · exact lst t h.2.1 _ q z
        · exact one _ _ q (by decide) (by decide) z
      · exact lst e h.2.2 _ q z
    | .inr (.inr b), h =>
      intro a q hq
      have hq : q ∈ [(24, 0)] ++ zcat (zkc n) b (a + 1) ++ [(53, _)] := hq
      rcases List.mem_append.mp hq with z | z
      · rcases List.mem_append.mp z with z | z
        · exact one _ _ q (by decide) (by decide) z
        · exact lst b h _ q z
      · exact one _ _ q (by decide) (by decide) z
theorem zcat_mem {lo hi : Nat} (h9 : hi ≤ T.2.2.2) : ∀ (t : List (zSt 4)), (∀ s ∈ t, qSa (qB0 T.1 lo hi) (qO0 T.1 lo hi) 4 s) → ∀ a, ∀ q ∈ zcat (zkc 4) t a, q.1 ≤ 1000 ∧ (q.1 = 2 ∨ q.1 = 3 ∨ q.1 = 16 ∨ q.1 = 17 → ∃ j : Nat, j < T.2.2.2 ∧ q.2 = zi (j : Int))
  | [], _, a, q, hq => by cases hq
  | s :: t, ht, a, q, hq => by
    rw [zcat_cons] at hq
    rcases List.mem_append.mp hq with z | z
    · exact zkc_mem h9 4 s (ht s List.mem_cons_self) a q z
    · exact zcat_mem h9 t (fun y hy => ht y (List.mem_cons_of_mem _ hy)) _ q z
/-- the class's program stands, once its code is linked -/
theorem qPb_C {If Im Il : zI} {J0 Jm : zJ} {c : Nat} (hw : qTw T) (hcl : qCln T) (hg : gAll T (T.2.2.2 - 1)) (h2 : ¬ ((qMm T (T.2.2.2 - 1)).1 2 = 0 ∨ (qMm T (T.2.2.2 - 1)).1 6 = 0)) (hJ0 : ∀ t, t < T.2.2.2 → ¬ ent (T.1 t) → J0 6 t = T.2.2.1 t) (hE : ∀ t, t < T.2.2.2 - 1 → qEnt T t If J0) (h82 : If 8 2 = zi (c : Int)) (hc : c ≤ 450) (fm : zfr cmL If Im) (hx : qCx T J0 (T.2.2.2 - 1) Im Jm) (fl : zfr [10] Im Il) (hl : ∀ i, i < c → Il 10 i = qLc Im Jm i) : zCp (qPb T (qMm T (T.2.2.2 - 1)) Il) Il := by
  have hN := hw.1
  have hN9 := hw.2.1
  obtain ⟨g1, g2, g3, g4, g5⟩ := hg
  obtain ⟨a1, a2, a3, ⟨b1, b2, b3, b4, b5, b6⟩, a5⟩ := hx
  have e : ∀ o, ¬ o = 10 → Il o = Im o := fun o ho => fl o (by simp only [List.mem_cons, List.not_mem_nil, or_false]; exact ho)
  have m82 : Im 8 2 = zi (c : Int) := by rw [fm 8 (by decide)]; exact h82
  have lnk : ∀ {a : Nat} {L : List zOp}, zcR If a L → (∀ q ∈ L, q.1 ≤ 1000 ∧ (q.1 = 2 ∨ q.1 = 3 ∨ q.1 = 16 ∨ q.1 = 17 → ∃ j : Nat, j < T.2.2.2 ∧ q.2 = zi (j : Int))) → zcR Il a (L.map (qLnk Jm)) := fun {a L} h hL => by
    have h1 : zcR Im a L := by
      unfold zcR at h ⊢
      rw [fm 8 (by decide), fm 9 (by decide), fm 10 (by decide)]
      exact h
    exact zcR_lnk hw a1 h1 m82 hc fl hl hL
  have stp : ∀ q : zOp, q ∈ [((54 : Nat), (0 : Int32))] → q.1 ≤ 1000 ∧ (q.1 = 2 ∨ q.1 = 3 ∨ q.1 = 16 ∨ q.1 = 17 → ∃ j : Nat, j < T.2.2.2 ∧ q.2 = zi (j : Int)) := fun q hq => by
    rw [List.mem_singleton.mp hq]
    exact ⟨by decide, fun y => absurd y (by decide)⟩
  have s54 : [((54 : Nat), (0 : Int32))].map (qLnk Jm) = [(54, 0)] := by
    rw [List.map_cons, List.map_nil, qLnk_n (by decide)]
  have ex : ∀ t, t < T.2.2.2 - 1 → T.1 t = 10 ∨ T.1 t = 13 → ∃ a : Nat, (J0 6 t).toInt32 = zi (a : Int) ∧ zcR Il a (qXo T t ++ [(54, 0)]) := fun t ht h1 => by
    obtain ⟨k2, o, h⟩ := (g2 t ht).1 h1
    obtain ⟨a, q1, q2, q3⟩ := (hE t ht).1 h1 k2 o h
    have pc := qPc_x hw h1 h
    refine ⟨a, by rw [q2, Int32.toInt32_toInt64], ?_⟩
    have w := lnk q3 (fun q hq => (List.mem_append.mp hq).elim (fun z => pEx_mem (by have := pc.2.2.1; omega) (Nat.le_refl _) h q z) (stp q))
    rw [List.map_append, s54, pEx_lnk (qPc_J hw hcl pc hJ0 a5) h (Nat.le_refl _) (Nat.le_refl _)] at w
    rw [qXo_of h]
    exact w
  refine ⟨fun k hk => ?_, fun _ _ => rfl, fun _ _ => rfl, fun k hk hk2 => ?_, fun b hb => ?_, fun b hb => ?_, ?_⟩
  · rw [e 13 (by decide)]
    exact a2 k (by omega)
  · rw [e 16 (by decide)]
    exact b3 k hk (g4 k hk2)
  · obtain ⟨c9, i, hc9, hi, rfl, hb28⟩ := zBd_c hb
    have w := b4 _ hb28 (g5 c9 hc9 i hi).1
    rw [← e 17 (by decide)] at w
    unfold zCw
    show match ((qMm T (T.2.2.2 - 1)).2.2.2.2.1 (qBd c9 i)).map (qXo T) with
      | none => Il 17 (qBd c9 i) = zi (-1)
      | some o => ∃ a : Nat, Il 17 (qBd c9 i) = zi a ∧ zcR Il a (o ++ [(54, 0)])
    cases q : (qMm T (T.2.2.2 - 1)).2.2.2.2.1 (qBd c9 i) with
    | none =>
      rw [q] at w
      exact w
    | some t =>
      rw [q] at w
      obtain ⟨t1, t2⟩ := qMm_w13 _ _ _ q
      obtain ⟨a, q1, q2⟩ := ex t t2 (Or.inr t1)
      exact ⟨a, w.trans q1, q2⟩
  · obtain ⟨c9, i, hc9, hi, rfl, hb28⟩ := zBd_c hb
    have w18' := (g5 c9 hc9 i hi).2
    have w := b5 _ hb28 w18'
    rw [← e 18 (by decide)] at w
    obtain ⟨t1, t2⟩ := qMm_w14 _ _ w18'
    obtain ⟨k2, l, h⟩ := (g2 _ t2).2 t1
    obtain ⟨a, q1, q2, q3⟩ := (hE _ t2).2 t1 k2 l h
    have pc := qPc_s hw t1 h
    have sa := pS_al 500 h (Nat.le_refl _) (Nat.le_refl _)
    refine ⟨a, by rw [w, q2, Int32.toInt32_toInt64], ?_⟩
    have w2 := lnk q3 (fun q hq => (List.mem_append.mp hq).elim (fun z => zcat_mem (by have := pc.2.2.1; omega) l sa a q z) (stp q))
    rw [List.map_append, s54, zcat_lnk l (fun s hs a => zkc_lnk (qPc_J hw hcl pc hJ0 a5) 4 s (sa s hs) a)] at w2
    show zcR Il a (zcat (zkc 4) (qXl T ((qMm T (T.2.2.2 - 1)).2.2.2.2.2 (qBd c9 i))) a ++ [(54, 0)])
    rw [qXl_of h]
    exact w2
  · have p6 : 0 < (qMm T (T.2.2.2 - 1)).1 6 := by omega
    obtain ⟨t1, t2⟩ := qMm_w10 _ p6
    obtain ⟨a, q1, q2⟩ := ex _ t2 (Or.inl t1)
    refine ⟨a, ?_, q2⟩
    rw [e 12 (by decide), b6 p6]
    exact q1
end CProg

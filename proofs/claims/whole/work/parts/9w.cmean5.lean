/-! ===== the class's meaning: names ===== -/
theorem qIm_any {T : qTk} {p : Int64 × Nat × Nat → Bool} {a b : Nat} (h : a ≤ b) (ha : (qIm T a).any p = true) : (qIm T b).any p = true := by
  induction b with
  | zero =>
    have : a = 0 := by omega
    rw [this] at ha
    exact ha
  | succ b ih =>
    by_cases e : a = b + 1
    · rw [← e]
      exact ha
    · have i := ih (by omega)
      unfold qIm
      split
      · rw [List.any_append, i]
        rfl
      · exact i
section CMean4
variable {RO : zRo} {d : Nat} {P : zP} {I : zI} {J : zJ} {D : zD} {bc bs : Nat} {T : qTk} {k : Nat} {J0 : zJ}
/-- the value of the name of an item -/
theorem qJv_it (hJ0 : ∀ t, t < T.2.2.2 → ¬ ent (T.1 t) → J0 6 t = T.2.2.1 t) {c : Nat} (hc : 4 ≤ c ∧ c ≤ 9) (hnm : ∀ i, T.1 i = c → T.1 (i + 1) = 2) {e : Nat} (h1 : 1 ≤ e) (h9 : e < T.2.2.2) (he : T.1 (e - 1) = c) : qJv T J0 k e = T.2.2.1 e := by
  have h2 : T.1 e = 2 := by
    have := hnm (e - 1) he
    rw [show e - 1 + 1 = e by omega] at this
    exact this
  rw [qJv_n (fun z => z.2.2.1 (by omega)), hJ0 e h9 (by unfold ent; omega)]
theorem c_67_2 (hw : qTw T) (hJ0 : ∀ t, t < T.2.2.2 → ¬ ent (T.1 t) → J0 6 t = T.2.2.1 t) (hnm : ∀ c, 4 ≤ c ∧ c ≤ 9 → ∀ i, T.1 i = c → T.1 (i + 1) = 2) (hk : k + 1 < T.2.2.2) (c2 : T.1 k = 2) (ht : qTc T I) (hJ : ∀ j, j < T.2.2.2 → J 6 j = qJv T J0 k j) (K : P (.inl (some (.int (if qTn T k = true then 1 else 0)))) I J D) :
    ∀ {m e : Nat}, k = e + m → 1 ≤ e → (qIm T e).any (fun q => decide (q.1 = T.2.2.1 k)) = false → zw RO (d + 1) 67 P 2 [(0, .ref 19), (1, .int (zi (k : Int))), (2, .int (zi (e : Int)))] [] I J D bc bs
  | m, e, hm, h1, hn => by
    have hN9 := hw.2.1
    have lt := qTw_le hw (e - 1)
    have v93 : zv_93 I J (zi (e : Int) - 1) = zi (T.1 (e - 1) : Int) := n_93m hw ht h1 (by omega)
    have vk : zv_95 I J (zi (k : Int)) = T.2.2.1 k := by rw [n_95 hw ht (by omega), hJ k (by omega), qJv_n (fun z => by omega), hJ0 k (by omega) (by unfold ent; omega)]
    cases m with
    | zero =>
      have e0 : k = e := by omega
      subst e0
      have q : zi (k : Int) ≤ zi (k : Int) := by rw [zi_le (by omega) (by omega)]; omega
      unfold qTn at K
      rw [hn] at K
      exact wl_67_2 ⟨fun _ => K, fun y => absurd q y⟩
    | succ m =>
      have q : ¬ zi (k : Int) ≤ zi (e : Int) := by rw [zi_le (by omega) (by omega)]; omega
      have nx : ¬ (4 ≤ T.1 (e - 1) ∧ T.1 (e - 1) ≤ 9 ∧ T.2.2.1 e = T.2.2.1 k) → (qIm T (e + 1)).any (fun q => decide (q.1 = T.2.2.1 k)) = false := fun y => by
        unfold qIm
        by_cases z : 1 ≤ e ∧ 4 ≤ T.1 (e - 1) ∧ T.1 (e - 1) ≤ 9
        · rw [if_pos z, List.any_append, hn]
          show (decide (T.2.2.1 e = T.2.2.1 k) || false) = false
          rw [decide_eq_false (fun x => y ⟨z.2.1, z.2.2, x⟩)]
          rfl
        · rw [if_neg z]
          exact hn
      refine wl_67_2 ⟨fun y => absurd y q, fun _ => ?_⟩
      rw [v93, vk, n_95 hw ht (by omega : e < T.2.2.2), hJ e (by omega), zi_succ]
      refine ⟨fun y => ?_, fun y => ⟨fun y2 => ?_, fun y2 => ⟨fun y3 => ?_, fun y3 => ?_⟩⟩⟩
      · rw [zq_l (l := 4) (n := 4) rfl (by omega) (by omega)] at y
        exact c_67_2 hw hJ0 hnm hk c2 ht hJ K (m := m) (e := e + 1) (by omega) (by omega) (nx (fun z => by omega))
      · rw [zq_g (l := 9) (n := 9) rfl (by omega) (by omega)] at y2
        exact c_67_2 hw hJ0 hnm hk c2 ht hJ K (m := m) (e := e + 1) (by omega) (by omega) (nx (fun z => by omega))
      · rw [zq_l (l := 4) (n := 4) rfl (by omega) (by omega)] at y
        rw [zq_g (l := 9) (n := 9) rfl (by omega) (by omega)] at y2
        rw [qJv_it hJ0 (c := T.1 (e - 1)) (by omega) (hnm _ (by omega)) h1 (by omega) rfl] at y3
        exact c_67_2 hw hJ0 hnm hk c2 ht hJ K (m := m) (e := e + 1) (by omega) (by omega) (nx (fun z => y3 z.2.2))
      · rw [zq_l (l := 4) (n := 4) rfl (by omega) (by omega)] at y
        rw [zq_g (l := 9) (n := 9) rfl (by omega) (by omega)] at y2
        rw [qJv_it hJ0 (c := T.1 (e - 1)) (by omega) (hnm _ (by omega)) h1 (by omega) rfl] at y3
        have y3 : T.2.2.1 e = T.2.2.1 k := Decidable.not_not.mp y3
        have a : (qIm T (e + 1)).any (fun q => decide (q.1 = T.2.2.1 k)) = true := by
          unfold qIm
          rw [if_pos ⟨h1, by omega, by omega⟩, List.any_append]
          show (_ || (decide (T.2.2.1 e = T.2.2.1 k) || false)) = true
          rw [decide_eq_true y3, Bool.true_or, Bool.or_true]
        have b : qTn T k = true := qIm_any (by omega) a
        rw [if_pos b] at K
        exact K
theorem c_67 (hw : qTw T) (hJ0 : ∀ t, t < T.2.2.2 → ¬ ent (T.1 t) → J0 6 t = T.2.2.1 t) (hnm : ∀ c, 4 ≤ c ∧ c ≤ 9 → ∀ i, T.1 i = c → T.1 (i + 1) = 2) (h1 : 1 ≤ k) (hk : k + 1 < T.2.2.2) (c2 : T.1 k = 2) (ht : qTc T I) (hJ : ∀ j, j < T.2.2.2 → J 6 j = qJv T J0 k j) (K : P (.inl (some (.int (if qTn T k = true then 1 else 0)))) I J D) : zz RO (d + 2) 67 [.ref 19, .int (zi (k : Int))] I J D bc bs P := by
  refine w_67 ?_
  exact c_67_2 hw hJ0 hnm hk c2 ht hJ K (m := k - 1) (e := 1) (by omega) (by omega) rfl
/-- the act of a phase -/
theorem c_68 (hw : qTw T) (hJ0 : ∀ t, t < T.2.2.2 → ¬ ent (T.1 t) → J0 6 t = T.2.2.1 t) (hnm : ∀ c, 4 ≤ c ∧ c ≤ 9 → ∀ i, T.1 i = c → T.1 (i + 1) = 2) (h0 : 4 ≤ T.1 0 ∧ T.1 0 ≤ 10) (hcl : ∀ i, i < k → qEE T i = 0) (hk : k + 1 < T.2.2.2) (c2 : T.1 k = 2) (ca : T.1 (k - 1) = 40 ∨ T.1 (k - 1) = 38) (hx : qCx T J0 k I J) (H : qCk T J0 k P D I J) : zz RO (d + 3) 68 [.ref 19, .int (zi (k : Int))] I J D bc bs P := by
  have hN9 := hw.2.1
  have h1 : 1 ≤ k := by
    by_cases z : k = 0
    · rw [z] at c2
      omega
    · omega
  have hx0 := hx
  obtain ⟨a1, a2, a3, ⟨b1, b2, b3, b4, b5, b6⟩, a5⟩ := hx
  obtain ⟨s4, s5, s6, s7⟩ := a3 h1
  obtain ⟨k1, k2, k3⟩ := qMm_kn h0 k h1 hcl
  obtain ⟨eM, eE⟩ := qMm_pn c2 ca
  have n12 : (qMm T k).1 11 < 12 := Nat.lt_of_lt_of_le k2 (qMost_le _)
  refine w_68 (d := d + 2) ?_
  rw [a1.1]
  refine s_71 (d := d) (c := 7) (k := k) (e2 := T.2.2.2) hw a1 (by omega) (by omega) (Nat.le_refl _) (fun e q1 q2 q3 => ?_) ?_ ?_
  · rw [a5 e q2]
    exact qJv_it hJ0 (c := 7) (by omega) (hnm 7 (by omega)) q1 q2 q3
  · rw [a5 k (by omega), qJv_n (fun z => by omega), hJ0 k (by omega) (by unfold ent; omega)]
  · show _ ∧ _
    have same : ∀ j, j < T.2.2.2 → J 6 j = qJv T J0 (k + 1) j := fun j hj => by
      rw [qJv_s (fun z => by have := z.2; omega)]
      exact a5 j hj
    cases hq : qFd T 7 (T.2.2.1 k) T.2.2.2 with
    | none =>
      rw [hq] at eE
      have eE : qEE T k = 2 := eE
      refine ⟨fun z => absurd z (by decide), fun _ => ?_⟩
      refine w_61 (d := d + 1) ?_
      refine H.2 (by omega) _ J (zfr_zu (zfr_zu (zfr_refl I) 3 _ (by simp)) 2 _ (by simp)) (zfr_refl _) ?_ ?_ ?_
      · rw [zu_row _ _ (by decide), zu_row _ _ (by decide)]
      · rw [zu_n _ _ (by omega), zu_s, eE]
        rfl
      · rw [zu_s]
    | some n =>
      rw [hq] at eE eM
      have eE : qEE T k = 0 := eE
      have ln := qFd_lt hq
      have ln2 := qCn_lt (T := T) (c := 7) (k := T.2.2.2)
      have H := H.1 eE
      have eM : qMm T (k + 1) = ((qMm T k).1, (qMm T k).2.1, (if n < 12 then qup (qMm T k).2.2.1 ((qMm T k).1 11) ((qMm T k).2.2.1 ((qMm T k).1 11) ||| (1 <<< (zi ((n : Nat) : Int) &&& 31))) else (qMm T k).2.2.1), (qMm T k).2.2.2) := eM
      have fin : ∀ S, (∀ i, i < 6 → S 15 i = if n < 12 ∧ i = (qMm T k).1 11 then I 15 i ||| (1 <<< (zi (n : Int) &&& 31)) else I 15 i) → (∀ o, ¬ o = 15 → S o = I o) → P (.inl none) S J D := fun S q1 q2 => by
        have fr : zfr cmL I S := fun o ho => q2 o (fun z => ho (by rw [z]; decide))
        refine H S J fr (zfr_refl _) (by rw [q2 12 (by decide)]) (by rw [q2 19 (by decide)]) ⟨qTc_keep a1 (q2 3 (by decide)) (q2 4 (by decide)) (q2 5 (by decide)), fun x hx => ?_, fun _ => ?_, ⟨fun x hx hx2 => ?_, fun i hi hi2 => ?_, fun i hi hi2 => ?_, fun b hb hb2 => ?_, fun b hb hb2 => ?_, fun hp => ?_⟩, same⟩
        · rw [eM, q2 13 (by decide)]
          exact a2 x hx
        · rw [eM, q2 19 (by decide)]
          exact a3 h1
        · rw [eM, q2 14 (by decide)]
          exact b1 x hx (w14_old hx2 (fun z => by omega))
        · rw [eM] at hi2 ⊢
          have hi2 : i < (qMm T k).1 2 := hi2
          show _ = (if n < 12 then qup (qMm T k).2.2.1 ((qMm T k).1 11) ((qMm T k).2.2.1 ((qMm T k).1 11) ||| (1 <<< (zi ((n : Nat) : Int) &&& 31))) else (qMm T k).2.2.1) i
          rw [q1 i hi]
          by_cases c12 : n < 12
          · rw [if_pos c12]
            by_cases e : i = (qMm T k).1 11
            · rw [if_pos ⟨c12, e⟩, b2 i hi hi2, e, qup_s]
            · rw [if_neg (fun z => e z.2), qup_n _ _ e]
              exact b2 i hi hi2
          · rw [if_neg c12, if_neg (fun z => c12 z.1)]
            exact b2 i hi hi2
        · rw [eM, q2 16 (by decide)]
          exact b3 i hi (w16_old hi2 (fun z => by omega))
        · rw [eM, q2 17 (by decide)]
          exact b4 b hb (w17_old hb2 (fun z => by omega))
        · rw [eM, q2 18 (by decide)]
          exact b5 b hb (w18_old hb2 (fun z => by omega))
        · rw [eM] at hp ⊢
          rw [q2 12 (by decide)]
          exact b6 hp
      rw [show oInt (some n) = zi (n : Int) from rfl]
      refine ⟨fun _ => ⟨fun z => ?_, fun z => ?_⟩, fun z => absurd (by rw [zq_p (l := 0) (n := 0) rfl (by omega) (by omega)]; omega) z⟩
      · rw [zq_p (l := 12) (n := 12) rfl (by omega) (by omega)] at z
        exact fin I (fun i hi => by rw [if_neg (by omega)]) (fun _ _ => rfl)
      · rw [zq_p (l := 12) (n := 12) rfl (by omega) (by omega)] at z
        rw [s5]
        refine ⟨fun z1 => absurd z1 (by rw [zq_l (l := 0) (n := 0) rfl (by omega) (by omega)]; omega), fun _ => ⟨fun z1 => ?_, fun z1 => ?_⟩⟩
        · rw [zq_p (l := 6) (n := 6) rfl (by omega) (by omega)] at z1
          exact fin I (fun i hi => by rw [if_neg (by omega)]) (fun _ _ => rfl)
        · rw [zi_clk (by omega)]
          refine fin _ (fun i hi => ?_) (fun o ho => zu_row _ _ ho)
          by_cases e : i = (qMm T k).1 11
          · rw [if_pos ⟨by omega, e⟩, e, zu_s]
          · rw [if_neg (fun y => e y.2), zu_n _ _ (fun y => e y.2)]
/-- the phase of a rule -/
theorem c_69 (hw : qTw T) (hJ0 : ∀ t, t < T.2.2.2 → ¬ ent (T.1 t) → J0 6 t = T.2.2.1 t) (hnm : ∀ c, 4 ≤ c ∧ c ≤ 9 → ∀ i, T.1 i = c → T.1 (i + 1) = 2) (h0 : 4 ≤ T.1 0 ∧ T.1 0 ≤ 10) (hcl : ∀ i, i < k → qEE T i = 0) (hk : k + 1 < T.2.2.2) (c2 : T.1 k = 2) (ca : T.1 (k - 1) = 12) (hx : qCx T J0 k I J) (H : qCk T J0 k P D I J) : zz RO (d + 3) 69 [.ref 19, .int (zi (k : Int))] I J D bc bs P := by
  have hN9 := hw.2.1
  have h1 : 1 ≤ k := by
    by_cases z : k = 0
    · rw [z] at c2
      omega
    · omega
  obtain ⟨a1, a2, a3, ⟨b1, b2, b3, b4, b5, b6⟩, a5⟩ := hx
  obtain ⟨s4, s5, s6, s7⟩ := a3 h1
  obtain ⟨k1, k2, k3⟩ := qMm_kn h0 k h1 hcl
  obtain ⟨eM, eE⟩ := qMm_ph c2 ca
  have n12 : (qMm T k).1 11 < 12 := Nat.lt_of_lt_of_le k2 (qMost_le _)
  refine w_69 (d := d + 2) ?_
  rw [a1.1]
  refine s_71 (d := d) (c := 6) (k := k) (e2 := T.2.2.2) hw a1 (by omega) (by omega) (Nat.le_refl _) (fun e q1 q2 q3 => ?_) ?_ ?_
  · rw [a5 e q2]
    exact qJv_it hJ0 (c := 6) (by omega) (hnm 6 (by omega)) q1 q2 q3
  · rw [a5 k (by omega), qJv_n (fun z => by omega), hJ0 k (by omega) (by unfold ent; omega)]
  · show _ ∧ _
    have same : ∀ j, j < T.2.2.2 → J 6 j = qJv T J0 (k + 1) j := fun j hj => by
      rw [qJv_s (fun z => by have := z.2; omega)]
      exact a5 j hj
    cases hq : qFd T 6 (T.2.2.1 k) T.2.2.2 with
    | none =>
      rw [hq] at eE
      have eE : qEE T k = 2 := eE
      refine ⟨fun z => absurd z (by decide), fun _ => ?_⟩
      refine w_61 (d := d + 1) ?_
      refine H.2 (by omega) _ J (zfr_zu (zfr_zu (zfr_refl I) 3 _ (by simp)) 2 _ (by simp)) (zfr_refl _) ?_ ?_ ?_
      · rw [zu_row _ _ (by decide), zu_row _ _ (by decide)]
      · rw [zu_n _ _ (by omega), zu_s, eE]
        rfl
      · rw [zu_s]
    | some n =>
      rw [hq] at eE eM
      have eE : qEE T k = 0 := eE
      have ln := qFd_lt hq
      have ln2 := qCn_lt (T := T) (c := 6) (k := T.2.2.2)
      have H := H.1 eE
      have eM : qMm T (k + 1) = ((qMm T k).1, (qMm T k).2.1, (qMm T k).2.2.1, qup (qMm T k).2.2.2.1 ((qMm T k).1 11) n, (qMm T k).2.2.2.2) := eM
      have fin : ∀ S, (∀ i, i < 8 → S 16 i = if i = (qMm T k).1 11 then zi (n : Int) else I 16 i) → (∀ o, ¬ o = 16 → S o = I o) → P (.inl none) S J D := fun S q1 q2 => by
        have fr : zfr cmL I S := fun o ho => q2 o (fun z => ho (by rw [z]; decide))
        refine H S J fr (zfr_refl _) (by rw [q2 12 (by decide)]) (by rw [q2 19 (by decide)]) ⟨qTc_keep a1 (q2 3 (by decide)) (q2 4 (by decide)) (q2 5 (by decide)), fun x hx => ?_, fun _ => ?_, ⟨fun x hx hx2 => ?_, fun i hi hi2 => ?_, fun i hi hi2 => ?_, fun b hb hb2 => ?_, fun b hb hb2 => ?_, fun hp => ?_⟩, same⟩
        · rw [eM, q2 13 (by decide)]
          exact a2 x hx
        · rw [eM, q2 19 (by decide)]
          exact a3 h1
        · rw [eM, q2 14 (by decide)]
          exact b1 x hx (w14_old hx2 (fun z => by omega))
        · rw [eM] at hi2 ⊢
          rw [q2 15 (by decide)]
          exact b2 i hi hi2
        · rw [eM, q1 i hi]
          show _ = zi ((qup (qMm T k).2.2.2.1 ((qMm T k).1 11) n i : Nat) : Int)
          by_cases e : i = (qMm T k).1 11
          · rw [if_pos e, e, qup_s]
          · rw [if_neg e, qup_n _ _ e]
            exact b3 i hi (w16_old hi2 (fun _ _ => e))
        · rw [eM, q2 17 (by decide)]
          exact b4 b hb (w17_old hb2 (fun z => by omega))
        · rw [eM, q2 18 (by decide)]
          exact b5 b hb (w18_old hb2 (fun z => by omega))
        · rw [eM] at hp ⊢
          rw [q2 12 (by decide)]
          exact b6 hp
      rw [show oInt (some n) = zi (n : Int) from rfl]
      refine ⟨fun _ => ?_, fun z => absurd (by rw [zq_p (l := 0) (n := 0) rfl (by omega) (by omega)]; omega) z⟩
      rw [s5]
      refine ⟨fun z1 => absurd z1 (by rw [zq_l (l := 0) (n := 0) rfl (by omega) (by omega)]; omega), fun _ => ⟨fun z1 => ?_, fun z1 => ?_⟩⟩
      · rw [zq_p (l := 8) (n := 8) rfl (by omega) (by omega)] at z1
        exact fin I (fun i hi => by rw [if_neg (by omega)]) (fun _ _ => rfl)
      · rw [zi_clk (by omega)]
        refine fin _ (fun i hi => ?_) (fun o ho => zu_row _ _ ho)
        by_cases e : i = (qMm T k).1 11
        · rw [if_pos e, e, zu_s]
        · rw [if_neg e, zu_n _ _ (fun y => e y.2)]
/-- a place -/
theorem c_70 {c f : Nat} (hw : qTw T) (hJ0 : ∀ t, t < T.2.2.2 → ¬ ent (T.1 t) → J0 6 t = T.2.2.1 t) (hnm : ∀ c, 4 ≤ c ∧ c ≤ 9 → ∀ i, T.1 i = c → T.1 (i + 1) = 2) (h1 : 1 ≤ k) (hk : k + 1 < T.2.2.2) (c2 : T.1 k = 2) (cn : qPn (T.1 (k - 1))) (hc : T.1 (k - 1) = 25 ∧ c = 4 ∧ f = 0 ∨ T.1 (k - 1) = 26 ∧ c = 4 ∧ f = 6 ∨ ¬ T.1 (k - 1) = 25 ∧ ¬ T.1 (k - 1) = 26 ∧ c = 5 ∧ f = 12) (hx : qCx T J0 k I J) (H : qCk T J0 k P D I J) : zz RO (d + 3) 70 [.ref 19, .int (zi (k : Int)), .int (zi (c : Int)), .int (zi (f : Int))] I J D bc bs P := by
  have hN9 := hw.2.1
  have hx0 := hx
  obtain ⟨a1, a2, a3, -, a5⟩ := hx
  have ePl : qPl T k = (qFd T c (T.2.2.1 k) k).map (fun n => n + f) := by
    unfold qPl
    rcases hc with ⟨z1, z2, z3⟩ | ⟨z1, z2, z3⟩ | ⟨z1, z0, z2, z3⟩
    · rw [if_pos z1, z2, z3]
      show _ = (qFd T 4 (T.2.2.1 k) k).map (fun n => n)
      cases qFd T 4 (T.2.2.1 k) k <;> rfl
    · rw [if_neg (by omega), if_pos z1, z2, z3]
    · rw [if_neg z1, if_neg z0, z2, z3]
  have eE : qEE T k = if (qPl T k).isNone = true then 2 else 0 := by
    unfold qEE qE1
    rw [if_neg (by omega), if_pos c2, if_neg cn.1, if_neg (fun z => z.elim cn.2.1 cn.2.2.1), if_neg cn.2.2.2]
  have eM : qMm T (k + 1) = qMm T k := qM1_pl c2 ⟨fun z => z.elim cn.2.1 cn.2.2.1, cn.2.2.2⟩
  have cl : (zi (k : Int)).toNatClampNeg = k := zi_clk (by omega)
  refine w_70 (d := d + 2) ?_
  refine s_71 (d := d) (c := c) (k := k) (e2 := k) hw a1 (by omega) (by omega) (by omega) (fun e q1 q2 q3 => ?_) ?_ ?_
  · rw [a5 e q2]
    exact qJv_it hJ0 (c := c) (by omega) (hnm c (by omega)) q1 q2 q3
  · rw [a5 k (by omega), qJv_n (fun z => by omega), hJ0 k (by omega) (by unfold ent; omega)]
  · show _ ∧ _
    cases hq : qFd T c (T.2.2.1 k) k with
    | none =>
      rw [hq] at ePl
      rw [ePl] at eE
      have eE : qEE T k = 2 := eE
      refine ⟨fun z => absurd z (by decide), fun _ => ?_⟩
      refine w_61 (d := d + 1) ?_
      refine H.2 (by omega) _ J (zfr_zu (zfr_zu (zfr_refl I) 3 _ (by simp)) 2 _ (by simp)) (zfr_refl _) ?_ ?_ ?_
      · rw [zu_row _ _ (by decide), zu_row _ _ (by decide)]
      · rw [zu_n _ _ (by omega), zu_s, eE]
        rfl
      · rw [zu_s]
    | some n =>
      rw [hq] at ePl
      have ePl : qPl T k = some (n + f) := ePl
      rw [ePl] at eE
      have eE : qEE T k = 0 := eE
      have ln := qFd_lt hq
      have ln2 := qCn_lt (T := T) (c := c) (k := k)
      rw [show oInt (some n) = zi (n : Int) from rfl]
      refine ⟨fun _ => ?_, fun z => absurd (by rw [zq_p (l := 0) (n := 0) rfl (by omega) (by omega)]; omega) z⟩
      refine w_96 (d := d + 1) ?_
      rw [a1.1, cl, zi_add, show (f : Int) + (n : Int) = ((n + f : Nat) : Int) by omega]
      refine ⟨fun z1 => absurd z1 (by rw [zq_l (l := 0) (n := 0) rfl (by omega) (by omega)]; omega), fun _ => ⟨fun z1 => absurd z1 (by rw [zi_le (by omega) (by omega)]; omega), fun _ => ⟨fun z1 => absurd z1 (by rw [zq_p (l := 451) (n := 451) rfl (by omega) (by omega)]; omega), fun _ => ?_⟩⟩⟩
      show P (.inl none) I _ D
      refine H.1 eE I _ (zfr_refl _) (zfr_zu (zfr_refl J) _ _ (by simp)) rfl rfl (qCx_0 hx0 eM h1 (fun z => by omega) (fun _ => cn.2.2.2) (by omega) (by omega) (fun j hj => ?_))
      by_cases e : j = k
      · rw [e, zu_s]
        unfold qJv
        rw [if_pos ⟨by omega, c2, cn⟩, ePl]
      · rw [zu_n _ _ (fun z => e z.2), a5 j hj]
        unfold qJv
        by_cases z : j < k ∧ T.1 j = 2 ∧ qPn (T.1 (j - 1))
        · rw [if_pos z, if_pos ⟨by omega, z.2⟩]
        · rw [if_neg z, if_neg (fun y => z ⟨by omega, y.2⟩)]
/-- a name -/
theorem c_66 (hw : qTw T) (hJ0 : ∀ t, t < T.2.2.2 → ¬ ent (T.1 t) → J0 6 t = T.2.2.1 t) (hnm : ∀ c, 4 ≤ c ∧ c ≤ 9 → ∀ i, T.1 i = c → T.1 (i + 1) = 2) (h0 : 4 ≤ T.1 0 ∧ T.1 0 ≤ 10) (hcl : ∀ i, i < k → qEE T i = 0) (hk : k + 1 < T.2.2.2) (c2 : T.1 k = 2) (hx : qCx T J0 k I J) (H : qCk T J0 k P D I J) : zz RO (d + 4) 66 [.ref 19, .int (zi (k : Int)), .int (zi (T.1 (k - 1) : Int))] I J D bc bs P := by
  have hN9 := hw.2.1
  have h1 : 1 ≤ k := by
    by_cases z : k = 0
    · rw [z] at c2
      omega
    · omega
  have lt := qTw_le hw (k - 1)
  have e40 : zi (T.1 (k - 1) : Int) = 40 ↔ T.1 (k - 1) = 40 := zq_e (l := 40) (n := 40) rfl (by omega) (by omega)
  have e38 : zi (T.1 (k - 1) : Int) = 38 ↔ T.1 (k - 1) = 38 := zq_e (l := 38) (n := 38) rfl (by omega) (by omega)
  have e12 : zi (T.1 (k - 1) : Int) = 12 ↔ T.1 (k - 1) = 12 := zq_e (l := 12) (n := 12) rfl (by omega) (by omega)
  have e25 : zi (T.1 (k - 1) : Int) = 25 ↔ T.1 (k - 1) = 25 := zq_e (l := 25) (n := 25) rfl (by omega) (by omega)
  have e26 : zi (T.1 (k - 1) : Int) = 26 ↔ T.1 (k - 1) = 26 := zq_e (l := 26) (n := 26) rfl (by omega) (by omega)
  have rest : ¬ (4 ≤ T.1 (k - 1) ∧ T.1 (k - 1) ≤ 9) → ((zi (T.1 (k - 1) : Int) = 40 → (zz RO (d + 3) 68 [.ref 19, .int (zi (k : Int))] I J D 0 0 (zNv P fun I7 J7 D7 => P (.inl none) I7 J7 D7))) ∧ (¬ (zi (T.1 (k - 1) : Int) = 40) → ((¬ zi (T.1 (k - 1) : Int) = 38 → ((¬ zi (T.1 (k - 1) : Int) = 12 → ((¬ zi (T.1 (k - 1) : Int) = 25 → ((¬ zi (T.1 (k - 1) : Int) = 26 → (zz RO (d + 3) 70 [.ref 19, .int (zi (k : Int)), .int 5, .int 12] I J D 0 0 (zNv P fun I8 J8 D8 => P (.inl none) I8 J8 D8))) ∧ (¬ (¬ zi (T.1 (k - 1) : Int) = 26) → (zz RO (d + 3) 70 [.ref 19, .int (zi (k : Int)), .int 4, .int 6] I J D 0 0 (zNv P fun I9 J9 D9 => P (.inl none) I9 J9 D9))))) ∧ (¬ (¬ zi (T.1 (k - 1) : Int) = 25) → (zz RO (d + 3) 70 [.ref 19, .int (zi (k : Int)), .int 4, .int 0] I J D 0 0 (zNv P fun I10 J10 D10 => P (.inl none) I10 J10 D10))))) ∧ (¬ (¬ zi (T.1 (k - 1) : Int) = 12) → (zz RO (d + 3) 69 [.ref 19, .int (zi (k : Int))] I J D 0 0 (zNv P fun I11 J11 D11 => P (.inl none) I11 J11 D11))))) ∧ (¬ (¬ zi (T.1 (k - 1) : Int) = 38) → (zz RO (d + 3) 68 [.ref 19, .int (zi (k : Int))] I J D 0 0 (zNv P fun I12 J12 D12 => P (.inl none) I12 J12 D12)))))) := fun c9 => by
    have H9 : qCk T J0 k (zNv P fun I8 J8 D8 => P (.inl none) I8 J8 D8) D I J := H
    refine ⟨fun z => c_68 (d := d) hw hJ0 hnm h0 hcl hk c2 (Or.inl (e40.mp z)) hx H9, fun z40 => ⟨fun z38 => ⟨fun z12 => ?_, fun z12 => c_69 (d := d) hw hJ0 hnm h0 hcl hk c2 (e12.mp (Decidable.not_not.mp z12)) hx H9⟩, fun z38 => c_68 (d := d) hw hJ0 hnm h0 hcl hk c2 (Or.inr (e38.mp (Decidable.not_not.mp z38))) hx H9⟩⟩
    have cn : qPn (T.1 (k - 1)) := ⟨c9, fun y => z40 (e40.mpr y), fun y => z38 (e38.mpr y), fun y => z12 (e12.mpr y)⟩
    refine ⟨fun z25 => ⟨fun z26 => ?_, fun z26 => ?_⟩, fun z25 => ?_⟩
    · exact c_70 (d := d) (c := 5) (f := 12) hw hJ0 hnm h1 hk c2 cn (Or.inr (Or.inr ⟨fun y => z25 (e25.mpr y), fun y => z26 (e26.mpr y), rfl, rfl⟩)) hx H9
    · exact c_70 (d := d) (c := 4) (f := 6) hw hJ0 hnm h1 hk c2 cn (Or.inr (Or.inl ⟨e26.mp (Decidable.not_not.mp z26), rfl, rfl⟩)) hx H9
    · exact c_70 (d := d) (c := 4) (f := 0) hw hJ0 hnm h1 hk c2 cn (Or.inl ⟨e25.mp (Decidable.not_not.mp z25), rfl, rfl⟩) hx H9
  refine w_66 (d := d + 3) ⟨fun z => ?_, fun z => ⟨fun z2 => ?_, fun z2 => ?_⟩⟩
  · rw [zq_l (l := 4) (n := 4) rfl (by omega) (by omega)] at z
    exact rest (by omega)
  · rw [zq_g (l := 9) (n := 9) rfl (by omega) (by omega)] at z2
    exact rest (by omega)
  · rw [zq_l (l := 4) (n := 4) rfl (by omega) (by omega)] at z
    rw [zq_g (l := 9) (n := 9) rfl (by omega) (by omega)] at z2
    have c9 : 4 ≤ T.1 (k - 1) ∧ T.1 (k - 1) ≤ 9 := by omega
    have eE : qEE T k = if qTn T k = true then 3 else 0 := by
      unfold qEE qE1
      rw [if_neg (by omega), if_pos c2, if_pos c9]
    have eM : qMm T (k + 1) = qMm T k := qM1_pl c2 ⟨by omega, by omega⟩
    refine c_67 (d := d + 1) hw hJ0 hnm h1 hk c2 hx.1 hx.2.2.2.2 ?_
    by_cases q : qTn T k = true
    · rw [if_pos q] at eE ⊢
      show _ ∧ _
      refine ⟨fun y => absurd y (by decide), fun _ => ?_⟩
      refine w_61 (d := d + 2) ?_
      refine H.2 (by omega) _ J (zfr_zu (zfr_zu (zfr_refl I) 3 _ (by simp)) 2 _ (by simp)) (zfr_refl _) ?_ ?_ ?_
      · rw [zu_row _ _ (by decide), zu_row _ _ (by decide)]
      · rw [zu_n _ _ (by omega), zu_s, eE]
        rfl
      · rw [zu_s]
    · rw [if_neg q] at eE ⊢
      show _ ∧ _
      refine ⟨fun _ => ?_, fun y => absurd rfl y⟩
      refine H.1 eE I J (zfr_refl _) (zfr_refl _) rfl rfl (qCx_0 hx eM h1 (fun z => by omega) (fun _ => by omega) (by omega) (by omega) (fun j hj => ?_))
      rw [qJv_s (fun z => z.2.1 c9)]
      exact hx.2.2.2.2 j hj
end CMean4

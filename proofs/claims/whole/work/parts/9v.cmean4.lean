/-! ===== the class's meaning: numbers, when, do ===== -/
/-- a token that tells no more than it writes -/
theorem qCx_0 {T : qTk} {J0 : zJ} {k : Nat} {I : zI} {J : zJ} (h : qCx T J0 k I J) (e : qMm T (k + 1) = qMm T k) (h1 : 1 ≤ k) (n3 : T.1 k = 3 → ¬ ((qMm T k).1 10 = 4 ∨ (qMm T k).1 10 = 5)) (n2 : T.1 k = 2 → ¬ T.1 (k - 1) = 12) (n7 : ¬ (7 ≤ T.1 k ∧ T.1 k ≤ 9)) (n14 : ¬ T.1 k = 14) {J' : zJ} (hJ : ∀ j, j < T.2.2.2 → J' 6 j = qJv T J0 (k + 1) j) : qCx T J0 (k + 1) I J' := by
  obtain ⟨a1, a2, a3, ⟨b1, b2, b3, b4, b5, b6⟩, a5⟩ := h
  refine ⟨a1, ?_, fun _ => ?_, ⟨fun x hx hx2 => ?_, ?_, fun i hi hi2 => ?_, fun b hb hb2 => ?_, fun b hb hb2 => ?_, ?_⟩, hJ⟩
  · rw [e]
    exact a2
  · rw [e]
    exact a3 h1
  · rw [e]
    exact b1 x hx (w14_old hx2 (fun z1 z2 => absurd z2 (n3 z1)))
  · rw [e]
    exact b2
  · rw [e]
    exact b3 i hi (w16_old hi2 (fun z1 z2 => absurd z2 (n2 z1)))
  · rw [e]
    exact b4 b hb (w17_old hb2 (fun z => absurd z n7))
  · rw [e]
    exact b5 b hb (w18_old hb2 (fun z => absurd z n14))
  · rw [e]
    exact b6
section CMean3
variable {RO : zRo} {d : Nat} {P : zP} {I : zI} {J : zJ} {D : zD} {bc bs : Nat} {T : qTk} {k : Nat} {J0 : zJ}
theorem n_93m {T : qTk} {I : zI} {J : zJ} {k : Nat} (hw : qTw T) (ht : qTc T I) (h1 : 1 ≤ k) (hk : k ≤ 1000) : zv_93 I J (zi (k : Int) - 1) = zi (T.1 (k - 1) : Int) := by
  have e4 : zi (k : Int) - 1 = zi ((k - 1 : Nat) : Int) := by
    rw [show (1 : Int32) = zi 1 from rfl, zi_sub]
    congr 1
    omega
  rw [e4, n_93 hw ht (by omega)]
theorem n_76 {I : zI} {J : zJ} {t w : Nat} (ht : 3 * t + w < 36) : zv_76 I J (zi (t : Int)) (zi (w : Int)) = I 14 (3 * t + w) := by
  have e : zi (t : Int) * 3 + zi (w : Int) = zi ((3 * t + w : Nat) : Int) := by
    rw [show (3 : Int32) = zi 3 from rfl, zi_mul, zi_add]
    congr 1
    omega
  unfold zv_76
  rw [e, if_neg (fun z => by rw [zq_l (l := 0) (n := 0) rfl (by omega) (by omega)] at z; omega), if_neg (fun z => by rw [zq_p (l := 36) (n := 36) rfl (by omega) (by omega)] at z; omega), zi_clk (by omega)]
/-- the row of wholes gets another one -/
theorem c_77 {t w : Nat} {v : Int32} (ht : t ≤ 1000) (hw : w ≤ 1000) (K : P (.inl none) (if 3 * t + w < 36 then zu I 14 (3 * t + w) v else I) J D) : zz RO (d + 1) 77 [.ref 12, .int (zi (t : Int)), .int (zi (w : Int)), .int v] I J D bc bs P := by
  have e : zi (t : Int) * 3 + zi (w : Int) = zi ((3 * t + w : Nat) : Int) := by
    rw [show (3 : Int32) = zi 3 from rfl, zi_mul, zi_add]
    congr 1
    omega
  refine w_77 ?_
  rw [e]
  refine ⟨fun z => absurd z (by rw [zq_l (l := 0) (n := 0) rfl (by omega) (by omega)]; omega), fun _ => ⟨fun z => ?_, fun z => ?_⟩⟩
  · rw [zq_p (l := 36) (n := 36) rfl (by omega) (by omega)] at z
    rw [if_neg (by omega)] at K
    exact K
  · rw [zq_p (l := 36) (n := 36) rfl (by omega) (by omega)] at z
    rw [if_pos (by omega)] at K
    rw [zi_clk (by omega)]
    exact K
theorem qTg_le {c n : Nat} (h : n ≤ 12) : qTg c n ≤ 18 := by
  unfold qTg
  split <;> omega
/-- a number of a track or a pool -/
theorem c_72 (hw : qTw T) (hv : qTv T) (h0 : 4 ≤ T.1 0 ∧ T.1 0 ≤ 10) (hJ0 : J0 6 k = T.2.2.1 k) (hcl : ∀ i, i < k → qEE T i = 0) (hk : k + 1 < T.2.2.2) (c : T.1 k = 3) (cx : (qMm T k).1 10 = 4 ∨ (qMm T k).1 10 = 5) (hx : qCx T J0 k I J) (H : qCk T J0 k P D I J) : zz RO (d + 2) 72 [.ref 19, .int (zi (k : Int))] I J D bc bs P := by
  have hN9 := hw.2.1
  have h1 : 1 ≤ k := by
    by_cases z : k = 0
    · rw [z] at c
      omega
    · omega
  obtain ⟨a1, a2, a3, ⟨b1, b2, b3, b4, b5, b6⟩, a5⟩ := hx
  obtain ⟨s4, s5, s6, s7⟩ := a3 h1
  obtain ⟨k1, k2, k3⟩ := qMm_kn h0 k h1 hcl
  have n6 : (qMm T k).1 11 < 6 := by
    rcases cx with z | z <;> rw [z] at k2 <;> exact k2
  have tl : qTg ((qMm T k).1 10) ((qMm T k).1 11) < 12 := by
    unfold qTg
    split <;> omega
  have w9 := qMm_12 (T := T) k
  have v95 : (zv_95 I J (zi (k : Int))).toInt32 = (T.2.2.1 k).toInt32 := by rw [n_95 hw a1 (by omega), a5 k (by omega), qJv_n (fun z => by omega), hJ0]
  obtain ⟨vb, vz⟩ := qWv_z hv c
  have eE : qEE T k = if ¬ ((if (qMm T k).1 12 = 0 then -999 else (qMm T k).2.1 (3 * qTg ((qMm T k).1 10) ((qMm T k).1 11))) ≤ qWv T k ∧ qWv T k ≤ (if (qMm T k).1 12 = 2 then (qMm T k).2.1 (3 * qTg ((qMm T k).1 10) ((qMm T k).1 11) + 1) else 999)) then 5 else 0 := by
    unfold qEE qE1
    rw [if_neg (by omega), if_neg (by omega), if_pos c]
    by_cases z : ((if (qMm T k).1 12 = 0 then -999 else (qMm T k).2.1 (3 * qTg ((qMm T k).1 10) ((qMm T k).1 11))) ≤ qWv T k ∧ qWv T k ≤ (if (qMm T k).1 12 = 2 then (qMm T k).2.1 (3 * qTg ((qMm T k).1 10) ((qMm T k).1 11) + 1) else 999))
    · rw [if_neg (fun y => y.2 z), if_neg (fun y => y z)]
    · rw [if_pos ⟨cx, z⟩, if_pos z]
  have lo_b : -9999 ≤ (if (qMm T k).1 12 = 0 then -999 else (qMm T k).2.1 (3 * qTg ((qMm T k).1 10) ((qMm T k).1 11))) ∧ (if (qMm T k).1 12 = 0 then -999 else (qMm T k).2.1 (3 * qTg ((qMm T k).1 10) ((qMm T k).1 11))) ≤ 9999 := by
    have := qMm_b hv k (3 * qTg ((qMm T k).1 10) ((qMm T k).1 11))
    split
    · omega
    · exact this
  have hi_b : -9999 ≤ (if (qMm T k).1 12 = 2 then (qMm T k).2.1 (3 * qTg ((qMm T k).1 10) ((qMm T k).1 11) + 1) else 999) ∧ (if (qMm T k).1 12 = 2 then (qMm T k).2.1 (3 * qTg ((qMm T k).1 10) ((qMm T k).1 11) + 1) else 999) ≤ 9999 := by
    have := qMm_b hv k (3 * qTg ((qMm T k).1 10) ((qMm T k).1 11) + 1)
    split
    · exact this
    · omega
  have lo_z : (if (qMm T k).1 12 = 0 then (-999 : Int32) else I 14 (3 * qTg ((qMm T k).1 10) ((qMm T k).1 11) + 0)) = zi (if (qMm T k).1 12 = 0 then -999 else (qMm T k).2.1 (3 * qTg ((qMm T k).1 10) ((qMm T k).1 11))) := by
    by_cases z : (qMm T k).1 12 = 0
    · rw [if_pos z, if_pos z]
      rfl
    · rw [if_neg z, if_neg z]
      exact b1 _ (by omega) (w14_cur k cx 0 (by omega))
  have hi_z : (if (qMm T k).1 12 = 2 then I 14 (3 * qTg ((qMm T k).1 10) ((qMm T k).1 11) + 1) else (999 : Int32)) = zi (if (qMm T k).1 12 = 2 then (qMm T k).2.1 (3 * qTg ((qMm T k).1 10) ((qMm T k).1 11) + 1) else 999) := by
    by_cases z : (qMm T k).1 12 = 2
    · rw [if_pos z, if_pos z]
      exact b1 _ (by omega) (w14_cur k cx 1 (by omega))
    · rw [if_neg z, if_neg z]
      rfl
  generalize hlo : (if (qMm T k).1 12 = 0 then -999 else (qMm T k).2.1 (3 * qTg ((qMm T k).1 10) ((qMm T k).1 11))) = lo at eE lo_b lo_z
  generalize hhi : (if (qMm T k).1 12 = 2 then (qMm T k).2.1 (3 * qTg ((qMm T k).1 10) ((qMm T k).1 11) + 1) else 999) = hi at eE hi_b hi_z
  -- what is written
  have wr : ∀ I1 : zI, I1 19 6 = I 19 6 → (∀ S, (∀ x, S 14 x = if x = 3 * qTg ((qMm T k).1 10) ((qMm T k).1 11) + (qMm T k).1 12 ∧ x < 36 then zi (qWv T k) else I1 14 x) → S 19 6 = zi (((qMm T k).1 12 + 1 : Nat) : Int) → (∀ j, ¬ j = 6 → S 19 j = I1 19 j) → (∀ o, ¬ o = 14 → ¬ o = 19 → S o = I1 o) → P (.inl none) S J D) → ∀ {l4 l5 : Int32} {bc bs : Nat}, zw RO (d + 1) 72 P 118 [(0, .ref 19), (1, .int (zi (k : Int))), (2, .int (zi (qWv T k))), (3, .int (zi (qTg ((qMm T k).1 10) ((qMm T k).1 11) : Int))), (4, .int l4), (5, .int l5)] [] I1 J D bc bs := fun I1 e6 K l4 l5 bc bs => by
    refine wl_72_118 ?_
    rw [e6, s6]
    refine c_77 (by omega) (by omega) ?_
    show P (.inl none) (zu _ 19 6 _) J D
    by_cases z : 3 * qTg ((qMm T k).1 10) ((qMm T k).1 11) + (qMm T k).1 12 < 36
    · rw [if_pos z, zu_n _ _ (by omega), e6, s6, zi_succ]
      refine K _ (fun x => ?_) (zu_s _ _ _ _) (fun j hj => by rw [zu_n _ _ (fun y => hj y.2), zu_n _ _ (by omega)]) (fun o h1 h2 => by rw [zu_row _ _ h2, zu_row _ _ h1])
      rw [zu_row _ _ (by decide)]
      by_cases y : x = 3 * qTg ((qMm T k).1 10) ((qMm T k).1 11) + (qMm T k).1 12
      · rw [if_pos ⟨y, by omega⟩, y, zu_s]
      · rw [if_neg (fun v => y v.1), zu_n _ _ (fun v => y v.2)]
    · rw [if_neg z, e6, s6, zi_succ]
      refine K _ (fun x => ?_) (zu_s _ _ _ _) (fun j hj => by rw [zu_n _ _ (fun y => hj y.2)]) (fun o h1 h2 => by rw [zu_row _ _ h2])
      rw [zu_row _ _ (by decide), if_neg (by omega)]
  have good : qEE T k = 0 → ∀ S, (∀ x, S 14 x = if x = 3 * qTg ((qMm T k).1 10) ((qMm T k).1 11) + (qMm T k).1 12 ∧ x < 36 then zi (qWv T k) else I 14 x) → S 19 6 = zi (((qMm T k).1 12 + 1 : Nat) : Int) → (∀ j, ¬ j = 6 → S 19 j = I 19 j) → (∀ o, ¬ o = 14 → ¬ o = 19 → S o = I o) → P (.inl none) S J D := fun e S q1 q2 q3 q4 => by
    have eM := (qM1_n (m := qMm T k) c).1 cx
    have fr : zfr cmL I S := fun o ho => q4 o (fun z => ho (by rw [z]; decide)) (fun z => ho (by rw [z]; decide))
    refine H.1 e S J fr (zfr_refl _) (by rw [q4 12 (by decide) (by decide)]) (q3 3 (by decide)) ⟨qTc_keep a1 (q4 3 (by decide) (by decide)) (q4 4 (by decide) (by decide)) (q4 5 (by decide) (by decide)), fun x hx => ?_, fun _ => ?_, ⟨fun x hx hx2 => ?_, fun i hi hi2 => ?_, fun i hi hi2 => ?_, fun b hb hb2 => ?_, fun b hb hb2 => ?_, fun hp => ?_⟩, fun j hj => ?_⟩
    · show _ = zi ((qM1 T k (qMm T k)).1 x : Int)
      rw [eM, q4 13 (by decide) (by decide)]
      show _ = zi ((qup (qMm T k).1 12 ((qMm T k).1 12 + 1) x : Nat) : Int)
      rw [qup_n _ _ (by omega)]
      exact a2 x hx
    · show S 19 4 = zi ((qM1 T k (qMm T k)).1 10 : Int) ∧ S 19 5 = zi ((qM1 T k (qMm T k)).1 11 : Int) ∧ S 19 6 = zi ((qM1 T k (qMm T k)).1 12 : Int) ∧ S 19 7 = zi ((qM1 T k (qMm T k)).1 13 : Int)
      rw [eM]
      show S 19 4 = zi ((qup (qMm T k).1 12 ((qMm T k).1 12 + 1) 10 : Nat) : Int) ∧ S 19 5 = zi ((qup (qMm T k).1 12 ((qMm T k).1 12 + 1) 11 : Nat) : Int) ∧ S 19 6 = zi ((qup (qMm T k).1 12 ((qMm T k).1 12 + 1) 12 : Nat) : Int) ∧ S 19 7 = zi ((qup (qMm T k).1 12 ((qMm T k).1 12 + 1) 13 : Nat) : Int)
      rw [qup_n _ _ (by omega), qup_n _ _ (by omega), qup_s, qup_n _ _ (by omega), q3 4 (by decide), q3 5 (by decide), q3 7 (by decide)]
      exact ⟨s4, s5, q2, s7⟩
    · show _ = zi ((qM1 T k (qMm T k)).2.1 x)
      rw [eM, q1]
      show _ = zi (qup (qMm T k).2.1 _ _ x)
      by_cases y : x = 3 * qTg ((qMm T k).1 10) ((qMm T k).1 11) + (qMm T k).1 12
      · rw [if_pos ⟨y, hx⟩, y, qup_s]
      · rw [if_neg (fun v => y v.1), qup_n _ _ y]
        exact b1 x hx (w14_old hx2 (fun _ _ => y))
    · have hi2 : i < (qM1 T k (qMm T k)).1 2 := hi2
      show _ = (qM1 T k (qMm T k)).2.2.1 i
      rw [eM] at hi2 ⊢
      have hi2 : i < qup (qMm T k).1 12 ((qMm T k).1 12 + 1) 2 := hi2
      rw [qup_n _ _ (by omega)] at hi2
      rw [q4 15 (by decide) (by decide)]
      exact b2 i hi hi2
    · show _ = zi ((qM1 T k (qMm T k)).2.2.2.1 i : Int)
      rw [eM, q4 16 (by decide) (by decide)]
      exact b3 i hi (w16_old hi2 (fun z => by omega))
    · show _ = qWn J0 ((qM1 T k (qMm T k)).2.2.2.2.1 b)
      rw [eM, q4 17 (by decide) (by decide)]
      exact b4 b hb (w17_old hb2 (fun z => by omega))
    · show _ = (J0 6 ((qM1 T k (qMm T k)).2.2.2.2.2 b)).toInt32
      rw [eM, q4 18 (by decide) (by decide)]
      exact b5 b hb (w18_old hb2 (fun z => by omega))
    · have hp : 0 < (qM1 T k (qMm T k)).1 6 := hp
      show _ = (J0 6 ((qM1 T k (qMm T k)).1 14)).toInt32
      rw [eM] at hp ⊢
      have hp : 0 < qup (qMm T k).1 12 ((qMm T k).1 12 + 1) 6 := hp
      show _ = (J0 6 (qup (qMm T k).1 12 ((qMm T k).1 12 + 1) 14)).toInt32
      rw [qup_n _ _ (by omega)] at hp
      rw [qup_n _ _ (by omega), q4 12 (by decide) (by decide)]
      exact b6 hp
    · rw [qJv_s (fun z => by omega)]
      exact a5 j hj
  have bad : ¬ qEE T k = 0 → qEE T k = 5 → ∀ S, (∀ j, ¬ j = 6 → S 19 j = (zu (zu I 19 3 5) 19 2 (zi (k : Int))) 19 j) → (∀ o, ¬ o = 14 → ¬ o = 19 → S o = (zu (zu I 19 3 5) 19 2 (zi (k : Int))) o) → P (.inl none) S J D := fun e e5 S q3 q4 => by
    have q9 : ∀ o, ¬ o = 14 → ¬ o = 19 → S o = I o := fun o h1 h2 => by rw [q4 o h1 h2, zu_row _ _ h2, zu_row _ _ h2]
    have fr : zfr cmL I S := fun o ho => q9 o (fun z => ho (by rw [z]; decide)) (fun z => ho (by rw [z]; decide))
    refine H.2 e S J fr (zfr_refl _) (by rw [q9 12 (by decide) (by decide)]) ?_ ?_
    · rw [q3 3 (by decide), zu_n _ _ (by omega), zu_s, e5]
      rfl
    · rw [q3 2 (by decide), zu_s]
  have st100 : ∀ {bc bs : Nat}, zw RO (d + 1) 72 P 100 [(0, .ref 19), (1, .int (zi (k : Int))), (2, .int (zi (qWv T k))), (3, .int (zi (qTg ((qMm T k).1 10) ((qMm T k).1 11) : Int))), (4, .int (zi lo)), (5, .int (zi hi))] [] I J D bc bs := fun {bc bs} => by
    have cl : zi (qWv T k) < zi lo ↔ qWv T k < lo := zi_lt (by omega) (by omega)
    have ch : zi (qWv T k) ≤ zi hi ↔ qWv T k ≤ hi := zi_le (by omega) (by omega)
    have bd : ¬ (lo ≤ qWv T k ∧ qWv T k ≤ hi) → ∀ S, (∀ x, S 14 x = if x = 3 * qTg ((qMm T k).1 10) ((qMm T k).1 11) + (qMm T k).1 12 ∧ x < 36 then zi (qWv T k) else (zu (zu I 19 3 5) 19 2 (zi (k : Int))) 14 x) → S 19 6 = zi (((qMm T k).1 12 + 1 : Nat) : Int) → (∀ j, ¬ j = 6 → S 19 j = (zu (zu I 19 3 5) 19 2 (zi (k : Int))) 19 j) → (∀ o, ¬ o = 14 → ¬ o = 19 → S o = (zu (zu I 19 3 5) 19 2 (zi (k : Int))) o) → P (.inl none) S J D := fun z S _ _ q3 q4 => by
      rw [if_pos z] at eE
      exact bad (by omega) eE S q3 q4
    refine wl_72_100 ⟨fun z => ?_, fun z => ⟨fun z2 => ?_, fun z2 => ?_⟩⟩
    · refine w_61 ?_
      exact wr _ (by rw [zu_n _ _ (by omega), zu_n _ _ (by omega)]) (bd (fun y => by have := cl.mp z; omega))
    · refine wr I rfl (good ?_)
      have : ¬ qWv T k < lo := fun y => z (cl.mpr y)
      rw [eE, if_neg (fun y => y ⟨by omega, ch.mp z2⟩)]
    · refine w_61 ?_
      exact wr _ (by rw [zu_n _ _ (by omega), zu_n _ _ (by omega)]) (bd (fun y => z2 (ch.mpr y.2)))
  have st75 : ∀ {bc bs : Nat}, zw RO (d + 1) 72 P 75 [(0, .ref 19), (1, .int (zi (k : Int))), (2, .int (zi (qWv T k))), (3, .int (zi (qTg ((qMm T k).1 10) ((qMm T k).1 11) : Int))), (4, .int (zi lo))] [] I J D bc bs := fun {bc bs} => by
    refine wl_72_75 ?_
    rw [s6]
    have e2 : zi ((qMm T k).1 12 : Int) = 2 ↔ (qMm T k).1 12 = 2 := zq_e (l := 2) (n := 2) rfl (by omega) (by omega)
    refine ⟨fun z => ?_, fun z => ?_⟩
    · have z : ¬ (qMm T k).1 12 = 2 := fun y => z (e2.mpr y)
      rw [if_neg z] at hi_z
      rw [hi_z]
      exact st100
    · have z : (qMm T k).1 12 = 2 := e2.mp (Decidable.not_not.mp z)
      rw [if_pos z] at hi_z
      have e76 := n_76 (I := I) (J := J) (t := qTg ((qMm T k).1 10) ((qMm T k).1 11)) (w := 1) (by omega)
      rw [show (1 : Int32) = zi ((1 : Nat) : Int) from rfl, e76, hi_z]
      exact st100
  have st51 : ∀ {bc bs : Nat}, zw RO (d + 1) 72 P 51 [(0, .ref 19), (1, .int (zi (k : Int))), (2, .int (zi (qWv T k))), (3, .int (zi (qTg ((qMm T k).1 10) ((qMm T k).1 11) : Int)))] [] I J D bc bs := fun {bc bs} => by
    refine wl_72_51 ?_
    rw [s6]
    have e2 : zi ((qMm T k).1 12 : Int) = 0 ↔ (qMm T k).1 12 = 0 := zq_e (l := 0) (n := 0) rfl (by omega) (by omega)
    refine ⟨fun z => ?_, fun z => ?_⟩
    · have z : ¬ (qMm T k).1 12 = 0 := fun y => z (e2.mpr y)
      rw [if_neg z] at lo_z
      have e76 := n_76 (I := I) (J := J) (t := qTg ((qMm T k).1 10) ((qMm T k).1 11)) (w := 0) (by omega)
      rw [show (0 : Int32) = zi ((0 : Nat) : Int) from rfl, e76, lo_z]
      exact st75
    · have z : (qMm T k).1 12 = 0 := e2.mp (Decidable.not_not.mp z)
      rw [if_pos z] at lo_z
      rw [lo_z]
      exact st75
  have st28 : ∀ {bc bs : Nat}, zw RO (d + 1) 72 P 28 [(0, .ref 19), (1, .int (zi (k : Int))), (2, .int (zi (qWv T k)))] [] I J D bc bs := fun {bc bs} => by
    refine wl_72_28 ?_
    rw [s4, s5]
    have e4 : zi ((qMm T k).1 10 : Int) = 4 ↔ (qMm T k).1 10 = 4 := zq_e (l := 4) (n := 4) rfl (by omega) (by omega)
    have st := fun {bc bs : Nat} => st51 (bc := bc) (bs := bs)
    unfold qTg at st
    refine ⟨fun z => ?_, fun z => ?_⟩
    · rw [if_neg (fun y => z (e4.mpr y))] at st
      rw [show (6 : Int32) = zi 6 from rfl, zi_add, show (6 : Int) + ((qMm T k).1 11 : Int) = ((6 + (qMm T k).1 11 : Nat) : Int) by omega]
      exact st
    · rw [if_pos (e4.mp (Decidable.not_not.mp z))] at st
      exact st
  refine w_72 ?_
  rw [n_93m hw a1 h1 (by omega), v95]
  have e43 : zi (T.1 (k - 1) : Int) = 43 ↔ T.1 (k - 1) = 43 := zq_e (l := 43) (n := 43) rfl (by have := qTw_le hw (k - 1); omega) (by omega)
  refine ⟨fun z => ?_, fun z => ?_⟩
  · rw [if_neg (fun y => z (e43.mpr y))] at vz
    rw [vz]
    exact st28
  · rw [if_pos (e43.mp (Decidable.not_not.mp z))] at vz
    rw [vz]
    exact st28
theorem qBd_lt {c n : Nat} (hc : 7 ≤ c ∧ c ≤ 9) (hn : n < qMost (c - 4)) : qBd c n < 28 := by
  have : c = 7 ∨ c = 8 ∨ c = 9 := by omega
  rcases this with z | z | z <;> rw [z] at hn ⊢
  · have hn : n < 12 := hn
    show n < 28
    omega
  · have hn : n < 8 := hn
    show 12 + n < 28
    omega
  · have hn : n < 8 := hn
    show 20 + n < 28
    omega
theorem n_64 {S : zI} {J : zJ} {c N : Nat} (h4 : S 19 4 = zi (c : Int)) (h5 : S 19 5 = zi (N : Int)) (hc : 7 ≤ c ∧ c ≤ 9) : zv_64 S J = zi (qBd c N : Int) := by
  unfold zv_64
  rw [h4, h5]
  by_cases c7 : c = 7
  · rw [if_pos ((zq_e (l := 7) (n := 7) rfl (by omega) (by omega)).mpr c7), c7]
    rfl
  · rw [if_neg (fun z => c7 ((zq_e (l := 7) (n := 7) rfl (by omega) (by omega)).mp z))]
    by_cases c8 : c = 8
    · rw [if_pos ((zq_e (l := 8) (n := 8) rfl (by omega) (by omega)).mpr c8), c8, show (12 : Int32) = zi 12 from rfl, zi_add]
      rfl
    · rw [if_neg (fun z => c8 ((zq_e (l := 8) (n := 8) rfl (by omega) (by omega)).mp z)), if_pos ((zq_e (l := 9) (n := 9) rfl (by omega) (by omega)).mpr (by omega)), show (20 : Int32) = zi 20 from rfl, zi_add, show c = 9 by omega]
      rfl
/-- when, do: where the code begins -/
theorem c_65 {o v : Nat} (hw : qTw T) (h0 : 4 ≤ T.1 0 ∧ T.1 0 ≤ 10) (hcl : ∀ i, i < k → qEE T i = 0) (hk : k + 1 < T.2.2.2) (c : T.1 k = 13 ∧ o = 17 ∧ v = 1 ∨ T.1 k = 14 ∧ o = 18 ∧ v = 0) (hg : 7 ≤ (qMm T k).1 10 ∧ (qMm T k).1 10 ≤ 9) (hx : qCx T J0 k I J) (H : qCk T J0 k P D I J) : zz RO (d + 2) 65 [.ref 19, .ref o, .int (zi (k : Int))] (zu I 19 7 (zi (v : Int))) J D bc bs P := by
  have hN9 := hw.2.1
  have h1 : 1 ≤ k := by
    by_cases z : k = 0
    · rw [z] at c
      omega
    · omega
  obtain ⟨a1, a2, a3, ⟨b1, b2, b3, b4, b5, b6⟩, a5⟩ := hx
  obtain ⟨s4, s5, s6, s7⟩ := a3 h1
  obtain ⟨k1, k2, k3⟩ := qMm_kn h0 k h1 hcl
  have bl := qBd_lt hg k2
  have v64 : zv_64 (zu I 19 7 (zi (v : Int))) J = zi (qBd ((qMm T k).1 10) ((qMm T k).1 11) : Int) := n_64 (by rw [zu_n _ _ (by omega)]; exact s4) (by rw [zu_n _ _ (by omega)]; exact s5) hg
  have v95 : zv_95 (zu I 19 7 (zi (v : Int))) J (zi (k : Int)) = J0 6 k := by
    rw [n_95 hw (qTc_keep a1 (zu_row _ _ (by decide)) (zu_row _ _ (by decide)) (zu_row _ _ (by decide))) (by omega), a5 k (by omega), qJv_n (fun z => by omega)]
  have eE : qEE T k = 0 := qEE_0 (by omega)
  have f := qM1_f (T := T) (k := k) (m := qMm T k) (by omega)
  have fin : ∀ S, S = zu (zu I 19 7 (zi (v : Int))) o (qBd ((qMm T k).1 10) ((qMm T k).1 11)) (J0 6 k).toInt32 → P (.inl none) S J D := fun S hS => by
    have f9 : zfr cmL I S := by
      rw [hS]
      exact zfr_zu (zfr_zu (zfr_refl I) _ _ (by simp)) _ _ (by rcases c with z | z <;> rw [z.2.1] <;> simp)
    have row : ∀ q, ¬ q = 19 → ¬ q = o → S q = I q := fun q h1 h2 => by rw [hS, zu_row _ _ h2, zu_row _ _ h1]
    have o1 : o = 17 ∨ o = 18 := by omega
    have r19 : ∀ j, S 19 j = if j = 7 then zi (v : Int) else I 19 j := fun j => by
      rw [hS, zu_n _ _ (by omega)]
      by_cases e : j = 7
      · rw [if_pos e, e, zu_s]
      · rw [if_neg e, zu_n _ _ (fun z => e z.2)]
    refine H.1 eE S J f9 (zfr_refl _) (by rw [row 12 (by omega) (by omega)]) (by rw [r19, if_neg (by omega)]) ⟨qTc_keep a1 (row 3 (by omega) (by omega)) (row 4 (by omega) (by omega)) (row 5 (by omega) (by omega)), fun x hx => ?_, fun _ => ?_, ⟨fun x hx hx2 => ?_, fun i hi hi2 => ?_, fun i hi hi2 => ?_, fun b hb hb2 => ?_, fun b hb hb2 => ?_, fun hp => ?_⟩, fun j hj => ?_⟩
    · show _ = zi ((qM1 T k (qMm T k)).1 x : Int)
      rw [f.1 x (by omega) (by omega), row 13 (by omega) (by omega)]
      exact a2 x hx
    · show S 19 4 = zi ((qM1 T k (qMm T k)).1 10 : Int) ∧ S 19 5 = zi ((qM1 T k (qMm T k)).1 11 : Int) ∧ S 19 6 = zi ((qM1 T k (qMm T k)).1 12 : Int) ∧ S 19 7 = zi ((qM1 T k (qMm T k)).1 13 : Int)
      rw [f.1 10 (by omega) (by omega), f.1 11 (by omega) (by omega), (f.2.1 (fun z => by omega)).2, r19, r19, r19, r19, if_neg (by omega), if_neg (by omega), if_neg (by omega), if_pos rfl]
      refine ⟨s4, s5, s6, ?_⟩
      rcases c with z | z
      · unfold qM1
        rw [if_neg (by omega), if_neg (by omega), if_neg (by omega), if_pos z.1, z.2.2]
        show zi _ = zi ((qup (qMm T k).1 13 1 13 : Nat) : Int)
        rw [qup_s]
      · unfold qM1
        rw [if_neg (by omega), if_neg (by omega), if_neg (by omega), if_neg (by omega), if_pos z.1, z.2.2]
        show zi _ = zi ((qup (qMm T k).1 13 0 13 : Nat) : Int)
        rw [qup_s]
    · show _ = zi ((qM1 T k (qMm T k)).2.1 x)
      rw [(f.2.1 (fun z => by omega)).1, row 14 (by omega) (by omega)]
      exact b1 x hx (w14_old hx2 (fun z => by omega))
    · have hi2 : i < (qM1 T k (qMm T k)).1 2 := hi2
      show _ = (qM1 T k (qMm T k)).2.2.1 i
      rw [f.1 2 (by omega) (by omega)] at hi2
      rw [f.2.2.1 (fun z => by omega), row 15 (by omega) (by omega)]
      exact b2 i hi hi2
    · show _ = zi ((qM1 T k (qMm T k)).2.2.2.1 i : Int)
      rw [f.2.2.2.1 (fun z => by omega), row 16 (by omega) (by omega)]
      exact b3 i hi (w16_old hi2 (fun z => by omega))
    · show _ = qWn J0 ((qM1 T k (qMm T k)).2.2.2.2.1 b)
      have old := b4 b hb (w17_old hb2 (fun z => by omega))
      rcases c with z | z
      · have e : (qM1 T k (qMm T k)).2.2.2.2.1 = qup (qMm T k).2.2.2.2.1 (qBd ((qMm T k).1 10) ((qMm T k).1 11)) (some k) := (qMm_13 z.1).2.2.2.2.1
        rw [e, hS, z.2.1]
        by_cases y : b = qBd ((qMm T k).1 10) ((qMm T k).1 11)
        · rw [y, zu_s, qup_s]
          rfl
        · rw [zu_n _ _ (fun x => y x.2), qup_n _ _ y, zu_row _ _ (by decide)]
          exact old
      · rw [f.2.2.2.2.1 (by omega), row 17 (by omega) (by omega)]
        exact old
    · show _ = (J0 6 ((qM1 T k (qMm T k)).2.2.2.2.2 b)).toInt32
      rcases c with z | z
      · rw [f.2.2.2.2.2.1 (by omega), row 18 (by omega) (by omega)]
        exact b5 b hb (w18_old hb2 (fun z => by omega))
      · have e : (qM1 T k (qMm T k)).2.2.2.2.2 = qup (qMm T k).2.2.2.2.2 (qBd ((qMm T k).1 10) ((qMm T k).1 11)) k := (qMm_d14 z.1).2.2.2.2.2
        rw [e, hS, z.2.1]
        by_cases y : b = qBd ((qMm T k).1 10) ((qMm T k).1 11)
        · rw [y, zu_s, qup_s]
        · rw [zu_n _ _ (fun x => y x.2), qup_n _ _ y, zu_row _ _ (by decide)]
          exact b5 b hb (w18_old hb2 (fun _ => y))
    · have hp : 0 < (qM1 T k (qMm T k)).1 6 := hp
      show _ = (J0 6 ((qM1 T k (qMm T k)).1 14)).toInt32
      rw [f.1 6 (by omega) (by omega)] at hp
      rw [f.1 14 (by omega) (by omega), row 12 (by omega) (by omega)]
      exact b6 hp
    · rw [qJv_s (fun z => by omega)]
      exact a5 j hj
  have g : ∀ b9 : Nat, (zv_64 (zu I 19 7 (zi (v : Int))) J) = zi (b9 : Int) → b9 < 28 → ¬ (zv_64 (zu I 19 7 (zi (v : Int))) J) < 0 ∧ ¬ 28 ≤ (zv_64 (zu I 19 7 (zi (v : Int))) J) ∧ (zv_64 (zu I 19 7 (zi (v : Int))) J).toNatClampNeg = b9 := fun b9 e hb => by
    rw [e]
    exact ⟨fun z => by rw [zq_l (l := 0) (n := 0) rfl (by omega) (by omega)] at z; omega, fun z => by rw [zq_p (l := 28) (n := 28) rfl (by omega) (by omega)] at z; omega, zi_clk (by omega)⟩
  obtain ⟨g1, g2, g3⟩ := g _ v64 bl
  rcases c with z | z
  · obtain ⟨z1, rfl, rfl⟩ := z
    refine w_65a ⟨fun y => absurd y g1, fun _ => ⟨fun y => absurd y g2, fun _ => ?_⟩⟩
    rw [g3, v95]
    exact fin _ rfl
  · obtain ⟨z1, rfl, rfl⟩ := z
    refine w_65b ⟨fun y => absurd y g1, fun _ => ⟨fun y => absurd y g2, fun _ => ?_⟩⟩
    rw [g3, v95]
    exact fin _ rfl
end CMean3

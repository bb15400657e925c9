/-! ===== the class's meaning: all tokens ===== -/
section CMean5
variable {RO : zRo} {d : Nat} {P : zP} {I : zI} {J : zJ} {D : zD} {bc bs : Nat} {T : qTk} {k : Nat} {J0 : zJ}
theorem c_62 (hRO : zROk RO) (hw : qTw T) (hv : qTv T) (hJ0 : ∀ t, t < T.2.2.2 → ¬ ent (T.1 t) → J0 6 t = T.2.2.1 t) (hnm : ∀ c, 4 ≤ c ∧ c ≤ 9 → ∀ i, T.1 i = c → T.1 (i + 1) = 2) (hg : ∀ j, T.1 j = 13 ∨ T.1 j = 14 → 7 ≤ (qMm T j).1 10 ∧ (qMm T j).1 10 ≤ 9) (h0 : 4 ≤ T.1 0 ∧ T.1 0 ≤ 10) (hcl : ∀ i, i < k → qEE T i = 0) (hk : k + 1 < T.2.2.2) (hx : qCx T J0 k I J) (H : qCk T J0 k P D I J) : zz RO (d + 5) 62 [.ref 19, .int (zi (k : Int)), .int (zi (T.1 k : Int))] I J D bc bs P := by
  have hN9 := hw.2.1
  have lt := qTw_le hw k
  have eq : ∀ n : Nat, n ≤ 1000 → (zi (T.1 k : Int) = zi (n : Int) ↔ T.1 k = n) := fun n hn => zq_e (n := n) rfl (by omega) (by omega)
  have e2 : zi (T.1 k : Int) = 2 ↔ T.1 k = 2 := eq 2 (by omega)
  have e3 : zi (T.1 k : Int) = 3 ↔ T.1 k = 3 := eq 3 (by omega)
  have e13 : zi (T.1 k : Int) = 13 ↔ T.1 k = 13 := eq 13 (by omega)
  have e14 : zi (T.1 k : Int) = 14 ↔ T.1 k = 14 := eq 14 (by omega)
  have e27 : zi (T.1 k : Int) = 27 ↔ T.1 k = 27 := eq 27 (by omega)
  have e410 : (zi (T.1 k : Int) = 4 ∨ zi (T.1 k : Int) = 5 ∨ zi (T.1 k : Int) = 6 ∨ zi (T.1 k : Int) = 7 ∨ zi (T.1 k : Int) = 8 ∨ zi (T.1 k : Int) = 9 ∨ zi (T.1 k : Int) = 10) ↔ 4 ≤ T.1 k ∧ T.1 k ≤ 10 := by
    rw [show (zi (T.1 k : Int) = 4) ↔ T.1 k = 4 from eq 4 (by omega), show (zi (T.1 k : Int) = 5) ↔ T.1 k = 5 from eq 5 (by omega), show (zi (T.1 k : Int) = 6) ↔ T.1 k = 6 from eq 6 (by omega), show (zi (T.1 k : Int) = 7) ↔ T.1 k = 7 from eq 7 (by omega), show (zi (T.1 k : Int) = 8) ↔ T.1 k = 8 from eq 8 (by omega), show (zi (T.1 k : Int) = 9) ↔ T.1 k = 9 from eq 9 (by omega), show (zi (T.1 k : Int) = 10) ↔ T.1 k = 10 from eq 10 (by omega)]
    omega
  have one : ¬ (4 ≤ T.1 k ∧ T.1 k ≤ 10) → 1 ≤ k := fun z => by
    by_cases y : k = 0
    · rw [y] at z
      exact absurd h0 z
    · omega
  have H9 : qCk T J0 k (zNv P fun I8 J8 D8 => P (.inl none) I8 J8 D8) D I J := H
  have quiet : qMm T (k + 1) = qMm T k → qEE T k = 0 → ¬ T.1 k = 2 → 1 ≤ k → (T.1 k = 3 → ¬ ((qMm T k).1 10 = 4 ∨ (qMm T k).1 10 = 5)) → ¬ (7 ≤ T.1 k ∧ T.1 k ≤ 9) → ¬ T.1 k = 14 → P (.inl none) I J D := fun eM eE n2 h1 n3 n7 n14 => by
    refine H.1 eE I J (zfr_refl _) (zfr_refl _) rfl rfl (qCx_0 hx eM h1 n3 (fun z => absurd z n2) n7 n14 (fun j hj => ?_))
    rw [qJv_s (fun z => n2 z.1)]
    exact hx.2.2.2.2 j hj
  refine w_62 (d := d + 3) ⟨fun z => ?_, fun z2 => ⟨fun z => ?_, fun z3 => ⟨fun z => ?_, fun zi9 => ⟨fun z => ?_, fun z13 => ⟨fun z => ?_, fun z14 => ⟨fun z => ?_, fun z27 => ?_⟩⟩⟩⟩⟩⟩
  · have c2 := e2.mp z
    rw [n_93m hw hx.1 (one (by omega)) (by omega)]
    exact c_66 (d := d) hw hJ0 hnm h0 hcl hk c2 hx H9
  · have c3 := e3.mp z
    have h1 := one (by omega)
    rw [(hx.2.2.1 h1).1]
    have k1 := (qMm_kn h0 k h1 hcl).1
    have e4 : zi ((qMm T k).1 10 : Int) = 4 ↔ (qMm T k).1 10 = 4 := zq_e (l := 4) (n := 4) rfl (by omega) (by omega)
    have e5 : zi ((qMm T k).1 10 : Int) = 5 ↔ (qMm T k).1 10 = 5 := zq_e (l := 5) (n := 5) rfl (by omega) (by omega)
    have hj := hJ0 k (by omega) (by unfold ent; omega)
    refine ⟨fun y => c_72 (d := d + 2) hw hv h0 hj hcl hk c3 (Or.inl (e4.mp y)) hx H9, fun y4 => ⟨fun y => ?_, fun y => c_72 (d := d + 2) hw hv h0 hj hcl hk c3 (Or.inr (e5.mp (Decidable.not_not.mp y))) hx H9⟩⟩
    have n45 : ¬ ((qMm T k).1 10 = 4 ∨ (qMm T k).1 10 = 5) := fun x => x.elim (fun x => y4 (e4.mpr x)) (fun x => y (e5.mpr x))
    refine quiet ((qM1_n c3).2 n45) ?_ (by omega) h1 (fun _ => n45) (by omega) (by omega)
    unfold qEE qE1
    rw [if_neg (by omega), if_neg (by omega), if_pos c3, if_neg (fun x => n45 x.1)]
  · exact c_63 (d := d + 2) hRO hw hcl hk (e410.mp z) hx H9
  · have c := e13.mp z
    exact c_65 (d := d + 2) (o := 17) (v := 1) hw h0 hcl hk (Or.inl ⟨c, rfl, rfl⟩) (hg k (Or.inl c)) hx H9
  · have c := e14.mp z
    exact c_65 (d := d + 2) (o := 18) (v := 0) hw h0 hcl hk (Or.inr ⟨c, rfl, rfl⟩) (hg k (Or.inr c)) hx H9
  · have c := e27.mp z
    have h1 := one (by omega)
    have v13 := qMm_13v (T := T) k
    rw [(hx.2.2.1 h1).2.2.2]
    have e0 : zi ((qMm T k).1 13 : Int) = 0 ↔ (qMm T k).1 13 = 0 := zq_e (l := 0) (n := 0) rfl (by omega) (by omega)
    have eE : qEE T k = if (qMm T k).1 13 = 1 then 6 else 0 := by
      unfold qEE qE1
      rw [if_neg (by omega), if_neg (by omega), if_neg (by omega), if_pos c]
    refine ⟨fun y => ?_, fun y => ?_⟩
    · have y := e0.mp y
      rw [if_neg (by omega)] at eE
      exact quiet (qMm_0 (by omega)) eE (by omega) h1 (fun x => by omega) (by omega) (by omega)
    · have y : ¬ (qMm T k).1 13 = 0 := fun x => y (e0.mpr x)
      rw [if_pos (by omega)] at eE
      refine w_61 (d := d + 3) ?_
      refine H.2 (by omega) _ J (zfr_zu (zfr_zu (zfr_refl I) 3 _ (by simp)) 2 _ (by simp)) (zfr_refl _) ?_ ?_ ?_
      · rw [zu_row _ _ (by decide), zu_row _ _ (by decide)]
      · rw [zu_n _ _ (by omega), zu_s, eE]
        rfl
      · rw [zu_s]
  · have c2 : ¬ T.1 k = 2 := fun y => z2 (e2.mpr y)
    have c3 : ¬ T.1 k = 3 := fun y => z3 (e3.mpr y)
    have ci : ¬ (4 ≤ T.1 k ∧ T.1 k ≤ 10) := fun y => zi9 (e410.mpr y)
    have c13 : ¬ T.1 k = 13 := fun y => z13 (e13.mpr y)
    have c14 : ¬ T.1 k = 14 := fun y => z14 (e14.mpr y)
    have c27 : ¬ T.1 k = 27 := fun y => z27 (e27.mpr y)
    exact quiet (qMm_0 ⟨ci, c2, c3, c13, c14⟩) (qEE_0 ⟨ci, c2, c3, c27⟩) c2 (one ci) (fun y => absurd y c3) (by omega) c14
/-- what the look at the meaning owes -/
def qCl (T : qTk) (J0 : zJ) (P : zP) (D : zD) (I : zI) (J : zJ) : Prop :=
  (∀ i, i + 1 < T.2.2.2 → (∀ j, j < i → qEE T j = 0) → ¬ qEE T i = 0 → ∀ I' J', zfr cmL I I' → zfr [6] J J' → I' 12 7 = I 12 7 → I' 19 2 = zi (i : Int) → P (.inl (some (.int (zi (qEE T i : Int))))) I' J' D) ∧
  ((∀ j, j + 1 < T.2.2.2 → qEE T j = 0) → ((qMm T (T.2.2.2 - 1)).1 2 = 0 ∨ (qMm T (T.2.2.2 - 1)).1 6 = 0) → ∀ I' J', zfr cmL I I' → zfr [6] J J' → I' 12 7 = I 12 7 → I' 19 2 = zi ((T.2.2.2 - 1 : Nat) : Int) → P (.inl (some (.int 7))) I' J' D) ∧
  ((∀ j, j + 1 < T.2.2.2 → qEE T j = 0) → ¬ ((qMm T (T.2.2.2 - 1)).1 2 = 0 ∨ (qMm T (T.2.2.2 - 1)).1 6 = 0) → ∀ I' J', zfr cmL I I' → zfr [6] J J' → I' 12 7 = I 12 7 → qCx T J0 (T.2.2.2 - 1) I' J' → P (.inl (some (.int 0))) I' J' D)
theorem qCl_fr {I1 : zI} {J1 : zJ} (h : qCl T J0 P D I J) (f : zfr cmL I I1) (g : zfr [6] J J1) (e : I1 12 7 = I 12 7) : qCl T J0 P D I1 J1 :=
  ⟨fun i q1 q2 q3 I' J' f1 g1 e1 => h.1 i q1 q2 q3 I' J' (zfr_trans f f1) (zfr_trans g g1) (e1.trans e), fun q1 q2 I' J' f1 g1 e1 => h.2.1 q1 q2 I' J' (zfr_trans f f1) (zfr_trans g g1) (e1.trans e), fun q1 q2 I' J' f1 g1 e1 => h.2.2 q1 q2 I' J' (zfr_trans f f1) (zfr_trans g g1) (e1.trans e)⟩
theorem c_60_17 (hRO : zROk RO) (hw : qTw T) (hv : qTv T) (hJ0 : ∀ t, t < T.2.2.2 → ¬ ent (T.1 t) → J0 6 t = T.2.2.1 t) (hnm : ∀ c, 4 ≤ c ∧ c ≤ 9 → ∀ i, T.1 i = c → T.1 (i + 1) = 2) (hg : ∀ j, T.1 j = 13 ∨ T.1 j = 14 → 7 ≤ (qMm T j).1 10 ∧ (qMm T j).1 10 ≤ 9) (h0 : 4 ≤ T.1 0 ∧ T.1 0 ≤ 10) : ∀ {m k : Nat} {I : zI} {J : zJ}, k + m + 1 = T.2.2.2 → (∀ i, i < k → qEE T i = 0) → I 19 3 = 0 → qCx T J0 k I J → qCl T J0 P D I J →
    zw RO (d + 5) 60 P 17 [(0, .ref 19), (1, .int (zi ((T.2.2.2 - 1 : Nat) : Int))), (2, .int (zi (k : Int)))] [] I J D bc bs
  | 0, k, I, J, hm, hcl, h3, hx, H => by
    have hN9 := hw.2.1
    have q : zi ((T.2.2.2 - 1 : Nat) : Int) ≤ zi (k : Int) := by rw [zi_le (by omega) (by omega)]; omega
    have ek : k = T.2.2.2 - 1 := by omega
    have mx2 : (qMm T k).1 2 ≤ 12 := qPg_mx hcl 2 (by omega)
    have mx6 : (qMm T k).1 6 ≤ 12 := qPg_mx hcl 6 (by omega)
    have v2 : zv_75 I J 2 = zi ((qMm T k).1 2 : Int) := hx.2.1 2 (by omega)
    have v6 : zv_75 I J 6 = zi ((qMm T k).1 6 : Int) := hx.2.1 6 (by omega)
    have e2 : zi ((qMm T k).1 2 : Int) = 0 ↔ (qMm T k).1 2 = 0 := zq_e (l := 0) (n := 0) rfl (by omega) (by omega)
    have e6 : zi ((qMm T k).1 6 : Int) = 0 ↔ (qMm T k).1 6 = 0 := zq_e (l := 0) (n := 0) rfl (by omega) (by omega)
    have clean : ∀ j, j + 1 < T.2.2.2 → qEE T j = 0 := fun j hj => hcl j (by omega)
    have bad : ((qMm T k).1 2 = 0 ∨ (qMm T k).1 6 = 0) → zz RO (d + 5) 61 [.ref 19, .int 7, .int (zi ((T.2.2.2 - 1 : Nat) : Int))] I J D 0 0 (zNv P fun I1 J1 D1 => P (.inl (some (.int (I1 19 3)))) I1 J1 D1) := fun z => by
      refine w_61 (d := d + 4) ?_
      show P (.inl (some (.int ((zu (zu I 19 3 7) 19 2 (zi ((T.2.2.2 - 1 : Nat) : Int))) 19 3)))) _ J D
      rw [zu_n _ _ (by omega), zu_s]
      rw [ek] at z
      exact H.2.1 clean z _ J (zfr_zu (zfr_zu (zfr_refl I) 3 _ (by simp)) 2 _ (by simp)) (zfr_refl _) (by rw [zu_row _ _ (by decide), zu_row _ _ (by decide)]) (zu_s _ _ _ _)
    refine wl_60_17 (d := d + 4) ⟨fun _ => ⟨fun z => absurd h3 z, fun _ => ⟨fun z => bad (Or.inl (e2.mp (by rw [← v2]; exact z))), fun z => ⟨fun z6 => ?_, fun z6 => bad (Or.inr (e6.mp (by rw [← v6]; exact Decidable.not_not.mp z6)))⟩⟩⟩, fun z => absurd q z⟩
    rw [h3]
    rw [v2] at z
    rw [v6] at z6
    refine H.2.2 clean ?_ I J (zfr_refl _) (zfr_refl _) rfl (by rw [← ek]; exact hx)
    rw [← ek]
    exact fun y => y.elim (fun y => z (e2.mpr y)) (fun y => z6 (e6.mpr y))
  | m + 1, k, I, J, hm, hcl, h3, hx, H => by
    have hN9 := hw.2.1
    have q : ¬ zi ((T.2.2.2 - 1 : Nat) : Int) ≤ zi (k : Int) := by rw [zi_le (by omega) (by omega)]; omega
    refine wl_60_17 (d := d + 4) ⟨fun z => absurd z q, fun _ => ⟨fun z => absurd h3 z, fun _ => ?_⟩⟩
    rw [n_93 hw hx.1 (by omega), zi_succ]
    refine c_62 (d := d) hRO hw hv hJ0 hnm hg h0 hcl (by omega) hx ⟨fun eE I' J' f g e12 e3 hx' => ?_, fun eE I' J' f g e12 e3 e2 => ?_⟩
    · refine c_60_17 hRO hw hv hJ0 hnm hg h0 (m := m) (k := k + 1) (by omega) (fun i hi => ?_) (by rw [e3]; exact h3) hx' (qCl_fr H f g e12)
      by_cases e : i = k
      · rw [e]
        exact eE
      · exact hcl i (by omega)
    · have b : qEE T k ≤ 6 := by
        unfold qEE qE1
        (repeat' split) <;> omega
      have n0 : ¬ I' 19 3 = 0 := by
        rw [e3, show (0 : Int32) = zi ((0 : Nat) : Int) from rfl, zi_eq (by omega) (by omega)]
        omega
      have fin : P (.inl (some (.int (I' 19 3)))) I' J' D := by
        rw [e3]
        exact H.1 k (by omega) hcl eE I' J' f g e12 e2
      exact wl_60_17 (d := d + 4) ⟨fun _ => ⟨fun _ => fin, fun z => absurd n0 z⟩, fun _ => ⟨fun _ => fin, fun z => absurd n0 z⟩⟩
/-- the look at the meaning -/
theorem c_60 (hRO : zROk RO) (hw : qTw T) (hv : qTv T) (hJ0 : ∀ t, t < T.2.2.2 → ¬ ent (T.1 t) → J 6 t = T.2.2.1 t) (hnm : ∀ c, 4 ≤ c ∧ c ≤ 9 → ∀ i, T.1 i = c → T.1 (i + 1) = 2) (hg : ∀ j, T.1 j = 13 ∨ T.1 j = 14 → 7 ≤ (qMm T j).1 10 ∧ (qMm T j).1 10 ≤ 9) (h0 : 4 ≤ T.1 0 ∧ T.1 0 ≤ 10) (ht : qTc T I) (h13 : ∀ x, x ≤ 6 → I 13 x = 0) (H : qCl T J P D I J) : zz RO (d + 6) 60 [.ref 19] I J D bc bs P := by
  have hN := hw.1
  have hN9 := hw.2.1
  refine w_60 (d := d + 4) ?_
  rw [ht.1, show zi (T.2.2.2 : Int) - 1 = zi ((T.2.2.2 - 1 : Nat) : Int) by rw [show (1 : Int32) = zi 1 from rfl, zi_sub]; congr 1; omega]
  have f : zfr cmL I (zu I 19 3 0) := zfr_zu (zfr_refl I) _ _ (by simp)
  refine c_60_17 (d := d) (J0 := J) hRO hw hv hJ0 hnm hg h0 (m := T.2.2.2 - 1) (k := 0) (by omega) (fun i hi => by omega) (zu_s _ _ _ _) ⟨qTc_keep ht (f 3 (by decide)) (f 4 (by decide)) (f 5 (by decide)), fun x hx => ?_, fun z => by omega, ⟨fun x _ h => ?_, fun i _ h => ?_, fun i _ h => ?_, fun b _ h => ?_, fun b _ h => ?_, fun h => ?_⟩, fun j hj => ?_⟩ (qCl_fr H f (zfr_refl _) (by rw [zu_row _ _ (by decide)]))
  · rw [zu_row _ _ (by decide), h13 x hx]
    rfl
  · obtain ⟨j, h, _⟩ := h
    omega
  · have h : i < 0 := h
    omega
  · obtain ⟨j, h, _⟩ := h
    omega
  · obtain ⟨j, h, _⟩ := h
    omega
  · obtain ⟨j, h, _⟩ := h
    omega
  · have h : 0 < 0 := h
    omega
  · rw [qJv_n (fun z => by omega)]
end CMean5

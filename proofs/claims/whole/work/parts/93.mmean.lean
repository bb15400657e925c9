/-! ===== the reference's meaning: names found anywhere, whole numbers ===== -/
section MMean
variable {RO : zRo} {d : Nat} {P : zP} {I : zI} {J : zJ} {D : zD} {bc bs : Nat} {T : qTk} {tb : List (Int64 × Nat × Nat)} {mn ct k dp a j c : Nat} {I0 : zI} {J0 : zJ}
/-- behind what was found, or not -/
theorem s_165_e {o : Option Nat} (hw : qTw T) (ht : qTm T I J) (h24 : I 28 24 = zi (k : Int)) (h25 : I 28 25 = zi (mn : Int)) (hm : mn = 0 ∨ mn = 1) (hn : k < T.2.2.2) (ho : ∀ m, o = some m → m < 1000) (He : mn = 1 → o = none → (1 ≤ bc ∧ 8 ≤ bs) ∧ P (.inr (3, 2, zi (T.2.1 k : Int))) I J D) (Hk : (mn = 1 → ∃ m, o = some m) → ∀ I', I' 28 24 = zi ((k + 1 : Nat) : Int) → zfm [24] [] I I' → P (.inl (some (.int (oInt o)))) I' J D) :
    ((oInt o = (-1) → (vp_in (I 28 24) 452 ∧ (∃ c1 s1, c1 ≤ bc ∧ s1 ≤ bs ∧ zz RO (d + 1) 150 [.ref 28, .int 0, .int 2, .int (I 32 ((I 28 24).toNatClampNeg))] I J D c1 s1 (zNv P fun I1 J1 D1 => P (.inl (some (.int (oInt o)))) (zu I1 28 24 ((I1 28 24) + 1)) J1 D1)))) ∧ (¬ (oInt o = (-1)) → (vp_in (I 28 24) 452 ∧ (∃ c2 s2, c2 ≤ bc ∧ s2 ≤ bs ∧ zz RO (d + 1) 150 [.ref 28, .int 1, .int 2, .int (I 32 ((I 28 24).toNatClampNeg))] I J D c2 s2 (zNv P fun I2 J2 D2 => P (.inl (some (.int (oInt o)))) (zu I2 28 24 ((I2 28 24) + 1)) J2 D2))))) := by
  have vi := n_in hw h24 hn
  have pl := n_pl ht h24 hw hn
  have K : (mn = 1 → ∃ m, o = some m) → P (.inl (some (.int (oInt o)))) (zu I 28 24 ((I 28 24) + 1)) J D := fun z => Hk z _ (by rw [zu_s, h24, zi_succ]) (zfm_z (zfm_refl _) _ _ (by decide))
  refine ⟨fun q => ⟨vi, ?_⟩, fun q => ⟨vi, 0, 0, Nat.zero_le _, Nat.zero_le _, s_150t (Or.inr (by decide)) (K (fun _ => by
    cases o with
    | none => exact absurd rfl q
    | some m => exact ⟨m, rfl⟩))⟩⟩
  rcases hm with m0 | m1
  · exact ⟨0, 0, Nat.zero_le _, Nat.zero_le _, s_150t (Or.inl (by rw [h25, m0]; rfl)) (K (fun z => by omega))⟩
  · cases o with
    | none =>
      obtain ⟨b1, b2⟩ := He m1 rfl
      refine ⟨bc, bs, Nat.le_refl _, Nat.le_refl _, ?_⟩
      rw [pl]
      exact s_150f (by rw [h25, m1]; rfl) rfl b1 b2
    | some m =>
      have := ho m rfl
      have q : zi (m : Int) = (-1) := q
      rw [show (-1 : Int32) = zi (-1) from rfl, zi_eq (by omega) (by omega)] at q
      omega
theorem oInt_none {m : Nat} (h : m < 1000) : ¬ oInt (some m) = -1 := by
  show ¬ zi (m : Int) = -1
  rw [show (-1 : Int32) = zi (-1) from rfl, zi_eq (by omega) (by omega)]
  omega
theorem qCn_lt {T : qTk} {c k : Nat} : qCn T.1 c k ≤ k := by
  induction k with
  | zero => exact Nat.le_refl _
  | succ k ih =>
    show (if T.1 k = c then _ else _) ≤ _
    split <;> omega
theorem s_165_22 (hw : qTw T) (ht : qTm T I J) (h24 : I 28 24 = zi (k : Int)) (h25 : I 28 25 = zi ((1 : Nat) : Int)) (hn : k < T.2.2.2) (hc : 4 ≤ c ∧ c ≤ 9) (hk : T.1 k = 2) (hnm : ∀ i, T.1 i = c → T.1 (i + 1) = 2) (He : qFd T c (T.2.2.1 k) T.2.2.2 = none → (1 ≤ bc ∧ 8 ≤ bs) ∧ P (.inr (3, 2, zi (T.2.1 k : Int))) I J D) (Hk : ∀ m I', qFd T c (T.2.2.1 k) T.2.2.2 = some m → I' 28 24 = zi ((k + 1 : Nat) : Int) → zfm [24] [] I I' → P (.inl (some (.int (zi (m : Int))))) I' J D) :
    ∀ (e i : Nat), i + 1 + e = T.2.2.2 → zw RO (d + 2) 165 P 22 [(0, .ref 28), (1, .int (zi (qkm c : Int))), (2, .int (zi (qCn T.1 c i : Int))), (3, .int (oInt (qFd T c (T.2.2.1 k) (i + 1)))), (4, .int (zi (i : Int)))] [] I J D bc bs := by
  have hN := hw.2.1
  have big : ∀ {e m : Nat}, qFd T c (T.2.2.1 k) e = some m → e ≤ T.2.2.2 → m < 1000 := fun {e m} h he => by
    have h1 := qFd_lt h
    have h2 := qCn_lt (T := T) (c := c) (k := e)
    omega
  have G : ∀ {o : Option Nat}, (∀ m, o = some m → m < 1000) → (o = none → qFd T c (T.2.2.1 k) T.2.2.2 = none) → (∀ m, o = some m → qFd T c (T.2.2.1 k) T.2.2.2 = some m) → _ := fun {o} h1 h2 h3 => s_165_e (RO := RO) (d := d + 1) (P := P) (D := D) (bc := bc) (bs := bs) (o := o) hw ht h24 h25 (Or.inr rfl) hn h1 (fun _ h => He (h2 h)) (fun hz I' q1 q2 => by
    obtain ⟨m, hm⟩ := hz rfl
    rw [hm]
    exact Hk m I' (h3 m hm) q1 q2)
  intro e
  induction e with
  | zero =>
    intro i hi
    have ei : i + 1 = T.2.2.2 := by omega
    rw [ei]
    have G1 := G (o := qFd T c (T.2.2.1 k) T.2.2.2) (fun m hm => big hm (Nat.le_refl _)) (fun h => h) (fun m h => h)
    exact wl_165_22 (d := d + 1) ⟨fun q => absurd q (by rw [h25]; decide), fun _ => ⟨fun _ => G1, fun q => absurd (by rw [ht.1, zi_succ, zi_le (by omega) (by omega)]; omega) q⟩⟩
  | succ e ih =>
    intro i hi
    have hle := qTw_le hw i
    have lq := qkm_le hle
    have lq2 := qkm_le (show c ≤ 51 by omega)
    have ih1 := ih (i + 1) (by omega)
    have cli : (zi (i : Int)).toNatClampNeg = i := by rw [zi_cl (by omega) (by omega)]; omega
    have cli1 : (zi ((i + 1 : Nat) : Int)).toNatClampNeg = i + 1 := by rw [zi_cl (by omega) (by omega)]; omega
    have clk : (zi (k : Int)).toNatClampNeg = k := by rw [zi_cl (by omega) (by omega)]; omega
    refine wl_165_22 (d := d + 1) ⟨fun q => absurd q (by rw [h25]; decide), fun _ => ⟨fun q => absurd q (by rw [ht.1, zi_succ, zi_le (by omega) (by omega)]; omega), fun _ => ⟨fun q => ?_, fun q => ?_⟩⟩⟩
    · cases hq : qFd T c (T.2.2.1 k) (i + 1) with
      | none =>
        rw [hq] at q
        exact absurd rfl q
      | some m =>
        rw [hq] at q
        have G1 := G (o := some m) (fun m2 hm => by
          cases hm
          exact big hq (by omega)) (fun h => by cases h) (fun m2 h => by
          cases h
          exact qFd_mono hq (by omega))
        exact G1.2 q
    · have hq : qFd T c (T.2.2.1 k) (i + 1) = none := by
        cases hq : qFd T c (T.2.2.1 k) (i + 1) with
        | none => rfl
        | some m =>
          rw [hq] at q
          exact absurd (oInt_none (big hq (by omega))) q
      have eF : qFd T c (T.2.2.1 k) (i + 1 + 1) = if T.1 i = c ∧ T.2.2.1 (i + 1) = T.2.2.1 k then some (qCn T.1 c i) else none := by
        show (match qFd T c (T.2.2.1 k) (i + 1) with
          | some n => some n
          | none => if 1 ≤ i + 1 ∧ T.1 (i + 1 - 1) = c ∧ T.2.2.1 (i + 1) = T.2.2.1 k then some (qCn T.1 c (i + 1 - 1)) else none) = _
        rw [hq, Nat.add_sub_cancel]
        show (if 1 ≤ i + 1 ∧ T.1 i = c ∧ T.2.2.1 (i + 1) = T.2.2.1 k then _ else _) = _
        by_cases z : T.1 i = c ∧ T.2.2.1 (i + 1) = T.2.2.1 k
        · rw [if_pos z, if_pos ⟨by omega, z⟩]
        · rw [if_neg z, if_neg (fun w => z w.2)]
      have eC : qCn T.1 c (i + 1) = if T.1 i = c then qCn T.1 c i + 1 else qCn T.1 c i := rfl
      rw [eF, eC] at ih1
      rw [hq]
      refine ⟨zi_in (by omega) (by omega) (by omega), ?_⟩
      rw [cli, (ht.2 i (by omega)).1, zi_succ, cli1, h24, clk]
      have e31 : zi (qkm (T.1 i) : Int) = zi (qkm c : Int) ↔ T.1 i = c := by
        rw [zi_eq (by omega) (by omega), ← qkm_eq hle (by omega)]
        omega
      by_cases c1 : T.1 i = c
      · rw [if_pos c1] at ih1
        have n2 := hnm i c1
        rw [(ht.2 (i + 1) (by omega)).2.2 (Or.inl n2), (ht.2 k hn).2.2 (Or.inl hk)]
        refine ⟨fun _ => ⟨zi_in (by omega) (by omega) (by omega), zi_in (by omega) (by omega) (by omega), fun q3 => ?_, fun q3 => ?_⟩, fun q2 => absurd (e31.mpr c1) q2⟩
        · rw [if_neg (fun z => q3 z.2)] at ih1
          rw [zi_succ]
          exact ih1
        · have q4 : T.2.2.1 (i + 1) = T.2.2.1 k := by
            by_cases z : T.2.2.1 (i + 1) = T.2.2.1 k
            · exact z
            · exact absurd z q3
          rw [if_pos ⟨c1, q4⟩] at ih1
          rw [zi_succ]
          exact ih1
      · rw [if_neg c1, if_neg (fun z => c1 z.1)] at ih1
        exact ⟨fun q2 => absurd (e31.mp q2) c1, fun _ => ih1⟩
/-- the number of the item of a sort that is named here, wherever it stands -/
theorem s_165 (hw : qTw T) (ht : qTm T I J) (h24 : I 28 24 = zi (k : Int)) (h25 : I 28 25 = zi (mn : Int)) (hm : mn = 0 ∨ mn = 1) (hn : k < T.2.2.2) (hc : 4 ≤ c ∧ c ≤ 9) (hnm : mn = 1 → ∀ i, T.1 i = c → T.1 (i + 1) = 2)
    (Hf : ¬ T.1 k = 2 → (1 ≤ bc ∧ 8 ≤ bs) ∧ P (.inr (3, 1, zi (T.2.1 k : Int))) I J D) (He : T.1 k = 2 → mn = 1 → qFd T c (T.2.2.1 k) T.2.2.2 = none → (1 ≤ bc ∧ 8 ≤ bs) ∧ P (.inr (3, 2, zi (T.2.1 k : Int))) I J D) (Hk : T.1 k = 2 → ∀ v I', (mn = 1 → ∃ m, qFd T c (T.2.2.1 k) T.2.2.2 = some m ∧ v = zi (m : Int)) → I' 28 24 = zi ((k + 1 : Nat) : Int) → zfm [24] [] I I' → P (.inl (some (.int v))) I' J D) : zz RO (d + 3) 165 [.ref 28, .int (zi (qkm c : Int))] I J D bc bs P := by
  have hN := hw.2.1
  obtain ⟨o, h1, h2⟩ := n_148 (a := 2) hw ht h24 hn (by omega)
  refine w_165 (d := d + 1) ⟨o, fun q => ?_, fun q => ?_⟩
  · have c2 : T.1 k = 2 := by
      by_cases z : T.1 k = 2
      · exact z
      · exact absurd (h1.mpr z) q
    rcases hm with m0 | m1
    · have G1 := s_165_e (RO := RO) (d := d + 1) (P := P) (D := D) (bc := bc) (bs := bs) (o := none) hw ht h24 h25 (Or.inl m0) hn (fun m h => by cases h) (fun z => by omega) (fun _ I' q1 q2 => Hk c2 _ I' (fun z => by omega) q1 q2)
      exact wl_165_22 (d := d + 1) ⟨fun _ => G1, fun q => absurd (by rw [h25, m0]; rfl) q⟩
    · subst m1
      have := s_165_22 (RO := RO) (d := d) (c := c) hw ht h24 h25 hn hc c2 (hnm rfl) (He c2 rfl) (fun m I' hm q1 q2 => Hk c2 _ I' (fun _ => ⟨m, hm, rfl⟩) q1 q2) (T.2.2.2 - 1) 0 (by have := hw.1; omega)
      exact this
  · have c2 : ¬ T.1 k = 2 := fun z => q (fun w => h1.mp w z)
    obtain ⟨b1, b2⟩ := Hf c2
    refine ⟨b1, n_in hw h24 hn, ?_⟩
    rw [n_pl ht h24 hw hn]
    exact b2
end MMean

/-! ===== the class's reading: tokens, take, append, expressions ===== -/
/-- tokens: sorts, starts, values, how many -/
abbrev qTk : Type := (Nat → Nat) × (Nat → Nat) × (Nat → Int64) × Nat
def qTw (T : qTk) : Prop := 1 ≤ T.2.2.2 ∧ T.2.2.2 ≤ 451 ∧ (∀ k, k + 1 < T.2.2.2 → 2 ≤ T.1 k ∧ T.1 k ≤ 51) ∧ T.1 (T.2.2.2 - 1) ≤ 1 ∧ ∀ k, T.2.2.2 ≤ k → T.1 k = 0
def qTc (T : qTk) (I : zI) : Prop := I 3 4 = zi (T.2.2.2 : Int) ∧ ∀ k, k < T.2.2.2 → I 4 k = zi (T.1 k : Int) ∧ I 5 k = zi (T.2.1 k : Int)
theorem qTc_keep {T : qTk} {I I' : zI} (h : qTc T I) (e3 : I' 3 = I 3) (e4 : I' 4 = I 4) (e5 : I' 5 = I 5) : qTc T I' := by
  unfold qTc
  rw [e3, e4, e5]
  exact h
theorem qTc_fr {T : qTk} {I I' : zI} (h : qTc T I) (f : zfr [8, 9, 10, 11] I I') : qTc T I' := qTc_keep h (f 3 (by simp)) (f 4 (by simp)) (f 5 (by simp))
theorem qTw_N {T : qTk} (h : qTw T) : ∀ k, T.2.2.2 - 1 ≤ k → T.1 k ≤ 1 := fun k hk => by
  by_cases c : k = T.2.2.2 - 1
  · rw [c]
    exact h.2.2.2.1
  · rw [h.2.2.2.2 k (by have := h.1; omega)]
    omega
theorem qTw_lt {T : qTk} {k : Nat} (h : qTw T) (hk : 2 ≤ T.1 k) : k + 1 < T.2.2.2 := by
  by_cases c : T.2.2.2 - 1 ≤ k
  · have := qTw_N h k c
    omega
  · omega
theorem qTw_le {T : qTk} (h : qTw T) (k : Nat) : T.1 k ≤ 51 := by
  by_cases c : k + 1 < T.2.2.2
  · exact (h.2.2.1 k c).2
  · have := qTw_N h k (by omega)
    omega
def qFk (T : qTk) (k : Nat) (I : zI) : Prop := I 11 2 = zi (k : Int) ∧ I 11 3 = zi (T.1 k : Int)
def qFl (j : Nat) (I : zI) : Prop := I 11 2 = zi (j : Int) ∧ I 11 3 = 0
/-- code o stands from c on, what is ahead is as it was -/
def qcN (c : Nat) (o : List zOp) (I I' : zI) : Prop := I' 8 2 = zi ((c + o.length : Nat) : Int) ∧ (∀ j, j < c → I' 9 j = I 9 j ∧ I' 10 j = I 10 j) ∧ ∀ j, j < o.length → I' 9 (c + j) = zi ((o.getD j (0, 0)).1 : Int) ∧ I' 10 (c + j) = (o.getD j (0, 0)).2
theorem qcN_nil {c : Nat} {I : zI} (h : I 8 2 = zi (c : Int)) : qcN c [] I I := ⟨h, fun _ _ => ⟨rfl, rfl⟩, fun j hj => absurd hj (Nat.not_lt_zero j)⟩
theorem qcN_app {c : Nat} {o o2 : List zOp} {I I1 I2 : zI} (h : qcN c o I I1) (h2 : qcN (c + o.length) o2 I1 I2) : qcN c (o ++ o2) I I2 := by
  obtain ⟨a1, a2, a3⟩ := h
  obtain ⟨b1, b2, b3⟩ := h2
  refine ⟨by rw [b1, List.length_append, Nat.add_assoc], fun j hj => ?_, fun j hj => ?_⟩
  · have q := b2 j (by omega)
    rw [q.1, q.2]
    exact a2 j hj
  · rw [List.length_append] at hj
    by_cases cj : j < o.length
    · have q := b2 (c + j) (by omega)
      rw [q.1, q.2, List.getD_eq_getElem?_getD, List.getElem?_append_left cj, ← List.getD_eq_getElem?_getD]
      exact a3 j cj
    · have q := b3 (j - o.length) (by omega)
      rw [show c + o.length + (j - o.length) = c + j by omega] at q
      rw [List.getD_eq_getElem?_getD, List.getElem?_append_right (by omega), ← List.getD_eq_getElem?_getD]
      exact q
theorem qcN_of {c : Nat} {o : List zOp} {I0 I I1 I2 : zI} (h : qcN c o I I1) (f : zfr [11] I0 I) (g : zfr [11] I1 I2) : qcN c o I0 I2 := by
  unfold qcN at h ⊢
  rw [g 8 (by simp), g 9 (by simp), g 10 (by simp), ← f 9 (by simp), ← f 10 (by simp)]
  exact h
theorem n_93 {T : qTk} {I : zI} {J : zJ} {k : Nat} (hw : qTw T) (ht : qTc T I) (hk : k ≤ 1000) : zv_93 I J (zi (k : Int)) = zi (T.1 k : Int) := by
  have h1 := hw.2.1
  unfold zv_93
  rw [ht.1, show (451 : Int32) = zi 451 from rfl, show (0 : Int32) = zi ((0 : Nat) : Int) from rfl]
  rw [if_neg (by rw [zi_lt (by omega) (by omega)]; omega)]
  by_cases c : k < T.2.2.2
  · rw [if_neg (by rw [zi_le (by omega) (by omega)]; omega), if_neg (by rw [zi_le (by omega) (by omega)]; omega), zi_cl (by omega) (by omega)]
    exact (ht.2 k c).1
  · rw [if_pos (by rw [zi_le (by omega) (by omega)]; omega), hw.2.2.2.2 k (by omega)]
theorem n_23 {I : zI} {J : zJ} {c m : Nat} (hc : c ≤ 51) (hm : m ≤ 4) : zv_23 I J (zi (c : Int)) = zi (m : Int) ↔ pLv c = m := by
  unfold zv_23 pLv
  rw [show (-1 : Int32) = zi (-1) from rfl]
  simp (disch := omega) only [zlit, zi_eq]
  by_cases c1 : c = 33
  · subst c1
    simp (disch := omega) [zi_eq]
    omega
  · by_cases c2 : c = 34
    · subst c2
      simp (disch := omega) [zi_eq]
      omega
    · rw [if_neg (by omega), if_neg (by omega), if_neg c2, if_neg c1]
      by_cases c3 : c = 41 ∨ 47 ≤ c ∧ c ≤ 51
      · rw [if_pos (by omega), if_pos c3, zi_eq (by omega) (by omega)]
        omega
      · rw [if_neg (by omega), if_neg c3]
        by_cases c4 : c = 42 ∨ c = 43
        · rw [if_pos (by omega), if_pos c4, zi_eq (by omega) (by omega)]
          omega
        · rw [if_neg (by omega), if_neg c4]
          by_cases c5 : 44 ≤ c ∧ c ≤ 46
          · rw [if_pos (by omega), if_pos c5, zi_eq (by omega) (by omega)]
            omega
          · rw [if_neg (by omega), if_neg c5, zi_eq (by omega) (by omega)]
            omega
section CForm
variable {RO : zRo} {d : Nat} {P : zP} {I : zI} {J : zJ} {D : zD} {bc bs : Nat} {T : qTk} {k j c : Nat}
theorem r_8t {a : Nat} (ha : a ≤ 100) (hw : qTw T) (ht : qTc T I) (hk : qFk T k I) (hk9 : k ≤ 450) (hs : T.1 k = a) (K : ∀ I', qFk T (k + 1) I' → zfr [11] I I' → P (.inl none) I' J D) : zz RO (d + 2) 8 [.ref 11, .int (zi (a : Int))] I J D bc bs P := by
  refine w_8 ⟨fun q => absurd (by rw [hk.2, hs]) q, fun _ => ?_⟩
  have e : qTc T (zu I 11 2 (zi ((k + 1 : Nat) : Int))) := qTc_keep ht (zu_row _ _ (by decide)) (zu_row _ _ (by decide)) (zu_row _ _ (by decide))
  rw [hk.1, zi_succ, n_93 hw e (by omega)]
  refine K _ ⟨?_, ?_⟩ (zfr_zu (zfr_zu (zfr_refl _) _ _ (by simp)) _ _ (by simp))
  · rw [zu_n _ _ (by omega), zu_s]
  · rw [zu_s]
theorem r_8f {a : Nat} (ha : a ≤ 100) (hk : qFk T k I) (hs9 : T.1 k ≤ 51) (hs : ¬ T.1 k = a) (K : ∀ I', qFl k I' → zfr [11] I I' → P (.inl none) I' J D) : zz RO (d + 2) 8 [.ref 11, .int (zi (a : Int))] I J D bc bs P := by
  refine w_8 ⟨fun _ => w_9 ?_, fun q => absurd (by rw [hk.2, zi_eq (by omega) (by omega)]; omega) q⟩
  show P (.inl none) (zu I 11 3 0) J D
  refine K _ ⟨?_, zu_s _ _ _ _⟩ (zfr_zu (zfr_refl _) _ _ (by simp))
  rw [zu_n _ _ (by omega)]
  exact hk.1
theorem r_8x {a : Nat} (ha : 1 ≤ a ∧ a ≤ 100) (hk : qFl j I) (K : ∀ I', qFl j I' → zfr [11] I I' → P (.inl none) I' J D) : zz RO (d + 2) 8 [.ref 11, .int (zi (a : Int))] I J D bc bs P := by
  refine w_8 ⟨fun _ => w_9 ?_, fun q => absurd (by rw [hk.2, show (0 : Int32) = zi ((0 : Nat) : Int) from rfl, zi_eq (by omega) (by omega)]; omega) q⟩
  show P (.inl none) (zu I 11 3 0) J D
  refine K _ ⟨?_, zu_s _ _ _ _⟩ (zfr_zu (zfr_refl _) _ _ (by simp))
  rw [zu_n _ _ (by omega)]
  exact hk.1
theorem r_9 (hk : I 11 2 = zi (j : Int)) (K : ∀ I', qFl j I' → zfr [11] I I' → P (.inl none) I' J D) : zz RO (d + 1) 9 [.ref 11] I J D bc bs P := by
  refine w_9 ?_
  refine K _ ⟨?_, zu_s _ _ _ _⟩ (zfr_zu (zfr_refl _) _ _ (by simp))
  rw [zu_n _ _ (by omega)]
  exact hk
theorem r_1 {o : Nat} {a : Int32} (hc : I 8 2 = zi (c : Int)) (hc9 : c < 450) (K : ∀ I', qcN c [(o, a)] I I' → zfr [8, 9, 10] I I' → P (.inl (some (.int (zi (c : Int))))) I' J D) : zz RO (d + 1) 1 [.ref 8, .int (zi (o : Int)), .int a] I J D bc bs P := by
  refine w_1 ?_
  rw [hc, show (450 : Int32) = zi 450 from rfl, show (0 : Int32) = zi ((0 : Nat) : Int) from rfl, zi_succ, zi_cl (by omega) (by omega), show ((c : Nat) : Int).toNat = c by omega]
  refine ⟨fun q => absurd q (by rw [zi_lt (by omega) (by omega)]; omega), fun _ => ⟨fun q => absurd q (by rw [zi_le (by omega) (by omega)]; omega), fun _ => ?_⟩⟩
  refine K _ ⟨?_, fun j hj => ⟨?_, ?_⟩, fun j hj => ?_⟩ (zfr_zu (zfr_zu (zfr_zu (zfr_refl _) _ _ (by simp)) _ _ (by simp)) _ _ (by simp))
  · rw [zu_s]
    rfl
  · rw [zu_n _ _ (by omega), zu_n _ _ (by omega), zu_n _ _ (by omega)]
  · rw [zu_n _ _ (by omega), zu_n _ _ (by omega), zu_n _ _ (by omega)]
  · have ej : j = 0 := by
      rw [List.length_singleton] at hj
      omega
    subst ej
    refine ⟨?_, ?_⟩
    · rw [zu_n _ _ (by omega), zu_n _ _ (by omega)]
      exact zu_s _ _ _ _
    · rw [zu_n _ _ (by omega)]
      exact zu_s _ _ _ _
theorem r_1x {o a : Int32} (K : ∀ v I', zfr [8, 9, 10] I I' → P (.inl (some (.int v))) I' J D) : zz RO (d + 1) 1 [.ref 8, .int o, .int a] I J D bc bs P := by
  refine w_1 ⟨fun _ => K _ _ (zfr_refl _), fun _ => ⟨fun _ => K _ _ (zfr_refl _), fun _ => K _ _ (zfr_zu (zfr_zu (zfr_zu (zfr_refl _) _ _ (by simp)) _ _ (by simp)) _ _ (by simp))⟩⟩
theorem qFl_fr {I' : zI} (h : qFl j I) (f : zfr [8, 9, 10] I I') : qFl j I' := by
  unfold qFl
  rw [f 11 (by simp)]
  exact h
theorem qFk_fr {I' : zI} (h : qFk T k I) (f : zfr [8, 9, 10] I I') : qFk T k I' := by
  unfold qFk
  rw [f 11 (by simp)]
  exact h
/-- the place of a name -/
theorem r_21t {k2 nm : Nat} (hw : qTw T) (ht : qTc T I) (hk : qFk T k I) (hk9 : k ≤ 449) (h : pPl T.1 k = pO k2 nm) (K : ∀ I', qFk T k2 I' → zfr [11] I I' → P (.inl (some (.int (zi (nm : Int))))) I' J D) : zz RO (d + 3) 21 [.ref 11] I J D bc bs P := by
  have hle := qTw_le hw k
  have a := tks_pl h
  have fin : ∀ {I1 : zI}, qFk T k2 I1 → I1 11 2 - 1 = zi (nm : Int) := fun {I1} h1 => by
    rw [h1.1, show (1 : Int32) = zi 1 from rfl, zi_sub]
    congr 1
    omega
  unfold pPl at h
  refine w_21 ?_
  rw [hk.2, show (25 : Int32) = zi ((25 : Nat) : Int) from rfl, show (26 : Int32) = zi ((26 : Nat) : Int) from rfl, show (2 : Int32) = zi ((2 : Nat) : Int) from rfl]
  by_cases c1 : T.1 k = 25 ∨ T.1 k = 26
  · rw [if_pos c1] at h
    by_cases c2 : T.1 (k + 1) = 2
    · rw [if_pos c2] at h
      cases pO_inv h
      by_cases c3 : T.1 k = 25
      · refine ⟨fun q => absurd (by rw [c3]) q, fun _ => ?_⟩
        refine r_8t (by omega) hw ht hk (by omega) c3 (fun I1 h1 f1 => ?_)
        refine r_8t (by omega) hw (qTc_fr ht (zfr_sub f1 (by simp))) h1 (by omega) c2 (fun I2 h2 f2 => ?_)
        show P (.inl (some (.int (I2 11 2 - 1)))) I2 J D
        rw [fin h2]
        exact K _ h2 (zfr_trans f1 f2)
      · refine ⟨fun _ => ⟨fun q => absurd (by rw [show T.1 k = 26 by omega]) q, fun _ => ?_⟩, fun q => absurd (by rw [zi_eq (by omega) (by omega)]; omega) q⟩
        refine r_8t (by omega) hw ht hk (by omega) (by omega) (fun I1 h1 f1 => ?_)
        refine r_8t (by omega) hw (qTc_fr ht (zfr_sub f1 (by simp))) h1 (by omega) c2 (fun I2 h2 f2 => ?_)
        show P (.inl (some (.int (I2 11 2 - 1)))) I2 J D
        rw [fin h2]
        exact K _ h2 (zfr_trans f1 f2)
    · rw [if_neg c2] at h
      cases pF_inv h
  · rw [if_neg c1] at h
    by_cases c2 : T.1 k = 2
    · rw [if_pos c2] at h
      cases pO_inv h
      refine ⟨fun _ => ⟨fun _ => ?_, fun q => absurd (by rw [zi_eq (by omega) (by omega)]; omega) q⟩, fun q => absurd (by rw [zi_eq (by omega) (by omega)]; omega) q⟩
      refine r_8t (by omega) hw ht hk (by omega) c2 (fun I1 h1 f1 => ?_)
      show P (.inl (some (.int (I1 11 2 - 1)))) I1 J D
      rw [fin h1]
      exact K _ h1 f1
    · rw [if_neg c2] at h
      cases pF_inv h
theorem r_21f (hw : qTw T) (ht : qTc T I) (hk : qFk T k I) (hk9 : k ≤ 450) (h : pPl T.1 k = pF j) (K : ∀ v I', qFl j I' → zfr [11] I I' → P (.inl (some (.int v))) I' J D) : zz RO (d + 3) 21 [.ref 11] I J D bc bs P := by
  have hle := qTw_le hw k
  have hle1 := qTw_le hw (k + 1)
  unfold pPl at h
  refine w_21 ?_
  rw [hk.2, show (25 : Int32) = zi ((25 : Nat) : Int) from rfl, show (26 : Int32) = zi ((26 : Nat) : Int) from rfl, show (2 : Int32) = zi ((2 : Nat) : Int) from rfl]
  by_cases c1 : T.1 k = 25 ∨ T.1 k = 26
  · rw [if_pos c1] at h
    by_cases c2 : T.1 (k + 1) = 2
    · rw [if_pos c2] at h
      cases pO_inv h
    · rw [if_neg c2] at h
      cases pF_inv h
      by_cases c3 : T.1 k = 25
      · refine ⟨fun q => absurd (by rw [c3]) q, fun _ => ?_⟩
        refine r_8t (by omega) hw ht hk (by omega) c3 (fun I1 h1 f1 => ?_)
        refine r_8f (by omega) h1 hle1 c2 (fun I2 h2 f2 => ?_)
        exact K _ _ h2 (zfr_trans f1 f2)
      · refine ⟨fun _ => ⟨fun q => absurd (by rw [show T.1 k = 26 by omega]) q, fun _ => ?_⟩, fun q => absurd (by rw [zi_eq (by omega) (by omega)]; omega) q⟩
        refine r_8t (by omega) hw ht hk (by omega) (by omega) (fun I1 h1 f1 => ?_)
        refine r_8f (by omega) h1 hle1 c2 (fun I2 h2 f2 => ?_)
        exact K _ _ h2 (zfr_trans f1 f2)
  · rw [if_neg c1] at h
    by_cases c2 : T.1 k = 2
    · rw [if_pos c2] at h
      cases pO_inv h
    · rw [if_neg c2] at h
      cases pF_inv h
      refine ⟨fun _ => ⟨fun _ => ?_, fun q => absurd (by rw [zi_eq (by omega) (by omega)]; omega) q⟩, fun q => absurd (by rw [zi_eq (by omega) (by omega)]; omega) q⟩
      exact r_8f (by omega) hk hle c2 (fun I2 h2 f2 => K _ _ h2 f2)
theorem r_21x (hk : qFl j I) (K : ∀ v I', qFl j I' → zfr [11] I I' → P (.inl (some (.int v))) I' J D) : zz RO (d + 3) 21 [.ref 11] I J D bc bs P := by
  refine w_21 ?_
  rw [hk.2]
  refine ⟨fun _ => ⟨fun _ => ?_, fun q => absurd (by decide) q⟩, fun q => absurd (by decide) q⟩
  exact r_8x (a := 2) (by omega) hk (fun I2 h2 f2 => K _ _ h2 f2)
end CForm

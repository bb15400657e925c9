/-! ===== the class's reading: statements ===== -/
def qMp {α β : Type} (f : α → β) (r : Nat ⊕ (Nat × α)) : Nat ⊕ (Nat × β) := match r with
  | .inl j => .inl j
  | .inr q => .inr (q.1, f q.2)
theorem zgd_mid {α : Type} (A B : List α) (a b d : α) {j : Nat} (h : ¬ j = A.length) : (A ++ a :: B).getD j d = (A ++ b :: B).getD j d := by
  by_cases c : j < A.length
  · rw [List.getD_eq_getElem?_getD, List.getElem?_append_left c, List.getD_eq_getElem?_getD, List.getElem?_append_left c]
  · obtain ⟨i, hi⟩ : ∃ i, j - A.length = i + 1 := ⟨j - A.length - 1, by omega⟩
    rw [List.getD_eq_getElem?_getD, List.getElem?_append_right (by omega), List.getD_eq_getElem?_getD, List.getElem?_append_right (by omega), hi, List.getElem?_cons_succ, List.getElem?_cons_succ]
theorem zgd_at {α : Type} (A B : List α) (a d : α) : (A ++ a :: B).getD A.length d = a := by
  rw [List.getD_eq_getElem?_getD, List.getElem?_append_right (Nat.le_refl _), Nat.sub_self]
  rfl
theorem qcN_land {c op : Nat} {A B : List zOp} {x y : Int32} {I I1 : zI} (h : qcN c (A ++ (op, y) :: B) I I1) : qcN c (A ++ (op, x) :: B) I (zu I1 10 (c + A.length) x) := by
  obtain ⟨h1, h2, h3⟩ := h
  have el : (A ++ (op, x) :: B).length = (A ++ (op, y) :: B).length := by simp
  refine ⟨by rw [zu_n _ _ (by omega), el]; exact h1, fun j hj => ?_, fun j hj => ?_⟩
  · rw [zu_n _ _ (by omega), zu_n _ _ (by omega)]
    exact h2 j hj
  · rw [el] at hj
    have q := h3 j hj
    by_cases e : j = A.length
    · subst e
      rw [zgd_at] at q ⊢
      exact ⟨by rw [zu_n _ _ (by omega)]; exact q.1, zu_s _ _ _ _⟩
    · rw [zgd_mid A B (op, x) (op, y) (0, 0) e, zu_n _ _ (by omega), zu_n _ _ (by omega)]
      exact q
theorem n_17 {I : zI} {J : zJ} {c : Nat} (hc : c ≤ 51) : zv_17 I J (zi (c : Int)) = 0 ↔ ¬ bst c := by
  have E : ∀ a : Nat, a ≤ 100 → (zi (c : Int) = zi (a : Int) ↔ c = a) := fun a ha => by
    rw [zi_eq (by omega) (by omega)]
    omega
  have e16 : zi (c : Int) = 16 ↔ c = 16 := E 16 (by omega)
  have e17 : zi (c : Int) = 17 ↔ c = 17 := E 17 (by omega)
  have e18 : zi (c : Int) = 18 ↔ c = 18 := E 18 (by omega)
  have e24 : zi (c : Int) = 24 ↔ c = 24 := E 24 (by omega)
  have e21 : zi (c : Int) = 21 ↔ c = 21 := E 21 (by omega)
  have e22 : zi (c : Int) = 22 ↔ c = 22 := E 22 (by omega)
  have e23 : zi (c : Int) = 23 ↔ c = 23 := E 23 (by omega)
  have t1 : ¬ (1 : Int32) = 0 := by decide
  unfold zv_17
  simp only [e16, e17, e18, e24, e21, e22, e23]
  (repeat' split) <;> first | exact ⟨fun q => absurd q t1, fun q => absurd q (fun z => z (by unfold bst; omega))⟩ | exact ⟨fun _ => by unfold bst; omega, fun _ => rfl⟩
def cS (RO : zRo) (T : qTk) (f : Nat) : Prop := ∀ {n nest k c e bc bs : Nat} {r : Nat ⊕ (Nat × List (zSt n))} {I : zI} {J : zJ} {D : zD} {P : zP}, pS T.1 f n k = some r → nest + n = 4 → 3 * n + 80 ≤ e → qTc T I → I 8 2 = zi (c : Int) → c + 1 ≤ k → k ≤ 450 → qFk T k I → (∀ I', qEp T c (qMp (fun l => zcat (zkc n) l c) r) I I' → P (.inl none) I' J D) → zz RO e 16 [.ref 11, .int (zi (nest : Int))] I J D bc bs P
section CForm3
variable {RO : zRo} {d : Nat} {P : zP} {I : zI} {J : zJ} {D : zD} {bc bs : Nat} {T : qTk} {k j c : Nat}
theorem r_2 {a n : Nat} (hn : I 8 2 = zi (n : Int)) (ha : a < n) (hn9 : n ≤ 450) (K : ∀ I', I' = zu I 10 a (zi (n : Int)) → P (.inl none) I' J D) : zz RO (d + 1) 2 [.ref 8, .int (zi (a : Int))] I J D bc bs P := by
  refine w_2 ?_
  rw [hn, show (450 : Int32) = zi 450 from rfl, show (0 : Int32) = zi ((0 : Nat) : Int) from rfl, zi_cl (by omega) (by omega), show ((a : Nat) : Int).toNat = a by omega]
  refine ⟨fun q => absurd q (by rw [zi_lt (by omega) (by omega)]; omega), fun _ => ⟨fun q => absurd q (by rw [zi_le (by omega) (by omega)]; omega), fun _ => ⟨fun q => absurd q (by rw [zi_le (by omega) (by omega)]; omega), fun _ => K _ rfl⟩⟩⟩
theorem r_2x {a : Int32} (K : ∀ I', zfr [8, 9, 10] I I' → P (.inl none) I' J D) : zz RO (d + 1) 2 [.ref 8, .int a] I J D bc bs P :=
  w_2 ⟨fun _ => K _ (zfr_refl _), fun _ => ⟨fun _ => K _ (zfr_refl _), fun _ => ⟨fun _ => K _ (zfr_refl _), fun _ => K _ (zfr_zu (zfr_refl _) _ _ (by simp))⟩⟩⟩
theorem r_16_2x {i : Nat} {p : Int32} (hi : i < 450) (hk : qFl j I) (K : P (.inl none) I J D) : zw RO (d + 1) 16 P 2 [(0, .ref 11), (1, .int p), (2, .int (zi (i : Int)))] [] I J D bc bs := by
  refine wl_16_2 ⟨fun q => absurd (by rw [show (450 : Int32) = zi 450 from rfl, zi_le (by omega) (by omega)] at q; omega) (fun z : False => z), fun _ => ⟨fun _ => K, fun q => absurd ?_ q⟩⟩
  rw [hk.2]
  exact (n_17 (c := 0) (by omega)).mpr (by unfold bst; omega)
theorem r_16x {p : Int32} (hk : qFl j I) (K : P (.inl none) I J D) : zz RO (d + 2) 16 [.ref 11, .int p] I J D bc bs P :=
  w_16 (r_16_2x (i := 0) (by omega) hk K)
theorem r_18p {n k1 : Nat} {op : Nat} {r : Nat ⊕ (Nat × zSt n)} (hw : qTw T) (h : pB (pPl T.1 k1) (fun k1 nm => pB (pEx T.1 k1) fun k2 o => (if T.1 k2 = 39 then pO (k2 + 1) (mkB n (op, nm, o)) else pF k2)) = some r) (ht : qTc T I) (hc : I 8 2 = zi (c : Int)) (hck : c + 1 ≤ k1) (hk9 : k1 ≤ 450) (hk : qFk T k1 I) (K : ∀ I', qEp T c (qMp (fun x => zkc n x c) r) I I' → P (.inl none) I' J D) :
    zz RO (d + 78) 21 [.ref 11] I J D 0 0 (zNi P fun v4 I4 J4 D4 => zz RO (d + 78) 22 [.ref 11, .int 0, .int 0] I4 J4 D4 0 0 (zNv P fun I5 J5 D5 => zz RO (d + 78) 1 [.ref 8, .int (zi (op : Int)), .int v4] I5 J5 D5 0 0 (zNi P fun _ I6 J6 D6 => zz RO (d + 78) 8 [.ref 11, .int 39] I6 J6 D6 0 0 (zNv P fun I7 J7 D7 => P (.inl none) I7 J7 D7)))) := by
  have hN := hw.2.1
  rcases pB_inv h with ⟨i, h1, e9⟩ | ⟨k2, nm, h1, h⟩
  · cases e9
    refine r_21f (d := d + 75) hw ht hk hk9 h1 (fun v I1 k1 f1 => ?_)
    refine r_22x (d := d + 69) (m := 0) 5 (by omega) k1 (fun I2 k2 f2 => ?_)
    refine r_1x (d := d + 77) (fun v I3 f3 => ?_)
    refine r_8x (d := d + 76) (a := 39) (by omega) (qFl_fr k2 f3) (fun I4 k4 f4 => ?_)
    exact K I4 ⟨zfr_trans (zfr_11 f1) (zfr_trans (zfr_11 f2) (zfr_trans (zfr_811 f3) (zfr_11 f4))), k4⟩
  · have a1 := tks_pl h1
    have b1 : nm + 1 < T.2.2.2 := qTw_lt hw (k := nm) (by omega)
    have b2 : k1 + 1 < T.2.2.2 := qTw_lt hw (k := k1) (by
      have := a1.1.2 k1 (Nat.le_refl _) a1.2.1
      unfold ys xs at this
      omega)
    refine r_21t (d := d + 75) hw ht hk (by omega) h1 (fun I1 k1 f1 => ?_)
    have t1 := qTc_fr ht (zfr_11 f1)
    have c1 : I1 8 2 = zi (c : Int) := by rw [f1 8 (by simp)]; exact hc
    rcases pB_inv h with ⟨i, h2, e9⟩ | ⟨k3, o, h2, h⟩
    · cases e9
      refine r_22 (d := d + 2) (c := c) hw h2 t1 c1 (by omega) (by omega) k1 (fun I2 z2 => ?_)
      refine r_1x (d := d + 77) (fun v I3 f3 => ?_)
      refine r_8x (d := d + 76) (a := 39) (by omega) (qFl_fr z2.2 f3) (fun I4 k4 f4 => ?_)
      exact K I4 ⟨zfr_trans (zfr_11 f1) (zfr_trans z2.1 (zfr_trans (zfr_811 f3) (zfr_11 f4))), k4⟩
    · have a2 := tks_ex h2
      have a3 := pE_ok h2 (by omega)
      have ae := cE_end hw (by omega) a3.1
      refine r_22 (d := d + 2) (c := c) hw h2 t1 c1 (by omega) (by omega) k1 (fun I2 z2 => ?_)
      have t2 := qTc_fr t1 z2.1
      refine r_1 (d := d + 77) (c := c + o.length) z2.2.2.1 (by omega) (fun I3 z3 f3 => ?_)
      have t3 := qTc_fr t2 (zfr_811 f3)
      have k3' := qFk_fr z2.2.1 f3
      have z9 : qcN c (o ++ [(op, zi (nm : Int))]) I I3 := qcN_of (qcN_app z2.2.2 z3) f1 (zfr_refl _)
      have f9 : zfr [8, 9, 10, 11] I I3 := zfr_trans (zfr_11 f1) (zfr_trans z2.1 (zfr_811 f3))
      by_cases c2 : T.1 k3 = 39
      · have h : (if T.1 k3 = 39 then pO (k3 + 1) (mkB n (op, nm, o)) else pF k3) = some r := h
        rw [if_pos c2] at h
        cases pO_inv h
        refine r_8t (d := d + 76) (a := 39) (by omega) hw t3 k3' ae c2 (fun I4 k4 f4 => ?_)
        refine K I4 ⟨zfr_trans f9 (zfr_11 f4), k4, ?_⟩
        show qcN c (zkc n (mkB n (op, nm, o)) c) I I4
        rw [zkc_mkB]
        exact qcN_of z9 (zfr_refl _) f4
      · have h : (if T.1 k3 = 39 then pO (k3 + 1) (mkB n (op, nm, o)) else pF k3) = some r := h
        rw [if_neg c2] at h
        cases pF_inv h
        refine r_8f (d := d + 76) (a := 39) (by omega) k3' (qTw_le hw _) c2 (fun I4 k4 f4 => ?_)
        exact K I4 ⟨zfr_trans f9 (zfr_11 f4), k4⟩
theorem r_18s {n : Nat} {p : Int32} {r : Nat ⊕ (Nat × zSt n)} (hw : qTw T) (hb : bst (T.1 k)) (hb2 : ¬ T.1 k = 18 ∧ ¬ T.1 k = 24) (h : pSt T.1 n k = some r) (ht : qTc T I) (hc : I 8 2 = zi (c : Int)) (hck : c + 1 ≤ k) (hk : qFk T k I) (K : ∀ I', qEp T c (qMp (fun x => zkc n x c) r) I I' → P (.inl none) I' J D) : zz RO (d + 79) 18 [.ref 11, .int (zi (T.1 k : Int)), .int p] I J D bc bs P := by
  have hN := hw.2.1
  have hle := qTw_le hw k
  have hlt := qTw_lt hw (k := k) (by unfold bst at hb; omega)
  have E : ∀ a : Nat, a ≤ 100 → (zi (T.1 k : Int) = zi (a : Int) ↔ T.1 k = a) := fun a ha => by
    rw [zi_eq (by omega) (by omega)]
    omega
  have e18 : zi (T.1 k : Int) = 18 ↔ T.1 k = 18 := E 18 (by omega)
  have e24 : zi (T.1 k : Int) = 24 ↔ T.1 k = 24 := E 24 (by omega)
  have e16 : zi (T.1 k : Int) = 16 ↔ T.1 k = 16 := E 16 (by omega)
  have e17 : zi (T.1 k : Int) = 17 ↔ T.1 k = 17 := E 17 (by omega)
  refine w_18 (d := d + 78) ⟨fun q => absurd (e18.mp q) hb2.1, fun _ => ⟨fun _ => ?_, fun q => absurd (fun z => hb2.2 (e24.mp z)) q⟩⟩
  refine r_8t (d := d + 76) (by omega) hw ht hk (by omega) rfl (fun I1 k1 f1 => ?_)
  have t1 := qTc_fr ht (zfr_11 f1)
  have c1 : I1 8 2 = zi (c : Int) := by rw [f1 8 (by simp)]; exact hc
  unfold pSt at h
  show _ ∧ _
  have K2 : ∀ I', qEp T c (qMp (fun x => zkc n x c) r) I1 I' → P (.inl none) I' J D := fun I' z => K I' ⟨zfr_trans (zfr_11 f1) z.1, by
    have z2 := z.2
    cases r with
    | inl j => exact z2
    | inr q => exact ⟨z2.1, qcN_of z2.2 f1 (zfr_refl _)⟩⟩
  by_cases c2 : T.1 k = 16 ∨ T.1 k = 17
  · rw [if_pos c2] at h
    have G := r_18p (RO := RO) (d := d) (J := J) (D := D) (P := P) (c := c) hw h t1 c1 (by omega) (by omega) k1 K2
    by_cases c3 : T.1 k = 16
    · exact ⟨fun _ => G, fun q => absurd (e16.mpr c3) q⟩
    · exact ⟨fun q => absurd (e16.mp q) c3, fun _ => ⟨fun q => absurd (e17.mpr (by omega)) q, fun _ => G⟩⟩
  · rw [if_neg c2] at h
    refine ⟨fun q => absurd (Or.inl (e16.mp q)) c2, fun _ => ⟨fun _ => ?_, fun q => absurd (fun z => c2 (Or.inr (e17.mp z))) q⟩⟩
    refine r_1 (d := d + 77) (c := c) c1 (by omega) (fun I2 z2 f2 => ?_)
    have t2 := qTc_fr t1 (zfr_811 f2)
    have k2 := qFk_fr k1 f2
    have f9 := zfr_trans (zfr_11 f1) (zfr_811 f2)
    by_cases c3 : T.1 (k + 1) = 39
    · rw [if_pos c3] at h
      cases pO_inv h
      refine r_8t (d := d + 76) (a := 39) (by omega) hw t2 k2 (by omega) c3 (fun I3 k3 f3 => ?_)
      refine K I3 ⟨zfr_trans f9 (zfr_11 f3), k3, ?_⟩
      show qcN c (zkc n (mkB n (T.1 k, 0, [])) c) I I3
      rw [zkc_mkB]
      exact qcN_of z2 f1 f3
    · rw [if_neg c3] at h
      cases pF_inv h
      refine r_8f (d := d + 76) (a := 39) (by omega) k2 (qTw_le hw _) c3 (fun I3 k3 f3 => ?_)
      exact K I3 ⟨zfr_trans f9 (zfr_11 f3), k3⟩
end CForm3

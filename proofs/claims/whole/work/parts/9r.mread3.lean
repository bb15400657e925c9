/-! ===== the reference's compile, its tokens given ===== -/
/-- the error of a compile and its place, if there is one -/
def qCo (T : qTk) (tp : Int32) (r : Nat ⊕ (Nat × Unit)) : Option (Int32 × Int32) := match r with
  | .inl j => some (zi ((1 : Nat) : Int), zi (T.2.1 j : Int))
  | .inr q => match qOut (qEE T) 0 r with
    | .inl w => some (zi (w.2 : Int), zi (T.2.1 w.1 : Int))
    | .inr _ => if (qMm T q.1).1 2 = 0 ∨ (qMm T q.1).1 6 = 0 then some (7, tp) else none
/-- the program is away -/
def qGo (I : zI) : Prop := I 28 8 = 0 ∧ I 28 19 = 0 ∧ I 28 23 = 0 ∧ I 28 30 = 0 ∧ I 28 47 = 0 ∧ I 28 45 = 0 ∧ (∀ x, x < 9 → I 37 x = 0) ∧ ∀ x, x < 6 → I 39 x = 0
section MRead3
variable {RO : zRo} {d : Nat} {P : zP} {J : zJ} {D : zD} {bc bs : Nat} {T : qTk}
theorem s_177_94 {e : Int32} {I : zI} (K : ∀ I', zfm [3, 8, 19, 23, 30, 45, 47] [37, 39] I I' → I' 28 3 = 0 → qGo I' → P (.inl (some (.int e))) I' J D) : zw RO (d + 1) 177 (zPn 177 P) 94 [(0, .ref 28), (1, .int e)] [] I J D bc bs := by
  refine wl_177_94 (d := d + 1) ?_
  refine s_147 (d := d) (fun I' f a1 a2 a3 a4 a5 a6 a7 a8 => ?_)
  refine K _ (zfm_z (zfm_sub f (by simp) (by simp)) _ _ (by decide)) (zu_s _ _ _ _) ⟨?_, ?_, ?_, ?_, ?_, ?_, fun x hx => ?_, fun x hx => ?_⟩
  · rw [zu_n _ _ (by omega)]
    exact a1
  · rw [zu_n _ _ (by omega)]
    exact a2
  · rw [zu_n _ _ (by omega)]
    exact a3
  · rw [zu_n _ _ (by omega)]
    exact a4
  · rw [zu_n _ _ (by omega)]
    exact a5
  · rw [zu_n _ _ (by omega)]
    exact a6
  · rw [zu_row _ _ (by decide)]
    exact a7 x hx
  · rw [zu_row _ _ (by decide)]
    exact a8 x hx
abbrev dKs : List Nat := [3, 8, 18, 19, 23, 24, 25, 26, 27, 28, 29, 30, 45, 47]
theorem s_177 {f : Nat} {I : zI} {r : Nat ⊕ (Nat × Unit)} (hRO : zROk RO) (hw : qTw T) (hv : qTv T) (h : pP T.1 f 0 = some r) (hb : 1 ≤ bc ∧ 8 ≤ bs) (LX : zI → zJ → Prop) (hx : ∀ Q : zP, (∀ I' J', qTm T I' J' → LX I' J' → Q (.inl none) I' J' D) → zz RO (d + 78) 145 [.ref 28] (zu I 28 0 0) J D 0 0 Q)
    (E : ∀ I1 J1, LX I1 J1 → ∀ e p, qCo T (I1 28 3) r = some (e, p) → ∀ I' J', zfm dKs rLs I1 I' → rfj J1 J' → I' 28 3 = 0 → I' 28 29 = p → qGo I' → P (.inl (some (.int e))) I' J' D)
    (K : ∀ I1 J1, LX I1 J1 → ∀ q, r = .inr q → qCo T (I1 28 3) r = none → T.1 q.1 = 1 → (∀ i, i < q.1 → qEE T i = 0) → ∀ I' J' a, zfm dKs rLs I1 I' → rfj J1 J' → a ≤ 3 * q.1 → I' 28 19 = zi (a : Int) → I' 28 29 = -1 → I' 28 3 = 0 → I' 28 23 = 1 → I' 28 30 = 0 → I' 28 47 = 0 → I' 28 45 = 0 → qRp (qCn T.1 7 T.2.2.2 ≤ 12) (qPg T (qMm T q.1)) a I' → P (.inl (some (.int 0))) I' J' D) : zz RO (d + 79) 177 [.ref 28] I J D bc bs P := by
  refine w_177 (d := d + 78) ?_
  refine hx _ (fun I1 J1 t1 lx => ?_)
  refine s_147 (d := d + 77) (fun I2 f2 a1 a2 a3 a4 a5 a6 a7 a8 => ?_)
  have t2 : qTm T I2 J1 := by
    unfold qTm
    rw [f2.2 4 (by decide), f2.1 31 (by decide) (by decide), f2.1 32 (by decide) (by decide)]
    exact t1
  have e3 : I2 28 3 = I1 28 3 := f2.2 3 (by decide)
  have fin : ∀ {e p : Int32} {I' : zI} {J' : zJ} {b9 s9 : Nat}, qCo T (I1 28 3) r = some (e, p) → zfm cKs rLs I2 I' → rfj J1 J' → zw RO (d + 78) 177 (zPn 177 P) 94 [(0, .ref 28), (1, .int e)] [] (zu I' 28 29 p) J' D b9 s9 := fun {e p I' J' b9 s9} hq g gj => by
    refine s_177_94 (d := d + 77) (fun I5 f5 b1 b2 => ?_)
    refine E I1 J1 lx e p hq I5 J' (zfm_trans (zfm_sub f2 (by simp) (by simp)) (zfm_trans (zfm_z (zfm_sub g (by simp) (by simp)) _ _ (by decide)) (zfm_sub f5 (by simp) (by simp)))) gj b1 ?_ b2
    rw [f5.2 29 (by decide), zu_s]
  refine s_two (d := d) hRO hw hv h t2 a1 a2 a7 a8 hb (fun j er I' J' g gj => ?_) (fun q j e er ho I' J' g gj => ?_) (fun q er c1 hc I' J' a g gj t' ha b19 b29 b25 rp => ?_)
  · exact fin (by rw [er]; rfl) g gj
  · refine fin ?_ g gj
    unfold qCo
    subst er
    show (match qOut (qEE T) 0 (.inr q : Nat ⊕ (Nat × Unit)) with
      | .inl w => some (zi (w.2 : Int), zi (T.2.1 w.1 : Int))
      | .inr _ => if (qMm T q.1).1 2 = 0 ∨ (qMm T q.1).1 6 = 0 then some ((7 : Int32), I1 28 3) else none) = _
    rw [ho]
  · subst er
    obtain ⟨p1, p2, p3⟩ := pP_end hw h
    have oq : qOut (qEE T) 0 (.inr q : Nat ⊕ (Nat × Unit)) = .inr q := qOut_r (qFe_none (fun j _ h2 => hc j (by omega)))
    have co : qCo T (I1 28 3) (.inr q) = if (qMm T q.1).1 2 = 0 ∨ (qMm T q.1).1 6 = 0 then some (7, I1 28 3) else none := by
      show (match qOut (qEE T) 0 (.inr q : Nat ⊕ (Nat × Unit)) with
        | .inl w => some (zi (w.2 : Int), zi (T.2.1 w.1 : Int))
        | .inr _ => if (qMm T q.1).1 2 = 0 ∨ (qMm T q.1).1 6 = 0 then some ((7 : Int32), I1 28 3) else none) = _
      rw [oq]
    have k4 : I' 37 4 = zi ((qMm T q.1).1 2 : Int) := rp.1 2 (by omega)
    have k8 : I' 37 8 = zi ((qMm T q.1).1 6 : Int) := rp.1 6 (by omega)
    have m2 := qPg_mx hc 2 (by omega)
    have m6 := qPg_mx hc 6 (by omega)
    have m2 : (qMm T q.1).1 2 ≤ 12 := m2
    have m6 : (qMm T q.1).1 6 ≤ 12 := m6
    have i4 : I' 37 4 ≤ 0 ↔ (qMm T q.1).1 2 = 0 := by
      rw [k4, show (0 : Int32) = zi ((0 : Nat) : Int) from rfl, zi_le (by omega) (by omega)]
      omega
    have i8 : I' 37 8 ≤ 0 ↔ (qMm T q.1).1 6 = 0 := by
      rw [k8, show (0 : Int32) = zi ((0 : Nat) : Int) from rfl, zi_le (by omega) (by omega)]
      omega
    have e3' : I' 28 3 = I1 28 3 := (g.2 3 (by decide)).trans e3
    have bad : ((qMm T q.1).1 2 = 0 ∨ (qMm T q.1).1 6 = 0) → ∀ b9 s9, zw RO (d + 78) 177 (zPn 177 P) 94 [(0, .ref 28), (1, .int 7)] [] (zu I' 28 29 (I' 28 3)) J' D b9 s9 := fun z b9 s9 => by
      rw [e3']
      exact fin (by rw [co, if_pos z]) g gj
    show _ ∧ _
    refine ⟨fun z => ⟨bc, bs, Nat.le_refl _, Nat.le_refl _, s_150f (d := d + 77) b25 rfl hb ⟨rfl, bad (Or.inl (i4.mp z)) _ _⟩⟩, fun z => ⟨fun z8 => ⟨bc, bs, Nat.le_refl _, Nat.le_refl _, s_150f (d := d + 77) b25 rfl hb ⟨rfl, bad (Or.inr (i8.mp z8)) _ _⟩⟩, fun z8 => ⟨0, 0, Nat.zero_le _, Nat.zero_le _, s_150t (d := d + 77) (Or.inr (by decide)) ?_⟩⟩⟩
    have cn : qCo T (I1 28 3) (.inr q) = none := by
      rw [co, if_neg (fun y => y.elim (fun y => z (i4.mpr y)) (fun y => z8 (i8.mpr y)))]
    have f9 : zfm [3, 23] [] I' (zu (zu I' 28 23 1) 28 3 0) := zfm_z (zfm_z (zfm_refl _) _ _ (by decide)) _ _ (by decide)
    refine K I1 J1 lx q rfl cn c1 hc _ J' a (zfm_trans (zfm_sub f2 (by simp) (by simp)) (zfm_trans (zfm_sub g (by simp) (by simp)) (zfm_sub f9 (by simp) (by simp)))) gj ha ?_ ?_ ?_ ?_ ?_ ?_ ?_ ?_
    · rw [f9.2 19 (by decide)]
      exact b19
    · rw [f9.2 29 (by decide)]
      exact b29
    · rw [zu_s]
    · rw [zu_n _ _ (by omega), zu_s]
    · rw [f9.2 30 (by decide), g.2 30 (by decide)]
      exact a4
    · rw [f9.2 47 (by decide), g.2 47 (by decide)]
      exact a5
    · rw [f9.2 45 (by decide), g.2 45 (by decide)]
      exact a6
    · unfold qRp qBc qCd at rp ⊢
      simp only [zu_row _ _ (show (37 : Nat) ≠ 28 by decide), zu_row _ _ (show (38 : Nat) ≠ 28 by decide), zu_row _ _ (show (39 : Nat) ≠ 28 by decide), zu_row _ _ (show (40 : Nat) ≠ 28 by decide), zu_row _ _ (show (41 : Nat) ≠ 28 by decide), zu_row _ _ (show (42 : Nat) ≠ 28 by decide), zu_row _ _ (show (43 : Nat) ≠ 28 by decide), zu_row _ _ (show (44 : Nat) ≠ 28 by decide), zu_row _ _ (show (45 : Nat) ≠ 28 by decide), f9.2 18 (by decide)]
      exact rp
end MRead3

/-! ===== the class's compile, its tokens given ===== -/
/-- no game, no program -/
def qNo (I : zI) (J : zJ) : Prop := I 23 5 = -1 ∧ I 23 4 = 0 ∧ I 20 2 = 0 ∧ I 20 3 = 0 ∧ J 20 9 = 0
abbrev ccL : List Nat := [0, 1, 3, 4, 5, 8, 9, 10, 11, 12, 13, 14, 15, 16, 17, 18, 19, 20, 23]
section CComp
variable {RO : zRo} {d : Nat} {P : zP} {I : zI} {J : zJ} {D : zD} {bc bs : Nat} {T : qTk}
theorem n_94 {k : Nat} (hw : qTw T) (ht : qTc T I) (hk : k < T.2.2.2) : zv_94 I J (zi (k : Int)) = zi (T.2.1 k : Int) := by
  have hN := hw.2.1
  unfold zv_94
  rw [if_neg (fun z => by rw [zq_l (l := 0) (n := 0) rfl (by omega) (by omega)] at z; omega), if_neg (fun z => by rw [ht.1, zi_le (by omega) (by omega)] at z; omega), if_neg (fun z => by rw [zq_p (l := 451) (n := 451) rfl (by omega) (by omega)] at z; omega), zi_clk (by omega)]
  exact (ht.2 k hk).2
theorem c_74_7 (K : ∀ I', zfr [13] I I' → (∀ x, x < 7 → I' 13 x = 0) → P (.inl none) I' J D) : ∀ {m i : Nat} {I1 : zI}, i + m = 7 → zfr [13] I I1 → (∀ x, x < i → I1 13 x = 0) → zw RO d 74 P 7 [(0, .ref 12), (1, .int (zi (i : Int)))] [] I1 J D bc bs
  | 0, i, I1, hm, f, h => by
    refine wl_74_7 ⟨fun _ => K I1 f (fun x hx => h x (by omega)), fun z => absurd (by rw [zq_p (l := 7) (n := 7) rfl (by omega) (by omega)]; omega) z⟩
  | m + 1, i, I1, hm, f, h => by
    refine wl_74_7 ⟨fun z => by rw [zq_p (l := 7) (n := 7) rfl (by omega) (by omega)] at z; omega, fun _ => ⟨zi_in (by omega) (by omega) (by omega), ?_⟩⟩
    rw [zi_succ, zi_clk (by omega)]
    refine c_74_7 K (m := m) (i := i + 1) (by omega) (zfr_zu f _ _ (by simp)) (fun x hx => ?_)
    by_cases e : x = i
    · rw [e, zu_s]
    · rw [zu_n _ _ (fun z => e z.2)]
      exact h x (by omega)
/-- the program forgotten -/
theorem c_74 (K : ∀ I', zfr [12, 13] I I' → I' 12 7 = 0 → (∀ j, ¬ j = 7 → I' 12 j = I 12 j) → (∀ x, x < 7 → I' 13 x = 0) → P (.inl none) I' J D) : zz RO (d + 1) 74 [.ref 12] I J D bc bs P := by
  refine w_74 ?_
  refine c_74_7 (I := zu I 12 7 0) (fun I' f h => ?_) (m := 7) (i := 0) rfl (zfr_refl _) (fun x hx => by omega)
  refine K I' (fun o ho => ?_) ?_ (fun j hj => ?_) h
  · rw [f o (fun z => ho (by simp only [List.mem_cons, List.not_mem_nil, or_false] at z; rw [z]; simp)), zu_row _ _ (fun z => ho (by rw [z]; simp))]
  · rw [f 12 (by decide), zu_s]
  · rw [f 12 (by decide), zu_n _ _ (fun z => hj z.2)]
theorem s_109 {f : Nat} {r : Nat ⊕ (Nat × Unit)} {tp : Int32} (hRO : zROk RO) (hw : qTw T) (hv : qTv T) (h : pP T.1 f 0 = some r) (hend : T.1 (T.2.2.2 - 1) = 1 → zi (T.2.1 (T.2.2.2 - 1) : Int) = tp) (hx : ∀ (Q : zP) (I0 : zI) (J0 : zJ), I0 1 = I 1 → I0 2 = I 2 → J0 7 = J 7 → (∀ I' J', zfr [3, 4, 5] I0 I' → zfr [6] J0 J' → qTc T I' → (∀ k, k < T.2.2.2 → J' 6 k = T.2.2.1 k) → Q (.inl none) I' J' D) → zz RO (d + 96) 92 [.ref 3, .ref 1] I0 J0 D 0 0 Q)
    (E : ∀ e p, qCo T tp r = some (e, p) → ∀ I' J', zfr ccL I I' → zfr [6, 20] J J' → I' 1 1 = 0 → I' 0 8 = p → I' 12 7 = 0 → qNo I' J' → (∀ x, x < 7 → I' 13 x = 0) → P (.inl (some (.int e))) I' J' D)
    (K : ∀ q, r = .inr q → qCo T tp r = none → q.1 + 1 = T.2.2.2 → qCln T → gAll T q.1 → ∀ I' J', zfr ccL I I' → zfr [6, 20] J J' → I' 1 1 = 0 → I' 0 8 = -1 → I' 12 7 = 1 → qNo I' J' → zPok (qPb T (qMm T q.1) I') → zCp (qPb T (qMm T q.1) I') I' → (∀ x, x < 36 → w14 T q.1 x → I' 14 x = zi ((qMm T q.1).2.1 x)) → (∀ i, i < 6 → i < (qMm T q.1).1 2 → I' 15 i = (qMm T q.1).2.2.1 i) → P (.inl (some (.int 0))) I' J' D) : zz RO (d + 97) 109 [.ref 0] I J D bc bs P := by
  have hN := hw.1
  have hN9 := hw.2.1
  refine w_109 (d := d + 95) ?_
  refine w_27 (d := d + 95) ?_
  refine c_74 (d := d + 95) (fun I2 f2 a12 _ a13 => ?_)
  have n2 : qNo I2 (zu J 20 9 0) := by
    refine ⟨?_, ?_, ?_, ?_, zu_s _ _ _ _⟩
    · rw [f2 23 (by decide), zu_row _ _ (by decide), zu_row _ _ (by decide), zu_n _ _ (by omega), zu_s]
    · rw [f2 23 (by decide), zu_row _ _ (by decide), zu_row _ _ (by decide), zu_s]
    · rw [f2 20 (by decide), zu_n _ _ (by omega), zu_s]
    · rw [f2 20 (by decide), zu_s]
  have fr2 : zfr ccL I I2 := zfr_trans (zfr_zu (zfr_zu (zfr_zu (zfr_zu (zfr_refl I) 5 _ (by simp)) 4 _ (by simp)) 2 _ (by simp)) 3 _ (by simp)) (zfr_sub f2 (by simp))
  refine hx _ I2 (zu J 20 9 0) ?_ ?_ ?_ (fun I3 J3 f3 g3 t3 j3 => ?_)
  · rw [f2 1 (by decide), zu_row _ _ (by decide), zu_row _ _ (by decide), zu_row _ _ (by decide), zu_row _ _ (by decide)]
  · rw [f2 2 (by decide), zu_row _ _ (by decide), zu_row _ _ (by decide), zu_row _ _ (by decide), zu_row _ _ (by decide)]
  · rw [zu_row _ _ (by decide)]
  have f3' : zfr [1, 3, 4, 5] I2 (zu I3 1 1 0) := zfr_zu (zfr_sub f3 (by simp)) _ _ (by simp)
  have t3' : qTc T (zu I3 1 1 0) := qTc_keep t3 (zu_row _ _ (by decide)) (zu_row _ _ (by decide)) (zu_row _ _ (by decide))
  have n3 : qNo (zu I3 1 1 0) J3 := by
    unfold qNo
    rw [f3' 23 (by decide), f3' 20 (by decide), g3 20 (by decide)]
    exact n2
  have b13 : ∀ x, x ≤ 6 → (zu I3 1 1 0) 13 x = 0 := fun x hx => by
    rw [f3' 13 (by decide)]
    exact a13 x (by omega)
  have b12 : (zu I3 1 1 0) 12 7 = 0 := by
    rw [f3' 12 (by decide)]
    exact a12
  have b11 : (zu I3 1 1 0) 1 1 = 0 := zu_s _ _ _ _
  have fr3 : zfr ccL I (zu I3 1 1 0) := zfr_trans fr2 (zfr_sub f3' (by simp))
  have gr3 : zfr [6, 20] J J3 := zfr_trans (zfr_zu (zfr_refl J) _ _ (by simp)) (zfr_sub g3 (by simp))
  show zz RO (d + 96) 7 [.ref 11] (zu I3 1 1 0) J3 D 0 0 _
  generalize zu I3 1 1 0 = I4 at t3' n3 b13 b12 b11 fr3 ⊢
  -- an error: the program forgotten once more
  have er : ∀ {e p : Int32} {I5 I6 : zI} {J5 : zJ}, qCo T tp r = some (e, p) → zfr ([8, 9, 10, 11] ++ cmL) I4 I5 → zfr [6] J3 J5 → zfr [12, 13] I5 I6 → I6 12 7 = 0 → (∀ x, x < 7 → I6 13 x = 0) → ∀ v, v = p → P (.inl (some (.int e))) (zu I6 0 8 v) J5 D := fun {e p I5 I6 J5} hq f5 g5 f6 q12 q13 v hv => by
    have f56 : zfr ([8, 9, 10, 11] ++ cmL) I4 I6 := zfr_trans f5 (zfr_sub f6 (by simp))
    refine E e p hq _ J5 (zfr_zu (zfr_trans fr3 (zfr_sub f56 (by simp))) _ _ (by simp)) (zfr_trans gr3 (zfr_sub g5 (by simp))) ?_ ?_ ?_ ?_ (fun x hx => ?_)
    · rw [zu_row _ _ (by decide), f56 1 (by decide)]
      exact b11
    · rw [zu_s, hv]
    · rw [zu_row _ _ (by decide)]
      exact q12
    · unfold qNo
      rw [zu_row _ _ (by decide), zu_row _ _ (by decide), f56 23 (by decide), f56 20 (by decide), g5 20 (by decide)]
      exact n3
    · rw [zu_row _ _ (by decide)]
      exact q13 x hx
  refine r_7 (d := d) hw h t3' (fun j er0 I5 J5 f5 g5 => ?_) (fun q er0 hq1 I5 J5 c f5 g5 je h82 hc9 hE => ?_)
  · -- an error of form
    subst er0
    have jl : j < T.2.2.2 := by
      have := pP_pos hw (by omega) h
      have p2 : qPos (.inl j : Nat ⊕ (Nat × Unit)) < T.2.2.2 := this.2
      exact p2
    have t5 : qTc T I5 := qTc_fr t3' f5
    show _ ∧ _
    refine ⟨fun _ => ?_, fun z => absurd (by rw [zq_p (l := 0) (n := 0) rfl (by omega) (by omega)]; omega) z⟩
    refine c_74 (d := d + 95) (fun I6 f6 q12 _ q13 => ?_)
    have t6 : qTc T I6 := qTc_keep t5 (f6 3 (by decide)) (f6 4 (by decide)) (f6 5 (by decide))
    refine er (e := 1) (p := zi (T.2.1 j : Int)) rfl (zfr_sub f5 (by simp)) g5 f6 q12 q13 _ (n_94 hw t6 jl)
  · subst er0
    obtain ⟨e1, e2, e3⟩ := pP_end hw h
    have en : q.1 = T.2.2.2 - 1 := by omega
    have hg := pP_gm h gAll_0
    have t5 : qTc T I5 := qTc_fr t3' f5
    have hJ0 : ∀ t, t < T.2.2.2 → ¬ ent (T.1 t) → J5 6 t = T.2.2.1 t := fun t ht hn => by
      rw [je t hn]
      exact j3 t ht
    have hgg : ∀ j, T.1 j = 13 ∨ T.1 j = 14 → 7 ≤ (qMm T j).1 10 ∧ (qMm T j).1 10 ≤ 9 := fun j hj => hg.1.1 j (by
      have := qTw_lt hw (k := j) (by omega)
      omega) hj
    show _ ∧ _
    refine ⟨fun z => absurd z (by decide), fun _ => ?_⟩
    have f5' : zfr ([8, 9, 10, 11] ++ cmL) I4 I5 := zfr_sub f5 (by simp)
    refine c_60 (d := d + 90) hRO hw hv hJ0 e3 hgg hg.2 t5 (fun x hx => by rw [f5 13 (by decide)]; exact b13 x hx) ⟨fun i hi hcl hne I6 J6 f6 g6 k12 k2 => ?_, fun hcl hla I6 J6 f6 g6 k12 k2 => ?_, fun hcl hla I6 J6 f6 g6 k12 hx6 => ?_⟩
    · -- an error of the meaning
      have b6 : qEE T i ≤ 6 := by
        unfold qEE qE1
        (repeat' split) <;> omega
      have t6 : qTc T I6 := qTc_keep t5 (f6 3 (by decide)) (f6 4 (by decide)) (f6 5 (by decide))
      show _ ∧ _
      refine ⟨fun z => absurd z (by rw [zq_e (l := 0) (n := 0) rfl (by omega) (by omega)]; exact hne), fun _ => ?_⟩
      refine c_74 (d := d + 95) (fun I7 f7 q12 _ q13 => ?_)
      have t7 : qTc T I7 := qTc_keep t6 (f7 3 (by decide)) (f7 4 (by decide)) (f7 5 (by decide))
      have co : qCo T tp (.inr q) = some (zi (qEE T i : Int), zi (T.2.1 i : Int)) := by
        have fe : qFe (qEE T) (q.1 - 0) 0 = some i := by
          have s1 : qFe (qEE T) (i + (q.1 - i)) 0 = match qFe (qEE T) i 0 with
            | some i => some i
            | none => qFe (qEE T) (q.1 - i) (0 + i) := qFe_app i (q.1 - i) 0
          rw [qFe_none (m := i) (k := 0) (fun j _ h2 => hcl j (by omega))] at s1
          rw [show q.1 - 0 = i + (q.1 - i) by omega, s1]
          show qFe (qEE T) (q.1 - i) (0 + i) = some i
          rw [Nat.zero_add]
          obtain ⟨m, hm⟩ : ∃ m, q.1 - i = m + 1 := ⟨q.1 - i - 1, by omega⟩
          rw [hm]
          unfold qFe
          rw [if_neg hne]
        unfold qCo
        show (match qOut (qEE T) 0 (.inr q : Nat ⊕ (Nat × Unit)) with
          | .inl w => some (zi (w.2 : Int), zi (T.2.1 w.1 : Int))
          | .inr _ => if (qMm T q.1).1 2 = 0 ∨ (qMm T q.1).1 6 = 0 then some ((7 : Int32), tp) else none) = _
        rw [qOut_fe (α := Unit) (E := qEE T) (k := 0) (i := i) (r := .inr q) fe]
      refine er co (zfr_trans f5' (zfr_sub f6 (by simp))) (zfr_trans g5 g6) f7 q12 q13 _ ?_
      rw [k2]
      exact n_94 hw t7 (by omega)
    · have t6 : qTc T I6 := qTc_keep t5 (f6 3 (by decide)) (f6 4 (by decide)) (f6 5 (by decide))
      show _ ∧ _
      refine ⟨fun z => absurd z (by decide), fun _ => ?_⟩
      refine c_74 (d := d + 95) (fun I7 f7 q12 _ q13 => ?_)
      have t7 : qTc T I7 := qTc_keep t6 (f7 3 (by decide)) (f7 4 (by decide)) (f7 5 (by decide))
      have oq : qOut (qEE T) 0 (.inr q : Nat ⊕ (Nat × Unit)) = .inr q := qOut_r (qFe_none (fun j _ h2 => hcl j (by omega)))
      have co : qCo T tp (.inr q) = some (7, tp) := by
        show (match qOut (qEE T) 0 (.inr q : Nat ⊕ (Nat × Unit)) with
          | .inl w => some (zi (w.2 : Int), zi (T.2.1 w.1 : Int))
          | .inr _ => if (qMm T q.1).1 2 = 0 ∨ (qMm T q.1).1 6 = 0 then some ((7 : Int32), tp) else none) = _
        rw [oq]
        show (if (qMm T q.1).1 2 = 0 ∨ (qMm T q.1).1 6 = 0 then some ((7 : Int32), tp) else none) = _
        rw [en, if_pos hla]
      refine er co (zfr_trans f5' (zfr_sub f6 (by simp))) (zfr_trans g5 g6) f7 q12 q13 _ ?_
      rw [k2, n_94 hw t7 (by omega)]
      exact hend (by rw [← en]; exact e2)
    · have t6 : qTc T I6 := qTc_keep t5 (f6 3 (by decide)) (f6 4 (by decide)) (f6 5 (by decide))
      have oq : qOut (qEE T) 0 (.inr q : Nat ⊕ (Nat × Unit)) = .inr q := qOut_r (qFe_none (fun j _ h2 => hcl j (by omega)))
      have co : qCo T tp (.inr q) = none := by
        show (match qOut (qEE T) 0 (.inr q : Nat ⊕ (Nat × Unit)) with
          | .inl w => some (zi (w.2 : Int), zi (T.2.1 w.1 : Int))
          | .inr _ => if (qMm T q.1).1 2 = 0 ∨ (qMm T q.1).1 6 = 0 then some ((7 : Int32), tp) else none) = _
        rw [oq]
        show (if (qMm T q.1).1 2 = 0 ∨ (qMm T q.1).1 6 = 0 then some ((7 : Int32), tp) else none) = _
        rw [en, if_neg hla]
      show _ ∧ _
      refine ⟨fun _ => ?_, fun z => absurd rfl z⟩
      obtain ⟨n8, h82n, hn8⟩ : ∃ n : Nat, I5 8 2 = zi (n : Int) ∧ n ≤ 450 := by
        obtain ⟨t1, t2⟩ := qMm_w10 (T := T) (T.2.2.2 - 1) (by omega)
        obtain ⟨k2, o, ho⟩ := (hg.1.2.1 _ (by omega : (qMm T (T.2.2.2 - 1)).1 14 < q.1)).1 (Or.inl t1)
        obtain ⟨a, _, _, _, n, w1, _, w3⟩ := (hE _ (by omega : (qMm T (T.2.2.2 - 1)).1 14 < q.1)).1 (Or.inl t1) k2 o ho
        exact ⟨n, w1, w3⟩
      have h82' : I6 8 2 = zi (n8 : Int) := by
        rw [f6 8 (by decide)]
        exact h82n
      refine c_5 (d := d + 94) h82' hn8 (fun I7 f7 l7 u7 => ?_)
      have cp := qPb_C (T := T) (If := I5) (Im := I6) (Il := I7) hw hcl (by rw [← en]; exact hg.1) hla hJ0 (fun t ht => hE t (by omega)) h82n hn8 f6 hx6 f7 l7
      have ord : gOrd T (T.2.2.2 - 1) := by
        rw [← en]
        exact pP_ord h (fun i hi => hcl i (by omega)) (fun c _ i hi => by
          have hi : i < 0 := hi
          omega)
      have h14 : ∀ x, x < 36 → w14 T (T.2.2.2 - 1) x → I7 14 x = zi ((qMm T (T.2.2.2 - 1)).2.1 x) := fun x hx hx2 => by
        rw [f7 14 (by decide)]
        exact hx6.2.2.2.1.1 x hx hx2
      have pk := qPb_ok (I := I7) hw hv hcl (by rw [← en]; exact hg.1) ord hla h14
      have f57 : zfr ([8, 9, 10, 11] ++ cmL) I4 I7 := zfr_trans (zfr_trans f5' (zfr_sub f6 (by simp))) (zfr_sub f7 (by simp))
      have rows : ∀ o, ¬ o = 12 → ¬ o = 0 → (zu (zu I7 12 7 1) 0 8 (-1)) o = I7 o := fun o h1 h2 => by rw [zu_row _ _ h2, zu_row _ _ h1]
      have epb : ∀ m, qPb T m (zu (zu I7 12 7 1) 0 8 (-1)) = qPb T m I7 := fun m => by
        unfold qPb
        rw [rows 14 (by decide) (by decide), rows 15 (by decide) (by decide)]
      show P (.inl (some (.int 0))) (zu (zu I7 12 7 1) 0 8 (-1)) J6 D
      refine K q rfl co e1 hcl hg.1 _ J6 (zfr_zu (zfr_zu (zfr_trans fr3 (zfr_sub f57 (by simp))) _ _ (by simp)) _ _ (by simp)) (zfr_trans gr3 (zfr_sub (zfr_trans g5 g6) (by simp))) ?_ (zu_s _ _ _ _) ?_ ?_ ?_ ?_ (fun x hx hx2 => ?_) (fun i hi hi2 => ?_)
      · rw [rows 1 (by decide) (by decide), f57 1 (by decide)]
        exact b11
      · rw [zu_row _ _ (by decide), zu_s]
      · unfold qNo
        rw [rows 23 (by decide) (by decide), rows 20 (by decide) (by decide), f57 23 (by decide), f57 20 (by decide), g6 20 (by decide), g5 20 (by decide)]
        exact n3
      · rw [epb, en]
        exact pk
      · rw [epb, en]
        unfold zCp zCw at cp ⊢
        simp only [rows 13 (by decide) (by decide), rows 14 (by decide) (by decide), rows 15 (by decide) (by decide), rows 16 (by decide) (by decide), rows 17 (by decide) (by decide), rows 18 (by decide) (by decide)]
        have zr9 : ∀ a L, zcR I7 a L → zcR (zu (zu I7 12 7 1) 0 8 (-1)) a L := fun a L h => zcR_of h (rows 8 (by decide) (by decide)) (rows 9 (by decide) (by decide)) (rows 10 (by decide) (by decide))
        obtain ⟨p1, p2, p3, p4, p5, p6, a, p7, p8⟩ := cp
        refine ⟨p1, p2, p3, p4, fun b hb => ?_, fun b hb => ?_, a, ?_, zr9 _ _ p8⟩
        · have w := p5 b hb
          split at w
          · exact w
          · obtain ⟨a, w1, w2⟩ := w
            exact ⟨a, w1, zr9 _ _ w2⟩
        · obtain ⟨a, w1, w2⟩ := p6 b hb
          exact ⟨a, w1, zr9 _ _ w2⟩
        · rw [zu_row _ _ (by decide), zu_n _ _ (by omega)]
          exact p7
      · rw [rows 14 (by decide) (by decide), f7 14 (by decide)]
        rw [en] at hx2 ⊢
        exact hx6.2.2.2.1.1 x hx hx2
      · rw [rows 15 (by decide) (by decide), f7 15 (by decide)]
        rw [en] at hi2 ⊢
        exact hx6.2.2.2.1.2.1 i hi hi2
end CComp

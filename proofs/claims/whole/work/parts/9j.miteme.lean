/-! ===== the reference's items: bodies, the item's end ===== -/
theorem pAc_15 {s : Nat → Nat} {k k0 k1 : Nat} {l : List (zSt 4)} {r : Nat ⊕ (Nat × Unit)} (h : pAc s k = some r) (hq : (s k = 13 ∧ ∃ o, pEx s (k + 1) = pO k0 o) ∨ (¬ s k = 13 ∧ k0 = k)) (hS : pS s 500 4 (k0 + 1) = pO k1 l) (h14 : s k0 = 14) (er : r = .inr (k1 + 1, ())) : s k1 = 15 := by
  have b : pBd s k0 = some r := by
    unfold pAc at h
    rcases hq with ⟨c, o, ho⟩ | ⟨c, e⟩
    · rw [if_pos c, ho] at h
      exact h
    · rw [if_neg c, ← e] at h
      exact h
  unfold pBd at b
  rw [if_pos h14, hS] at b
  have b : pT s 15 k1 = some r := b
  rw [er] at b
  exact (pT_inv b).1
theorem qBd_apart {d c i N : Nat} (hd : 7 ≤ d ∧ d ≤ 9) (hc : 7 ≤ c ∧ c ≤ 9) (hi : i < qMost (d - 4)) (hN : N < qMost (c - 4)) (h : d = c → i < N) : ¬ qBd d i = qBd c N := by
  have e7 : ∀ x, qBd 7 x = x := fun _ => rfl
  have e8 : ∀ x, qBd 8 x = 12 + x := fun _ => rfl
  have e9 : ∀ x, qBd 9 x = 20 + x := fun _ => rfl
  have m7 : qMost (7 - 4) = 12 := rfl
  have m8 : qMost (8 - 4) = 8 := rfl
  have m9 : qMost (9 - 4) = 8 := rfl
  have hd2 : d = 7 ∨ d = 8 ∨ d = 9 := by omega
  have hc2 : c = 7 ∨ c = 8 ∨ c = 9 := by omega
  rcases hd2 with z | z | z <;> rcases hc2 with y | y | y <;> subst z <;> subst y <;> simp only [m7, m8, m9] at hi hN <;> simp only [e7, e8, e9] <;> first | omega | (have := h rfl; omega)
section MItemE
variable {RO : zRo} {d : Nat} {P : zP} {I : zI} {J : zJ} {D : zD} {bc bs : Nat} {T : qTk} {mn ct k dp a j c : Nat} {I0 : zI} {J0 : zJ} {ok : Prop}
theorem s_bdE {pb N kb : Nat} {I2 : zI} {J2 : zJ} {r : Nat ⊕ (Nat × Unit)} (hw : qTw T) (hm : mn = 0 ∨ mn = 1) (hc : pb = 0 ∧ T.1 k = 7 ∨ pb = 12 ∧ T.1 k = 8 ∨ pb = 20 ∧ T.1 k = 9) (hF : pAc T.1 kb = some r) (hok : mn = 1 → ∃ q, r = .inr q) (hkb : k + 2 ≤ kb) (hn : kb < T.2.2.2) (ht1 : ¬ (4 ≤ T.1 (kb - 1) ∧ T.1 (kb - 1) ≤ 9)) (hab : mn = 1 → a ≤ 3 * k) (s2 : qMi T mn I0 J0 kb a I2 J2) (n1 : I2 37 (qkm (T.1 k)) = zi (N : Int)) (n2 : mn = 1 → N = (qMm T k).1 (T.1 k - 4)) (n3 : N < qMost (T.1 k - 4)) (hcl2 : mn = 1 → ∀ i, i < kb → qEE T i = 0)
    (mk : mn = 1 → (∀ x, x ≤ 6 → (qMm T kb).1 x = if x = T.1 k - 4 then (qMm T k).1 x + 1 else (qMm T k).1 x) ∧ (qMm T kb).1 10 = T.1 k ∧ (qMm T kb).1 11 = N ∧ (qMm T kb).1 14 = (qMm T k).1 14 ∧ (qMm T kb).2.1 = (qMm T k).2.1 ∧ (qMm T kb).2.2.1 = (qMm T k).2.2.1 ∧ (∀ i, i < (qMm T k).1 5 → (qMm T kb).2.2.2.1 i = (qMm T k).2.2.2.1 i) ∧ (qMm T kb).2.2.2.2.1 = qup (qMm T k).2.2.2.2.1 (qBd (T.1 k) N) none ∧ (qMm T kb).2.2.2.2.2 = (qMm T k).2.2.2.2.2)
    (hrp : mn = 1 → qRp ok (qPg T (qMm T k)) a I) (f02 : zfm [8, 24] [35, 36, 42] I I2) (h42 : mn = 1 → (∀ i, i < (qMm T k).1 5 → I2 42 i = I 42 i) ∧ (T.1 k = 9 → I2 42 N = zi ((qMm T kb).2.2.2.1 N : Int))) (H1 : qTh T P D bc bs I0 J0 (qOut (qEp9 T mn) kb r)) (H2 : ∀ q, r = .inr q → qFin T mn ok I0 J0 P D I a q.1) :
    zz RO (d + 76) 171 [.ref 28, .int (zi (pb : Int))] I2 J2 D bc bs (zNv P fun I J D => tTl P (zi (qkm (T.1 k) : Int)) I J D) := by
  have hN := hw.2.1
  have hc9 : 7 ≤ T.1 k ∧ T.1 k ≤ 9 := by omega
  have eb : qBd (T.1 k) N = pb + N ∧ pb + N < 28 := by
    rcases hc with ⟨z, y⟩ | ⟨z, y⟩ | ⟨z, y⟩
    · rw [y] at n3
      have n3 : N < 12 := n3
      rw [y, z]
      exact ⟨(Nat.zero_add N).symm, by omega⟩
    · rw [y] at n3
      have n3 : N < 8 := n3
      rw [y, z]
      exact ⟨rfl, by omega⟩
    · rw [y] at n3
      have n3 : N < 8 := n3
      rw [y, z]
      exact ⟨rfl, by omega⟩
  refine s_171 (d := d) (r := r) (c := T.1 k) (b := pb + N) (N := N) hc n1 rfl ?_
  refine s_tBo (d := d) hw hm hF hok hn (fun m1 => by have := hab m1; omega) eb.2 ht1 hcl2 (fun m1 => by rw [(mk m1).2.1]; omega) s2 H1 (fun W v k0 k1 l hW hS h14 er eo I5 f5 e5 z5 b5 => ?_)
  have m5 : I5 28 25 = zi (mn : Int) := by rw [f5.2 25 (by decide)]; exact s2.2.2.1
  have hq : (T.1 kb = 13 ∧ ∃ o, pEx T.1 (kb + 1) = pO k0 o) ∨ (¬ T.1 kb = 13 ∧ k0 = kb) := by
    rcases hW with ⟨w1, o, w2, _⟩ | ⟨w1, w2, _⟩
    · exact Or.inl ⟨w1, o, w2⟩
    · exact Or.inr ⟨w1, w2⟩
  have h15 := pAc_15 hF hq hS h14 er
  have tS := pS_ok (f := 500) hS
  have lS := (pS_ln (T := T) (pl := qPl T) 500) hS (a + W.length)
  have l1 := tS.1.1
  have k0b : kb ≤ k0 ∧ (∀ j, kb ≤ j → j < k0 → ¬ (4 ≤ T.1 j ∧ T.1 j ≤ 9)) ∧ W.length ≤ 2 * (k0 - kb) := by
    rcases hW with ⟨w1, o, w2, w3, _⟩ | ⟨w1, w2, w3, _⟩
    · have t := tks_ex w2
      refine ⟨by omega, fun j q1 q2 => ?_, ?_⟩
      · by_cases e : j = kb
        · rw [e]
          omega
        · have := ys_not (t.1.2 j (by omega) q2)
          omega
      · rw [w3, zmw_len, List.length_map]
        omega
    · refine ⟨by omega, fun j q1 q2 => by omega, ?_⟩
      rw [w3]
      exact Nat.zero_le _
  have t5 : qTm T I5 J2 := qTm_fr s2.1 (zfm_sub f5 (by simp) (by simp)) (zfr_refl _)
  have r5 : rfr I0 I5 := zfm_trans s2.2.2.2.2.2.1 (zfm_sub f5 (by simp) (by simp))
  have et2 : qTb9 T mn (k1 + 1) = qTb9 T mn kb := qTb9_ys (by omega) (fun j q1 q2 => by
    by_cases ej : j = kb
    · rw [ej]
      exact ht1
    · by_cases e2 : j - 1 < k0
      · exact k0b.2.1 (j - 1) (by omega) e2
      · by_cases e3 : j - 1 = k0
        · rw [e3]
          omega
        · have := ys_not (tS.1.2 (j - 1) (by omega) (by omega))
          omega)
  have bb5 : qTb (qTb9 T mn (k1 + 1)) I5 J2 := by
    rw [et2]
    unfold qTb
    rw [f5.2 8 (by decide), f5.1 35 (by decide) (by decide), f5.1 36 (by decide) (by decide)]
    exact s2.2.2.2.2.1
  have e37 : I5 37 = I 37 := (f5.1 37 (by decide) (by decide)).trans (f02.1 37 (by decide) (by decide))
  refine s_tTl (c := T.1 k) (by omega) hm m5 (fun m0 => ?_) (fun m1 => ?_)
  · have z5' := z5.1
    rw [eml0 m0] at z5'
    exact (H2 _ er).1 m0 I5 J2 ⟨t5, e5, by rw [m5, m0], by rw [z5']; rfl, by have b6 := bb5; rw [m0] at b6; exact b6, r5, s2.2.2.2.2.2.2⟩ e37 ((f5.1 39 (by decide) (by decide)).trans (f02.1 39 (by decide) (by decide)))
  · obtain ⟨k1', k2', k3', k4', k5', k6', k7', k8', k9'⟩ := mk m1
    obtain ⟨v1, v2⟩ := h42 m1
    rw [eml1 m1] at z5
    have ac := qMm_ac (l := l) (by rw [k2']; omega) hq hS h14 h15
    rw [k2', k3', k8', k9', eb.1] at ac
    obtain ⟨a1, a2, a3, a4, a5, a6⟩ := ac
    have b9 := b5.2 m1
    have n9 := n2 m1
    have b3 := hab m1
    have hclA : ∀ i, i < k1 + 1 → qEE T i = 0 := fun i hi => by
      have clq := qE_clean m1 eo (hcl2 m1)
      exact clq i hi
    have hclk : ∀ i, i < k → qEE T i = 0 := fun i hi => hcl2 m1 i (by omega)
    have lz : (W ++ (zcam (zmc 4) (l.map (qRs T (qPl T) 4)) (a + W.length) ++ [((303 : Nat), (0 : Int32), (0 : Int32))])).length = W.length + (zcam (zmc 4) (l.map (qRs T (qPl T) 4)) (a + W.length)).length + 1 := by
      rw [List.length_append, List.length_append, List.length_singleton]
      omega
    have ap : ∀ dd i, 7 ≤ dd → dd ≤ 9 → i < (qMm T k).1 (dd - 4) → ¬ qBd dd i = pb + N := fun dd i q1 q2 hi => by
      rw [← eb.1]
      have l9 := qCn_most (T := T) (c := dd - 4) (k := k) (by omega) hclk
      rw [← qMm_cn (by omega)] at l9
      exact qBd_apart ⟨q1, q2⟩ hc9 (by omega) n3 (fun z => by rw [n9, ← z]; exact hi)
    refine (H2 _ er).2 m1 hclA _ J2 (a + (W ++ (zcam (zmc 4) (l.map (qRs T (qPl T) 4)) (a + W.length) ++ [(303, 0, 0)])).length) ⟨?_, ?_, ?_, ?_, ?_, ?_, s2.2.2.2.2.2.2⟩ ?_ ?_
    · exact qTm_fr t5 (zfm_zu (zfm_refl _) _ _ (by decide) (by decide)) (zfr_refl _)
    · rw [zu_n _ _ (by omega)]
      exact e5
    · rw [zu_n _ _ (by omega), m5, m1]
    · rw [zu_n _ _ (by omega)]
      exact z5.1
    · rw [m1] at bb5
      unfold qTb at bb5 ⊢
      rw [zu_n _ _ (by omega), zu_row _ _ (by decide), zu_row _ _ (by decide)]
      exact bb5
    · exact zfm_zu r5 _ _ (by decide) (by decide)
    · rw [lz]
      have := k0b.1
      have := k0b.2.2
      show _ ≤ 3 * (k1 + 1)
      omega
    · show qRp ok (qPg T (qMm T (k1 + 1))) _ _
      have low : ∀ j, j < a → I5 43 j = I 43 j ∧ I5 44 j = I 44 j ∧ I5 45 j = I 45 j := fun j hj => by
        have w := z5.2.1 j hj
        rw [f02.1 43 (by decide) (by decide), f02.1 44 (by decide) (by decide), f02.1 45 (by decide) (by decide)] at w
        exact w
      have e42 : I5 42 = I2 42 := f5.1 42 (by decide) (by decide)
      refine qRp_other (c := T.1 k) (hrp m1) (by omega) (fun x hx => ?_) (fun x hx => ?_) (qPg_mx hclk) (fun d i hd hi w hw3 => ⟨?_, ?_⟩) (fun i _ => ⟨?_, ?_⟩) (fun i hi => ⟨?_, ?_⟩) (fun d i hd1 hd2 hi => ⟨?_, ?_, ?_, ?_⟩) (fun _ => ⟨?_, ?_⟩) (by omega) (fun j hj => ?_) (fun z => by omega) (fun z => by omega) (fun z => ?_) (fun z1 z2 => ?_) (fun z => by omega)
      · show (qMm T (k1 + 1)).1 x = _
        rw [a1 x (by omega), k1' x hx]
        rfl
      · by_cases e : x = T.1 k - 4
        · rw [if_pos e, show x + 4 = T.1 k by omega, zu_s, e37]
        · rw [if_neg e, zu_n _ _ (fun z => qkm_n hx (by omega) e z.2), e37]
      · rw [zu_row _ _ (by decide), f5.1 38 (by decide) (by decide), f02.1 38 (by decide) (by decide)]
      · show zi ((qMm T (k1 + 1)).2.1 _) = zi ((qMm T k).2.1 _)
        rw [a2, k5']
      · rw [zu_row _ _ (by decide), f5.1 39 (by decide) (by decide), f02.1 39 (by decide) (by decide)]
      · show (qMm T (k1 + 1)).2.2.1 i = (qMm T k).2.2.1 i
        rw [a3, k6']
      · rw [zu_row _ _ (by decide), e42]
        exact v1 i hi
      · show (qMm T (k1 + 1)).2.2.2.1 i = (qMm T k).2.2.2.1 i
        rw [a4]
        exact k7' i hi
      · show ((qMm T (k1 + 1)).2.2.2.2.1 _).map (qXo T) = ((qMm T k).2.2.2.2.1 _).map (qXo T)
        have hne := ap d i hd1 hd2 hi
        rw [a5]
        split
        · rw [qup_n _ _ hne, qup_n _ _ hne]
        · rw [qup_n _ _ hne]
      · show qXl T ((qMm T (k1 + 1)).2.2.2.2.2 _) = qXl T ((qMm T k).2.2.2.2.2 _)
        have hne := ap d i hd1 hd2 hi
        rw [a6, qup_n _ _ hne]
      · have hne := ap d i hd1 hd2 hi
        rw [zu_row _ _ (by decide), (b9 _).1, if_neg hne, f02.1 40 (by decide) (by decide)]
      · have hne := ap d i hd1 hd2 hi
        rw [zu_row _ _ (by decide), (b9 _).2, if_neg hne, f02.1 41 (by decide) (by decide)]
      · rw [zu_n _ _ (by omega), f5.2 18 (by decide), f02.2 18 (by decide)]
      · show qXo T ((qMm T (k1 + 1)).1 14) = qXo T ((qMm T k).1 14)
        rw [a1 14 (by omega), k4']
      · rw [zu_row _ _ (by decide), zu_row _ _ (by decide), zu_row _ _ (by decide)]
        exact low j hj
      · have n95 : gPc (qPg T (qMm T k)) 5 = N := by
          rw [n9, z]
          rfl
        rw [n95, zu_row _ _ (by decide), e42, v2 z]
        show _ = zi ((qMm T (k1 + 1)).2.2.2.1 N : Int)
        rw [a4]
      · have n94 : gPc (qPg T (qMm T k)) (T.1 k - 4) = N := n9.symm
        rw [n94, eb.1]
        have ed : gPd (qPg T (qMm T (k1 + 1))) (pb + N) = l.map (qRs T (qPl T) 4) := by
          show qXl T ((qMm T (k1 + 1)).2.2.2.2.2 (pb + N)) = _
          rw [a6, qup_s]
          exact qXl_of hS
        refine ⟨?_, a + W.length, ?_, ?_⟩
        · rcases hW with ⟨w1, o, w2, w3, w4⟩ | ⟨w1, w2, w3, w4⟩
          · have ew : gPw (qPg T (qMm T (k1 + 1))) (pb + N) = some (o.map (qRo T (qPl T))) := by
              show ((qMm T (k1 + 1)).2.2.2.2.1 (pb + N)).map (qXo T) = _
              rw [a5, if_pos w1, qup_s]
              show some (qXo T kb) = _
              rw [qXo_of w2]
            rw [ew]
            refine ⟨a + 1, ?_, ?_⟩
            · rw [zu_row _ _ (by decide), (b9 _).1, if_pos rfl]
              exact w4 m1
            · subst w3
              have cd := qmN_cd (A := [((301 : Nat), zi ((a + (o.map (qRo T (qPl T))).length + 2 : Nat) : Int), (0 : Int32))]) (B := (o.map (qRo T (qPl T))).map zmo ++ [(450, 0, 0)]) z5
              refine qCd_keep cd (Nat.le_refl _) (fun j hj => ?_)
              rw [zu_row _ _ (by decide), zu_row _ _ (by decide), zu_row _ _ (by decide)]
              exact ⟨rfl, rfl, rfl⟩
          · have ew : gPw (qPg T (qMm T (k1 + 1))) (pb + N) = none := by
              show ((qMm T (k1 + 1)).2.2.2.2.1 (pb + N)).map (qXo T) = _
              rw [a5, if_neg w1, qup_s]
              rfl
            rw [ew]
            show _ = zi (-1)
            rw [zu_row _ _ (by decide), (b9 _).1, if_pos rfl, w4]
            rfl
        · rw [zu_row _ _ (by decide), (b9 _).2, if_pos rfl]
        · rw [ed]
          have z6 : qmN a (W ++ ((zcam (zmc 4) (l.map (qRs T (qPl T) 4)) (a + W.length) ++ [(303, 0, 0)]) ++ [])) I2 I5 := by
            rw [List.append_nil]
            exact z5
          have cd := qmN_cd z6
          rw [List.append_nil] at cd
          refine qCd_keep cd (Nat.le_refl _) (fun j hj => ?_)
          rw [zu_row _ _ (by decide), zu_row _ _ (by decide), zu_row _ _ (by decide)]
          exact ⟨rfl, rfl, rfl⟩
end MItemE

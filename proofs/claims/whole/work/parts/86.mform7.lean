/-! ===== the reference's reading: statements resolved; whole expressions, assignments ===== -/
def qRb (T : qTk) (pl : Nat → Option Nat) (b : zB0) : zB0 := (b.1, if b.1 = 16 ∨ b.1 = 17 then plD pl b.2.1 else b.2.1, b.2.2.map (qRo T pl))
def qRs (T : qTk) (pl : Nat → Option Nat) : (n : Nat) → zSt n → zSt n
  | 0, b => qRb T pl b
  | _ + 1, .inl b => .inl (qRb T pl b)
  | n + 1, .inr (.inl (o, t, none)) => .inr (.inl (o.map (qRo T pl), t.map (qRs T pl n), none))
  | n + 1, .inr (.inl (o, t, some e)) => .inr (.inl (o.map (qRo T pl), t.map (qRs T pl n), some (e.map (qRs T pl n))))
  | n + 1, .inr (.inr b) => .inr (.inr (b.map (qRs T pl n)))
theorem qRs_mkB {T : qTk} {pl : Nat → Option Nat} {n : Nat} {b : zB0} : qRs T pl n (mkB n b) = mkB n (qRb T pl b) := by
  cases n <;> rfl
theorem zmc_mkB {n : Nat} {b : zB0} {a : Nat} : zmc n (mkB n b) a = zmb b a := by
  cases n <;> rfl
theorem zmc_if1 {n : Nat} {o : List zOp} {t : List (zSt n)} {a : Nat} : (zmc (n + 1) (.inr (.inl (o, t, none))) a).length = o.length + 3 + (zcam (zmc n) t (a + o.length + 3)).length := by
  show (zmw o a ++ [_] ++ zcam (zmc n) t (a + o.length + 3)).length = _
  rw [List.length_append, List.length_append, List.length_singleton, zmw_len]
theorem zmc_if2 {n : Nat} {o : List zOp} {t e : List (zSt n)} {a : Nat} : (zmc (n + 1) (.inr (.inl (o, t, some e))) a).length = o.length + 4 + (zcam (zmc n) t (a + o.length + 3)).length + (zcam (zmc n) e (a + o.length + 4 + (zcam (zmc n) t (a + o.length + 3)).length)).length := by
  show (zmw o a ++ [_] ++ zcam (zmc n) t (a + o.length + 3) ++ [_] ++ zcam (zmc n) e _).length = _
  rw [List.length_append, List.length_append, List.length_append, List.length_append, List.length_singleton, List.length_singleton, zmw_len]
  omega
theorem zmc_all {n : Nat} {b : List (zSt n)} {a : Nat} : (zmc (n + 1) (.inr (.inr b)) a).length = (zcam (zmc n) b (a + 1)).length + 2 := by
  show ([_] ++ zcam (zmc n) b (a + 1) ++ [_]).length = _
  rw [List.length_append, List.length_append, List.length_singleton, List.length_singleton]
  omega
def qLn (s : Nat → Nat) (T : qTk) (pl : Nat → Option Nat) (f : Nat) : Prop := ∀ {n k k2 : Nat} {l : List (zSt n)}, pS s f n k = pO k2 l → ∀ a, (zcam (zmc n) (l.map (qRs T pl n)) a).length ≤ 3 * (k2 - k)
theorem pSt_ln {s : Nat → Nat} {T : qTk} {pl : Nat → Option Nat} {n k k2 : Nat} {x : zSt n} (h : pSt s n k = pO k2 x) (hb : bst (s k)) : ∀ a, (zmc n (qRs T pl n x) a).length ≤ 3 * (k2 - k) := by
  intro a
  unfold pSt at h
  by_cases c : s k = 16 ∨ s k = 17
  · rw [if_pos c] at h
    rcases pB_inv h with ⟨j, _, e⟩ | ⟨k1, nm, h1, h⟩
    · cases e
    rcases pB_inv h with ⟨j, _, e⟩ | ⟨k3, o, h3, h⟩
    · cases e
    by_cases c2 : s k3 = 39
    · rw [if_pos c2] at h
      cases pO_inv h
      have a1 := tks_pl h1
      have b1 := tks_ex h3
      rw [qRs_mkB, zmc_mkB]
      have e : zmb (qRb T pl (s k, nm, o)) a = zmw (o.map (qRo T pl)) a ++ [((s k - 4 : Nat), zi (4 * ((if s k = 16 ∨ s k = 17 then plD pl nm else nm) % 6) + (if s k = 16 ∨ s k = 17 then plD pl nm else nm) / 6 : Nat), zi (a + 1 : Nat))] := by
        unfold zmb
        rw [if_pos (show (qRb T pl (s k, nm, o)).1 = 16 ∨ (qRb T pl (s k, nm, o)).1 = 17 from c)]
        rfl
      rw [e, List.length_append, List.length_singleton, zmw_len, List.length_map]
      have := b1.2.2
      have := a1.1.1
      have := b1.1.1
      omega
    · rw [if_neg c2] at h
      cases pF_inv h
  · rw [if_neg c] at h
    by_cases c2 : s (k + 1) = 39
    · rw [if_pos c2] at h
      cases pO_inv h
      rw [qRs_mkB, zmc_mkB]
      have e : zmb (qRb T pl (s k, 0, [])) a = [((s k - 4 : Nat), 0, 0)] := by
        unfold zmb
        rw [if_neg (show ¬ ((qRb T pl (s k, 0, [])).1 = 16 ∨ (qRb T pl (s k, 0, [])).1 = 17) from c)]
        rfl
      rw [e, List.length_singleton]
      omega
    · rw [if_neg c2] at h
      cases pF_inv h
theorem pIf_ln {s : Nat → Nat} {T : qTk} {pl : Nat → Option Nat} {f n k k2 : Nat} {x : zSt (n + 1)} (ih : qLn s T pl f) (h : pIf s n (pS s f n) k = pO k2 x) : ∀ a, (zmc (n + 1) (qRs T pl (n + 1) x) a).length ≤ 3 * (k2 - k) := by
  intro a
  unfold pIf at h
  rcases pB_inv h with ⟨j, _, e⟩ | ⟨k1, o, h1, h⟩
  · cases e
  have a1 := tks_ex h1
  by_cases c : s k1 = 19
  · rw [if_pos c] at h
    rcases pB_inv h with ⟨j, _, e⟩ | ⟨k3, t, h3, h⟩
    · cases e
    have a3 := (pS_ok f h3).1.1
    by_cases c2 : s k3 = 20
    · rw [if_pos c2] at h
      rcases pB_inv h with ⟨j, _, e⟩ | ⟨k4, t4, h4, h⟩
      · cases e
      have a4 := (pS_ok f h4).1.1
      by_cases c3 : s k4 = 15
      · rw [if_pos c3] at h
        cases pO_inv h
        show (zmc (n + 1) (.inr (.inl (o.map (qRo T pl), t.map (qRs T pl n), some (t4.map (qRs T pl n))))) a).length ≤ _
        rw [zmc_if2]
        have q1 := ih h3 (a + (o.map (qRo T pl)).length + 3)
        have q2 := ih h4 (a + (o.map (qRo T pl)).length + 4 + (zcam (zmc n) (t.map (qRs T pl n)) (a + (o.map (qRo T pl)).length + 3)).length)
        rw [List.length_map] at q1 q2 ⊢
        have := a1.2.2
        omega
      · rw [if_neg c3] at h
        cases pF_inv h
    · rw [if_neg c2] at h
      by_cases c3 : s k3 = 15
      · rw [if_pos c3] at h
        cases pO_inv h
        show (zmc (n + 1) (.inr (.inl (o.map (qRo T pl), t.map (qRs T pl n), none))) a).length ≤ _
        rw [zmc_if1]
        have q1 := ih h3 (a + (o.map (qRo T pl)).length + 3)
        rw [List.length_map] at q1 ⊢
        have := a1.2.2
        omega
      · rw [if_neg c3] at h
        cases pF_inv h
  · rw [if_neg c] at h
    cases pF_inv h
theorem pAl_ln {s : Nat → Nat} {T : qTk} {pl : Nat → Option Nat} {f n k k2 : Nat} {x : zSt (n + 1)} (ih : qLn s T pl f) (h : pAl s n (pS s f n) k = pO k2 x) : ∀ a, (zmc (n + 1) (qRs T pl (n + 1) x) a).length ≤ 3 * (k2 - k) := by
  intro a
  unfold pAl at h
  rcases pB_inv h with ⟨j, _, e⟩ | ⟨k1, b, h1, h⟩
  · cases e
  have a1 := (pS_ok f h1).1.1
  by_cases c : s k1 = 15
  · rw [if_pos c] at h
    cases pO_inv h
    show (zmc (n + 1) (.inr (.inr (b.map (qRs T pl n)))) a).length ≤ _
    rw [zmc_all]
    have q1 := ih h1 (a + 1)
    omega
  · rw [if_neg c] at h
    cases pF_inv h
theorem pStm_ln {s : Nat → Nat} {T : qTk} {pl : Nat → Option Nat} {f n k k2 : Nat} {x : zSt n} (ih : qLn s T pl f) (hb : bst (s k)) (h : pStm s (pS s f) n k = pO k2 x) : ∀ a, (zmc n (qRs T pl n x) a).length ≤ 3 * (k2 - k) := by
  cases n with
  | zero =>
    have h : (if s k = 18 ∨ s k = 24 then pF k else pSt s 0 k) = pO k2 x := h
    by_cases c : s k = 18 ∨ s k = 24
    · rw [if_pos c] at h
      cases pF_inv h
    · rw [if_neg c] at h
      exact pSt_ln h hb
  | succ n =>
    have h : (if s k = 18 then pIf s n (pS s f n) k else if s k = 24 then pAl s n (pS s f n) k else pSt s (n + 1) k) = pO k2 x := h
    by_cases c : s k = 18
    · rw [if_pos c] at h
      exact pIf_ln ih h
    · rw [if_neg c] at h
      by_cases c2 : s k = 24
      · rw [if_pos c2] at h
        exact pAl_ln ih h
      · rw [if_neg c2] at h
        exact pSt_ln h hb
theorem pS_ln {s : Nat → Nat} {T : qTk} {pl : Nat → Option Nat} (f : Nat) : qLn s T pl f := by
  induction f with
  | zero =>
    intro n k k2 l h
    cases h
  | succ f ih =>
    intro n k k2 l h a
    unfold pS at h
    by_cases c : bst (s k)
    · rw [if_pos c] at h
      rcases pB_inv h with ⟨j, _, e⟩ | ⟨k1, x, h1, h⟩
      · cases e
      rcases pB_inv h with ⟨j, _, e⟩ | ⟨k3, l3, h3, h⟩
      · cases e
      cases pO_inv h
      have a1 := (pStm_ok (pS_ok f) c h1).1.1
      have a3 := (pS_ok f h3).1.1
      have q1 := pStm_ln (T := T) (pl := pl) ih c h1 a
      have q3 := ih h3 (a + (zmc n (qRs T pl n x) a).length)
      rw [List.map_cons, zcam_cons, List.length_append]
      omega
    · rw [if_neg c] at h
      cases pO_inv h
      show 0 ≤ _
      omega
/-- codes landed -/
theorem qmN_land {c op : Nat} {A B : List zM3} {x y z : Int32} {I I1 : zI} (h : qmN c (A ++ (op, y, z) :: B) I I1) : qmN c (A ++ (op, x, z) :: B) I (zu I1 44 (c + A.length) x) := by
  obtain ⟨h1, h2, h3⟩ := h
  have el : (A ++ (op, x, z) :: B).length = (A ++ (op, y, z) :: B).length := by simp
  refine ⟨by rw [zu_n _ _ (by omega), el]; exact h1, fun j hj => ?_, fun j hj => ?_⟩
  · rw [zu_n _ _ (by omega), zu_n _ _ (by omega), zu_n _ _ (by omega)]
    exact h2 j hj
  · rw [el] at hj
    have q := h3 j hj
    by_cases e : j = A.length
    · subst e
      rw [zgd_at] at q ⊢
      exact ⟨by rw [zu_n _ _ (by omega)]; exact q.1, zu_s _ _ _ _, by rw [zu_n _ _ (by omega)]; exact q.2.2⟩
    · rw [zgd_mid A B (op, x, z) (op, y, z) (0, 0, 0) e, zu_n _ _ (by omega), zu_n _ _ (by omega), zu_n _ _ (by omega)]
      exact q
/-- a state of statements: the depth told nothing of -/
def qMw (T : qTk) (tb : List (Int64 × Nat × Nat)) (mn ct : Nat) (I0 : zI) (J0 : zJ) (k a : Nat) (I : zI) (J : zJ) : Prop := qTm T I J ∧ I 28 24 = zi (k : Int) ∧ I 28 25 = zi (mn : Int) ∧ I 28 26 = zi (ct : Int) ∧ I 28 19 = zi (a : Int) ∧ qTb tb I J ∧ rfr I0 I ∧ rfj J0 J
theorem qMw_x {T : qTk} {tb : List (Int64 × Nat × Nat)} {mn ct k dp a : Nat} {I0 I : zI} {J0 J : zJ} (h : qMw T tb mn ct I0 J0 k a I J) (e : I 28 27 = zi (dp : Int)) : qMx T tb mn ct I0 J0 k dp a I J := by
  obtain ⟨a1, a2, a3, a4, a5, a6, a7, a8⟩ := h
  exact ⟨a1, a2, a3, a4, e, a5, a6, a7, a8⟩
theorem qMx_w {T : qTk} {tb : List (Int64 × Nat × Nat)} {mn ct k dp a : Nat} {I0 I : zI} {J0 J : zJ} (h : qMx T tb mn ct I0 J0 k dp a I J) : qMw T tb mn ct I0 J0 k a I J := by
  obtain ⟨a1, a2, a3, a4, a5, a6, a7, a8, a9⟩ := h
  exact ⟨a1, a2, a3, a4, a6, a7, a8, a9⟩
/-- what statements change -/
abbrev sfr (I I' : zI) : Prop := zfm [19, 24, 27, 28] [43, 44, 45] I I'
theorem sfr_x {I I' : zI} (f : xfr I I') : sfr I I' := zfm_sub f (by simp) (by simp)
theorem qMw_fr {T : qTk} {tb : List (Int64 × Nat × Nat)} {mn ct k a k2 a2 : Nat} {I0 I I' : zI} {J0 J : zJ} (h : qMw T tb mn ct I0 J0 k a I J) (f : sfr I I') (h1 : I' 28 24 = zi (k2 : Int)) (h3 : I' 28 19 = zi (a2 : Int)) : qMw T tb mn ct I0 J0 k2 a2 I' J := by
  obtain ⟨a1, a2', a3, a4, a5, a6, a7, a8⟩ := h
  refine ⟨qTm_fr a1 (zfm_sub f (by simp) (by simp)) (zfr_refl _), h1, by rw [f.2 25 (by decide)]; exact a3, by rw [f.2 26 (by decide)]; exact a4, h3, ?_, zfm_trans a7 (zfm_sub f (by simp) (by simp)), a8⟩
  unfold qTb
  rw [f.2 8 (by decide), f.1 35 (by decide) (by decide), f.1 36 (by decide) (by decide)]
  exact a6
section MForm7
variable {RO : zRo} {d : Nat} {P : zP} {I : zI} {J : zJ} {D : zD} {bc bs : Nat} {T : qTk} {E : Nat → Nat} {pl : Nat → Option Nat} {tb : List (Int64 × Nat × Nat)} {mn ct k dp a j c : Nat} {I0 : zI} {J0 : zJ}
theorem qRm_map {o : List zOp} : o.map (qRm T pl) = (o.map (qRo T pl)).map zmo := by
  rw [List.map_map]
  rfl
/-- an expression behind a goto round it; where it begins -/
theorem s_156 {r : Nat ⊕ (Nat × List zOp)} (hw : qTw T) (h : pEx T.1 k = some r) (hok : mn = 1 → ∃ q, r = .inr q) (hn : k < T.2.2.2) (hab : mn = 1 → a ≤ 3 * k) (hg : qGx T E mn ct pl tb k) (hp : ¬ (T.1 (k - 1) = 25 ∨ T.1 (k - 1) = 26)) (hs : qMw T tb mn ct I0 J0 k a I J) (H1 : qTh T P D bc bs I0 J0 (qOut E k r))
    (H2 : ∀ q, qOut E k r = .inr q → ∀ v I', (mn = 1 → v = zi ((a + 1 : Nat) : Int)) → xfr I I' → I' 28 24 = zi (q.1 : Int) → qmN a (eml mn (zmw (q.2.map (qRo T pl)) a)) I I' → P (.inl (some (.int v))) I' J D) : zz RO (d + 63) 156 [.ref 28] I J D bc bs P := by
  have hN := hw.2.1
  have pr := pE_pos hw h (by omega) hn
  have f0 : nfr I (zu I 28 27 0) := zfm_z (zfm_refl _) _ _ (by decide)
  have s0 : qMx T tb mn ct I0 J0 k 0 a (zu I 28 27 0) J := qMw_x (qMw_fr hs (sfr_x (xfr_n f0)) (by rw [zu_n _ _ (by omega)]; exact hs.2.1) (by rw [zu_n _ _ (by omega)]; exact hs.2.2.2.2.1)) (zu_s _ _ _ _)
  have k9 : mn = 1 → k < 450 := fun z => by
    obtain ⟨q, hq⟩ := hok z
    rw [hq] at h
    have := (tks_ex (k2 := q.1) (o := q.2) h).2.1
    rw [hq] at pr
    have p2 : q.1 < T.2.2.2 := pr.2
    omega
  refine w_156 (d := d + 62) ?_
  refine s_154 (d := d + 61) (x := (301, 0, 0)) s0.2.2.1 hg.1 s0.2.2.2.2.2.1 (fun z => by have := hab z; have := k9 z; omega) (fun v1 I1 hv1 z1 f1 => ?_)
  have ez : (if mn = 1 then [((301 : Nat), (0 : Int32), (0 : Int32))] else []) = eml mn [(301, 0, 0)] := rfl
  rw [ez] at z1
  have l1 : (eml mn [((301 : Nat), (0 : Int32), (0 : Int32))]).length ≤ 1 := eml_len
  have s1 : qMx T tb mn ct I0 J0 k 0 (a + (eml mn [((301 : Nat), (0 : Int32), (0 : Int32))]).length) I1 J := qMx_fr s0 (zfm_x1 f1) (by rw [f1.2 24 (by decide)]; exact s0.2.1) (by rw [f1.2 27 (by decide)]; exact s0.2.2.2.2.1) z1.1
  have e19 : I1 28 19 = zi ((a + (eml mn [((301 : Nat), (0 : Int32), (0 : Int32))]).length : Nat) : Int) := z1.1
  refine ⟨bc, bs, Nat.le_refl _, Nat.le_refl _, ?_⟩
  refine s_157 (d := d) hw h hok hn (fun z => by have := hab z; have := k9 z; omega) hg hp s1 H1 (fun q hq I2 z2 => ?_)
  obtain ⟨er, hf⟩ := qOut_inv hq
  subst er
  have a1 := tks_ex (k2 := q.1) (o := q.2) h
  have s2 := qPx_st s1 z2
  have l2 := eml_bd (mn := mn) (T := T) (pl := pl) a1.2.2
  have p2 : q.1 < T.2.2.2 := pr.2
  refine s_155 (d := d + 60) (x := 450) s2.2.2.1 hg.1 s2.2.2.2.2.2.1 (fun z => by have := hab z; have := k9 z; omega) (fun I3 z3 f3 => ?_)
  have ez3 : (if mn = 1 then [((450 : Nat), (0 : Int32), (0 : Int32))] else []) = eml mn [(450, 0, 0)] := rfl
  rw [ez3] at z3
  have z13 := qmN_app (qmN_app z1 z2.2.2.2) (by
    rw [List.length_append, ← Nat.add_assoc]
    exact z3)
  rw [← eml_app, ← eml_app] at z13
  have f03 : xfr I I3 := zfm_trans (xfr_n f0) (zfm_trans (zfm_x1 f1) (zfm_trans z2.1 (zfm_x1 f3)))
  have m3 : I3 28 25 = zi (mn : Int) := by rw [f3.2 25 (by decide)]; exact s2.2.2.1
  have e24 : I3 28 24 = zi (q.1 : Int) := by rw [f3.2 24 (by decide)]; exact z2.2.1
  show _ ∧ _
  rcases hg.1 with m0 | m1
  · subst m0
    refine ⟨fun _ => H2 q hq _ I3 (fun z => absurd z (by decide)) f03 e24 ?_, fun q9 => absurd (by rw [m3]; rfl) q9⟩
    exact qmN_of z13 f0 (zfm_refl _)
  · subst m1
    have ev : v1 = zi (a : Int) := hv1 rfl
    have e1 : I1 28 19 = zi ((a + 1 : Nat) : Int) := e19
    have cl : (zi (a : Int)).toNatClampNeg = a := by rw [zi_cl (by omega) (by have := hab rfl; omega)]; omega
    refine ⟨fun q9 => absurd q9 (by rw [m3]; decide), fun _ => ?_⟩
    have z13' : qmN a ([] ++ (301, (0 : Int32), (0 : Int32)) :: (q.2.map (qRm T pl) ++ [(450, 0, 0)])) (zu I 28 27 0) I3 := z13
    have e19b : I3 28 19 = zi ((a + ((q.2.map (qRo T pl)).length + 2) : Nat) : Int) := by
      have := z13'.1
      have el2 : (([] : List zM3) ++ (301, (0 : Int32), (0 : Int32)) :: (q.2.map (qRm T pl) ++ [(450, 0, 0)])).length = (q.2.map (qRo T pl)).length + 2 := by
        rw [List.nil_append, List.length_cons, List.length_append, List.length_map, List.length_map, List.length_singleton]
      rw [el2] at this
      exact this
    rw [e1, ev, cl, e19b]
    refine ⟨zi_in (by omega) (by have := hab rfl; have := k9 rfl; omega) (by omega), ?_⟩
    have z14 := qmN_land (x := zi ((a + ((q.2.map (qRo T pl)).length + 2) : Nat) : Int)) z13'
    have f34 : zfm [] [44] I3 (zu I3 44 a (zi ((a + ((q.2.map (qRo T pl)).length + 2) : Nat) : Int))) := zfm_zu (zfm_refl _) _ _ (by decide) (by decide)
    refine H2 q hq _ _ (fun _ => rfl) (zfm_trans f03 (zfm_sub f34 (by simp) (by simp))) (by rw [f34.2 24 (by decide)]; exact e24) ?_
    show qmN a (eml 1 (zmw (q.2.map (qRo T pl)) a)) I _
    have el : eml 1 (zmw (q.2.map (qRo T pl)) a) = [] ++ (301, zi ((a + ((q.2.map (qRo T pl)).length + 2) : Nat) : Int), (0 : Int32)) :: (q.2.map (qRm T pl) ++ [(450, 0, 0)]) := by
      rw [qRm_map]
      rfl
    rw [el]
    exact qmN_of z14 f0 (zfm_refl _)
end MForm7

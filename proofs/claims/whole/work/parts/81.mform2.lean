/-! ===== the reference's reading: places; what an expression needs and leaves ===== -/
def eX (ct : Nat) (pl : Nat → Option Nat) (c j : Nat) : Nat := if c = 2 ∧ (pl j).isNone = true then 2 else if c = 27 ∧ ct = 0 then 6 else 0
def qEr (T : qTk) (E : Nat → Nat) (mn ct : Nat) (pl : Nat → Option Nat) (k : Nat) : Prop := ∀ j, k ≤ j → (∀ i, k ≤ i → i ≤ j → ys (T.1 i)) → E j = if mn = 0 then 0 else eX ct pl (T.1 j) j
def qLk (T : qTk) (pl : Nat → Option Nat) (tb : List (Int64 × Nat × Nat)) (k : Nat) : Prop := ∀ j, k ≤ j → (∀ i, k ≤ i → i ≤ j → ys (T.1 i)) → T.1 j = 2 →
  tLk tb (T.2.2.1 j) (if T.1 (j - 1) = 25 ∨ T.1 (j - 1) = 26 then 0 else 1) = (pl j).map (fun p => p % 6) ∧ ∀ p, pl j = some p → (T.1 (j - 1) = 25 → p < 6) ∧ (T.1 (j - 1) = 26 → 6 ≤ p ∧ p < 12) ∧ (¬ (T.1 (j - 1) = 25 ∨ T.1 (j - 1) = 26) → 12 ≤ p ∧ p < 18)
/-- what is known ahead of a reading from k on -/
def qGx (T : qTk) (E : Nat → Nat) (mn ct : Nat) (pl : Nat → Option Nat) (tb : List (Int64 × Nat × Nat)) (k : Nat) : Prop := (mn = 0 ∨ mn = 1) ∧ (ct = 0 ∨ ct = 1) ∧ qEr T E mn ct pl k ∧ (mn = 1 → qLk T pl tb k)
theorem qGx_step {T : qTk} {E : Nat → Nat} {mn ct : Nat} {pl : Nat → Option Nat} {tb : List (Int64 × Nat × Nat)} {k k1 : Nat} (h : qGx T E mn ct pl tb k) (t : tks T.1 ys k k1) : qGx T E mn ct pl tb k1 := by
  have ext : ∀ j, k1 ≤ j → (∀ i, k1 ≤ i → i ≤ j → ys (T.1 i)) → ∀ i, k ≤ i → i ≤ j → ys (T.1 i) := fun j _ h2 i h3 h4 => by
    by_cases c : i < k1
    · exact t.2 i h3 c
    · exact h2 i (by omega) h4
  have hk := t.1
  exact ⟨h.1, h.2.1, fun j h1 h2 => h.2.2.1 j (by omega) (ext j h1 h2), fun m j h1 h2 => h.2.2.2 m j (by omega) (ext j h1 h2)⟩
theorem qGx_E {T : qTk} {E : Nat → Nat} {mn ct : Nat} {pl : Nat → Option Nat} {tb : List (Int64 × Nat × Nat)} {k : Nat} (h : qGx T E mn ct pl tb k) (hy : ys (T.1 k)) : E k = if mn = 0 then 0 else eX ct pl (T.1 k) k := h.2.2.1 k (Nat.le_refl _) (fun i h1 h2 => by
  have e : i = k := by omega
  rw [e]
  exact hy)
/-- a token that the meaning says nothing of -/
theorem qGx_0 {T : qTk} {E : Nat → Nat} {mn ct : Nat} {pl : Nat → Option Nat} {tb : List (Int64 × Nat × Nat)} {k : Nat} (h : qGx T E mn ct pl tb k) (hy : ys (T.1 k)) (h2 : ¬ T.1 k = 2) (h27 : T.1 k = 27 → ct = 1) : E k = 0 := by
  rw [qGx_E h hy]
  split
  · rfl
  · unfold eX
    rw [if_neg (fun z => h2 z.1), if_neg (fun z => by have := h27 z.1; omega)]
def qMx (T : qTk) (tb : List (Int64 × Nat × Nat)) (mn ct : Nat) (I0 : zI) (J0 : zJ) (k dp a : Nat) (I : zI) (J : zJ) : Prop := qTm T I J ∧ I 28 24 = zi (k : Int) ∧ I 28 25 = zi (mn : Int) ∧ I 28 26 = zi (ct : Int) ∧ I 28 27 = zi (dp : Int) ∧ I 28 19 = zi (a : Int) ∧ qTb tb I J ∧ rfr I0 I ∧ rfj J0 J
theorem qTb_fr {tb : List (Int64 × Nat × Nat)} {I I' : zI} {J : zJ} (h : qTb tb I J) (f : xfr I I') : qTb tb I' J := by
  unfold qTb
  rw [f.2 8 (by decide), f.1 35 (by decide) (by decide), f.1 36 (by decide) (by decide)]
  exact h
theorem qTm_x {T : qTk} {I I' : zI} {J : zJ} (h : qTm T I J) (f : xfr I I') : qTm T I' J := qTm_fr h (zfm_sub f (by simp) (by simp)) (zfr_refl _)
theorem qMx_fr {T : qTk} {tb : List (Int64 × Nat × Nat)} {mn ct k dp a k2 dp2 a2 : Nat} {I0 I I' : zI} {J0 J : zJ} (h : qMx T tb mn ct I0 J0 k dp a I J) (f : xfr I I') (h1 : I' 28 24 = zi (k2 : Int)) (h2 : I' 28 27 = zi (dp2 : Int)) (h3 : I' 28 19 = zi (a2 : Int)) : qMx T tb mn ct I0 J0 k2 dp2 a2 I' J := by
  obtain ⟨a1, a2', a3, a4, a5, a6, a7, a8, a9⟩ := h
  exact ⟨qTm_x a1 f, h1, by rw [f.2 25 (by decide)]; exact a3, by rw [f.2 26 (by decide)]; exact a4, h2, h3, qTb_fr a7 f, rfr_x a8 f, a9⟩
/-- what is thrown -/
def qTh {β : Type} (T : qTk) (P : zP) (D : zD) (bc bs : Nat) (I0 : zI) (J0 : zJ) (w : (Nat × Nat) ⊕ β) : Prop := ∀ j e : Nat, w = .inl (j, e) → (1 ≤ bc ∧ 8 ≤ bs) ∧ ∀ I' J', rfr I0 I' → rfj J0 J' → P (.inr (3, zi (e : Int), zi (T.2.1 j : Int))) I' J' D
theorem qTh_no {β : Type} {T : qTk} {P : zP} {D : zD} {bc bs : Nat} {I0 : zI} {J0 : zJ} {w : (Nat × Nat) ⊕ β} {q : β} (h : w = .inr q) : qTh T P D bc bs I0 J0 w := fun j e he => by
  rw [h] at he
  cases he
theorem qTh_to {β γ : Type} {T : qTk} {P : zP} {D : zD} {bc bs : Nat} {I0 : zI} {J0 : zJ} {w : (Nat × Nat) ⊕ β} {v : (Nat × Nat) ⊕ γ} {x : Nat × Nat} (h : qTh T P D bc bs I0 J0 w) (hw : w = .inl x) (hv : v = .inl x) : qTh T P D bc bs I0 J0 v := fun j e he => h j e (by
  rw [hv] at he
  cases he
  exact hw)
def eml (mn : Nat) (L : List zM3) : List zM3 := if mn = 1 then L else []
theorem eml_app {mn : Nat} {A B : List zM3} : eml mn (A ++ B) = eml mn A ++ eml mn B := by
  unfold eml
  split <;> rfl
theorem eml_len {mn : Nat} {A : List zM3} : (eml mn A).length ≤ A.length := by
  unfold eml
  split
  · exact Nat.le_refl _
  · exact Nat.zero_le _
/-- an operation resolved: names to places, numbers to their values -/
def plD (pl : Nat → Option Nat) (j : Nat) : Nat := (pl j).getD 0
def qRo (T : qTk) (pl : Nat → Option Nat) (q : zOp) : zOp := if q.1 = 2 ∨ q.1 = 16 ∨ q.1 = 17 then (q.1, zi (plD pl q.2.toNatClampNeg : Int)) else if q.1 = 3 then (3, (T.2.2.1 q.2.toNatClampNeg).toInt32) else q
def qRm (T : qTk) (pl : Nat → Option Nat) (q : zOp) : zM3 := zmo (qRo T pl q)
/-- what an expression leaves -/
def qPx (T : qTk) (pl : Nat → Option Nat) (mn dp a : Nat) (q : Nat × List zOp) (I I' : zI) : Prop := xfr I I' ∧ I' 28 24 = zi (q.1 : Int) ∧ I' 28 27 = zi (dp : Int) ∧ qmN a (eml mn (q.2.map (qRm T pl))) I I'
def tNc (RO : zRo) (d : Nat) (P : zP) (bc bs : Nat) (c : Int32) : zI → zJ → zD → Prop := fun I1 J1 D1 => zo_148 I1 J1 200 ∧ ((¬ (zv_148 I1 J1 200) = 0 → (vp_in (I1 28 24) 452 ∧ (zz RO d 163 [.ref 28, .long (J1 33 ((I1 28 24).toNatClampNeg)), .int c] I1 J1 D1 0 0 (zNi P fun v2 I2 J2 D2 => ((v2 = (-1) → (vp_in (I2 28 24) 452 ∧ (∃ c3 s3, c3 ≤ bc ∧ s3 ≤ bs ∧ zz RO d 150 [.ref 28, .int 0, .int 2, .int (I2 32 ((I2 28 24).toNatClampNeg))] I2 J2 D2 c3 s3 (zNv P fun I3 J3 D3 => P (.inl (some (.int v2))) (zu I3 28 24 ((I3 28 24) + 1)) J3 D3)))) ∧ (¬ (v2 = (-1)) → (vp_in (I2 28 24) 452 ∧ (∃ c4 s4, c4 ≤ bc ∧ s4 ≤ bs ∧ zz RO d 150 [.ref 28, .int 1, .int 2, .int (I2 32 ((I2 28 24).toNatClampNeg))] I2 J2 D2 c4 s4 (zNv P fun I4 J4 D4 => P (.inl (some (.int v2))) (zu I4 28 24 ((I4 28 24) + 1)) J4 D4))))))))) ∧ (¬ (¬ (zv_148 I1 J1 200) = 0) → ((1 ≤ bc ∧ 8 ≤ bs) ∧ vp_in (I1 28 24) 452 ∧ P (.inr (3, 1, I1 32 ((I1 28 24).toNatClampNeg))) I1 J1 D1)))
section MForm2
variable {RO : zRo} {d : Nat} {P : zP} {I : zI} {J : zJ} {D : zD} {bc bs : Nat} {T : qTk} {E : Nat → Nat} {pl : Nat → Option Nat} {tb : List (Int64 × Nat × Nat)} {mn ct k dp a j c : Nat} {I0 : zI} {J0 : zJ}
theorem s_nc (hw : qTw T) (hs : qMx T tb mn ct I0 J0 k dp a I J) (hm : mn = 0 ∨ mn = 1) (hn : k < T.2.2.2) (hc : c ≤ 10)
    (Hf : ¬ T.1 k = 2 → (1 ≤ bc ∧ 8 ≤ bs) ∧ P (.inr (3, 1, zi (T.2.1 k : Int))) I J D)
    (He : T.1 k = 2 → mn = 1 → tLk tb (T.2.2.1 k) c = none → (1 ≤ bc ∧ 8 ≤ bs) ∧ P (.inr (3, 2, zi (T.2.1 k : Int))) I J D)
    (Hl : T.1 k = 2 → mn = 1 → ∀ n, tLk tb (T.2.2.1 k) c = some n → n < 1000)
    (Hk : T.1 k = 2 → ∀ v I', (mn = 1 → ∃ n, tLk tb (T.2.2.1 k) c = some n ∧ v = zi (n : Int)) → I' 28 24 = zi ((k + 1 : Nat) : Int) → zfm [24] [] I I' → P (.inl (some (.int v))) I' J D) : tNc RO (d + 1) P bc bs (zi (c : Int)) I J D := by
  have hN := hw.2.1
  obtain ⟨a1, a2, a3, a4, a5, a6, a7, a8, a9⟩ := hs
  obtain ⟨o, h1, h2⟩ := n_148 (a := 2) hw a1 a2 hn (by omega)
  have vi := n_in hw a2 hn
  refine ⟨o, fun q => ⟨vi, ?_⟩, fun q => ?_⟩
  · have c2 : T.1 k = 2 := by
      by_cases z : T.1 k = 2
      · exact z
      · exact absurd (h1.mpr z) q
    have cl : (zi (k : Int)).toNatClampNeg = k := by rw [zi_cl (by omega) (by omega)]; omega
    rw [a2, cl, (a1.2 k hn).2.2 (Or.inl c2)]
    refine s_163 hc a7 ?_
    have K3 : ∀ v, (mn = 1 → ∃ n, tLk tb (T.2.2.1 k) c = some n ∧ v = zi (n : Int)) → P (.inl (some (.int v))) (zu I 28 24 ((I 28 24) + 1)) J D := fun v hv => by
      rw [a2, zi_succ]
      exact Hk c2 v _ hv (zu_s _ _ _ _) (zfm_z (zfm_refl _) _ _ (by decide))
    show _ ∧ _
    rw [a2, cl, (a1.2 k hn).2.1]
    rw [a2] at vi
    rcases hm with m0 | m1
    · subst m0
      have K4 := K3 (oInt (tLk tb (T.2.2.1 k) c)) (fun z => absurd z (by decide))
      exact ⟨fun _ => ⟨vi, 0, 0, Nat.zero_le _, Nat.zero_le _, s_150t (Or.inl a3) K4⟩, fun _ => ⟨vi, 0, 0, Nat.zero_le _, Nat.zero_le _, s_150t (Or.inl a3) K4⟩⟩
    · subst m1
      cases hl : tLk tb (T.2.2.1 k) c with
      | none =>
        obtain ⟨b1, b2⟩ := He c2 rfl hl
        exact ⟨fun _ => ⟨vi, bc, bs, Nat.le_refl _, Nat.le_refl _, s_150f a3 rfl b1 b2⟩, fun q3 => absurd rfl q3⟩
      | some n =>
        have l1 := Hl c2 rfl n hl
        refine ⟨fun q3 => absurd q3 ?_, fun _ => ⟨vi, 0, 0, Nat.zero_le _, Nat.zero_le _, s_150t (Or.inr (by decide)) (K3 (zi (n : Int)) (fun _ => ⟨n, hl, rfl⟩))⟩⟩
        show ¬ zi (n : Int) = -1
        rw [show (-1 : Int32) = zi (-1) from rfl, zi_eq (by omega) (by omega)]
        omega
  · have c2 : ¬ T.1 k = 2 := fun z => q (fun w => h1.mp w z)
    obtain ⟨b1, b2⟩ := Hf c2
    refine ⟨b1, vi, ?_⟩
    rw [n_pl a1 a2 hw hn]
    exact b2
/-- the place of a track or pool -/
theorem s_164 {r : Nat ⊕ (Nat × Nat)} (hw : qTw T) (h : pPl T.1 k = some r) (hg : qGx T E mn ct pl tb k) (hs : qMx T tb mn ct I0 J0 k dp a I J) (hn : k < T.2.2.2) (hp : ¬ (T.1 (k - 1) = 25 ∨ T.1 (k - 1) = 26)) (H1 : qTh T P D bc bs I0 J0 (qOut E k r))
    (H2 : ∀ q, qOut E k r = .inr q → ∀ v I', (mn = 1 → ∃ p, pl q.2 = some p ∧ v = zi ((p % 6 : Nat) : Int) ∧ (T.1 k = 25 → p < 6) ∧ (T.1 k = 26 → 6 ≤ p ∧ p < 12) ∧ (T.1 k = 2 → 12 ≤ p ∧ p < 18)) → I' 28 24 = zi (q.1 : Int) → nfr I I' → I' 28 27 = I 28 27 → P (.inl (some (.int v))) I' J D) : zz RO (d + 4) 164 [.ref 28] I J D bc bs P := by
  have hN := hw.2.1
  have hle := qTw_le hw k
  have hm := hg.1
  obtain ⟨a1, a2, a3, a4, a5, a6, a7, a8, a9⟩ := hs
  unfold pPl at h
  refine w_164 (d := d + 2) ?_
  -- a name at k1 behind my or their
  have A : ∀ I1, I1 28 24 = zi ((k + 1 : Nat) : Int) → zfm [24] [] I I1 → (T.1 k = 25 ∨ T.1 k = 26) → tNc RO (d + 3) P bc bs 0 I1 J D := by
    intro I1 e1 f1 c1
    have hy : ys (T.1 k) := Or.inl (by unfold xs; omega)
    have hlt := qTw_lt hw (k := k) (by omega)
    have f1x : xfr I I1 := zfm_sub f1 (by simp) (by simp)
    have s1 : qMx T tb mn ct I0 J0 (k + 1) dp a I1 J := qMx_fr ⟨a1, a2, a3, a4, a5, a6, a7, a8, a9⟩ f1x e1 (by rw [f1.2 27 (by decide)]; exact a5) (by rw [f1.2 19 (by decide)]; exact a6)
    have g1 := qGx_step hg (tks_one hy)
    have E0 : E k = 0 := qGx_0 hg hy (by omega) (by omega)
    rw [if_pos c1] at h
    have lk : T.1 (k + 1) = 2 → mn = 1 → tLk tb (T.2.2.1 (k + 1)) 0 = (pl (k + 1)).map (fun p => p % 6) ∧ ∀ p, pl (k + 1) = some p → (T.1 k = 25 → p < 6) ∧ (T.1 k = 26 → 6 ≤ p ∧ p < 12) := fun c2 m1 => by
      have q := g1.2.2.2 m1 (k + 1) (Nat.le_refl _) (fun i h1 h2 => by
        have e : i = k + 1 := by omega
        rw [e, c2]
        exact Or.inl (Or.inl rfl)) c2
      rw [show k + 1 - 1 = k by omega, if_pos c1] at q
      exact ⟨q.1, fun p hp => ⟨(q.2 p hp).1, (q.2 p hp).2.1⟩⟩
    refine s_nc (d := d + 2) (c := 0) hw s1 hm (by omega) (by omega) (fun c2 => ?_) (fun c2 m1 hl => ?_) (fun c2 m1 n hl => ?_) (fun c2 v I2 hv e2 f2 => ?_)
    · rw [if_neg c2] at h
      cases pF_inv h
      have := H1 (k + 1) 1 (by
        rw [qOut_step (x := (.inl (k + 1) : Nat ⊕ (Nat × Nat))) (k1 := k + 1) (fun j h1 h2 => by
          have e : j = k := by omega
          rw [e]
          exact E0) ⟨by omega, Nat.le_refl _⟩]
        exact qOut_here)
      exact ⟨this.1, this.2 I1 J s1.2.2.2.2.2.2.2.1 a9⟩
    · rw [if_pos c2] at h
      cases pO_inv h
      have l0 := (lk c2 m1).1
      rw [hl] at l0
      have pn : pl (k + 1) = none := by
        cases hq : pl (k + 1) with
        | none => rfl
        | some p => rw [hq] at l0; cases l0
      have E1 : E (k + 1) = 2 := by
        rw [qGx_E g1 (by rw [c2]; exact Or.inl (Or.inl rfl)), if_neg (by omega)]
        unfold eX
        rw [if_pos ⟨c2, by rw [pn]; rfl⟩]
      have := H1 (k + 1) 2 (by
        rw [qOut_step (x := (.inr (k + 2, k + 1) : Nat ⊕ (Nat × Nat))) (k1 := k + 1) (fun j h1 h2 => by
          have e : j = k := by omega
          rw [e]
          exact E0) ⟨by omega, show k + 1 ≤ k + 2 by omega⟩, qOut_one (x := (.inr (k + 2, k + 1) : Nat ⊕ (Nat × Nat))) (by rw [E1]; decide) (show k + 1 < k + 2 by omega), E1])
      exact ⟨this.1, this.2 I1 J s1.2.2.2.2.2.2.2.1 a9⟩
    · have l0 := (lk c2 m1).1
      rw [hl] at l0
      cases hq : pl (k + 1) with
      | none => rw [hq] at l0; cases l0
      | some p =>
        rw [hq] at l0
        have l0 : some n = some (p % 6) := l0
        cases l0
        omega
    · rw [if_pos c2] at h
      cases pO_inv h
      have f12 : nfr I I2 := zfm_trans (zfm_sub f1 (by simp) (by simp)) (zfm_sub f2 (by simp) (by simp))
      have hE1 : E (k + 1) = 0 := by
        rw [qGx_E g1 (by rw [c2]; exact Or.inl (Or.inl rfl))]
        rcases hm with m0 | m1
        · rw [if_pos m0]
        · obtain ⟨n, hn1, hn2⟩ := hv m1
          have l0 := (lk c2 m1).1
          rw [hn1] at l0
          rw [if_neg (by omega)]
          unfold eX
          rw [if_neg (fun z => by
            have z2 := z.2
            cases hq : pl (k + 1) with
            | none => rw [hq] at l0; cases l0
            | some p => rw [hq] at z2; cases z2), if_neg (by omega)]
      refine H2 (k + 2, k + 1) (qOut_r (qFe_none (fun j h1 h2 => ?_))) v I2 (fun m1 => ?_) e2 f12 (by rw [f2.2 27 (by decide), f1.2 27 (by decide)])
      · have h2 : j < k + (k + 2 - k) := h2
        by_cases e : j = k
        · rw [e]; exact E0
        · rw [show j = k + 1 by omega]; exact hE1
      · obtain ⟨n, hn1, hn2⟩ := hv m1
        have l0 := (lk c2 m1).1
        rw [hn1] at l0
        cases hq : pl (k + 1) with
        | none => rw [hq] at l0; cases l0
        | some p =>
          rw [hq] at l0
          have l0 : some n = some (p % 6) := l0
          cases l0
          have q3 := (lk c2 m1).2 p hq
          exact ⟨p, rfl, hn2, q3.1, q3.2, fun z => by omega⟩
  have B : ¬ (T.1 k = 25 ∨ T.1 k = 26) → tNc RO (d + 3) P bc bs 1 I J D := by
    intro c1
    rw [if_neg c1] at h
    have s0 : qMx T tb mn ct I0 J0 k dp a I J := ⟨a1, a2, a3, a4, a5, a6, a7, a8, a9⟩
    have lk : T.1 k = 2 → mn = 1 → tLk tb (T.2.2.1 k) 1 = (pl k).map (fun p => p % 6) ∧ ∀ p, pl k = some p → 12 ≤ p ∧ p < 18 := fun c2 m1 => by
      have q := hg.2.2.2 m1 k (Nat.le_refl _) (fun i h1 h2 => by
        have e : i = k := by omega
        rw [e, c2]
        exact Or.inl (Or.inl rfl)) c2
      rw [if_neg hp] at q
      exact ⟨q.1, fun p hp2 => (q.2 p hp2).2.2 hp⟩
    refine s_nc (d := d + 2) (c := 1) hw s0 hm hn (by omega) (fun c2 => ?_) (fun c2 m1 hl => ?_) (fun c2 m1 n hl => ?_) (fun c2 v I2 hv e2 f2 => ?_)
    · rw [if_neg c2] at h
      cases pF_inv h
      have := H1 k 1 qOut_here
      exact ⟨this.1, this.2 I J a8 a9⟩
    · rw [if_pos c2] at h
      cases pO_inv h
      have l0 := (lk c2 m1).1
      rw [hl] at l0
      have pn : pl k = none := by
        cases hq : pl k with
        | none => rfl
        | some p => rw [hq] at l0; cases l0
      have E1 : E k = 2 := by
        rw [qGx_E hg (by rw [c2]; exact Or.inl (Or.inl rfl)), if_neg (by omega)]
        unfold eX
        rw [if_pos ⟨c2, by rw [pn]; rfl⟩]
      have := H1 k 2 (by rw [qOut_one (x := (.inr (k + 1, k) : Nat ⊕ (Nat × Nat))) (by rw [E1]; decide) (show k < k + 1 by omega), E1])
      exact ⟨this.1, this.2 I J a8 a9⟩
    · have l0 := (lk c2 m1).1
      rw [hl] at l0
      cases hq : pl k with
      | none => rw [hq] at l0; cases l0
      | some p =>
        rw [hq] at l0
        have l0 : some n = some (p % 6) := l0
        cases l0
        omega
    · rw [if_pos c2] at h
      cases pO_inv h
      have f12 : nfr I I2 := zfm_sub f2 (by simp) (by simp)
      have hE1 : E k = 0 := by
        rw [qGx_E hg (by rw [c2]; exact Or.inl (Or.inl rfl))]
        rcases hm with m0 | m1
        · rw [if_pos m0]
        · obtain ⟨n, hn1, hn2⟩ := hv m1
          have l0 := (lk c2 m1).1
          rw [hn1] at l0
          rw [if_neg (by omega)]
          unfold eX
          rw [if_neg (fun z => by
            have z2 := z.2
            cases hq : pl k with
            | none => rw [hq] at l0; cases l0
            | some p => rw [hq] at z2; cases z2), if_neg (by omega)]
      refine H2 (k + 1, k) (qOut_r (qFe_none (fun j h1 h2 => ?_))) v I2 (fun m1 => ?_) e2 f12 (by rw [f2.2 27 (by decide)])
      · have h2 : j < k + (k + 1 - k) := h2
        rw [show j = k by omega]
        exact hE1
      · obtain ⟨n, hn1, hn2⟩ := hv m1
        have l0 := (lk c2 m1).1
        rw [hn1] at l0
        cases hq : pl k with
        | none => rw [hq] at l0; cases l0
        | some p =>
          rw [hq] at l0
          have l0 : some n = some (p % 6) := l0
          cases l0
          have q3 := (lk c2 m1).2 p hq
          exact ⟨p, rfl, hn2, fun z => by omega, fun z => by omega, fun _ => q3⟩
  by_cases c1 : T.1 k = 25
  · refine s_152t (d := d + 1) (a := 25) hw a1 a2 hn (by omega) c1 (fun I1 e1 f1 => ?_)
    exact ⟨fun _ => A I1 e1 f1 (Or.inl c1), fun q => absurd (by decide) q⟩
  · refine s_152f (d := d + 1) (a := 25) hw a1 a2 hn (by omega) c1 ?_
    refine ⟨fun q => absurd rfl q, fun _ => ?_⟩
    by_cases c2 : T.1 k = 26
    · refine s_152t (d := d + 1) (a := 26) hw a1 a2 hn (by omega) c2 (fun I1 e1 f1 => ?_)
      exact ⟨fun q => absurd q (by decide), fun _ => A I1 e1 f1 (Or.inr c2)⟩
    · refine s_152f (d := d + 1) (a := 26) hw a1 a2 hn (by omega) c2 ?_
      exact ⟨fun _ => B (by omega), fun q => absurd rfl q⟩
end MForm2

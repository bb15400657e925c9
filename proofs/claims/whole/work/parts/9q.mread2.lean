/-! ===== the reference: both passes ===== -/
section MRead2
variable {RO : zRo} {d : Nat} {P : zP} {J : zJ} {D : zD} {bc bs : Nat} {T : qTk}
abbrev cKs : List Nat := [8, 18, 19, 24, 25, 26, 27, 28, 29]
theorem qTb_nil {I : zI} (h : I 28 8 = 0) : qTb [] I J := ⟨Nat.zero_le _, h, fun i hi => absurd hi (Nat.not_lt_zero i)⟩
theorem qRp_0 {ok : Prop} {a : Nat} {I : zI} (h1 : ∀ x, x < 9 → I 37 x = 0) (h2 : ∀ x, x < 6 → I 39 x = 0) : qRp ok (qPg T (qMm T 0)) a I := by
  have z : ∀ x, gPc (qPg T (qMm T 0)) x = 0 := fun _ => rfl
  refine ⟨fun c hc => ?_, fun c _ i hi => ?_, ⟨fun _ i hi => ?_, fun i _ hi => h2 i hi⟩, fun i hi => ?_, fun c _ _ i hi => ?_, fun hi => ?_⟩
  · rw [z]
    have := qkm_it (c := c + 4) (by omega)
    exact h1 _ (by omega)
  · rw [z] at hi
    omega
  · rw [z] at hi
    omega
  · rw [z] at hi
    omega
  · rw [z] at hi
    omega
  · rw [z] at hi
    omega
theorem s_two {f : Nat} {I : zI} {r : Nat ⊕ (Nat × Unit)} {KX : Nat → Nat → Nat → Nat → zI → zJ → zD → Prop} {EX : Nat → Nat → Int32 → Int32 → zI → zJ → zD → Prop} {EY : Nat → Nat → Nat → Nat → Int32 → Int32 → zI → zJ → zD → Prop} (hRO : zROk RO) (hw : qTw T) (hv : qTv T) (h : pP T.1 f 0 = some r) (ht : qTm T I J) (h8 : I 28 8 = 0) (h19 : I 28 19 = 0) (h37 : ∀ x, x < 9 → I 37 x = 0) (h39 : ∀ x, x < 6 → I 39 x = 0) (hb : 1 ≤ bc ∧ 8 ≤ bs)
    (E0 : ∀ j, r = .inl j → ∀ I' J', zfm cKs rLs I I' → rfj J J' → EX bc bs (zi ((1 : Nat) : Int)) (zi (T.2.1 j : Int)) I' J' D) (E1 : ∀ q j e, r = .inr q → qOut (qEE T) 0 r = .inl (j, e) → ∀ I' J', zfm cKs rLs I I' → rfj J J' → EY 0 0 bc bs (zi (e : Int)) (zi (T.2.1 j : Int)) I' J' D)
    (K : ∀ q, r = .inr q → T.1 q.1 = 1 → (∀ i, i < q.1 → qEE T i = 0) → ∀ I' J' a, zfm cKs rLs I I' → rfj J J' → qTm T I' J' → a ≤ 3 * q.1 → I' 28 19 = zi (a : Int) → I' 28 29 = -1 → I' 28 25 = 1 → qRp (qCn T.1 7 T.2.2.2 ≤ 12) (qPg T (qMm T q.1)) a I' → KX 0 0 0 0 I' J' D) :
    ∃ c3 s3, c3 ≤ bc ∧ s3 ≤ bs ∧ zz RO (d + 78) 176 [.ref 28] (zu (zu I 28 29 (-1)) 28 25 0) J D c3 s3 (zNt (fun I3 J3 D3 => ∃ c4 s4, c4 ≤ bc - c3 ∧ s4 ≤ bs - s3 ∧ zz RO (d + 78) 176 [.ref 28] (zu I3 28 25 1) J3 D3 c4 s4 (zNt (fun I4 J4 D4 => KX c3 s3 c4 s4 I4 J4 D4) (fun a q I4 J4 D4 => EY c3 s3 c4 s4 a q I4 J4 D4))) (fun a q I3 J3 D3 => EX c3 s3 a q I3 J3 D3)) := by
  have f0 : zfm cKs rLs I (zu (zu I 28 29 (-1)) 28 25 0) := zfm_z (zfm_z (zfm_refl _) _ _ (by decide)) _ _ (by decide)
  have f1 : zfm [24] [] (zu (zu I 28 29 (-1)) 28 25 0) (zu (zu (zu I 28 29 (-1)) 28 25 0) 28 24 0) := zfm_z (zfm_refl _) _ _ (by decide)
  have t0 : qTm T (zu (zu I 28 29 (-1)) 28 25 0) J := by
    unfold qTm
    rw [f0.2 4 (by decide), f0.1 31 (by decide) (by decide), f0.1 32 (by decide) (by decide)]
    exact ht
  have hs0 : qMi T 0 (zu (zu I 28 29 (-1)) 28 25 0) J 0 0 (zu (zu (zu I 28 29 (-1)) 28 25 0) 28 24 0) J := by
    refine ⟨qTm_n t0 f1, zu_s _ _ _ _, ?_, ?_, qTb_nil ?_, zfm_sub f1 (by simp) (by simp), zfr_refl _⟩
    · rw [zu_n _ _ (by omega), zu_s]
      rfl
    · rw [zu_n _ _ (by omega), zu_n _ _ (by omega), zu_n _ _ (by omega), h19]
      rfl
    · rw [zu_n _ _ (by omega), zu_n _ _ (by omega), zu_n _ _ (by omega), h8]
  have hz0 : ∀ x, x ≤ 6 → (zu (zu I 28 29 (-1)) 28 25 0) 37 (qkm (x + 4)) = 0 := fun x hx => by
    have := qkm_it (c := x + 4) (by omega)
    rw [zu_row _ _ (by decide), zu_row _ _ (by decide)]
    exact h37 _ (by omega)
  have fr : ∀ {I'}, rfr (zu (zu I 28 29 (-1)) 28 25 0) I' → zfm cKs rLs I I' := fun {I'} g => zfm_trans f0 (zfm_sub g (by simp) (by simp))
  cases r with
  | inl j =>
    refine ⟨bc, bs, Nat.le_refl _, Nat.le_refl _, ?_⟩
    refine s_176 (d := d) (mn := 0) (a := 0) (I0 := zu (zu I 28 29 (-1)) 28 25 0) (J0 := J) (ok := qCn T.1 7 T.2.2.2 ≤ 12) hRO hw hv (Or.inl rfl) h (fun z => by cases z) (fun z => by cases z) (fun z => by cases z) (fun z => z) (fun z => by cases z) hs0 (fun _ => hz0) (fun z => by cases z) (fun j2 e2 he => ?_) (fun q hq => by cases hq)
    rw [qOut_f0 rfl] at he
    cases he
    exact ⟨hb, fun I' J' g gj => ⟨rfl, E0 j rfl I' J' (fr g) gj⟩⟩
  | inr q =>
    obtain ⟨p1, p2, p3⟩ := pP_end hw h
    have e0 : qOut (qEp9 T 0) 0 (.inr q : Nat ⊕ (Nat × Unit)) = .inr q := qOut_r (qFe_none (fun j _ _ => rfl))
    refine ⟨0, 0, Nat.zero_le _, Nat.zero_le _, ?_⟩
    refine s_176 (d := d) (mn := 0) (a := 0) (I0 := zu (zu I 28 29 (-1)) 28 25 0) (J0 := J) (ok := qCn T.1 7 T.2.2.2 ≤ 12) hRO hw hv (Or.inl rfl) h (fun z => by cases z) (fun z => by cases z) (fun z => by cases z) (fun z => z) (fun z => by cases z) hs0 (fun _ => hz0) (fun z => by cases z) (qTh_no e0) (fun q9 hq9 c1 _ => ⟨fun _ I3 J3 hs3 e37 e39 => ?_, fun z => by cases z⟩)
    cases hq9
    have f3 := fr hs3.2.2.2.2.2.1
    have f4 : zfm cKs rLs I (zu I3 28 25 1) := zfm_z f3 _ _ (by decide)
    have f5 : zfm [24] [] (zu I3 28 25 1) (zu (zu I3 28 25 1) 28 24 0) := zfm_z (zfm_refl _) _ _ (by decide)
    have t4 : qTm T (zu I3 28 25 1) J3 := by
      unfold qTm
      rw [zu_n _ _ (by omega), zu_row _ _ (by decide), zu_row _ _ (by decide)]
      exact hs3.1
    have hs4 : qMi T 1 (zu I3 28 25 1) J 0 0 (zu (zu I3 28 25 1) 28 24 0) J3 := by
      refine ⟨qTm_n t4 f5, zu_s _ _ _ _, ?_, ?_, qTb_nil ?_, zfm_sub f5 (by simp) (by simp), hs3.2.2.2.2.2.2⟩
      · rw [zu_n _ _ (by omega), zu_s]
        rfl
      · rw [zu_n _ _ (by omega), zu_n _ _ (by omega)]
        exact hs3.2.2.2.1
      · rw [zu_n _ _ (by omega), zu_n _ _ (by omega)]
        exact hs3.2.2.2.2.1.2.1
    have rp : qRp (qCn T.1 7 T.2.2.2 ≤ 12) (qPg T (qMm T 0)) 0 (zu (zu I3 28 25 1) 28 24 0) := qRp_0 (fun x hx => by
      rw [zu_row _ _ (by decide), zu_row _ _ (by decide), e37, zu_row _ _ (by decide), zu_row _ _ (by decide), zu_row _ _ (by decide)]
      exact h37 x hx) (fun x hx => by
      rw [zu_row _ _ (by decide), zu_row _ _ (by decide), e39, zu_row _ _ (by decide), zu_row _ _ (by decide), zu_row _ _ (by decide)]
      exact h39 x hx)
    have e29 : I3 28 29 = -1 := by
      rw [hs3.2.2.2.2.2.1.2 29 (by decide), zu_n _ _ (by omega), zu_s]
    have eE : qEp9 T 1 = qEE T := by
      funext j
      unfold qEp9
      rw [if_pos rfl]
    show ∃ c4 s4, _
    rcases hy2 : qOut (qEE T) 0 (.inr q : Nat ⊕ (Nat × Unit)) with w | q2
    · refine ⟨bc, bs, Nat.le_refl _, Nat.le_refl _, ?_⟩
      refine s_176 (d := d) (mn := 1) (a := 0) (I0 := zu I3 28 25 1) (J0 := J) (ok := qCn T.1 7 T.2.2.2 ≤ 12) hRO hw hv (Or.inr rfl) h (fun _ => ⟨q, rfl⟩) (fun _ => p3 6 (by omega)) (fun _ => p3 7 (by omega)) (fun z => z) (fun _ => rfl) hs4 (fun z => by cases z) (fun _ => rp) (fun j2 e2 he => ?_) (fun q9 hq9 _ _ => ⟨fun z => (by cases z), fun _ hc => ?_⟩)
      · rw [eE] at he
        exact ⟨hb, fun I' J' g gj => ⟨rfl, E1 q j2 e2 rfl he I' J' (zfm_trans f4 (zfm_sub g (by simp) (by simp))) gj⟩⟩
      · cases hq9
        have : qOut (qEE T) 0 (.inr q : Nat ⊕ (Nat × Unit)) = .inr q := qOut_r (qFe_none (fun j _ h2 => hc j (by omega)))
        rw [this] at hy2
        cases hy2
    · refine ⟨0, 0, Nat.zero_le _, Nat.zero_le _, ?_⟩
      refine s_176 (d := d) (mn := 1) (a := 0) (I0 := zu I3 28 25 1) (J0 := J) (ok := qCn T.1 7 T.2.2.2 ≤ 12) hRO hw hv (Or.inr rfl) h (fun _ => ⟨q, rfl⟩) (fun _ => p3 6 (by omega)) (fun _ => p3 7 (by omega)) (fun z => z) (fun _ => rfl) hs4 (fun z => by cases z) (fun _ => rp) (by rw [eE]; exact qTh_no hy2) (fun q9 hq9 _ _ => ⟨fun z => (by cases z), fun _ hc I5 J5 a hs5 ha hrp5 => ?_⟩)
      cases hq9
      have g5 := hs5.2.2.2.2.2.1
      exact K q rfl c1 hc I5 J5 a (zfm_trans f4 (zfm_sub g5 (by simp) (by simp))) hs5.2.2.2.2.2.2 hs5.1 ha hs5.2.2.2.1 (by rw [g5.2 29 (by decide), zu_n _ _ (by omega)]; exact e29) hs5.2.2.1 hrp5
end MRead2

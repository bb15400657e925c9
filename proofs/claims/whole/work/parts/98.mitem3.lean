/-! ===== the reference's items: tracks and pools ===== -/
theorem qWh_at {s : Nat → Nat} {k k1 : Nat} {u : Unit} (h : pWh s k = pO k1 u) : k < k1 ∧ s (k1 - 1) = 3 ∧ ∀ j, k ≤ j → j < k1 - 1 → s j = 43 := by
  unfold pWh at h
  by_cases c : s k = 43
  · rw [if_pos c] at h
    have a := pT_inv (q := (k1, u)) h
    have e : k1 = k + 1 + 1 := a.2
    refine ⟨by omega, by rw [e, Nat.add_sub_cancel]; exact a.1, fun j h1 h2 => ?_⟩
    rw [show j = k by omega]
    exact c
  · rw [if_neg c] at h
    have a := pT_inv (q := (k1, u)) h
    have e : k1 = k + 1 := a.2
    refine ⟨by omega, by rw [e, Nat.add_sub_cancel]; exact a.1, fun j h1 h2 => by omega⟩
/-- what a token without a meaning leaves -/
theorem qMm_0 {T : qTk} {k : Nat} (h : ¬ (4 ≤ T.1 k ∧ T.1 k ≤ 10) ∧ ¬ T.1 k = 2 ∧ ¬ T.1 k = 3 ∧ ¬ T.1 k = 13 ∧ ¬ T.1 k = 14) : qMm T (k + 1) = qMm T k := by
  show qM1 T k (qMm T k) = _
  unfold qM1
  rw [if_neg h.1, if_neg h.2.1, if_neg h.2.2.1, if_neg h.2.2.2.1, if_neg h.2.2.2.2]
theorem qMm_w43 {T : qTk} {k : Nat} : ∀ {j : Nat}, k ≤ j → (∀ i, k ≤ i → i < j → T.1 i = 43) → qMm T j = qMm T k := by
  intro j
  induction j with
  | zero =>
    intro h1 h2
    have : k = 0 := by omega
    rw [this]
  | succ j ih =>
    intro h1 h2
    by_cases e : k = j + 1
    · rw [e]
    · have c := h2 j (by omega) (by omega)
      rw [qMm_0 (by omega), ih (by omega) (fun i q1 q2 => h2 i q1 (by omega))]
theorem qMm_wh {T : qTk} {k k1 : Nat} {u : Unit} {lo hi : Int} (h : pWh T.1 k = pO k1 u) (hk : (qMm T k).1 10 = 4 ∨ (qMm T k).1 10 = 5) (hlo : (if (qMm T k).1 12 = 0 then -999 else (qMm T k).2.1 (3 * qTg ((qMm T k).1 10) ((qMm T k).1 11))) = lo) (hhi : (if (qMm T k).1 12 = 2 then (qMm T k).2.1 (3 * qTg ((qMm T k).1 10) ((qMm T k).1 11) + 1) else 999) = hi) : qMm T k1 = (qup (qMm T k).1 12 ((qMm T k).1 12 + 1), qup (qMm T k).2.1 (3 * qTg ((qMm T k).1 10) ((qMm T k).1 11) + (qMm T k).1 12) (qWv T (k1 - 1)), (qMm T k).2.2) ∧ (∀ j, k ≤ j → j < k1 - 1 → qEE T j = 0) ∧
    qEE T (k1 - 1) = if lo ≤ qWv T (k1 - 1) ∧ qWv T (k1 - 1) ≤ hi then 0 else 5 := by
  obtain ⟨a1, a2, a3⟩ := qWh_at h
  have e := qMm_w43 (T := T) (k := k) (j := k1 - 1) (by omega) a3
  obtain ⟨k0, rfl⟩ : ∃ k0, k1 = k0 + 1 := ⟨k1 - 1, by omega⟩
  rw [Nat.add_sub_cancel] at e a2 a3 ⊢
  refine ⟨?_, fun j h1 h2 => ?_, ?_⟩
  · show qM1 T k0 (qMm T k0) = _
    rw [e]
    unfold qM1
    rw [if_neg (by omega), if_neg (by omega), if_pos a2, if_pos hk]
  · have c := a3 j h1 h2
    unfold qEE qE1
    rw [if_neg (by omega), if_neg (by omega), if_neg (by omega), if_neg (by omega)]
  · unfold qEE qE1
    rw [if_neg (by omega), if_neg (by omega), if_pos a2, e, hlo, hhi]
    by_cases z : lo ≤ qWv T k0 ∧ qWv T k0 ≤ hi
    · rw [if_pos z, if_neg (fun w => w.2 z)]
    · rw [if_neg z, if_pos ⟨hk, z⟩]
section MItem3
variable {RO : zRo} {d : Nat} {P : zP} {I : zI} {J : zJ} {D : zD} {bc bs : Nat} {T : qTk} {mn ct k dp a j c : Nat} {I0 : zI} {J0 : zJ}
theorem s_tk {b : Nat} {NX : Nat → Nat → zI → zJ → zD → Prop} (hw : qTw T) (ht : qTm T I J) (h24 : I 28 24 = zi (k : Int)) (hn : k < T.2.2.2) (hb : b ≤ 51) (Hf : ¬ T.1 k = b → (1 ≤ bc ∧ 8 ≤ bs) ∧ P (.inr (3, 1, zi (T.2.1 k : Int))) I J D) (Hk : T.1 k = b → ∀ I', I' 28 24 = zi ((k + 1 : Nat) : Int) → zfm [24] [] I I' → NX 0 0 I' J D) :
    ∃ c s, c ≤ bc ∧ s ≤ bs ∧ zz RO (d + 2) 151 [.ref 28, .int (zi (qkm b : Int))] I J D c s (zNv P fun I1 J1 D1 => NX c s I1 J1 D1) := by
  by_cases z : T.1 k = b
  · exact ⟨0, 0, Nat.zero_le _, Nat.zero_le _, s_151t hw ht h24 hn hb z (fun I1 e1 f1 => Hk z I1 e1 f1)⟩
  · obtain ⟨b1, b2⟩ := Hf z
    exact ⟨bc, bs, Nat.le_refl _, Nat.le_refl _, s_151f hw ht h24 hn hb z b1 b2⟩
theorem s_nb {lo hi : Int} {y : Nat ⊕ (Nat × Unit)} {NX : Nat → Nat → Int32 → zI → zJ → zD → Prop} (hw : qTw T) (hv : qTv T) (h : pWh T.1 k = some y) (ht : qTm T I J) (h24 : I 28 24 = zi (k : Int)) (h25 : I 28 25 = zi (mn : Int)) (hm : mn = 0 ∨ mn = 1) (hn : k < T.2.2.2) (hk1 : ¬ T.1 (k - 1) = 43) (hlo : -100000 ≤ lo ∧ lo ≤ 100000) (hhi : -100000 ≤ hi ∧ hi ≤ 100000)
    (Hf : ∀ j, y = .inl j → (1 ≤ bc ∧ 8 ≤ bs) ∧ ∀ I', zfm [24] [] I I' → P (.inr (3, 1, zi (T.2.1 j : Int))) I' J D) (He : ∀ q, y = .inr q → mn = 1 → ¬ (lo ≤ qWv T (q.1 - 1) ∧ qWv T (q.1 - 1) ≤ hi) → (1 ≤ bc ∧ 8 ≤ bs) ∧ ∀ I', zfm [24] [] I I' → P (.inr (3, 5, zi (T.2.1 (q.1 - 1) : Int))) I' J D)
    (Hk : ∀ q, y = .inr q → (mn = 1 → lo ≤ qWv T (q.1 - 1) ∧ qWv T (q.1 - 1) ≤ hi) → -9999 ≤ qWv T (q.1 - 1) ∧ qWv T (q.1 - 1) ≤ 9999 → ∀ I', I' 28 24 = zi (q.1 : Int) → zfm [24] [] I I' → NX 0 0 (zi (qWv T (q.1 - 1))) I' J D) :
    ∃ c s, c ≤ bc ∧ s ≤ bs ∧ zz RO (d + 3) 167 [.ref 28, .int (zi lo), .int (zi hi)] I J D c s (zNi P fun v I1 J1 D1 => NX c s v I1 J1 D1) := by
  cases y with
  | inl j =>
    obtain ⟨b1, b2⟩ := Hf j rfl
    refine ⟨bc, bs, Nat.le_refl _, Nat.le_refl _, ?_⟩
    refine s_167 hw hv h ht h24 h25 hm hn hk1 hlo hhi (fun j2 h2 => ?_) (fun q hq => by cases hq) (fun q hq => by cases hq)
    cases h2
    exact ⟨b1, b2⟩
  | inr q =>
    by_cases z : mn = 1 ∧ ¬ (lo ≤ qWv T (q.1 - 1) ∧ qWv T (q.1 - 1) ≤ hi)
    · obtain ⟨b1, b2⟩ := He q rfl z.1 z.2
      refine ⟨bc, bs, Nat.le_refl _, Nat.le_refl _, ?_⟩
      refine s_167 hw hv h ht h24 h25 hm hn hk1 hlo hhi (fun j2 h2 => by cases h2) (fun q2 hq _ _ => ?_) (fun q2 hq h3 => ?_)
      · cases hq
        exact ⟨b1, b2⟩
      · cases hq
        exact absurd (h3 z.1) z.2
    · refine ⟨0, 0, Nat.zero_le _, Nat.zero_le _, ?_⟩
      refine s_167 hw hv h ht h24 h25 hm hn hk1 hlo hhi (fun j2 h2 => by cases h2) (fun q2 hq h3 h4 => ?_) (fun q2 hq h3 h4 I' h5 h6 => ?_)
      · cases hq
        exact absurd ⟨h3, h4⟩ z
      · cases hq
        exact Hk q rfl h3 h4 I' h5 h6
theorem qOut_f0 {α : Type} {j : Nat} (h : mn = 0) : qOut (qEp9 T mn) k (.inl j : Nat ⊕ (Nat × α)) = .inl (j, 1) := qOut_l (qFe_none (fun i _ _ => by
  unfold qEp9
  rw [if_neg (by omega)]))
/-- an error of the form, in the first reading -/
theorem qTh_f {α : Type} {r : Nat ⊕ (Nat × α)} (hm : mn = 0 ∨ mn = 1) (hok : mn = 1 → ∃ q, r = .inr q) (H1 : qTh T P D bc bs I0 J0 (qOut (qEp9 T mn) k r)) : ∀ j, r = .inl j → (1 ≤ bc ∧ 8 ≤ bs) ∧ ∀ I' J', rfr I0 I' → rfj J0 J' → P (.inr (3, 1, zi (T.2.1 j : Int))) I' J' D := fun j hj => by
  rcases hm with m0 | m1
  · exact H1 j 1 (by rw [hj]; exact qOut_f0 m0)
  · obtain ⟨q, hq⟩ := hok m1
    rw [hj] at hq
    cases hq
/-- an error of the meaning behind clean tokens -/
theorem qTh_e {α : Type} {r : Nat ⊕ (Nat × α)} {j e : Nat} (hm : mn = 1) (hc : ∀ i, k ≤ i → i < j → qEE T i = 0) (he : qEE T j = e) (hne : ¬ e = 0) (hp : k ≤ j ∧ j < qPos r) (H1 : qTh T P D bc bs I0 J0 (qOut (qEp9 T mn) k r)) : (1 ≤ bc ∧ 8 ≤ bs) ∧ ∀ I' J', rfr I0 I' → rfj J0 J' → P (.inr (3, zi (e : Int), zi (T.2.1 j : Int))) I' J' D := by
  have e9 : qEp9 T mn j = e := by
    unfold qEp9
    rw [if_pos hm]
    exact he
  refine H1 j e ?_
  rw [qOut_step (k1 := j) (fun i h1 h2 => by
    unfold qEp9
    rw [if_pos hm]
    exact hc i h1 h2) ⟨hp.1, by omega⟩, qOut_one (by rw [e9]; exact hne) hp.2, e9]
end MItem3

/-! ===== the reference's reading: expressions ===== -/
def mA (RO : zRo) (T : qTk) (E : Nat → Nat) (pl : Nat → Option Nat) (tb : List (Int64 × Nat × Nat)) (mn ct : Nat) (I0 : zI) (J0 : zJ) (f m : Nat) : Prop := ∀ {dp k a e bc bs : Nat} {r : Nat ⊕ (Nat × List zOp)} {I : zI} {J : zJ} {D : zD} {P : zP}, pE T.1 f m dp k = some r → dp ≤ 8 → 6 * (8 - dp) + 14 - m ≤ e → k < T.2.2.2 → (mn = 1 → a ≤ 900 + k) → qGx T E mn ct pl tb k → ¬ (T.1 (k - 1) = 25 ∨ T.1 (k - 1) = 26) → qMx T tb mn ct I0 J0 k dp a I J → qTh T P D bc bs I0 J0 (qOut E k r) → (∀ q, qOut E k r = .inr q → ∀ I', qPx T pl mn dp a q I I' → P (.inl none) I' J D) → zz RO e (157 + m) [.ref 28] I J D bc bs P
def mL (RO : zRo) (T : qTk) (E : Nat → Nat) (pl : Nat → Option Nat) (tb : List (Int64 × Nat × Nat)) (mn ct : Nat) (I0 : zI) (J0 : zJ) (f l : Nat) : Prop := ∀ {dp k a d bc bs : Nat} {r : Nat ⊕ (Nat × List zOp)} {I : zI} {J : zJ} {D : zD} {P : zP}, pE T.1 f (l + 10) dp k = some r → dp ≤ 8 → 6 * (8 - dp) + 14 - l ≤ d + 2 → k < T.2.2.2 → (mn = 1 → a ≤ 900 + k) → qGx T E mn ct pl tb k → qMx T tb mn ct I0 J0 k dp a I J → qTh T P D bc bs I0 J0 (qOut E k r) → (∀ q, qOut E k r = .inr q → ∀ I', qPx T pl mn dp a q I I' → P (.inl none) I' J D) → zw RO (d + 1) (157 + l) P 4 [(0, .ref 28)] [] I J D bc bs
section MForm3
variable {RO : zRo} {d : Nat} {P : zP} {I : zI} {J : zJ} {D : zD} {bc bs : Nat} {T : qTk} {E : Nat → Nat} {pl : Nat → Option Nat} {tb : List (Int64 × Nat × Nat)} {mn ct k dp a j c : Nat} {I0 : zI} {J0 : zJ}
theorem pE_pos {f m : Nat} {r : Nat ⊕ (Nat × List zOp)} (hw : qTw T) (h : pE T.1 f m dp k = some r) (hm : m ≤ 5 ∨ 10 ≤ m ∧ m ≤ 14) (hn : k < T.2.2.2) : k ≤ qPos r ∧ qPos r < T.2.2.2 := by
  cases r with
  | inl j =>
    have := pE_fail (N := T.2.2.2 - 1) (qTw_N hw) h hm (by omega)
    show k ≤ j ∧ j < _
    omega
  | inr q =>
    have a := pE_ok (k2 := q.1) (o := q.2) h hm
    refine ⟨a.1.1, ?_⟩
    show q.1 < _
    by_cases c : k = q.1
    · omega
    · have a0 := a.1.1
      have := qTw_lt hw (k := q.1 - 1) (by have := a.1.2.2.1 (q.1 - 1) (by omega) (by omega); unfold xs at this; omega)
      omega
theorem pB_cases {α β : Type} {ry : zRs α} {f : Nat → α → zRs β} {x : Nat ⊕ (Nat × β)} (h : pB ry f = some x) : ∃ y, ry = some y ∧ (∀ j, y = .inl j → x = .inl j) ∧ ∀ q, y = .inr q → f q.1 q.2 = some x := by
  rcases pB_inv h with ⟨j, h1, e⟩ | ⟨k, b, h1, h2⟩
  · refine ⟨.inl j, h1, fun i hi => ?_, fun q hq => (by cases hq)⟩
    cases hi
    exact e
  · refine ⟨.inr (k, b), h1, fun i hi => (by cases hi), fun q hq => ?_⟩
    cases hq
    exact h2
theorem qOut_inv {α : Type} {E : Nat → Nat} {k : Nat} {y : Nat ⊕ (Nat × α)} {q : Nat × α} (h : qOut E k y = .inr q) : y = .inr q ∧ qFe E (q.1 - k) k = none := by
  cases hf : qFe E (qPos y - k) k with
  | some i =>
    rw [qOut_fe hf] at h
    cases h
  | none =>
    cases y with
    | inl j =>
      have hf : qFe E (j - k) k = none := hf
      rw [qOut_l hf] at h
      cases h
    | inr q2 =>
      rw [qOut_r hf] at h
      cases h
      exact ⟨rfl, hf⟩
theorem qPx_nil {k : Nat} (hs : qMx T tb mn ct I0 J0 k dp a I J) : qPx T pl mn dp a (k, []) I I := by
  refine ⟨zfm_refl _, hs.2.1, hs.2.2.2.2.1, ?_⟩
  have e : eml mn (List.map (qRm T pl) []) = [] := by unfold eml; split <;> rfl
  show qmN a (eml mn (List.map (qRm T pl) [])) I I
  rw [e]
  exact qmN_nil hs.2.2.2.2.2.1
theorem qPx_st {q : Nat × List zOp} {I' : zI} (hs : qMx T tb mn ct I0 J0 k dp a I J) (h : qPx T pl mn dp a q I I') : qMx T tb mn ct I0 J0 q.1 dp (a + (eml mn (q.2.map (qRm T pl))).length) I' J := qMx_fr hs h.1 h.2.1 h.2.2.1 h.2.2.2.1
theorem eml_bd {q : List zOp} {m : Nat} (h : q.length ≤ m) : (eml mn (q.map (qRm T pl))).length ≤ m := by
  have := eml_len (mn := mn) (A := q.map (qRm T pl))
  rw [List.length_map] at this
  omega
theorem eml_one {x : zOp} {y : Nat} (h : qRm T pl x = (y, 0, 0)) : (if mn = 1 then [(y, (0 : Int32), (0 : Int32))] else []) = eml mn ([x].map (qRm T pl)) := by
  unfold eml
  rw [List.map_singleton, h]
theorem zfm_n1 {I I' : zI} (f : zfm [24] [] I I') : nfr I I' := zfm_sub f (by simp) (by simp)
theorem zfm_x1 {I I' : zI} (f : zfm [19] [43, 44, 45] I I') : xfr I I' := zfm_sub f (by simp) (by simp)
theorem mA_lv {f m : Nat} (hw : qTw T) (hm : m ≤ 4) (W : ∀ {d bc bs : Nat} {I : zI} {J : zJ} {D : zD} {P : zP}, (∃ c1 s1, c1 ≤ bc ∧ s1 ≤ bs ∧ zz RO (d + 1) (157 + (m + 1)) [.ref 28] I J D c1 s1 (zNv P fun I1 J1 D1 => zw RO (d + 1) (157 + m) P 4 [(0, .ref 28)] [] I1 J1 D1 (bc - c1) (bs - s1))) → zz RO (d + 2) (157 + m) [.ref 28] I J D bc bs P)
    (ihA : mA RO T E pl tb mn ct I0 J0 f (m + 1)) (ihL : mL RO T E pl tb mn ct I0 J0 f m) : mA RO T E pl tb mn ct I0 J0 (f + 1) m := by
  intro dp k a e bc bs r I J D P h hdp he hn hab hg hp hs H1 H2
  obtain ⟨d, rfl⟩ : ∃ d, e = d + 2 := ⟨e - 2, by omega⟩
  rw [pE_lo (by omega)] at h
  obtain ⟨y, hy, y1, y2⟩ := pB_cases h
  have py := pE_pos hw hy (by omega) hn
  have pxy : qPos y ≤ qPos r := by
    cases y with
    | inl i =>
      rw [y1 i rfl]
      exact Nat.le_refl _
    | inr q =>
      have h2 := y2 q rfl
      obtain ⟨y3, h3, y4, y5⟩ := pB_cases h2
      have p3 := pE_pos hw h3 (by omega) py.2
      cases y3 with
      | inl i =>
        rw [y4 i rfl]
        exact p3.1
      | inr q3 =>
        have e9 := pO_inv (y5 q3 rfl)
        rw [e9]
        exact p3.1
  refine W ?_
  rcases hy2 : qOut E k y with w | q
  · have hx := qOut_thr hy2 y1 ⟨py.1, pxy⟩
    refine ⟨bc, bs, Nat.le_refl _, Nat.le_refl _, ?_⟩
    have H3 : qTh T P D bc bs I0 J0 (qOut E k y) := qTh_to H1 hx hy2
    exact ihA hy hdp (by omega) hn hab hg hp hs H3 (fun q hq => absurd (hy2.symm.trans hq) (fun z => by cases z))
  · sorry
end MForm3

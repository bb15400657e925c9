/-! ===== the reference's reading: expressions ===== -/
def mA (RO : zRo) (T : qTk) (E : Nat → Nat) (pl : Nat → Option Nat) (tb : List (Int64 × Nat × Nat)) (mn ct : Nat) (I0 : zI) (J0 : zJ) (f m : Nat) : Prop := ∀ {dp k a e bc bs : Nat} {r : Nat ⊕ (Nat × List zOp)} {I : zI} {J : zJ} {D : zD} {P : zP}, pE T.1 f m dp k = some r → (mn = 1 → ∃ q, r = .inr q) → dp ≤ 8 → 6 * (8 - dp) + 14 - m ≤ e → k < T.2.2.2 → (mn = 1 → a ≤ 900 + k) → qGx T E mn ct pl tb k → ¬ (T.1 (k - 1) = 25 ∨ T.1 (k - 1) = 26) → qMx T tb mn ct I0 J0 k dp a I J → qTh T P D bc bs I0 J0 (qOut E k r) → (∀ q, qOut E k r = .inr q → ∀ I', qPx T pl mn dp a q I I' → P (.inl none) I' J D) → zz RO e (157 + m) [.ref 28] I J D bc bs P
def mL (RO : zRo) (T : qTk) (E : Nat → Nat) (pl : Nat → Option Nat) (tb : List (Int64 × Nat × Nat)) (mn ct : Nat) (I0 : zI) (J0 : zJ) (f l : Nat) : Prop := ∀ {dp k a d bc bs : Nat} {r : Nat ⊕ (Nat × List zOp)} {I : zI} {J : zJ} {D : zD} {P : zP}, pE T.1 f (l + 10) dp k = some r → (mn = 1 → ∃ q, r = .inr q) → dp ≤ 8 → 6 * (8 - dp) + 14 - l ≤ d + 2 → k < T.2.2.2 → (mn = 1 → a ≤ 900 + k) → qGx T E mn ct pl tb k → qMx T tb mn ct I0 J0 k dp a I J → qTh T P D bc bs I0 J0 (qOut E k r) → (∀ q, qOut E k r = .inr q → ∀ I', qPx T pl mn dp a q I I' → P (.inl none) I' J D) → zw RO (d + 1) (157 + l) P 4 [(0, .ref 28)] [] I J D bc bs
section MForm3
variable {RO : zRo} {d : Nat} {P : zP} {I : zI} {J : zJ} {D : zD} {bc bs : Nat} {T : qTk} {E : Nat → Nat} {pl : Nat → Option Nat} {tb : List (Int64 × Nat × Nat)} {mn ct k dp a j c : Nat} {I0 : zI} {J0 : zJ}
theorem pE_pos {f m : Nat} {r : Nat ⊕ (Nat × List zOp)} (hw : qTw T) (h : pE T.1 f m dp k = some r) (hm : m ≤ 5 ∨ 10 ≤ m ∧ m ≤ 14) (hn : k < T.2.2.2) : k ≤ qPos r ∧ qPos r < T.2.2.2 := by
  cases r with
  | inl j =>
    have := pE_fail (N := T.2.2.2 - 1) (qTw_N hw) h hm (by omega)
    show k ≤ j ∧ j < _
    omega
  | inr q =>
    have a := pE_ok (k2 := q.1) (o := q.2) h hm
    refine ⟨a.1.1, ?_⟩
    show q.1 < _
    by_cases c : k = q.1
    · omega
    · have a0 := a.1.1
      have := qTw_lt hw (k := q.1 - 1) (by have := a.1.2.2.1 (q.1 - 1) (by omega) (by omega); unfold xs at this; omega)
      omega
theorem pB_cases {α β : Type} {ry : zRs α} {f : Nat → α → zRs β} {x : Nat ⊕ (Nat × β)} (h : pB ry f = some x) : ∃ y, ry = some y ∧ (∀ j, y = .inl j → x = .inl j) ∧ ∀ q, y = .inr q → f q.1 q.2 = some x := by
  rcases pB_inv h with ⟨j, h1, e⟩ | ⟨k, b, h1, h2⟩
  · refine ⟨.inl j, h1, fun i hi => ?_, fun q hq => (by cases hq)⟩
    cases hi
    exact e
  · refine ⟨.inr (k, b), h1, fun i hi => (by cases hi), fun q hq => ?_⟩
    cases hq
    exact h2
theorem qOut_inv {α : Type} {E : Nat → Nat} {k : Nat} {y : Nat ⊕ (Nat × α)} {q : Nat × α} (h : qOut E k y = .inr q) : y = .inr q ∧ qFe E (q.1 - k) k = none := by
  cases hf : qFe E (qPos y - k) k with
  | some i =>
    rw [qOut_fe hf] at h
    cases h
  | none =>
    cases y with
    | inl j =>
      have hf : qFe E (j - k) k = none := hf
      rw [qOut_l hf] at h
      cases h
    | inr q2 =>
      rw [qOut_r hf] at h
      cases h
      exact ⟨rfl, hf⟩
theorem qOut_go {α β : Type} {E : Nat → Nat} {k : Nat} {y : Nat ⊕ (Nat × α)} {x : Nat ⊕ (Nat × β)} {q : Nat × α} (h : qOut E k y = .inr q) (hp : k ≤ qPos y ∧ qPos y ≤ qPos x) : y = .inr q ∧ qOut E k x = qOut E q.1 x := by
  obtain ⟨e1, hf⟩ := qOut_inv h
  subst e1
  have hp1 : k ≤ q.1 := hp.1
  exact ⟨rfl, qOut_step (fun j h1 h2 => qFe_clean hf j h1 (by omega)) hp⟩
theorem qPx_nil {k : Nat} (hs : qMx T tb mn ct I0 J0 k dp a I J) : qPx T pl mn dp a (k, []) I I := by
  refine ⟨zfm_refl _, hs.2.1, hs.2.2.2.2.1, ?_⟩
  have e : eml mn (List.map (qRm T pl) []) = [] := by unfold eml; split <;> rfl
  show qmN a (eml mn (List.map (qRm T pl) [])) I I
  rw [e]
  exact qmN_nil hs.2.2.2.2.2.1
theorem qPx_st {q : Nat × List zOp} {I' : zI} (hs : qMx T tb mn ct I0 J0 k dp a I J) (h : qPx T pl mn dp a q I I') : qMx T tb mn ct I0 J0 q.1 dp (a + (eml mn (q.2.map (qRm T pl))).length) I' J := qMx_fr hs h.1 h.2.1 h.2.2.1 h.2.2.2.1
theorem eml_bd {q : List zOp} {m : Nat} (h : q.length ≤ m) : (eml mn (q.map (qRm T pl))).length ≤ m := by
  have := eml_len (mn := mn) (A := q.map (qRm T pl))
  rw [List.length_map] at this
  omega
theorem eml_one {x : zOp} {y : Nat} (h : qRm T pl x = (y, 0, 0)) : (if mn = 1 then [(y, (0 : Int32), (0 : Int32))] else []) = eml mn ([x].map (qRm T pl)) := by
  unfold eml
  rw [List.map_singleton, h]
theorem zfm_n1 {I I' : zI} (f : zfm [24] [] I I') : nfr I I' := zfm_sub f (by simp) (by simp)
theorem zfm_x1 {I I' : zI} (f : zfm [19] [43, 44, 45] I I') : xfr I I' := zfm_sub f (by simp) (by simp)
theorem hok_sub {α β : Type} {y : Nat ⊕ (Nat × α)} {x : Nat ⊕ (Nat × β)} (y1 : ∀ j, y = .inl j → x = .inl j) (h : mn = 1 → ∃ q, x = .inr q) : mn = 1 → ∃ q, y = .inr q := fun m => by
  cases y with
  | inl j =>
    obtain ⟨q, hq⟩ := h m
    rw [y1 j rfl] at hq
    cases hq
  | inr q => exact ⟨q, rfl⟩
theorem mA_lv {f m : Nat} (hw : qTw T) (hm : m ≤ 4) (W : ∀ {d bc bs : Nat} {I : zI} {J : zJ} {D : zD} {P : zP}, (∃ c1 s1, c1 ≤ bc ∧ s1 ≤ bs ∧ zz RO (d + 1) (157 + (m + 1)) [.ref 28] I J D c1 s1 (zNv P fun I1 J1 D1 => zw RO (d + 1) (157 + m) P 4 [(0, .ref 28)] [] I1 J1 D1 (bc - c1) (bs - s1))) → zz RO (d + 2) (157 + m) [.ref 28] I J D bc bs P)
    (ihA : mA RO T E pl tb mn ct I0 J0 f (m + 1)) (ihL : mL RO T E pl tb mn ct I0 J0 f m) : mA RO T E pl tb mn ct I0 J0 (f + 1) m := by
  intro dp k a e bc bs r I J D P h hok hdp he hn hab hg hp hs H1 H2
  obtain ⟨d, rfl⟩ : ∃ d, e = d + 2 := ⟨e - 2, by omega⟩
  rw [pE_lo (by omega)] at h
  obtain ⟨y, hy, y1, y2⟩ := pB_cases h
  have py := pE_pos hw hy (by omega) hn
  have pxy : qPos y ≤ qPos r := by
    cases y with
    | inl i =>
      rw [y1 i rfl]
      exact Nat.le_refl _
    | inr q =>
      have h2 := y2 q rfl
      obtain ⟨y3, h3, y4, y5⟩ := pB_cases h2
      have p3 := pE_pos hw h3 (by omega) py.2
      cases y3 with
      | inl i =>
        rw [y4 i rfl]
        exact p3.1
      | inr q3 =>
        have e9 := pO_inv (y5 q3 rfl)
        rw [e9]
        exact p3.1
  refine W ?_
  rcases hy2 : qOut E k y with w | q
  · have hx := qOut_thr hy2 y1 ⟨py.1, pxy⟩
    refine ⟨bc, bs, Nat.le_refl _, Nat.le_refl _, ?_⟩
    have H3 : qTh T P D bc bs I0 J0 (qOut E k y) := qTh_to H1 hx hy2
    exact ihA hy (hok_sub y1 hok) hdp (by omega) hn hab hg hp hs H3 (fun q hq => absurd (hy2.symm.trans hq) (fun z => by cases z))
  · obtain ⟨e1, e3⟩ := qOut_go hy2 ⟨py.1, pxy⟩
    subst e1
    have a1 := pE_ok (k2 := q.1) (o := q.2) hy (by omega)
    have l1 := eml_bd (T := T) (pl := pl) (mn := mn) a1.1.2.1
    have a0 := a1.1.1
    have pq : q.1 < T.2.2.2 := py.2
    have t1 : tks T.1 ys k q.1 := ⟨a1.1.1, fun j h1 h2 => Or.inl (a1.1.2.2.1 j h1 h2)⟩
    have h2 := y2 q rfl
    obtain ⟨y3, h3, y4, y5⟩ := pB_cases h2
    have p3 := pE_pos hw h3 (by omega) pq
    rw [e3] at H1 H2
    refine ⟨0, 0, Nat.zero_le _, Nat.zero_le _, ?_⟩
    have H3 : qTh T P D 0 0 I0 J0 (qOut E k (Sum.inr q)) := qTh_no hy2
    refine ihA hy (hok_sub y1 hok) hdp (by omega) hn hab hg hp hs H3 (fun q9 hq9 I1 z1 => ?_)
    have e9 : q = q9 := by
      have := hy2.symm.trans hq9
      cases this
      rfl
    subst e9
    have s1 := qPx_st hs z1
    show zw RO (d + 1) (157 + m) P 4 [(0, .ref 28)] [] I1 J D (bc - 0) (bs - 0)
    rw [Nat.sub_zero, Nat.sub_zero]
    refine ihL h3 (hok_sub y4 hok) hdp (by omega) pq (fun z => by have := hab z; omega) (qGx_step hg t1) s1 (fun j e he => ?_) (fun q3 hq3 I2 z2 => ?_)
    · refine H1 j e ?_
      refine qOut_thr he y4 ⟨p3.1, ?_⟩
      cases y3 with
      | inl i =>
        rw [y4 i rfl]
        exact Nat.le_refl _
      | inr q3 =>
        have e9 := pO_inv (y5 q3 rfl)
        rw [e9]
        exact Nat.le_refl _
    · obtain ⟨e5, hf⟩ := qOut_inv hq3
      subst e5
      have e9 := pO_inv (y5 q3 rfl)
      have hr : qOut E q.1 r = .inr (q3.1, q.2 ++ q3.2) := by
        rw [e9]
        exact qOut_r hf
      refine H2 _ hr I2 ⟨zfm_trans z1.1 z2.1, z2.2.1, z2.2.2.1, ?_⟩
      show qmN a (eml mn ((q.2 ++ q3.2).map (qRm T pl))) I I2
      rw [List.map_append, eml_app]
      exact qmN_app z1.2.2.2 z2.2.2.2
/-- an operator behind its left operand: the right one, its code -/
theorem s_opr {f l code : Nat} {G : Nat → List zOp → zRs (List zOp)} {r : Nat ⊕ (Nat × List zOp)} {NX : zI → zJ → zD → Nat → Nat → Prop} (hw : qTw T) (hl : l ≤ 4) (hop : pLv (T.1 k) = l) (hcode : zmo (T.1 k, 0) = (code, 0, 0)) (ihA : mA RO T E pl tb mn ct I0 J0 f (l + 1))
    (h : pB (pE T.1 f (l + 1) dp (k + 1)) G = some r) (hok : mn = 1 → ∃ q, r = .inr q) (hG : ∀ k1 o, G k1 o = some r → k1 < T.2.2.2 → k1 ≤ qPos r) (hdp : dp ≤ 8) (he : 6 * (8 - dp) + 13 - l ≤ d + 2) (hab : mn = 1 → a ≤ 900 + k) (hg : qGx T E mn ct pl tb k) (hn : k < T.2.2.2) (hs : qMx T tb mn ct I0 J0 k dp a I J) {I1 : zI} (e1 : I1 28 24 = zi ((k + 1 : Nat) : Int)) (f1 : zfm [24] [] I I1) (H1 : qTh T P D bc bs I0 J0 (qOut E k r))
    (N : ∀ k1 o, G k1 o = some r → qOut E k r = qOut E k1 r → k < k1 → k1 < T.2.2.2 → o.length + 1 ≤ k1 - k → tks T.1 ys k k1 → ∀ I3, xfr I I3 → qMx T tb mn ct I0 J0 k1 dp (a + (eml mn ((o ++ [(T.1 k, 0)]).map (qRm T pl))).length) I3 J → qmN a (eml mn ((o ++ [(T.1 k, 0)]).map (qRm T pl))) I I3 → NX I3 J D bc bs) :
    ∃ c s, c ≤ bc ∧ s ≤ bs ∧ zz RO (d + 2) (157 + (l + 1)) [.ref 28] I1 J D c s (zNv P fun I2 J2 D2 => zz RO (d + 2) 155 [.ref 28, .int (zi (code : Int))] I2 J2 D2 0 0 (zNv P fun I3 J3 D3 => NX I3 J3 D3 (bc - c) (bs - s))) := by
  have hN := hw.2.1
  have hx := pLv_xs hop (by omega)
  have hz := hx.2
  unfold zbnK at hz
  have hlt := qTw_lt hw (k := k) (by omega)
  have E0 : E k = 0 := qGx_0 hg (Or.inl hx.1) (by omega) (fun z => by omega)
  have tk := tks_one (s := T.1) (ok := ys) (k := k) (Or.inl hx.1)
  have g1 := qGx_step hg tk
  have f1x : xfr I I1 := zfm_sub f1 (by simp) (by simp)
  have s1 : qMx T tb mn ct I0 J0 (k + 1) dp a I1 J := qMx_fr hs f1x e1 (by rw [f1.2 27 (by decide)]; exact hs.2.2.2.2.1) (by rw [f1.2 19 (by decide)]; exact hs.2.2.2.2.2.1)
  obtain ⟨y, hy, y1, y2⟩ := pB_cases h
  have py := pE_pos hw hy (by omega) (by omega)
  have pxy : qPos y ≤ qPos r := by
    cases y with
    | inl i =>
      rw [y1 i rfl]
      exact Nat.le_refl _
    | inr q => exact hG q.1 q.2 (y2 q rfl) py.2
  have ek : qOut E k r = qOut E (k + 1) r := qOut_step (fun j h1 h2 => by
    have e : j = k := by omega
    rw [e]
    exact E0) ⟨by omega, by omega⟩
  have hp1 : ¬ (T.1 (k + 1 - 1) = 25 ∨ T.1 (k + 1 - 1) = 26) := by
    rw [Nat.add_sub_cancel]
    omega
  rcases hy2 : qOut E (k + 1) y with w | q
  · have hx2 := qOut_thr hy2 y1 ⟨py.1, pxy⟩
    refine ⟨bc, bs, Nat.le_refl _, Nat.le_refl _, ?_⟩
    have H3 : qTh T P D bc bs I0 J0 (qOut E (k + 1) y) := qTh_to H1 (ek.trans hx2) hy2
    exact ihA hy (hok_sub y1 hok) hdp (by omega) (by omega) (fun z => by have := hab z; omega) g1 hp1 s1 H3 (fun q hq => absurd (hy2.symm.trans hq) (fun z => by cases z))
  · obtain ⟨e2, e3⟩ := qOut_go hy2 ⟨py.1, pxy⟩
    subst e2
    have a1 := pE_ok (k2 := q.1) (o := q.2) hy (by omega)
    have l1 := eml_bd (T := T) (pl := pl) (mn := mn) a1.1.2.1
    have a0 := a1.1.1
    have pq : q.1 < T.2.2.2 := py.2
    have t1 : tks T.1 ys (k + 1) q.1 := ⟨a1.1.1, fun j h1 h2 => Or.inl (a1.1.2.2.1 j h1 h2)⟩
    refine ⟨0, 0, Nat.zero_le _, Nat.zero_le _, ?_⟩
    have H3 : qTh T P D 0 0 I0 J0 (qOut E (k + 1) (Sum.inr q)) := qTh_no hy2
    refine ihA hy (hok_sub y1 hok) hdp (by omega) (by omega) (fun z => by have := hab z; omega) g1 hp1 s1 H3 (fun q9 hq9 I2 z2 => ?_)
    have e9 : q = q9 := by
      have := hy2.symm.trans hq9
      cases this
      rfl
    subst e9
    have s2 := qPx_st s1 z2
    have hq : qRm T pl (T.1 k, 0) = (code, 0, 0) := by
      unfold qRm qRo
      rw [if_neg (show ¬ ((T.1 k, (0 : Int32)).1 = 2 ∨ (T.1 k, (0 : Int32)).1 = 16 ∨ (T.1 k, (0 : Int32)).1 = 17) from by show ¬ (T.1 k = 2 ∨ T.1 k = 16 ∨ T.1 k = 17); omega), if_neg (show ¬ (T.1 k, (0 : Int32)).1 = 3 from by show ¬ T.1 k = 3; omega)]
      exact hcode
    refine s_155 (d := d) s2.2.2.1 hg.1 s2.2.2.2.2.2.1 (fun z => by have := hab z; omega) (fun I3 z3 f3 => ?_)
    have z3' : qmN (a + (eml mn (q.2.map (qRm T pl))).length) (eml mn ([(T.1 k, (0 : Int32))].map (qRm T pl))) I2 I3 := by
      rw [← eml_one hq]
      exact z3
    have z13 : qmN a (eml mn ((q.2 ++ [(T.1 k, (0 : Int32))]).map (qRm T pl))) I I3 := by
      rw [List.map_append, eml_app]
      exact qmN_of (qmN_app z2.2.2.2 z3') (zfm_n1 f1) (zfm_refl _)
    have f13 : xfr I I3 := zfm_trans f1x (zfm_trans z2.1 (zfm_x1 f3))
    show NX I3 J D (bc - 0) (bs - 0)
    rw [Nat.sub_zero, Nat.sub_zero]
    exact N q.1 q.2 (y2 q rfl) (ek.trans e3) (by omega) pq (by have := a1.1.2.1; omega) (tks_app tk t1) I3 f13 (qMx_fr hs f13 (by rw [f3.2 24 (by decide)]; exact z2.2.1) (by rw [f3.2 27 (by decide)]; exact z2.2.2.1) z13.1) z13
/-- behind the operator of a loop -/
theorem s_lp {f l : Nat} {r : Nat ⊕ (Nat × List zOp)} {o : List zOp} {k1 : Nat} (hw : qTw T) (hl : l ≤ 4) (ihL : mL RO T E pl tb mn ct I0 J0 f l) (h : pB (pE T.1 f (l + 10) dp k1) (fun k2 o2 => pO k2 (o ++ (T.1 k, 0) :: o2)) = some r) (hok : mn = 1 → ∃ q, r = .inr q) (hdp : dp ≤ 8) (he : 6 * (8 - dp) + 14 - l ≤ d + 2) (hab : mn = 1 → a ≤ 900 + k) (hg : qGx T E mn ct pl tb k) (ek : qOut E k r = qOut E k1 r) (hk : k < k1) (hn : k1 < T.2.2.2) (ho : o.length + 1 ≤ k1 - k) (ht : tks T.1 ys k k1) {I3 : zI} (f3 : xfr I I3) (s3 : qMx T tb mn ct I0 J0 k1 dp (a + (eml mn ((o ++ [(T.1 k, 0)]).map (qRm T pl))).length) I3 J) (z3 : qmN a (eml mn ((o ++ [(T.1 k, 0)]).map (qRm T pl))) I I3)
    (H1 : qTh T P D bc bs I0 J0 (qOut E k r)) (H2 : ∀ q, qOut E k r = .inr q → ∀ I', qPx T pl mn dp a q I I' → P (.inl none) I' J D) : zw RO (d + 1) (157 + l) P 4 [(0, .ref 28)] [] I3 J D bc bs := by
  obtain ⟨y3, h3, y4, y5⟩ := pB_cases h
  have p3 := pE_pos hw h3 (by omega) hn
  have l1 : (eml mn ((o ++ [(T.1 k, (0 : Int32))]).map (qRm T pl))).length ≤ k1 - k := eml_bd (by rw [List.length_append, List.length_singleton]; exact ho)
  rw [ek] at H1 H2
  refine ihL h3 (hok_sub y4 hok) hdp (by omega) hn (fun z => by have := hab z; omega) (qGx_step hg ht) s3 (fun j e he => ?_) (fun q3 hq3 I4 z4 => ?_)
  · refine H1 j e ?_
    refine qOut_thr he y4 ⟨p3.1, ?_⟩
    cases y3 with
    | inl i =>
      rw [y4 i rfl]
      exact Nat.le_refl _
    | inr q3 =>
      have e9 := pO_inv (y5 q3 rfl)
      rw [e9]
      exact Nat.le_refl _
  · obtain ⟨e5, hf⟩ := qOut_inv hq3
    subst e5
    have e9 := pO_inv (y5 q3 rfl)
    have hr : qOut E k1 r = .inr (q3.1, o ++ (T.1 k, 0) :: q3.2) := by
      rw [e9]
      exact qOut_r hf
    refine H2 _ hr I4 ⟨zfm_trans f3 z4.1, z4.2.1, z4.2.2.1, ?_⟩
    show qmN a (eml mn ((o ++ (T.1 k, 0) :: q3.2).map (qRm T pl))) I I4
    rw [show o ++ (T.1 k, (0 : Int32)) :: q3.2 = (o ++ [(T.1 k, 0)]) ++ q3.2 by simp, List.map_append, eml_app]
    exact qmN_app z3 z4.2.2.2
theorem hG_lp {f l : Nat} {r : Nat ⊕ (Nat × List zOp)} (hw : qTw T) (hl : l ≤ 4) (k1 : Nat) (o : List zOp) (h : pB (pE T.1 f (l + 10) dp k1) (fun k2 o2 => pO k2 (o ++ (T.1 k, 0) :: o2)) = some r) (hn : k1 < T.2.2.2) : k1 ≤ qPos r := by
  obtain ⟨y3, h3, y4, y5⟩ := pB_cases h
  have p3 := pE_pos hw h3 (by omega) hn
  cases y3 with
  | inl i =>
    rw [y4 i rfl]
    exact p3.1
  | inr q3 =>
    have e9 := pO_inv (y5 q3 rfl)
    rw [e9]
    exact p3.1
theorem pE_lp' {s : Nat → Nat} {f l dp k : Nat} (hl : ¬ l = 2) : pE s (f + 1) (l + 10) dp k = if pLv (s k) = l then pB (pE s f (l + 1) dp (k + 1)) (fun k1 o => pB (pE s f (l + 10) dp k1) (fun k2 o2 => pO k2 (o ++ (s k, 0) :: o2))) else pO k [] := by
  rw [pE_lp]
  simp only [if_neg hl]
/-- the loops over or, and -/
theorem mL_w {f l op code : Nat} (hw : qTw T) (hl : l ≤ 1) (hop : ∀ c, pLv c = l ↔ c = op) (hop9 : op ≤ 51) (hcode : zmo (op, 0) = (code, 0, 0)) (W : ∀ {d bc bs : Nat} {I : zI} {J : zJ} {D : zD} {P : zP}, (zz RO (d + 1) 152 [.ref 28, .int (zi (qkm op : Int))] I J D 0 0 (zNi P fun v1 I1 J1 D1 => ((v1 = 0 → P (.inl none) I1 J1 D1) ∧ (¬ (v1 = 0) → (∃ c2 s2, c2 ≤ bc ∧ s2 ≤ bs ∧ zz RO (d + 1) (157 + (l + 1)) [.ref 28] I1 J1 D1 c2 s2 (zNv P fun I2 J2 D2 => (zz RO (d + 1) 155 [.ref 28, .int (zi (code : Int))] I2 J2 D2 0 0 (zNv P fun I3 J3 D3 => zw RO (d + 1) (157 + l) P 4 [(0, .ref 28)] [] I3 J3 D3 (bc - c2) (bs - s2))))))))) → zw RO (d + 1) (157 + l) P 4 [(0, .ref 28)] [] I J D bc bs)
    (ihA : mA RO T E pl tb mn ct I0 J0 f (l + 1)) (ihL : mL RO T E pl tb mn ct I0 J0 f l) : mL RO T E pl tb mn ct I0 J0 (f + 1) l := by
  intro dp k a d bc bs r I J D P h hok hdp he hn hab hg hs H1 H2
  obtain ⟨d, rfl⟩ : ∃ d', d = d' + 1 := ⟨d - 1, by omega⟩
  rw [pE_lp' (by omega)] at h
  refine W ?_
  by_cases c1 : T.1 k = op
  · have cl : pLv (T.1 k) = l := (hop _).mpr c1
    rw [if_pos cl] at h
    refine s_152t (d := d) (a := op) hw hs.1 hs.2.1 hn hop9 c1 (fun I1 e1 f1 => ?_)
    refine ⟨fun q => absurd q (by decide), fun _ => ?_⟩
    exact s_opr (NX := fun I3 J3 D3 bc bs => zw RO (d + 2) (157 + l) P 4 [(0, .ref 28)] [] I3 J3 D3 bc bs) hw (by omega) cl (by rw [c1]; exact hcode) ihA h hok (fun k1 o => hG_lp hw (by omega) k1 o) hdp (by omega) hab hg hn hs e1 f1 H1 (fun k1 o hG ek q1 q2 q3 q4 I3 f3 s3 z3 => s_lp (d := d + 1) hw (by omega) ihL hG hok hdp (by omega) hab hg ek q1 q2 q3 q4 f3 s3 z3 H1 H2)
  · rw [if_neg (fun z => c1 ((hop _).mp z))] at h
    have e9 := pO_inv h
    refine s_152f (d := d) (a := op) hw hs.1 hs.2.1 hn hop9 c1 ?_
    refine ⟨fun _ => ?_, fun q => absurd rfl q⟩
    have hr : qOut E k r = .inr (k, []) := by
      rw [e9]
      exact qOut_r (by rw [Nat.sub_self]; rfl)
    exact H2 _ hr I (qPx_nil hs)
end MForm3

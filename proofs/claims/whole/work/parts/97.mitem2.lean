/-! ===== the reference's items: bodies with their conditions ===== -/
def tBo (RO : zRo) (d : Nat) (P : zP) (p0 b : Int32) (bc bs : Nat) : zI → zJ → zD → Prop := fun I J D => (zz RO d 152 [.ref 28, .int 9] (zu I 28 26 0) J D 0 0 (zNi P fun v1 I1 J1 D1 => ((v1 = 0 → (∃ c2 s2, c2 ≤ bc ∧ s2 ≤ bs ∧ zz RO d 151 [.ref 28, .int 10] (zu I1 28 26 1) J1 D1 c2 s2 (zNv P fun I2 J2 D2 => zw RO d 171 P 82 [(0, .ref 28), (1, .int p0), (2, .int b), (3, .int (-1)), (4, .int (I2 28 19))] [] (zu I2 28 28 0) J2 D2 (bc - c2) (bs - s2)))) ∧ (¬ (v1 = 0) → (∃ c3 s3, c3 ≤ bc ∧ s3 ≤ bs ∧ zz RO d 156 [.ref 28] I1 J1 D1 c3 s3 (zNi P fun v3 I3 J3 D3 => (∃ c4 s4, c4 ≤ (bc - c3) ∧ s4 ≤ (bs - s3) ∧ zz RO d 151 [.ref 28, .int 10] (zu I3 28 26 1) J3 D3 c4 s4 (zNv P fun I4 J4 D4 => zw RO d 171 P 82 [(0, .ref 28), (1, .int p0), (2, .int b), (3, .int v3), (4, .int (I4 28 19))] [] (zu I4 28 28 0) J4 D4 ((bc - c3) - c4) ((bs - s3) - s4)))))))))
section MItem2
variable {RO : zRo} {d : Nat} {P : zP} {I : zI} {J : zJ} {D : zD} {bc bs : Nat} {T : qTk} {mn ct k dp a j c : Nat} {I0 : zI} {J0 : zJ}
theorem pBd_pos {r : Nat ⊕ (Nat × Unit)} (hw : qTw T) (hn : k < T.2.2.2) (h : pBd T.1 k = some r) : k ≤ qPos r ∧ qPos r < T.2.2.2 := by
  unfold pBd at h
  by_cases c0 : T.1 k = 14
  · rw [if_pos c0] at h
    have hlt := qTw_lt hw (k := k) (by omega)
    have := pB_pos (k := k + 1) h (fun y hy => pS_pos hw 500 hlt hy) (fun k1 _ h1 h2 x hx => pK_pos hw (c := 15) (a := ()) (by omega) h2 hx)
    omega
  · rw [if_neg c0] at h
    rw [pF_inv h]
    show k ≤ k ∧ k < _
    omega
theorem s_tBo {b : Nat} {p0 : Int32} {r : Nat ⊕ (Nat × Unit)} (hw : qTw T) (hm : mn = 0 ∨ mn = 1) (h : pAc T.1 k = some r) (hok : mn = 1 → ∃ q, r = .inr q) (hn : k < T.2.2.2) (hab : mn = 1 → a ≤ 3 * k) (hb : b < 28) (hk : ¬ (4 ≤ T.1 (k - 1) ∧ T.1 (k - 1) ≤ 9)) (hcl : mn = 1 → ∀ i, i < k → qEE T i = 0) (h4 : mn = 1 → ¬ ((qMm T k).1 10 = 4 ∨ (qMm T k).1 10 = 5)) (hs : qMi T mn I0 J0 k a I J) (H1 : qTh T P D bc bs I0 J0 (qOut (qEp9 T mn) k r))
    (H2 : ∀ (W : List zM3) (v : Int32) (k0 k1 : Nat) (l : List (zSt 4)), ((T.1 k = 13 ∧ ∃ o, pEx T.1 (k + 1) = pO k0 o ∧ W = zmw (o.map (qRo T (qPl T))) a ∧ (mn = 1 → v = zi ((a + 1 : Nat) : Int))) ∨ (¬ T.1 k = 13 ∧ k0 = k ∧ W = [] ∧ v = -1)) → pS T.1 500 4 (k0 + 1) = pO k1 l → T.1 k0 = 14 → r = .inr (k1 + 1, ()) → qOut (qEp9 T mn) k r = .inr (k1 + 1, ()) → ∀ I', bfr I I' → I' 28 24 = zi ((k1 + 1 : Nat) : Int) → qmN a (eml mn (W ++ (zcam (zmc 4) (l.map (qRs T (qPl T) 4)) (a + W.length) ++ [(303, 0, 0)]))) I I' → qBo mn b v (zi ((a + W.length : Nat) : Int)) I I' → P (.inl none) I' J D) : tBo RO (d + 75) P p0 (zi (b : Int)) bc bs I J D := by
  have hN := hw.2.1
  have f0 : bfr I (zu I 28 26 0) := zfm_z (zfm_refl _) _ _ (by decide)
  have s0 : qMi T mn I0 J0 k a (zu I 28 26 0) J := qMi_fr hs f0 (by rw [zu_n _ _ (by omega)]; exact hs.2.1) (by rw [zu_n _ _ (by omega)]; exact hs.2.2.2.1) rfl
  have q0 : ∀ {L : List zM3} {I' I'' : zI}, bfr I I'' → I'' 43 = I 43 → I'' 44 = I 44 → I'' 45 = I 45 → qmN a L I'' I' → qmN a L I I' := fun {L I' I''} f e1 e2 e3 z => by
    unfold qmN at z ⊢
    rw [e1, e2, e3] at z
    exact z
  unfold pAc at h
  by_cases c0 : T.1 k = 13
  · rw [if_pos c0] at h
    have hlt := qTw_lt hw (k := k) (by omega)
    have E0 : qEp9 T mn k = 0 := qEp9_0 (by omega)
    refine s_152t (d := d + 73) (a := 13) hw s0.1 s0.2.1 hn (by omega) c0 (fun I1 e24 f1 => ?_)
    refine ⟨fun q => absurd q (by decide), fun _ => ?_⟩
    have f01 : bfr I I1 := zfm_trans f0 (zfm_sub f1 (by simp) (by simp))
    have e43 : I1 43 = I 43 ∧ I1 44 = I 44 ∧ I1 45 = I 45 ∧ I1 40 = I 40 ∧ I1 41 = I 41 := by
      refine ⟨?_, ?_, ?_, ?_, ?_⟩
      · rw [f1.1 43 (by decide) (by decide), zu_row _ _ (by decide)]
      · rw [f1.1 44 (by decide) (by decide), zu_row _ _ (by decide)]
      · rw [f1.1 45 (by decide) (by decide), zu_row _ _ (by decide)]
      · rw [f1.1 40 (by decide) (by decide), zu_row _ _ (by decide)]
      · rw [f1.1 41 (by decide) (by decide), zu_row _ _ (by decide)]
    have et : qTb9 T mn (k + 1) = qTb9 T mn k := qTb9_ys (by omega) (fun j q1 q2 => by
      rw [show j = k by omega]
      exact hk)
    have s1 := qMi_fr (k2 := k + 1) (a2 := a) hs f01 e24 (by rw [f1.2 19 (by decide)]; exact s0.2.2.2.1) et
    have w1 := qMi_w (ct := 0) s1 (by
      rw [f1.2 26 (by decide), zu_s]
      rfl)
    have hm1 : qM1 T k (qMm T k) = qMm T (k + 1) := rfl
    have mf := qM1_f (T := T) (k := k) (m := qMm T k) (by omega)
    have hcl1 : mn = 1 → ∀ i, i < k + 1 → qEE T i = 0 := fun z i hi => by
      by_cases e : i = k
      · have := E0
        unfold qEp9 at this
        rw [if_pos z] at this
        rw [e]
        exact this
      · exact hcl z i (by omega)
    have h41 : mn = 1 → ¬ ((qMm T (k + 1)).1 10 = 4 ∨ (qMm T (k + 1)).1 10 = 5) := fun z => by
      have := h4 z
      rw [← hm1, mf.1 10 (by decide) (by decide)]
      exact this
    have hk1 : ¬ (4 ≤ T.1 (k + 1 - 1) ∧ T.1 (k + 1 - 1) ≤ 9) ∧ ¬ T.1 (k + 1 - 1) = 12 ∧ ¬ T.1 (k + 1 - 1) = 38 ∧ ¬ T.1 (k + 1 - 1) = 40 := by
      rw [Nat.add_sub_cancel]
      omega
    have g1 : qGx T (qEp9 T mn) mn 0 (qPl T) (qTb9 T mn (k + 1)) (k + 1) := qGx_mk hw hm (Or.inl rfl) hk1 hcl1 h41 (fun z => by
        rw [← hm1]
        unfold qM1
        rw [if_neg (by omega), if_neg (by omega), if_neg (by omega), if_pos c0]
        show qup (qMm T k).1 13 1 13 = 1
        exact qup_s _ _ _)
    obtain ⟨y, hy, y1, y2⟩ := pB_cases h
    have py := pEx_pos hw hy hlt
    have pxy : qPos y ≤ qPos r := qPos_le y1 (fun q hq => by
      rw [hq] at py
      exact (pBd_pos hw py.2 (y2 q hq)).1)
    have ek : qOut (qEp9 T mn) k r = qOut (qEp9 T mn) (k + 1) r := qOut_step (fun j h1 h2 => by
      rw [show j = k by omega]
      exact E0) ⟨by omega, by omega⟩
    have hp1 : ¬ (T.1 (k + 1 - 1) = 25 ∨ T.1 (k + 1 - 1) = 26) := by
      rw [Nat.add_sub_cancel]
      omega
    rcases hy2 : qOut (qEp9 T mn) (k + 1) y with w | q
    · have hx := qOut_thr hy2 y1 ⟨py.1, pxy⟩
      refine ⟨bc, bs, Nat.le_refl _, Nat.le_refl _, ?_⟩
      have H3 : qTh T P D bc bs I0 J0 (qOut (qEp9 T mn) (k + 1) y) := qTh_to H1 (ek.trans hx) hy2
      exact s_156 (d := d + 12) hw hy (hok_sub y1 hok) hlt (fun z => by have := hab z; omega) g1 hp1 w1 H3 (fun q hq => absurd (hy2.symm.trans hq) (fun z => by cases z))
    · obtain ⟨e1, e3⟩ := qOut_go hy2 ⟨py.1, pxy⟩
      subst e1
      have a1 := tks_ex (k2 := q.1) (o := q.2) hy
      have pq : q.1 < T.2.2.2 := py.2
      have h2 := y2 q rfl
      refine ⟨0, 0, Nat.zero_le _, Nat.zero_le _, ?_⟩
      have H3 : qTh T P D 0 0 I0 J0 (qOut (qEp9 T mn) (k + 1) (Sum.inr q)) := qTh_no hy2
      refine s_156 (d := d + 12) hw hy (hok_sub y1 hok) hlt (fun z => by have := hab z; omega) g1 hp1 w1 H3 (fun q9 hq9 v3 I3 hv3 f3 e243 z3 => ?_)
      have e9 : q = q9 := by
        have := hy2.symm.trans hq9
        cases this
        rfl
      subst e9
      have f03 : bfr I I3 := zfm_trans f01 (zfm_sub f3 (by simp) (by simp))
      have lo : (eml mn (zmw (q.2.map (qRo T (qPl T))) a)).length ≤ q.2.length + 2 := by
        have := eml_len (mn := mn) (A := zmw (q.2.map (qRo T (qPl T))) a)
        rw [zmw_len, List.length_map] at this
        exact this
      have et3 : qTb9 T mn q.1 = qTb9 T mn k := qTb9_ys (by omega) (fun j q1 q2 => by
        by_cases ej : j = k
        · rw [ej]
          exact hk
        · by_cases ej2 : j = k + 1
          · rw [ej2]
            exact hk1.1
          · have := ys_not (a1.1.2 (j - 1) (by omega) (by omega))
            omega)
      have s3 := qMi_fr (k2 := q.1) hs f03 e243 z3.1 et3
      have hkq : ¬ (4 ≤ T.1 (q.1 - 1) ∧ T.1 (q.1 - 1) ≤ 9) := by
        have := ys_not (a1.1.2 (q.1 - 1) (by omega) (by omega))
        omega
      have eM : mn = 1 → qMm T q.1 = qMm T (k + 1) := fun z => qMm_ys hk1 (h41 z) (by omega) a1.1.2
      refine s_bd (d := d) (a := a + (eml mn (zmw (q.2.map (qRo T (qPl T))) a)).length) hw hm h2 hok pq (fun z => by have := hab z; omega) hb hkq (fun z => qE_clean z hy2 (hcl1 z)) (fun z => by rw [eM z]; exact h41 z) s3 (by rw [← e3, ← ek]; exact H1) (fun l k1 hl c14 hr1 hr2 I' f' e24' z' b' => ?_)
      refine H2 (zmw (q.2.map (qRo T (qPl T))) a) v3 q.1 k1 l (Or.inl ⟨c0, q.2, hy, rfl, hv3⟩) hl c14 hr1 (by rw [ek, e3]; exact hr2) I' (zfm_trans f03 f') e24' ?_ ?_
      · have z13 := q0 f01 e43.1 e43.2.1 e43.2.2.1 z3
        rw [eml_app]
        have e5 : eml mn (zcam (zmc 4) (l.map (qRs T (qPl T) 4)) (a + (zmw (q.2.map (qRo T (qPl T))) a).length) ++ [(303, 0, 0)]) = eml mn (zcam (zmc 4) (l.map (qRs T (qPl T) 4)) (a + (eml mn (zmw (q.2.map (qRo T (qPl T))) a)).length) ++ [(303, 0, 0)]) := by
          rw [eml_app, eml_app, emz]
        rw [e5]
        exact qmN_app z13 z'
      · have e40 : I3 40 = I 40 ∧ I3 41 = I 41 := ⟨by rw [f3.1 40 (by decide) (by decide)]; exact e43.2.2.2.1, by rw [f3.1 41 (by decide) (by decide)]; exact e43.2.2.2.2⟩
        refine ⟨fun z => by rw [(b'.1 z).1, (b'.1 z).2]; exact e40, fun z x => ?_⟩
        have := b'.2 z x
        rw [e40.1, e40.2, z3.1, eml1 z] at this
        exact this
  · rw [if_neg c0] at h
    refine s_152f (d := d + 73) (a := 13) hw s0.1 s0.2.1 hn (by omega) c0 ?_
    refine ⟨fun _ => ?_, fun q => absurd rfl q⟩
    refine s_bd (d := d) (a := a) hw hm h hok hn hab hb hk hcl h4 s0 H1 (fun l k1 hl c14 hr1 hr2 I' f' e24' z' b' => ?_)
    refine H2 [] (-1) k k1 l (Or.inr ⟨c0, rfl, rfl, rfl⟩) hl c14 hr1 hr2 I' (zfm_trans f0 f') e24' ?_ ?_
    · exact q0 f0 (zu_row _ _ (by decide)) (zu_row _ _ (by decide)) (zu_row _ _ (by decide)) z'
    · refine ⟨fun z => by rw [(b'.1 z).1, (b'.1 z).2, zu_row _ _ (by decide), zu_row _ _ (by decide)]; exact ⟨rfl, rfl⟩, fun z x => ?_⟩
      have := b'.2 z x
      rw [zu_row I _ (show (40 : Nat) ≠ 28 by decide), zu_row I _ (show (41 : Nat) ≠ 28 by decide), s0.2.2.2.1] at this
      exact this
/-- a body: from tells whose -/
theorem s_171 {b N pb : Nat} {r : Nat ⊕ (Nat × Unit)} (hc : pb = 0 ∧ c = 7 ∨ pb = 12 ∧ c = 8 ∨ pb = 20 ∧ c = 9) (h37 : I 37 (qkm c) = zi (N : Int)) (hbn : b = pb + N) (K : tBo RO (d + 75) P (zi (pb : Int)) (zi (b : Int)) bc bs I J D) : zz RO (d + 76) 171 [.ref 28, .int (zi (pb : Int))] I J D bc bs P := by
  have eb : zi (pb : Int) + zi (N : Int) = zi (b : Int) := by
    rw [zi_add, hbn]
    congr 1
  rw [← eb, ← h37] at K
  refine w_171 (d := d + 74) ?_
  rcases hc with ⟨c1, c2⟩ | ⟨c1, c2⟩ | ⟨c1, c2⟩
  · subst c1 c2
    exact ⟨fun q => absurd rfl q, fun _ => K⟩
  · subst c1 c2
    exact ⟨fun _ => ⟨fun q => absurd rfl q, fun _ => K⟩, fun q => absurd (by decide) q⟩
  · subst c1 c2
    exact ⟨fun _ => ⟨fun _ => K, fun q => absurd (by decide) q⟩, fun q => absurd (by decide) q⟩
end MItem2

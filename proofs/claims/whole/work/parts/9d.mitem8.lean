/-! ===== the reference's items: win ===== -/
theorem qM1_it {T : qTk} {k : Nat} {m : qMt} (h : 4 ≤ T.1 k ∧ T.1 k ≤ 10) : (∀ x, x ≤ 6 → (qM1 T k m).1 x = if x = T.1 k - 4 then m.1 x + 1 else m.1 x) ∧ (qM1 T k m).1 10 = T.1 k ∧ (qM1 T k m).1 11 = m.1 (T.1 k - 4) ∧ (qM1 T k m).1 12 = 0 ∧ (qM1 T k m).1 13 = (if T.1 k = 10 then 1 else 0) ∧ (qM1 T k m).1 14 = (if T.1 k = 10 then k else m.1 14) ∧ (qM1 T k m).2.1 = m.2.1 ∧ (qM1 T k m).2.2.1 = (if T.1 k = 6 then qup m.2.2.1 (m.1 2) 0 else m.2.2.1) ∧ (qM1 T k m).2.2.2.1 = m.2.2.2.1 ∧
    (qM1 T k m).2.2.2.2.1 = (if 7 ≤ T.1 k ∧ T.1 k ≤ 9 then qup m.2.2.2.2.1 (qBd (T.1 k) (m.1 (T.1 k - 4))) none else m.2.2.2.2.1) ∧ (qM1 T k m).2.2.2.2.2 = m.2.2.2.2.2 := by
  unfold qM1
  rw [if_pos h]
  refine ⟨fun x hx => ?_, ?_, ?_, ?_, ?_, ?_, rfl, rfl, rfl, rfl, rfl⟩
  · show qup (qup (qup (qup (qup (qup m.1 (T.1 k - 4) (m.1 (T.1 k - 4) + 1)) 10 (T.1 k)) 11 (m.1 (T.1 k - 4))) 12 0) 13 (if T.1 k = 10 then 1 else 0)) 14 (if T.1 k = 10 then k else m.1 14) x = _
    rw [qup_n _ _ (by omega), qup_n _ _ (by omega), qup_n _ _ (by omega), qup_n _ _ (by omega), qup_n _ _ (by omega)]
    by_cases e : x = T.1 k - 4
    · rw [if_pos e, e, qup_s]
    · rw [if_neg e, qup_n _ _ e]
  · show qup (qup (qup (qup (qup (qup m.1 (T.1 k - 4) (m.1 (T.1 k - 4) + 1)) 10 (T.1 k)) 11 (m.1 (T.1 k - 4))) 12 0) 13 (if T.1 k = 10 then 1 else 0)) 14 (if T.1 k = 10 then k else m.1 14) 10 = _
    rw [qup_n _ _ (by decide), qup_n _ _ (by decide), qup_n _ _ (by decide), qup_n _ _ (by decide), qup_s]
  · show qup (qup (qup (qup (qup (qup m.1 (T.1 k - 4) (m.1 (T.1 k - 4) + 1)) 10 (T.1 k)) 11 (m.1 (T.1 k - 4))) 12 0) 13 (if T.1 k = 10 then 1 else 0)) 14 (if T.1 k = 10 then k else m.1 14) 11 = _
    rw [qup_n _ _ (by decide), qup_n _ _ (by decide), qup_n _ _ (by decide), qup_s]
  · show qup (qup (qup (qup (qup (qup m.1 (T.1 k - 4) (m.1 (T.1 k - 4) + 1)) 10 (T.1 k)) 11 (m.1 (T.1 k - 4))) 12 0) 13 (if T.1 k = 10 then 1 else 0)) 14 (if T.1 k = 10 then k else m.1 14) 12 = _
    rw [qup_n _ _ (by decide), qup_n _ _ (by decide), qup_s]
  · show qup (qup (qup (qup (qup (qup m.1 (T.1 k - 4) (m.1 (T.1 k - 4) + 1)) 10 (T.1 k)) 11 (m.1 (T.1 k - 4))) 12 0) 13 (if T.1 k = 10 then 1 else 0)) 14 (if T.1 k = 10 then k else m.1 14) 13 = _
    rw [qup_n _ _ (by decide), qup_s]
  · show qup (qup (qup (qup (qup (qup m.1 (T.1 k - 4) (m.1 (T.1 k - 4) + 1)) 10 (T.1 k)) 11 (m.1 (T.1 k - 4))) 12 0) 13 (if T.1 k = 10 then 1 else 0)) 14 (if T.1 k = 10 then k else m.1 14) 14 = _
    rw [qup_s]
/-- the end of a reading of an item, or of all: k2 is behind it -/
def qFin (T : qTk) (mn : Nat) (ok : Prop) (I0 : zI) (J0 : zJ) (P : zP) (D : zD) (I : zI) (a k2 : Nat) : Prop :=
  (mn = 0 → ∀ I' J', qMi T 0 I0 J0 k2 a I' J' → I' 37 = I 37 → I' 39 = I 39 → P (.inl none) I' J' D) ∧ (mn = 1 → (∀ i, i < k2 → qEE T i = 0) → ∀ I' J' a', qMi T 1 I0 J0 k2 a' I' J' → a' ≤ 3 * k2 → qRp ok (qPg T (qMm T k2)) a' I' → P (.inl none) I' J' D)
theorem qkm_n {x c : Nat} (hx : x ≤ 6) (hc : 4 ≤ c ∧ c ≤ 10) (h : ¬ x = c - 4) : ¬ qkm (x + 4) = qkm c := fun e => by
  have := (qkm_eq (a := x + 4) (b := c) (by omega) (by omega)).mp e
  omega
theorem qTb9_1 {T : qTk} {mn k : Nat} (h : 1 ≤ k → ¬ (4 ≤ T.1 (k - 1) ∧ T.1 (k - 1) ≤ 9)) : qTb9 T mn (k + 1) = qTb9 T mn k := by
  have e : qIm T (k + 1) = qIm T k := by
    show (if 1 ≤ k ∧ 4 ≤ T.1 (k - 1) ∧ T.1 (k - 1) ≤ 9 then _ else qIm T k) = _
    exact if_neg (fun x => h x.1 x.2)
  unfold qTb9
  rw [e]
section MItem8
variable {RO : zRo} {d : Nat} {P : zP} {I : zI} {J : zJ} {D : zD} {bc bs : Nat} {T : qTk} {mn ct k dp a j c : Nat} {I0 : zI} {J0 : zJ} {ok : Prop}
/-- counts are small while nothing is wrong -/
theorem qPg_mx (hcl : ∀ i, i < k → qEE T i = 0) : ∀ x, x ≤ 6 → gPc (qPg T (qMm T k)) x ≤ 12 := fun x hx => by
  have h1 := qCn_most (T := T) (c := x) (k := k) hx hcl
  have h2 := qMost_le x
  show (qMm T k).1 x ≤ 12
  rw [qMm_cn hx]
  omega
theorem s_93w {v : Int32} {I1 : zI} {r : Nat ⊕ (Nat × Unit)} (hw : qTw T) (hm : mn = 0 ∨ mn = 1) (c0 : T.1 k = 10) (h : pWi T.1 k = some r) (hok : mn = 1 → ∃ q, r = .inr q) (hn : k < T.2.2.2) (hab : mn = 1 → a ≤ 3 * k) (hs : qMi T mn I0 J0 k a I J) (hrp : mn = 1 → qRp ok (qPg T (qMm T k)) a I) (hcl : mn = 1 → ∀ i, i < k → qEE T i = 0) (hE : mn = 1 → qEE T k = 0) (hkp : 1 ≤ k → ¬ (4 ≤ T.1 (k - 1) ∧ T.1 (k - 1) ≤ 9)) (H1 : qTh T P D bc bs I0 J0 (qOut (qEp9 T mn) k r)) (H2 : ∀ q, r = .inr q → qFin T mn ok I0 J0 P D I a q.1) (e1 : I1 28 24 = zi ((k + 1 : Nat) : Int)) (f1 : zfm [24] [] I I1) :
    zw RO (d + 66) 168 P 93 [(0, .ref 28), (1, .int (zi (qkm (T.1 k) : Int))), (2, .int v), (3, .int 1)] [] I1 J D bc bs := by
  have hN := hw.2.1
  have hlt := qTw_lt hw (k := k) (by omega)
  rw [c0]
  have hm1 : qM1 T k (qMm T k) = qMm T (k + 1) := rfl
  have mi := qM1_it (T := T) (k := k) (m := qMm T k) (by omega)
  rw [hm1] at mi
  have E0 : qEp9 T mn k = 0 := by
    unfold qEp9
    split
    · rename_i m1
      exact hE m1
    · rfl
  have hcl1 : mn = 1 → ∀ i, i < k + 1 → qEE T i = 0 := fun z i hi => by
    by_cases e : i = k
    · rw [e]
      exact hE z
    · exact hcl z i (by omega)
  have hk1 : ¬ (4 ≤ T.1 (k + 1 - 1) ∧ T.1 (k + 1 - 1) ≤ 9) ∧ ¬ T.1 (k + 1 - 1) = 12 ∧ ¬ T.1 (k + 1 - 1) = 38 ∧ ¬ T.1 (k + 1 - 1) = 40 := by
    rw [Nat.add_sub_cancel]
    omega
  have h41 : ¬ ((qMm T (k + 1)).1 10 = 4 ∨ (qMm T (k + 1)).1 10 = 5) := by
    rw [mi.2.1]
    omega
  have g1 : qGx T (qEp9 T mn) mn 0 (qPl T) (qTb9 T mn (k + 1)) (k + 1) := qGx_mk hw hm (Or.inl rfl) hk1 hcl1 (fun _ => h41) (fun _ => by rw [mi.2.2.2.2.1, if_pos c0])
  have et : qTb9 T mn (k + 1) = qTb9 T mn k := qTb9_1 hkp
  have f0 : bfr I (zu I1 28 26 0) := zfm_z (zfm_sub f1 (by simp) (by simp)) _ _ (by decide)
  have s1 := qMi_fr (k2 := k + 1) (a2 := a) hs f0 (by rw [zu_n _ _ (by omega)]; exact e1) (by rw [zu_n _ _ (by omega), f1.2 19 (by decide)]; exact hs.2.2.2.1) et
  have w1 := qMi_w (ct := 0) s1 (zu_s _ _ _ _)
  unfold pWi at h
  obtain ⟨y, hy, y1, y2⟩ := pB_cases h
  have py := pEx_pos hw hy hlt
  have pxy : qPos y ≤ qPos r := qPos_le y1 (fun q hq => by
    rw [hq] at py
    exact (pT_pos hw (by omega) py.2 (y2 q hq)).1)
  have ek : qOut (qEp9 T mn) k r = qOut (qEp9 T mn) (k + 1) r := qOut_step (fun j h1 h2 => by
    rw [show j = k by omega]
    exact E0) ⟨by omega, by omega⟩
  have hp1 : ¬ (T.1 (k + 1 - 1) = 25 ∨ T.1 (k + 1 - 1) = 26) := by
    rw [Nat.add_sub_cancel]
    omega
  refine wl_168_93 (d := d + 65) ⟨fun _ => ⟨fun q => absurd q (by decide), fun _ => ⟨fun q => absurd q (by decide), fun _ => ⟨fun q => absurd q (by decide), fun _ => ⟨fun q => absurd q (by decide), fun _ => ⟨fun q => absurd q (by decide), fun _ => ?_⟩⟩⟩⟩⟩, fun q => absurd rfl q⟩
  rcases hy2 : qOut (qEp9 T mn) (k + 1) y with w | q
  · have hx := qOut_thr hy2 y1 ⟨py.1, pxy⟩
    refine ⟨bc, bs, Nat.le_refl _, Nat.le_refl _, ?_⟩
    have H3 : qTh T P D bc bs I0 J0 (qOut (qEp9 T mn) (k + 1) y) := qTh_to H1 (ek.trans hx) hy2
    exact s_156 (d := d + 3) hw hy (hok_sub y1 hok) hlt (fun z => by have := hab z; omega) g1 hp1 w1 H3 (fun q hq => absurd (hy2.symm.trans hq) (fun z => by cases z))
  · obtain ⟨e2, e3⟩ := qOut_go hy2 ⟨py.1, pxy⟩
    subst e2
    have a1 := tks_ex (k2 := q.1) (o := q.2) hy
    have pq : q.1 < T.2.2.2 := py.2
    have h2 := y2 q rfl
    refine ⟨0, 0, Nat.zero_le _, Nat.zero_le _, ?_⟩
    have H3 : qTh T P D 0 0 I0 J0 (qOut (qEp9 T mn) (k + 1) (Sum.inr q)) := qTh_no hy2
    refine s_156 (d := d + 3) hw hy (hok_sub y1 hok) hlt (fun z => by have := hab z; omega) g1 hp1 w1 H3 (fun q9 hq9 v3 I3 hv3 f3 e243 z3 => ?_)
    have e9 : q = q9 := by
      have := hy2.symm.trans hq9
      cases this
      rfl
    subst e9
    have f03 : bfr I I3 := zfm_trans f0 (zfm_sub f3 (by simp) (by simp))
    have m3 : I3 28 25 = zi (mn : Int) := by rw [f03.2 25 (by decide)]; exact hs.2.2.1
    have t3 : qTm T I3 J := qTm_fr hs.1 (zfm_sub f03 (by simp) (by simp)) (zfr_refl _)
    have ff : ∀ j, r = .inl j → (1 ≤ bc ∧ 8 ≤ bs) ∧ ∀ I' J', rfr I0 I' → rfj J0 J' → P (.inr (3, 1, zi (T.2.1 j : Int))) I' J' D := qTh_f hm hok H1
    show _ ∧ _
    rcases hm with m0 | m1
    · refine ⟨fun _ => ?_, fun q9 => absurd (show I3 28 25 = 0 by rw [m3, m0]; rfl) q9⟩
      refine s_tk (d := d + 64) (b := 39) hw t3 e243 pq (by omega) (fun z => ?_) (fun z I5 e5 f5 => ?_)
      · unfold pT at h2
        rw [if_neg z] at h2
        have b := ff q.1 (pF_inv h2)
        exact ⟨b.1, b.2 I3 J (zfm_trans hs.2.2.2.2.2.1 (zfm_sub f03 (by simp) (by simp))) hs.2.2.2.2.2.2⟩
      · unfold pT at h2
        rw [if_pos z] at h2
        have er := pO_inv h2
        refine s_tTl (c := 10) (by omega) (Or.inl m0) (by rw [f5.2 25 (by decide)]; exact m3) (fun _ => ?_) (fun z => by omega)
        have z3' := z3.1
        rw [eml0 m0] at z3'
        have hs0 : qMi T 0 I0 J0 k a I J := m0 ▸ hs
        have f05 : bfr I I5 := zfm_trans f03 (zfm_sub f5 (by simp) (by simp))
        exact (H2 _ er).1 m0 I5 J (qMi_fr hs0 f05 e5 (by rw [f5.2 19 (by decide), z3']; rfl) rfl) (f05.1 37 (by decide) (by decide)) (f05.1 39 (by decide) (by decide))
    · refine ⟨fun q9 => absurd q9 (by rw [m3, m1]; decide), fun _ => ?_⟩
      have f34 : zfm [18] [] I3 (zu I3 28 18 v3) := zfm_z (zfm_refl _) _ _ (by decide)
      have f04 : zfm [18, 19, 24, 26, 27, 28] [40, 41, 43, 44, 45] I (zu I3 28 18 v3) := zfm_trans (zfm_sub f03 (by simp) (by simp)) (zfm_sub f34 (by simp) (by simp))
      have t4 : qTm T (zu I3 28 18 v3) J := qTm_fr hs.1 (zfm_sub f04 (by simp) (by simp)) (zfr_refl _)
      refine s_tk (d := d + 64) (b := 39) hw t4 (by rw [zu_n _ _ (by omega)]; exact e243) pq (by omega) (fun z => ?_) (fun z I5 e5 f5 => ?_)
      · unfold pT at h2
        rw [if_neg z] at h2
        have b := ff q.1 (pF_inv h2)
        exact ⟨b.1, b.2 _ J (zfm_trans hs.2.2.2.2.2.1 (zfm_sub f04 (by simp) (by simp))) hs.2.2.2.2.2.2⟩
      · unfold pT at h2
        rw [if_pos z] at h2
        have er := pO_inv h2
        have f05 : zfm [18, 19, 24, 26, 27, 28] [40, 41, 43, 44, 45] I I5 := zfm_trans f04 (zfm_sub f5 (by simp) (by simp))
        refine s_tTl (c := 10) (by omega) (Or.inr m1) (by rw [f5.2 25 (by decide), zu_n _ _ (by omega)]; exact m3) (fun z => by omega) (fun _ => ?_)
        have M1 : qMm T q.1 = qMm T (k + 1) := qMm_ys hk1 h41 (by omega) a1.1.2
        have M2 : qMm T (q.1 + 1) = qMm T (k + 1) := by rw [qMm_0 (by omega), M1]
        have clq := qE_clean m1 hy2 (hcl1 m1)
        have E39 : qEE T q.1 = 0 := qEE_0 (by omega)
        rw [eml1 m1] at z3
        have e195 : I5 28 19 = zi ((a + (zmw (q.2.map (qRo T (qPl T))) a).length : Nat) : Int) := by rw [f5.2 19 (by decide), zu_n _ _ (by omega)]; exact z3.1
        have lz : (zmw (q.2.map (qRo T (qPl T))) a).length = q.2.length + 2 := by rw [zmw_len, List.length_map]
        have f06 : zfm [18, 19, 24, 26, 27, 28] [37, 40, 41, 43, 44, 45] I (zu I5 37 (qkm 10) ((I5 37 (qkm 10)) + 1)) := zfm_zu (zfm_sub f05 (by simp) (by simp)) _ _ (by decide) (by decide)
        have et2 : qTb9 T 1 (q.1 + 1) = qTb9 T 1 k := (qTb9_ys (k := k + 1) (by omega) (fun j q1 q2 => by
          by_cases ej2 : j = k + 1
          · rw [ej2]
            exact hk1.1
          · have := ys_not (a1.1.2 (j - 1) (by omega) (by omega))
            omega)).trans (qTb9_1 hkp)
        have hs1 : qMi T 1 I0 J0 k a I J := m1 ▸ hs
        have hcod : ∀ j, j < a → I5 43 j = I 43 j ∧ I5 44 j = I 44 j ∧ I5 45 j = I 45 j := fun j hj => by
          have w := z3.2.1 j hj
          rw [f5.1 43 (by decide) (by decide), f5.1 44 (by decide) (by decide), f5.1 45 (by decide) (by decide), zu_row _ _ (by decide), zu_row _ _ (by decide), zu_row _ _ (by decide), w.1, w.2.1, w.2.2, zu_row _ _ (by decide), zu_row _ _ (by decide), zu_row _ _ (by decide), f1.1 43 (by decide) (by decide), f1.1 44 (by decide) (by decide), f1.1 45 (by decide) (by decide)]
          exact ⟨rfl, rfl, rfl⟩
        have e40 : I5 40 = I 40 ∧ I5 41 = I 41 := by
          refine ⟨?_, ?_⟩
          · rw [f5.1 40 (by decide) (by decide), zu_row _ _ (by decide), f3.1 40 (by decide) (by decide), zu_row _ _ (by decide), f1.1 40 (by decide) (by decide)]
          · rw [f5.1 41 (by decide) (by decide), zu_row _ _ (by decide), f3.1 41 (by decide) (by decide), zu_row _ _ (by decide), f1.1 41 (by decide) (by decide)]
        have e37 : I5 37 = I 37 := f05.1 37 (by decide) (by decide)
        have b3 := hab m1
        refine (H2 _ er).2 m1 (fun i hi => ?_) _ J (a + (zmw (q.2.map (qRo T (qPl T))) a).length) ⟨?_, ?_, ?_, ?_, ?_, ?_, hs.2.2.2.2.2.2⟩ (by rw [lz]; show a + (q.2.length + 2) ≤ 3 * (q.1 + 1); omega) ?_
        · have hi : i < q.1 + 1 := hi
          by_cases e : i = q.1
          · rw [e]
            exact E39
          · exact clq i (by omega)
        · unfold qTm
          rw [f06.2 4 (by decide), f06.1 31 (by decide) (by decide), f06.1 32 (by decide) (by decide)]
          exact hs.1
        · rw [zu_n _ _ (by omega)]
          exact e5
        · rw [f06.2 25 (by decide)]
          exact hs1.2.2.1
        · rw [zu_n _ _ (by omega)]
          exact e195
        · show qTb (qTb9 T 1 (q.1 + 1)) _ J
          rw [et2]
          unfold qTb
          rw [f06.2 8 (by decide), f06.1 35 (by decide) (by decide), f06.1 36 (by decide) (by decide)]
          exact hs1.2.2.2.2.1
        · exact zfm_trans hs.2.2.2.2.2.1 (zfm_sub f06 (by simp) (by simp))
        · show qRp ok (qPg T (qMm T (q.1 + 1))) _ _
          rw [M2]
          have h6 : ¬ 0 < gPc (qPg T (qMm T k)) 6 := fun z => by
            have hE1 := hE m1
            unfold qEE qE1 at hE1
            rw [if_pos (by omega), c0] at hE1
            have z : 0 < (qMm T k).1 6 := z
            rw [if_pos (show qMost (10 - 4) ≤ (qMm T k).1 (10 - 4) from z)] at hE1
            cases hE1
          refine qRp_other (c := 10) (hrp m1) (by omega) (fun x hx => ?_) (fun x hx => ?_) (qPg_mx (hcl m1)) (fun d i hd hi w hw => ⟨?_, ?_⟩) (fun i _ => ⟨?_, ?_⟩) (fun i _ => ⟨?_, ?_⟩) (fun d i _ _ _ => ⟨?_, ?_, ?_, ?_⟩) (fun z => absurd z h6) (by omega) (fun j hj => ?_) (fun z => by omega) (fun z => by omega) (fun z => by omega) (fun z1 z2 => by omega) (fun _ => ?_)
          · show (qMm T (k + 1)).1 x = _
            rw [mi.1 x hx, c0]
            rfl
          · by_cases e : x = 10 - 4
            · rw [if_pos e, show x + 4 = 10 by omega, zu_s, e37]
            · rw [if_neg e, zu_n _ _ (fun z => qkm_n hx (by omega) e z.2), e37]
          · rw [f06.1 38 (by decide) (by decide)]
          · show zi ((qMm T (k + 1)).2.1 _) = zi ((qMm T k).2.1 _)
            rw [mi.2.2.2.2.2.2.1]
          · rw [f06.1 39 (by decide) (by decide)]
          · show (qMm T (k + 1)).2.2.1 i = (qMm T k).2.2.1 i
            rw [mi.2.2.2.2.2.2.2.1, if_neg (by omega)]
          · rw [f06.1 42 (by decide) (by decide)]
          · show (qMm T (k + 1)).2.2.2.1 i = (qMm T k).2.2.2.1 i
            rw [mi.2.2.2.2.2.2.2.2.1]
          · show ((qMm T (k + 1)).2.2.2.2.1 _).map (qXo T) = ((qMm T k).2.2.2.2.1 _).map (qXo T)
            rw [mi.2.2.2.2.2.2.2.2.2.1, if_neg (by omega)]
          · show qXl T ((qMm T (k + 1)).2.2.2.2.2 _) = qXl T ((qMm T k).2.2.2.2.2 _)
            rw [mi.2.2.2.2.2.2.2.2.2.2]
          · rw [zu_row _ _ (by decide), e40.1]
          · rw [zu_row _ _ (by decide), e40.2]
          · rw [zu_row _ _ (by decide), zu_row _ _ (by decide), zu_row _ _ (by decide)]
            exact hcod j hj
          · refine ⟨a + 1, ?_, ?_⟩
            · rw [zu_n _ _ (by omega), f5.2 18 (by decide), zu_s]
              exact hv3 m1
            · have en : gPn (qPg T (qMm T (k + 1))) = q.2.map (qRo T (qPl T)) := by
                show qXo T ((qMm T (k + 1)).1 14) = _
                rw [mi.2.2.2.2.2.1, if_pos c0]
                exact qXo_of (o := q.2) (k := q.1) hy
              rw [en]
              have z3a : qmN a ([((301 : Nat), zi ((a + (q.2.map (qRo T (qPl T))).length + 2 : Nat) : Int), (0 : Int32))] ++ (((q.2.map (qRo T (qPl T))).map zmo ++ [(450, 0, 0)]) ++ [])) (zu I1 28 26 0) I3 := by
                rw [List.append_nil]
                exact z3
              have cd := qmN_cd z3a
              have el9 : (([((301 : Nat), zi ((a + (q.2.map (qRo T (qPl T))).length + 2 : Nat) : Int), (0 : Int32))] : List zM3) ++ (((q.2.map (qRo T (qPl T))).map zmo ++ [(450, 0, 0)]) ++ [])).length = (zmw (q.2.map (qRo T (qPl T))) a).length := by
                rw [List.append_nil]
                rfl
              rw [el9] at cd
              refine qCd_keep cd (Nat.le_refl _) (fun j hj => ?_)
              rw [zu_row _ _ (by decide), zu_row _ _ (by decide), zu_row _ _ (by decide), f5.1 43 (by decide) (by decide), f5.1 44 (by decide) (by decide), f5.1 45 (by decide) (by decide), zu_row _ _ (by decide), zu_row _ _ (by decide), zu_row _ _ (by decide)]
              exact ⟨rfl, rfl, rfl⟩
end MItem8

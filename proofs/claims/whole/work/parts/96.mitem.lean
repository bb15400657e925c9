/-! ===== the reference's items: bodies ===== -/
def qMi (T : qTk) (mn : Nat) (I0 : zI) (J0 : zJ) (k a : Nat) (I : zI) (J : zJ) : Prop := qTm T I J ∧ I 28 24 = zi (k : Int) ∧ I 28 25 = zi (mn : Int) ∧ I 28 19 = zi (a : Int) ∧ qTb (qTb9 T mn k) I J ∧ rfr I0 I ∧ rfj J0 J
abbrev bfr (I I' : zI) : Prop := zfm [19, 24, 26, 27, 28] [40, 41, 43, 44, 45] I I'
def qBo (mn b : Nat) (v u : Int32) (I I' : zI) : Prop := (mn = 0 → I' 40 = I 40 ∧ I' 41 = I 41) ∧ (mn = 1 → ∀ x, I' 40 x = (if x = b then v else I 40 x) ∧ I' 41 x = (if x = b then u else I 41 x))
def tX171 (RO : zRo) (d : Nat) (P : zP) (l2 l3 l4 : Int32) : zI → zJ → zD → Nat → Nat → Prop := fun I J D bc bs => ∃ c1 s1, c1 ≤ bc ∧ s1 ≤ bs ∧ zz RO d 151 [.ref 28, .int 11] I J D c1 s1 (zNv P fun I1 J1 D1 => (zz RO d 155 [.ref 28, .int 303] I1 J1 D1 0 0 (zNv P fun I2 J2 D2 => ((¬ (I2 28 25) = 0 → (vp_in l2 28 ∧ (vp_in l2 28 ∧ P (.inl none) (zu (zu I2 40 l2.toNatClampNeg l3) 41 l2.toNatClampNeg l4) J2 D2))) ∧ (¬ (¬ (I2 28 25) = 0) → P (.inl none) I2 J2 D2)))))
theorem qTb9_ys {T : qTk} {mn k k2 : Nat} (h : k ≤ k2) (hy : ∀ j, k ≤ j → j < k2 → ¬ (4 ≤ T.1 (j - 1) ∧ T.1 (j - 1) ≤ 9)) : qTb9 T mn k2 = qTb9 T mn k := by
  unfold qTb9
  rw [qIm_ys h hy]
theorem qEp9_0 {T : qTk} {mn k : Nat} (h : ¬ (4 ≤ T.1 k ∧ T.1 k ≤ 10) ∧ ¬ T.1 k = 2 ∧ ¬ T.1 k = 3 ∧ ¬ T.1 k = 27) : qEp9 T mn k = 0 := by
  unfold qEp9 qEE qE1
  split
  · rw [if_neg h.1, if_neg h.2.1, if_neg h.2.2.1, if_neg h.2.2.2]
  · rfl
theorem qMi_w {T : qTk} {mn ct k a : Nat} {I0 I : zI} {J0 J : zJ} (h : qMi T mn I0 J0 k a I J) (e : I 28 26 = zi (ct : Int)) : qMw T (qTb9 T mn k) mn ct I0 J0 k a I J := by
  obtain ⟨a1, a2, a3, a4, a5, a6, a7⟩ := h
  exact ⟨a1, a2, a3, e, a4, a5, a6, a7⟩
theorem qMi_fr {T : qTk} {mn k a k2 a2 : Nat} {I0 I I' : zI} {J0 J : zJ} (h : qMi T mn I0 J0 k a I J) (f : bfr I I') (h1 : I' 28 24 = zi (k2 : Int)) (h3 : I' 28 19 = zi (a2 : Int)) (h4 : qTb9 T mn k2 = qTb9 T mn k) : qMi T mn I0 J0 k2 a2 I' J := by
  obtain ⟨a1, a2', a3, a4, a5, a6, a7⟩ := h
  refine ⟨qTm_fr a1 (zfm_sub f (by simp) (by simp)) (zfr_refl _), h1, by rw [f.2 25 (by decide)]; exact a3, h3, ?_, zfm_trans a6 (zfm_sub f (by simp) (by simp)), a7⟩
  rw [h4]
  unfold qTb
  rw [f.2 8 (by decide), f.1 35 (by decide) (by decide), f.1 36 (by decide) (by decide)]
  exact a5
section MItem
variable {RO : zRo} {d : Nat} {P : zP} {I : zI} {J : zJ} {D : zD} {bc bs : Nat} {T : qTk} {mn ct k dp a j c : Nat} {I0 : zI} {J0 : zJ}
theorem qE_clean {α : Type} {y : Nat ⊕ (Nat × α)} {q : Nat × α} (hm : mn = 1) (h : qOut (qEp9 T mn) k y = .inr q) (hcl : ∀ i, i < k → qEE T i = 0) : ∀ i, i < q.1 → qEE T i = 0 := by
  intro i hi
  obtain ⟨e1, hf⟩ := qOut_inv h
  by_cases c : i < k
  · exact hcl i c
  · have := qFe_clean hf i (by omega) (by omega)
    unfold qEp9 at this
    rw [if_pos hm] at this
    exact this
/-- do, statements, end -/
theorem s_bd {b : Nat} {p0 v3 : Int32} {r : Nat ⊕ (Nat × Unit)} (hw : qTw T) (hm : mn = 0 ∨ mn = 1) (h : pBd T.1 k = some r) (hok : mn = 1 → ∃ q, r = .inr q) (hn : k < T.2.2.2) (hab : mn = 1 → a ≤ 3 * k) (hb : b < 28) (hk : ¬ (4 ≤ T.1 (k - 1) ∧ T.1 (k - 1) ≤ 9)) (hcl : mn = 1 → ∀ i, i < k → qEE T i = 0) (h4 : mn = 1 → ¬ ((qMm T k).1 10 = 4 ∨ (qMm T k).1 10 = 5)) (hs : qMi T mn I0 J0 k a I J) (H1 : qTh T P D bc bs I0 J0 (qOut (qEp9 T mn) k r))
    (H2 : ∀ l k1, pS T.1 500 4 (k + 1) = pO k1 l → T.1 k = 14 → r = .inr (k1 + 1, ()) → qOut (qEp9 T mn) k r = .inr (k1 + 1, ()) → ∀ I', bfr I I' → I' 28 24 = zi ((k1 + 1 : Nat) : Int) → qmN a (eml mn (zcam (zmc 4) (l.map (qRs T (qPl T) 4)) a ++ [(303, 0, 0)])) I I' → qBo mn b v3 (I 28 19) I I' → P (.inl none) I' J D) :
    ∃ c2 s2, c2 ≤ bc ∧ s2 ≤ bs ∧ zz RO (d + 75) 151 [.ref 28, .int 10] (zu I 28 26 1) J D c2 s2 (zNv P fun I2 J2 D2 => zw RO (d + 75) 171 P 82 [(0, .ref 28), (1, .int p0), (2, .int (zi (b : Int))), (3, .int v3), (4, .int (I2 28 19))] [] (zu I2 28 28 0) J2 D2 (bc - c2) (bs - s2)) := by
  have hN := hw.2.1
  have f0 : bfr I (zu I 28 26 1) := zfm_z (zfm_refl _) _ _ (by decide)
  have s0 : qMi T mn I0 J0 k a (zu I 28 26 1) J := qMi_fr hs f0 (by rw [zu_n _ _ (by omega)]; exact hs.2.1) (by rw [zu_n _ _ (by omega)]; exact hs.2.2.2.1) rfl
  unfold pBd at h
  by_cases c0 : T.1 k = 14
  · rw [if_pos c0] at h
    have hlt := qTw_lt hw (k := k) (by omega)
    have E0 : qEp9 T mn k = 0 := qEp9_0 (by omega)
    refine ⟨0, 0, Nat.zero_le _, Nat.zero_le _, ?_⟩
    refine s_151t (d := d + 73) (a := 14) hw s0.1 s0.2.1 hn (by omega) c0 (fun I2 e24 f2 => ?_)
    have e19 : I2 28 19 = zi (a : Int) := by rw [f2.2 19 (by decide)]; exact s0.2.2.2.1
    have e19b : I2 28 19 = I 28 19 := by rw [e19, hs.2.2.2.1]
    have f3 : bfr I (zu I2 28 28 0) := zfm_z (zfm_trans f0 (zfm_sub f2 (by simp) (by simp))) _ _ (by decide)
    have et : qTb9 T mn (k + 1) = qTb9 T mn k := qTb9_ys (by omega) (fun j q1 q2 => by
      rw [show j = k by omega]
      exact hk)
    have s3 := qMi_fr (k2 := k + 1) (a2 := a) hs f3 (by rw [zu_n _ _ (by omega)]; exact e24) (by rw [zu_n _ _ (by omega)]; exact e19) et
    have e26 : (zu I2 28 28 0) 28 26 = zi ((1 : Nat) : Int) := by
      rw [zu_n _ _ (by omega), f2.2 26 (by decide), zu_s]
      rfl
    have e28 : (zu I2 28 28 0) 28 28 = zi ((0 : Nat) : Int) := zu_s _ _ _ _
    have w3 := qMi_w (ct := 1) s3 e26
    obtain ⟨y, hy, y1, y2⟩ := pB_cases h
    have hm1 : qM1 T k (qMm T k) = qMm T (k + 1) := rfl
    have mf := qM1_f (T := T) (k := k) (m := qMm T k) (by omega)
    have g3 : qGx T (qEp9 T mn) mn 1 (qPl T) (qTb9 T mn (k + 1)) (k + 1) := qGx_mk hw hm (Or.inr rfl) (by rw [Nat.add_sub_cancel]; omega) (fun z i hi => by
      by_cases e : i = k
      · have := E0
        unfold qEp9 at this
        rw [if_pos z] at this
        rw [e]
        exact this
      · exact hcl z i (by omega)) (fun z => by
        have := h4 z
        rw [← hm1, mf.1 10 (by decide) (by decide)]
        exact this) (fun z => by
        rw [← hm1]
        unfold qM1
        rw [if_neg (by omega), if_neg (by omega), if_neg (by omega), if_neg (by omega), if_pos c0]
        show qup (qMm T k).1 13 0 13 = 0
        exact qup_s _ _ _)
    have prr := pB_pos (k := k + 1) h (fun y hy => pS_pos hw 500 hlt hy) (fun k1 _ h1 h2 x hx => pK_pos hw (c := 15) (a := ()) (by omega) h2 hx)
    have ek : qOut (qEp9 T mn) k r = qOut (qEp9 T mn) (k + 1) r := qOut_step (fun j h1 h2 => by
      rw [show j = k by omega]
      exact E0) ⟨by omega, prr.1⟩
    have f12 : ∀ {I'' : zI}, sfr (zu I2 28 28 0) I'' → bfr I I'' := fun {I''} f => zfm_trans f3 (zfm_sub f (by simp) (by simp))
    have q0 : ∀ {L : List zM3} {I'' : zI}, qmN a L (zu I2 28 28 0) I'' → qmN a L I I'' := fun {L I''} z => by
      unfold qmN at z ⊢
      rw [show (zu I2 28 28 0) 43 = I 43 by rw [zu_row _ _ (by decide), f2.1 43 (by decide) (by decide), zu_row _ _ (by decide)], show (zu I2 28 28 0) 44 = I 44 by rw [zu_row _ _ (by decide), f2.1 44 (by decide) (by decide), zu_row _ _ (by decide)], show (zu I2 28 28 0) 45 = I 45 by rw [zu_row _ _ (by decide), f2.1 45 (by decide) (by decide), zu_row _ _ (by decide)]] at z
      exact z
    show zw RO (d + 75) 171 P 82 [(0, .ref 28), (1, .int p0), (2, .int (zi (b : Int))), (3, .int v3), (4, .int (I2 28 19))] [] (zu I2 28 28 0) J D bc bs
    have ihL : mLo RO T (qEp9 T mn) (qPl T) (qTb9 T mn (k + 1)) mn I0 J0 500 := mLo_all hw 500
    refine ihL (n := 4) (nest := 0) (st := fun c => c = 15) (e := d + 75) (LOOP := fun I J D bc bs => zw RO (d + 75) 171 P 82 [(0, .ref 28), (1, .int p0), (2, .int (zi (b : Int))), (3, .int v3), (4, .int (I2 28 19))] [] I J D bc bs) (EXIT := tX171 RO (d + 75) P (zi (b : Int)) v3 (I2 28 19)) (x := r) hy (fun I bc bs k a hs hn hE hS => ?_) (fun c hb z => by unfold bst at hb; omega) y1 (fun q hq z => ?_) (fun q hq z => ?_) hok (by omega) (by omega) hlt (fun z => by have := hab z; omega) g3 w3 e28 (by rw [← ek]; exact H1) (fun q hq z ek2 I4 f4 e244 e284 z4 => ?_)
    · obtain ⟨o, h1, h2⟩ := n_is (b := 15) hw hs hn (by omega)
      exact wl_171_82 (d := d + 74) ⟨o, fun q => hE (h2 q), fun q => hS (fun z => q (fun w => h1 w z))⟩
    · have h2 := y2 q hq
      unfold pT at h2
      rw [if_neg z] at h2
      exact pF_inv h2
    · have h2 := y2 q hq
      unfold pT at h2
      rw [if_pos z] at h2
      rw [pO_inv h2]
      show q.1 ≤ q.1 + 1
      omega
    · have h2 := y2 q hq
      unfold pT at h2
      rw [if_pos z] at h2
      have e5 := pO_inv h2
      subst hq
      have a1 := pS_ok 500 (k2 := q.1) (l := q.2) hy
      have pq : q.1 < T.2.2.2 := (pS_pos hw 500 hlt hy).2
      have l9 := pS_ln (T := T) (pl := qPl T) 500 (k2 := q.1) (l := q.2) hy a
      have a19 := a1.1.1
      have w4 := qMw_fr w3 f4 e244 z4.1
      have E15 : qEp9 T mn q.1 = 0 := qEp9_0 (by omega)
      have hr : qOut (qEp9 T mn) k r = .inr (q.1 + 1, ()) := by
        rw [ek, ek2, e5]
        exact qOut_leaf E15 rfl
      have l3 := eml_len (mn := mn) (A := zcam (zmc 4) (q.2.map (qRs T (qPl T) 4)) a)
      refine ⟨0, 0, Nat.zero_le _, Nat.zero_le _, ?_⟩
      refine s_151t (d := d + 73) (a := 15) hw w4.1 w4.2.1 pq (by omega) z (fun I5 e245 f5 => ?_)
      have m5 : I5 28 25 = zi (mn : Int) := by rw [f5.2 25 (by decide)]; exact w4.2.2.1
      have hlq := qTw_lt hw (k := q.1) (by omega)
      refine s_155 (d := d + 73) (x := 303) m5 hm (a := a + (eml mn (zcam (zmc 4) (q.2.map (qRs T (qPl T) 4)) a)).length) (by rw [f5.2 19 (by decide)]; exact w4.2.2.2.2.1) (fun z => by have := hab z; omega) (fun I6 z6 f6 => ?_)
      have z6' : qmN (a + (eml mn (zcam (zmc 4) (q.2.map (qRs T (qPl T) 4)) a)).length) (eml mn [(303, 0, 0)]) I5 I6 := z6
      have z7 := qmN_app (qmN_of z4 (zfm_refl _) (zfm_n1 f5)) z6'
      rw [← eml_app] at z7
      have m6 : I6 28 25 = zi (mn : Int) := by rw [f6.2 25 (by decide)]; exact m5
      have f06 : bfr I I6 := zfm_trans (f12 f4) (zfm_trans (zfm_sub f5 (by simp) (by simp)) (zfm_sub f6 (by simp) (by simp)))
      have e246 : I6 28 24 = zi ((q.1 + 1 : Nat) : Int) := by rw [f6.2 24 (by decide)]; exact e245
      have e40 : I6 40 = I 40 ∧ I6 41 = I 41 := by
        refine ⟨?_, ?_⟩
        · rw [f6.1 40 (by decide) (by decide), f5.1 40 (by decide) (by decide), f4.1 40 (by decide) (by decide), zu_row _ _ (by decide), f2.1 40 (by decide) (by decide), zu_row _ _ (by decide)]
        · rw [f6.1 41 (by decide) (by decide), f5.1 41 (by decide) (by decide), f4.1 41 (by decide) (by decide), zu_row _ _ (by decide), f2.1 41 (by decide) (by decide), zu_row _ _ (by decide)]
      show _ ∧ _
      have clb : (zi (b : Int)).toNatClampNeg = b := by rw [zi_cl (by omega) (by omega)]; omega
      rcases hm with m0 | m1
      · refine ⟨fun q9 => absurd (show I6 28 25 = 0 by rw [m6, m0]; rfl) q9, fun _ => ?_⟩
        exact H2 q.2 q.1 hy c0 e5 hr I6 f06 e246 (q0 z7) ⟨fun _ => e40, fun z => by omega⟩
      · have vb : vp_in (zi (b : Int)) 28 := zi_in (by omega) (by omega) (by omega)
        refine ⟨fun _ => ⟨vb, vb, ?_⟩, fun q9 => absurd (show ¬ I6 28 25 = 0 by rw [m6, m1]; decide) q9⟩
        rw [clb, e19b]
        refine H2 q.2 q.1 hy c0 e5 hr _ (zfm_zu (zfm_zu f06 _ _ (by decide) (by decide)) _ _ (by decide) (by decide)) (by rw [zu_n _ _ (by omega), zu_n _ _ (by omega)]; exact e246) ?_ ⟨fun z => by omega, fun _ x => ⟨?_, ?_⟩⟩
        · have z8 := q0 z7
          unfold qmN at z8 ⊢
          rw [zu_n _ _ (by omega), zu_n _ _ (by omega), zu_row _ _ (by decide), zu_row _ _ (by decide), zu_row _ _ (by decide), zu_row _ _ (by decide), zu_row _ _ (by decide), zu_row _ _ (by decide)]
          exact z8
        · rw [zu_n _ _ (by omega)]
          by_cases ex : x = b
          · rw [if_pos ex, ex, zu_s]
          · rw [if_neg ex, zu_n _ _ (by omega), e40.1]
        · by_cases ex : x = b
          · rw [if_pos ex, ex, zu_s]
          · rw [if_neg ex, zu_n _ _ (by omega), zu_n _ _ (by omega), e40.2]
  · rw [if_neg c0] at h
    have e5 := pF_inv h
    have h9 := H1 k 1 (by rw [e5]; exact qOut_here)
    refine ⟨bc, bs, Nat.le_refl _, Nat.le_refl _, ?_⟩
    exact s_151f (d := d + 73) (a := 14) hw s0.1 s0.2.1 hn (by omega) c0 h9.1 (h9.2 _ J s0.2.2.2.2.2.1 s0.2.2.2.2.2.2)
end MItem

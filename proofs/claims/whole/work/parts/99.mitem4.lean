/-! ===== the reference's items: the range of a track or pool ===== -/
theorem pT_pos {T : qTk} {c k : Nat} {x : Nat ⊕ (Nat × Unit)} (hw : qTw T) (hc : 2 ≤ c) (hn : k < T.2.2.2) (h : pT T.1 c k = some x) : k ≤ qPos x ∧ qPos x < T.2.2.2 := pK_pos hw (c := c) (a := ()) hc hn h
theorem pWh_pos {T : qTk} {k : Nat} {x : Nat ⊕ (Nat × Unit)} (hw : qTw T) (hn : k < T.2.2.2) (h : pWh T.1 k = some x) : k ≤ qPos x ∧ qPos x < T.2.2.2 := by
  unfold pWh at h
  by_cases c : T.1 k = 43
  · rw [if_pos c] at h
    have := qTw_lt hw (k := k) (by omega)
    have := pT_pos hw (by omega) this h
    omega
  · rw [if_neg c] at h
    exact pT_pos hw (by omega) hn h
section MItem4
variable {RO : zRo} {d : Nat} {P : zP} {I : zI} {J : zJ} {D : zD} {bc bs : Nat} {T : qTk} {mn ct k dp a j c : Nat} {I0 : zI} {J0 : zJ}
theorem qTm_n {I' : zI} (h : qTm T I J) (f : zfm [24] [] I I') : qTm T I' J := by
  unfold qTm
  rw [f.2 4 (by decide), f.1 31 (by decide) (by decide), f.1 32 (by decide) (by decide)]
  exact h
theorem s_169 {N : Nat} {r : Nat ⊕ (Nat × Unit)} (hw : qTw T) (hv : qTv T) (hm : mn = 0 ∨ mn = 1) (hc : c = 4 ∨ c = 5) (h : pRg T.1 k = some r) (hok : mn = 1 → ∃ q, r = .inr q) (hn : k < T.2.2.2) (hk : ¬ T.1 (k - 1) = 43) (ht : qTm T I J) (h24 : I 28 24 = zi (k : Int)) (h25 : I 28 25 = zi (mn : Int)) (hr0 : rfr I0 I) (hj0 : rfj J0 J) (hN : N < 6) (h37 : I 37 (qkm c) = zi (N : Int)) (hM : mn = 1 → (qMm T k).1 10 = c ∧ (qMm T k).1 11 = N ∧ (qMm T k).1 12 = 0) (H1 : qTh T P D bc bs I0 J0 (qOut (qEp9 T mn) k r))
    (H2 : ∀ q, r = .inr q → (mn = 1 → ∀ i, k ≤ i → i < q.1 → qEE T i = 0) → ∀ I', zfm [24] [38] I I' → I' 28 24 = zi (q.1 : Int) → (mn = 0 → I' 38 = I 38) → (mn = 1 → (∀ x, I' 38 x = if 3 * qTg c N ≤ x ∧ x < 3 * qTg c N + 3 then zi ((qMm T q.1).2.1 x) else I 38 x) ∧ (qMm T q.1).2.2 = (qMm T k).2.2 ∧ ∀ x, ¬ (3 * qTg c N ≤ x ∧ x < 3 * qTg c N + 3) → (qMm T q.1).2.1 x = (qMm T k).2.1 x) → P (.inl none) I' J D) : zz RO (d + 4) 169 [.ref 28, .int (zi (qkm c : Int))] I J D bc bs P := by
  have hNn := hw.2.1
  have ff := qTh_f hm hok H1
  have fz : ∀ {I' : zI}, zfm [24] [] I I' → rfr I0 I' := fun {I'} f => zfm_trans hr0 (zfm_sub f (by simp) (by simp))
  unfold pRg at h
  obtain ⟨y1, hy1, a1, b1⟩ := pB_cases h
  have p1 := pWh_pos hw hn hy1
  refine w_169 (d := d + 3) ?_
  refine s_nb (d := d) (lo := -999) (hi := 999) hw hv hy1 ht h24 h25 hm hn hk (by omega) (by omega) (fun j hj => ⟨(ff j (a1 j hj)).1, fun I' f => (ff j (a1 j hj)).2 I' J (fz f) hj0⟩) (fun q1 hq1 m1 hbad => ?_) (fun q1 hq1 hg1 hb1 I1 e1 f1 => ?_)
  · have h2 := b1 q1 hq1
    rw [hq1] at p1 hy1
    have pr := pB_pos (k := q1.1) h2 (fun y hy => pT_pos hw (by omega) p1.2 hy) (fun k1 _ q1 q2 x hx => pB_pos hx (fun y hy => pWh_pos hw q2 hy) (fun k1 _ q1 q2 x hx => pB_pos hx (fun y hy => pT_pos hw (by omega) q2 hy) (fun k1 _ q1 q2 x hx => pB_pos hx (fun y hy => pWh_pos hw q2 hy) (fun k1 _ q1 q2 x hx => pT_pos hw (by omega) q2 hx))))
    obtain ⟨c1, c2, c3⟩ := qMm_wh (T := T) (u := q1.2) (lo := -999) (hi := 999) hy1 (by rw [(hM m1).1]; exact hc) (by rw [(hM m1).2.2]; rfl) (by rw [(hM m1).2.2]; rfl)
    have kk := (qWh_at (u := q1.2) hy1).1
    rw [if_neg hbad] at c3
    have := qTh_e (e := 5) (j := q1.1 - 1) m1 c2 c3 (by omega) ⟨by omega, by omega⟩ H1
    exact ⟨this.1, fun I' f => this.2 I' J (fz f) hj0⟩
  · have h2 := b1 q1 hq1
    subst hq1
    have p12 : q1.1 < T.2.2.2 := p1.2
    have kk1 := qWh_at (u := q1.2) hy1
    have kk1a := kk1.1
    have t1 := qTm_n ht f1
    obtain ⟨y2, hy2, a2, b2⟩ := pB_cases h2
    refine s_tk (d := d + 1) (b := 11) hw t1 e1 p12 (by omega) (fun z => ?_) (fun z I2 e2 f2 => ?_)
    · unfold pT at hy2
      rw [if_neg z] at hy2
      have := ff q1.1 (a2 q1.1 (pF_inv hy2))
      exact ⟨this.1, this.2 I1 J (fz f1) hj0⟩
    · unfold pT at hy2
      rw [if_pos z] at hy2
      have h3 := b2 (q1.1 + 1, ()) (pO_inv hy2)
      have h3 : pB (pWh T.1 (q1.1 + 1)) (fun k3 _ => pB (pT T.1 12 k3) fun k4 _ => pB (pWh T.1 k4) fun k5 _ => pT T.1 39 k5) = some r := h3
      have l2 := qTw_lt hw (k := q1.1) (by omega)
      have f02 := zfm_trans f1 f2
      have t2 := qTm_n ht f02
      obtain ⟨y3, hy3, a3, b3⟩ := pB_cases h3
      have p3 := pWh_pos hw l2 hy3
      have z11 : ¬ (4 ≤ T.1 q1.1 ∧ T.1 q1.1 ≤ 10) ∧ ¬ T.1 q1.1 = 2 ∧ ¬ T.1 q1.1 = 3 ∧ ¬ T.1 q1.1 = 13 ∧ ¬ T.1 q1.1 = 14 := by omega
      -- the meaning up to here
      have M2 : mn = 1 → qMm T (q1.1 + 1) = (qup (qMm T k).1 12 1, qup (qMm T k).2.1 (3 * qTg c N) (qWv T (q1.1 - 1)), (qMm T k).2.2) ∧ ∀ i, k ≤ i → i < q1.1 + 1 → qEE T i = 0 := fun m1 => by
        obtain ⟨c1, c2, c3⟩ := qMm_wh (T := T) (u := q1.2) (lo := -999) (hi := 999) hy1 (by rw [(hM m1).1]; exact hc) (by rw [(hM m1).2.2]; rfl) (by rw [(hM m1).2.2]; rfl)
        rw [if_pos (hg1 m1)] at c3
        refine ⟨?_, fun i h1 h2 => ?_⟩
        · rw [qMm_0 z11, c1, (hM m1).1, (hM m1).2.1, (hM m1).2.2]
          rfl
        · by_cases i1 : i < q1.1 - 1
          · exact c2 i h1 i1
          · by_cases i2 : i = q1.1 - 1
            · rw [i2]
              exact c3
            · have i3 : i = q1.1 := by omega
              rw [i3]
              unfold qEE qE1
              rw [if_neg z11.1, if_neg z11.2.1, if_neg z11.2.2.1, if_neg (by omega)]
      have wr2 : ∀ {m : qMt}, m = (qup (qMm T k).1 12 1, qup (qMm T k).2.1 (3 * qTg c N) (qWv T (q1.1 - 1)), (qMm T k).2.2) → mn = 1 → m.1 10 = c ∧ m.1 11 = N ∧ m.1 12 = 1 ∧ m.2.1 (3 * qTg c N) = qWv T (q1.1 - 1) := fun {m} e m1 => by
        rw [e]
        refine ⟨?_, ?_, (show qup (qMm T k).1 12 1 12 = 1 from qup_s _ _ _), (show qup (qMm T k).2.1 (3 * qTg c N) (qWv T (q1.1 - 1)) (3 * qTg c N) = qWv T (q1.1 - 1) from qup_s _ _ _)⟩
        · show qup (qMm T k).1 12 1 10 = c
          rw [qup_n _ _ (by decide)]
          exact (hM m1).1
        · show qup (qMm T k).1 12 1 11 = N
          rw [qup_n _ _ (by decide)]
          exact (hM m1).2.1
      refine s_nb (d := d) (lo := qWv T (q1.1 - 1)) (hi := 999) hw hv hy3 t2 e2 (by rw [f02.2 25 (by decide)]; exact h25) hm l2 (by rw [Nat.add_sub_cancel]; omega) (by omega) (by omega) (fun j hj => ⟨(ff j (a3 j hj)).1, fun I' f => (ff j (a3 j hj)).2 I' J (fz (zfm_trans f02 f)) hj0⟩) (fun q3 hq3 m1 hbad => ?_) (fun q3 hq3 hg3 hb3 I3 e3 f3 => ?_)
      · have h4 := b3 q3 hq3
        rw [hq3] at p3 hy3
        have pr := pB_pos (k := q3.1) h4 (fun y hy => pT_pos hw (by omega) p3.2 hy) (fun k1 _ q1 q2 x hx => pB_pos hx (fun y hy => pWh_pos hw q2 hy) (fun k1 _ q1 q2 x hx => pT_pos hw (by omega) q2 hx))
        obtain ⟨w1, w2, w3, w4⟩ := wr2 (M2 m1).1 m1
        obtain ⟨c1, c2, c3⟩ := qMm_wh (T := T) (u := q3.2) (lo := qWv T (q1.1 - 1)) (hi := 999) hy3 (by rw [w1]; exact hc) (by rw [w3, w1, w2, if_neg (by decide), w4]) (by rw [w3, if_neg (by decide)])
        have kk := (qWh_at (u := q3.2) hy3).1
        rw [if_neg hbad] at c3
        have p31 : q1.1 + 1 ≤ q3.1 := p3.1
        have := qTh_e (e := 5) (j := q3.1 - 1) m1 (fun i h1 h2 => by
          by_cases i1 : i < q1.1 + 1
          · exact (M2 m1).2 i h1 i1
          · exact c2 i (by omega) h2) c3 (by omega) ⟨by omega, by omega⟩ H1
        exact ⟨this.1, fun I' f => this.2 I' J (fz (zfm_trans f02 f)) hj0⟩
      · have h4 := b3 q3 hq3
        subst hq3
        have p32 : q3.1 < T.2.2.2 := p3.2
        have p31 : q1.1 + 1 ≤ q3.1 := p3.1
        have kk3 := qWh_at (u := q3.2) hy3
        have kk3a := kk3.1
        have f03 := zfm_trans f02 f3
        have t3 := qTm_n ht f03
        obtain ⟨y4, hy4, a4, b4⟩ := pB_cases h4
        refine s_tk (d := d + 1) (b := 12) hw t3 e3 p32 (by omega) (fun z => ?_) (fun z4 I4 e4 f4 => ?_)
        · unfold pT at hy4
          rw [if_neg z] at hy4
          have := ff q3.1 (a4 q3.1 (pF_inv hy4))
          exact ⟨this.1, this.2 I3 J (fz f03) hj0⟩
        · unfold pT at hy4
          rw [if_pos z4] at hy4
          have h5 : pB (pWh T.1 (q3.1 + 1)) (fun k5 _ => pT T.1 39 k5) = some r := b4 (q3.1 + 1, ()) (pO_inv hy4)
          have l4 := qTw_lt hw (k := q3.1) (by omega)
          have f04 := zfm_trans f03 f4
          have t4 := qTm_n ht f04
          obtain ⟨y5, hy5, a5, b5⟩ := pB_cases h5
          have p5 := pWh_pos hw l4 hy5
          have z12 : ¬ (4 ≤ T.1 q3.1 ∧ T.1 q3.1 ≤ 10) ∧ ¬ T.1 q3.1 = 2 ∧ ¬ T.1 q3.1 = 3 ∧ ¬ T.1 q3.1 = 13 ∧ ¬ T.1 q3.1 = 14 := by omega
          have M4 : mn = 1 → qMm T (q3.1 + 1) = (qup (qup (qMm T k).1 12 1) 12 2, qup (qup (qMm T k).2.1 (3 * qTg c N) (qWv T (q1.1 - 1))) (3 * qTg c N + 1) (qWv T (q3.1 - 1)), (qMm T k).2.2) ∧ ∀ i, k ≤ i → i < q3.1 + 1 → qEE T i = 0 := fun m1 => by
            obtain ⟨w1, w2, w3, w4⟩ := wr2 (M2 m1).1 m1
            obtain ⟨c1, c2, c3⟩ := qMm_wh (T := T) (u := q3.2) (lo := qWv T (q1.1 - 1)) (hi := 999) hy3 (by rw [w1]; exact hc) (by rw [w3, w1, w2, if_neg (by decide), w4]) (by rw [w3, if_neg (by decide)])
            rw [if_pos (hg3 m1)] at c3
            refine ⟨?_, fun i h1 h2 => ?_⟩
            · rw [qMm_0 z12, c1, w1, w2, w3, (M2 m1).1]
            · by_cases i0 : i < q1.1 + 1
              · exact (M2 m1).2 i h1 i0
              · by_cases i1 : i < q3.1 - 1
                · exact c2 i (by omega) i1
                · by_cases i2 : i = q3.1 - 1
                  · rw [i2]
                    exact c3
                  · have i3 : i = q3.1 := by omega
                    rw [i3]
                    unfold qEE qE1
                    rw [if_neg z12.1, if_neg z12.2.1, if_neg z12.2.2.1, if_neg (by omega)]
          have wr4 : ∀ {m : qMt}, m = (qup (qup (qMm T k).1 12 1) 12 2, qup (qup (qMm T k).2.1 (3 * qTg c N) (qWv T (q1.1 - 1))) (3 * qTg c N + 1) (qWv T (q3.1 - 1)), (qMm T k).2.2) → mn = 1 → m.1 10 = c ∧ m.1 11 = N ∧ m.1 12 = 2 ∧ m.2.1 (3 * qTg c N) = qWv T (q1.1 - 1) ∧ m.2.1 (3 * qTg c N + 1) = qWv T (q3.1 - 1) := fun {m} e m1 => by
            rw [e]
            refine ⟨?_, ?_, (show qup (qup (qMm T k).1 12 1) 12 2 12 = 2 from qup_s _ _ _), ?_, (show qup (qup (qMm T k).2.1 (3 * qTg c N) (qWv T (q1.1 - 1))) (3 * qTg c N + 1) (qWv T (q3.1 - 1)) (3 * qTg c N + 1) = qWv T (q3.1 - 1) from qup_s _ _ _)⟩
            · show qup (qup (qMm T k).1 12 1) 12 2 10 = c
              rw [qup_n _ _ (by decide), qup_n _ _ (by decide)]
              exact (hM m1).1
            · show qup (qup (qMm T k).1 12 1) 12 2 11 = N
              rw [qup_n _ _ (by decide), qup_n _ _ (by decide)]
              exact (hM m1).2.1
            · show qup (qup (qMm T k).2.1 (3 * qTg c N) (qWv T (q1.1 - 1))) (3 * qTg c N + 1) (qWv T (q3.1 - 1)) (3 * qTg c N) = _
              rw [qup_n _ _ (by omega), qup_s]
          refine s_nb (d := d) (lo := qWv T (q1.1 - 1)) (hi := qWv T (q3.1 - 1)) hw hv hy5 t4 e4 (by rw [f04.2 25 (by decide)]; exact h25) hm l4 (by rw [Nat.add_sub_cancel]; omega) (by omega) (by omega) (fun j hj => ⟨(ff j (a5 j hj)).1, fun I' f => (ff j (a5 j hj)).2 I' J (fz (zfm_trans f04 f)) hj0⟩) (fun q5 hq5 m1 hbad => ?_) (fun q5 hq5 hg5 hb5 I5 e5 f5 => ?_)
          · have h6 := b5 q5 hq5
            rw [hq5] at p5 hy5
            have pr := pT_pos hw (by omega) p5.2 h6
            have pr1 : q5.1 ≤ qPos r := pr.1
            obtain ⟨w1, w2, w3, w4, w5⟩ := wr4 (M4 m1).1 m1
            obtain ⟨c1, c2, c3⟩ := qMm_wh (T := T) (u := q5.2) (lo := qWv T (q1.1 - 1)) (hi := qWv T (q3.1 - 1)) hy5 (by rw [w1]; exact hc) (by rw [w3, w1, w2, if_neg (by decide), w4]) (by rw [w3, w1, w2, if_pos rfl, w5])
            have kk := (qWh_at (u := q5.2) hy5).1
            rw [if_neg hbad] at c3
            have p51 : q3.1 + 1 ≤ q5.1 := p5.1
            have kka : q3.1 + 1 < q5.1 := kk
            have := qTh_e (e := 5) (j := q5.1 - 1) m1 (fun i h1 h2 => by
              by_cases i1 : i < q3.1 + 1
              · exact (M4 m1).2 i h1 i1
              · exact c2 i (by omega) h2) c3 (by omega) ⟨by omega, by omega⟩ H1
            exact ⟨this.1, fun I' f => this.2 I' J (fz (zfm_trans f04 f)) hj0⟩
          · have h6 := b5 q5 hq5
            subst hq5
            have p52 : q5.1 < T.2.2.2 := p5.2
            have p51 : q3.1 + 1 ≤ q5.1 := p5.1
            have kk5 := qWh_at (u := q5.2) hy5
            have f05 := zfm_trans f04 f5
            have t5 := qTm_n ht f05
            refine s_tk (d := d + 1) (b := 39) hw t5 e5 p52 (by omega) (fun z => ?_) (fun z6 I6 e6 f6 => ?_)
            · unfold pT at h6
              rw [if_neg z] at h6
              have := ff q5.1 (pF_inv h6)
              exact ⟨this.1, this.2 I5 J (fz f05) hj0⟩
            · unfold pT at h6
              rw [if_pos z6] at h6
              have er := pO_inv h6
              have f06 := zfm_trans f05 f6
              have z13 : ¬ (4 ≤ T.1 q5.1 ∧ T.1 q5.1 ≤ 10) ∧ ¬ T.1 q5.1 = 2 ∧ ¬ T.1 q5.1 = 3 ∧ ¬ T.1 q5.1 = 13 ∧ ¬ T.1 q5.1 = 14 := by omega
              have M6 : mn = 1 → qMm T (q5.1 + 1) = (qup (qup (qup (qMm T k).1 12 1) 12 2) 12 3, qup (qup (qup (qMm T k).2.1 (3 * qTg c N) (qWv T (q1.1 - 1))) (3 * qTg c N + 1) (qWv T (q3.1 - 1))) (3 * qTg c N + 2) (qWv T (q5.1 - 1)), (qMm T k).2.2) ∧ ∀ i, k ≤ i → i < q5.1 + 1 → qEE T i = 0 := fun m1 => by
                obtain ⟨w1, w2, w3, w4, w5⟩ := wr4 (M4 m1).1 m1
                obtain ⟨c1, c2, c3⟩ := qMm_wh (T := T) (u := q5.2) (lo := qWv T (q1.1 - 1)) (hi := qWv T (q3.1 - 1)) hy5 (by rw [w1]; exact hc) (by rw [w3, w1, w2, if_neg (by decide), w4]) (by rw [w3, w1, w2, if_pos rfl, w5])
                rw [if_pos (hg5 m1)] at c3
                refine ⟨?_, fun i h1 h2 => ?_⟩
                · rw [qMm_0 z13, c1, w1, w2, w3, (M4 m1).1]
                · by_cases i0 : i < q3.1 + 1
                  · exact (M4 m1).2 i h1 i0
                  · by_cases i1 : i < q5.1 - 1
                    · exact c2 i (by omega) i1
                    · by_cases i2 : i = q5.1 - 1
                      · rw [i2]
                        exact c3
                      · have i3 : i = q5.1 := by omega
                        rw [i3]
                        unfold qEE qE1
                        rw [if_neg z13.1, if_neg z13.2.1, if_neg z13.2.2.1, if_neg (by omega)]
              have m6 : I6 28 25 = zi (mn : Int) := by rw [f06.2 25 (by decide)]; exact h25
              have e37 : I6 37 = I 37 := f06.1 37 (by decide) (by decide)
              have e38 : I6 38 = I 38 := f06.1 38 (by decide) (by decide)
              show _ ∧ _
              rcases hm with m0 | m1
              · refine ⟨fun q9 => absurd (show I6 28 25 = 0 by rw [m6, m0]; rfl) q9, fun _ => ?_⟩
                exact H2 _ er (fun z => by omega) I6 (zfm_sub f06 (by simp) (by simp)) e6 (fun _ => e38) (fun z => by omega)
              · refine ⟨fun _ => ?_, fun q9 => absurd (show ¬ I6 28 25 = 0 by rw [m6, m1]; decide) q9⟩
                obtain ⟨M61, M62⟩ := M6 m1
                have fin : ∀ x0 : Int32, x0 = zi ((3 * qTg c N : Nat) : Int) → vp_in x0 36 ∧ vp_in (x0 + 1) 36 ∧ vp_in (x0 + 2) 36 ∧ P (.inl none) (zu (zu (zu I6 38 x0.toNatClampNeg (zi (qWv T (q1.1 - 1)))) 38 (x0 + 1).toNatClampNeg (zi (qWv T (q3.1 - 1)))) 38 (x0 + 2).toNatClampNeg (zi (qWv T (q5.1 - 1)))) J D := by
                  intro x0 hx0
                  have bt : qTg c N ≤ 11 := by
                    unfold qTg
                    split <;> omega
                  have ex1 : x0 + 1 = zi ((3 * qTg c N + 1 : Nat) : Int) := by rw [hx0, zi_succ]
                  have ex2 : x0 + 2 = zi ((3 * qTg c N + 2 : Nat) : Int) := by
                    rw [hx0, show (2 : Int32) = zi 2 from rfl, zi_add]
                    congr 1
                  rw [ex1, ex2, hx0, zi_clk (by omega), zi_clk (by omega), zi_clk (by omega)]
                  refine ⟨zi_in (by omega) (by omega) (by omega), zi_in (by omega) (by omega) (by omega), zi_in (by omega) (by omega) (by omega), ?_⟩
                  refine H2 _ er (fun _ i h1 h2 => M62 i h1 h2) _ (zfm_zu (zfm_zu (zfm_zu (zfm_sub f06 (by simp) (by simp)) _ _ (by decide) (by decide)) _ _ (by decide) (by decide)) _ _ (by decide) (by decide)) (by rw [zu_n _ _ (by omega), zu_n _ _ (by omega), zu_n _ _ (by omega)]; exact e6) (fun z => by omega) (fun _ => ⟨fun x => ?_, ?_, fun x hx => ?_⟩)
                  · show _ = if _ then zi ((qMm T (q5.1 + 1)).2.1 x) else _
                    rw [M61]
                    show _ = if _ then zi (qup (qup (qup (qMm T k).2.1 (3 * qTg c N) (qWv T (q1.1 - 1))) (3 * qTg c N + 1) (qWv T (q3.1 - 1))) (3 * qTg c N + 2) (qWv T (q5.1 - 1)) x) else _
                    by_cases y2 : x = 3 * qTg c N + 2
                    · rw [if_pos (by omega), y2, zu_s, qup_s]
                    · rw [zu_n _ _ (by omega), qup_n _ _ y2]
                      by_cases y1 : x = 3 * qTg c N + 1
                      · rw [if_pos (by omega), y1, zu_s, qup_s]
                      · rw [zu_n _ _ (by omega), qup_n _ _ y1]
                        by_cases y0 : x = 3 * qTg c N
                        · rw [if_pos (by omega), y0, zu_s, qup_s]
                        · rw [zu_n _ _ (by omega), if_neg (by omega), e38]
                  · show (qMm T (q5.1 + 1)).2.2 = _
                    rw [M61]
                  · show (qMm T (q5.1 + 1)).2.1 x = _
                    rw [M61]
                    show qup (qup (qup (qMm T k).2.1 (3 * qTg c N) (qWv T (q1.1 - 1))) (3 * qTg c N + 1) (qWv T (q3.1 - 1))) (3 * qTg c N + 2) (qWv T (q5.1 - 1)) x = _
                    rw [qup_n _ _ (by omega), qup_n _ _ (by omega), qup_n _ _ (by omega)]
                rcases hc with c4 | c5
                · subst c4
                  refine ⟨fun q => absurd rfl q, fun _ => fin _ ?_⟩
                  rw [e37, show I 37 0 = zi (N : Int) from h37, show (3 : Int32) = zi 3 from rfl, zi_mul]
                  congr 1
                · subst c5
                  refine ⟨fun _ => fin _ ?_, fun q => absurd (by decide) q⟩
                  rw [e37, show I 37 1 = zi (N : Int) from h37, show (6 : Int32) = zi 6 from rfl, zi_add, show (3 : Int32) = zi 3 from rfl, zi_mul]
                  congr 1
end MItem4

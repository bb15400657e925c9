/-! ===== the reference's reading: sums, products, relations, factors ===== -/
section MForm4
variable {RO : zRo} {d : Nat} {P : zP} {I : zI} {J : zJ} {D : zD} {bc bs : Nat} {T : qTk} {E : Nat → Nat} {pl : Nat → Option Nat} {tb : List (Int64 × Nat × Nat)} {mn ct k dp a j c : Nat} {I0 : zI} {J0 : zJ}
theorem n_go (hs : qMx T tb mn ct I0 J0 k dp a I J) : (zu I 28 24 ((I 28 24) + 1)) 28 24 = zi ((k + 1 : Nat) : Int) ∧ zfm [24] [] I (zu I 28 24 ((I 28 24) + 1)) := ⟨by rw [zu_s, hs.2.1, zi_succ], zfm_z (zfm_refl _) _ _ (by decide)⟩
theorem mL_3 {f : Nat} (hw : qTw T) (ihA : mA RO T E pl tb mn ct I0 J0 f 4) (ihL : mL RO T E pl tb mn ct I0 J0 f 3) : mL RO T E pl tb mn ct I0 J0 (f + 1) 3 := by
  intro dp k a d bc bs r I J D P h hok hdp he hn hab hg hs H1 H2
  obtain ⟨d, rfl⟩ : ∃ d', d = d' + 1 := ⟨d - 1, by omega⟩
  rw [pE_lp' (by omega)] at h
  obtain ⟨o6, h61, h62⟩ := n_148 (a := 42) hw hs.1 hs.2.1 hn (by omega)
  obtain ⟨o7, h71, h72⟩ := n_148 (a := 43) hw hs.1 hs.2.1 hn (by omega)
  have vi := n_in hw hs.2.1 hn
  have lv : pLv (T.1 k) = 3 ↔ T.1 k = 42 ∨ T.1 k = 43 := by
    unfold pLv
    (repeat' split) <;> omega
  have go := n_go hs
  have kd := n_kd hs.1 hs.2.1 hw hn
  have main : ∀ code : Nat, zmo (T.1 k, 0) = (code, 0, 0) → (410 : Int32) + ((I 31 ((I 28 24).toNatClampNeg)) - 106) = zi (code : Int) → pLv (T.1 k) = 3 → ∃ c1 s1, c1 ≤ bc ∧ s1 ≤ bs ∧ zz RO (d + 2) 161 [.ref 28] (zu I 28 24 ((I 28 24) + 1)) J D c1 s1 (zNv P fun I1 J1 D1 => (zz RO (d + 2) 155 [.ref 28, .int (410 + ((I 31 ((I 28 24).toNatClampNeg)) - 106))] I1 J1 D1 0 0 (zNv P fun I2 J2 D2 => zw RO (d + 2) 160 P 4 [(0, .ref 28)] [] I2 J2 D2 (bc - c1) (bs - s1)))) := by
    intro code hc1 hc2 cl
    rw [if_pos cl] at h
    rw [hc2]
    exact s_opr (l := 3) (NX := fun I3 J3 D3 bc bs => zw RO (d + 2) 160 P 4 [(0, .ref 28)] [] I3 J3 D3 bc bs) hw (by omega) cl hc1 ihA h hok (fun k1 o => hG_lp hw (by omega) k1 o) hdp (by omega) hab hg hn hs go.1 go.2 H1 (fun k1 o hG ek q1 q2 q3 q4 I3 f3 s3 z3 => s_lp (l := 3) (d := d + 1) hw (by omega) ihL hG hok hdp (by omega) hab hg ek q1 q2 q3 q4 f3 s3 z3 H1 H2)
  refine wl_160_4 (d := d + 1) ⟨o6, fun q => ?_, fun q => ⟨o7, fun q2 => ?_, fun q2 => ?_⟩⟩
  · have c1 : T.1 k = 42 := by
      by_cases z : T.1 k = 42
      · exact z
      · exact absurd (h61.mpr z) q
    refine ⟨vi, main 410 (by rw [c1]; rfl) ?_ (lv.mpr (by omega))⟩
    rw [kd, c1]
    rfl
  · have c1 : ¬ T.1 k = 42 := fun z => q (fun w => h61.mp w z)
    have c2 : ¬ T.1 k = 43 := h71.mp q2
    rw [if_neg (fun z => by have := lv.mp z; omega)] at h
    have e9 := pO_inv h
    have hr : qOut E k r = .inr (k, []) := by
      rw [e9]
      exact qOut_r (by rw [Nat.sub_self]; rfl)
    exact H2 _ hr I (qPx_nil hs)
  · have c1 : T.1 k = 43 := by
      by_cases z : T.1 k = 43
      · exact z
      · exact absurd (h71.mpr z) q2
    refine ⟨vi, main 411 (by rw [c1]; rfl) ?_ (lv.mpr (by omega))⟩
    rw [kd, c1]
    rfl
theorem mL_4 {f : Nat} (hw : qTw T) (ihA : mA RO T E pl tb mn ct I0 J0 f 5) (ihL : mL RO T E pl tb mn ct I0 J0 f 4) : mL RO T E pl tb mn ct I0 J0 (f + 1) 4 := by
  intro dp k a d bc bs r I J D P h hok hdp he hn hab hg hs H1 H2
  obtain ⟨d, rfl⟩ : ∃ d', d = d' + 1 := ⟨d - 1, by omega⟩
  rw [pE_lp' (by omega)] at h
  have hle := qTw_le hw k
  have lq := qkm_le hle
  have vi := n_in hw hs.2.1 hn
  have lv : pLv (T.1 k) = 4 ↔ 44 ≤ T.1 k ∧ T.1 k ≤ 46 := by
    unfold pLv
    (repeat' split) <;> omega
  have km : (108 ≤ qkm (T.1 k) ∧ qkm (T.1 k) ≤ 110) ↔ 44 ≤ T.1 k ∧ T.1 k ≤ 46 := by
    unfold qkm
    (repeat' split) <;> omega
  have go := n_go hs
  have kd := n_kd hs.1 hs.2.1 hw hn
  have e136 : zv_136 I J (I 31 ((I 28 24).toNatClampNeg)).toInt64 108 110 = if (108 : Int) ≤ qkm (T.1 k) ∧ (qkm (T.1 k) : Int) ≤ 110 then 1 else 0 := by
    rw [kd]
    exact n_136 (lo := 108) (hi := 110) (by omega) (by omega) (by omega)
  have main : ∀ code : Nat, zmo (T.1 k, 0) = (code, 0, 0) → (410 : Int32) + ((I 31 ((I 28 24).toNatClampNeg)) - 106) = zi (code : Int) → pLv (T.1 k) = 4 → ∃ c1 s1, c1 ≤ bc ∧ s1 ≤ bs ∧ zz RO (d + 2) 162 [.ref 28] (zu I 28 24 ((I 28 24) + 1)) J D c1 s1 (zNv P fun I1 J1 D1 => (zz RO (d + 2) 155 [.ref 28, .int (410 + ((I 31 ((I 28 24).toNatClampNeg)) - 106))] I1 J1 D1 0 0 (zNv P fun I2 J2 D2 => zw RO (d + 2) 161 P 4 [(0, .ref 28)] [] I2 J2 D2 (bc - c1) (bs - s1)))) := by
    intro code hc1 hc2 cl
    rw [if_pos cl] at h
    rw [hc2]
    exact s_opr (l := 4) (NX := fun I3 J3 D3 bc bs => zw RO (d + 2) 161 P 4 [(0, .ref 28)] [] I3 J3 D3 bc bs) hw (by omega) cl hc1 ihA h hok (fun k1 o => hG_lp hw (by omega) k1 o) hdp (by omega) hab hg hn hs go.1 go.2 H1 (fun k1 o hG ek q1 q2 q3 q4 I3 f3 s3 z3 => s_lp (l := 4) (d := d + 1) hw (by omega) ihL hG hok hdp (by omega) hab hg ek q1 q2 q3 q4 f3 s3 z3 H1 H2)
  refine wl_161_4 (d := d + 1) ⟨vi, ?_⟩
  rw [e136]
  by_cases c1 : 44 ≤ T.1 k ∧ T.1 k ≤ 46
  · rw [if_pos (by have := km.mpr c1; omega)]
    refine ⟨fun q => absurd q (by decide), fun _ => ⟨vi, ?_⟩⟩
    have h3 : T.1 k = 44 ∨ T.1 k = 45 ∨ T.1 k = 46 := by omega
    rcases h3 with h3 | h3 | h3
    · exact main 412 (by rw [h3]; rfl) (by rw [kd, h3]; rfl) (lv.mpr c1)
    · exact main 413 (by rw [h3]; rfl) (by rw [kd, h3]; rfl) (lv.mpr c1)
    · exact main 414 (by rw [h3]; rfl) (by rw [kd, h3]; rfl) (lv.mpr c1)
  · rw [if_neg (fun z => c1 (km.mp (by omega)))]
    refine ⟨fun _ => ?_, fun q => absurd rfl q⟩
    rw [if_neg (fun z => c1 (lv.mp z))] at h
    have e9 := pO_inv h
    have hr : qOut E k r = .inr (k, []) := by
      rw [e9]
      exact qOut_r (by rw [Nat.sub_self]; rfl)
    exact H2 _ hr I (qPx_nil hs)
/-- a relation: at most one operator -/
theorem mA_2 {f : Nat} (hw : qTw T) (ih1 : mA RO T E pl tb mn ct I0 J0 (f + 1) 3) (ih2 : mA RO T E pl tb mn ct I0 J0 f 3) : mA RO T E pl tb mn ct I0 J0 (f + 2) 2 := by
  intro dp k a e bc bs r I J D P h hok hdp he hn hab hg hp hs H1 H2
  obtain ⟨d, rfl⟩ : ∃ d, e = d + 3 := ⟨e - 3, by omega⟩
  rw [pE_lo (by omega)] at h
  obtain ⟨y, hy, y1, y2⟩ := pB_cases h
  have py := pE_pos hw hy (by omega) hn
  have pxy : qPos y ≤ qPos r := by
    cases y with
    | inl i =>
      rw [y1 i rfl]
      exact Nat.le_refl _
    | inr q =>
      have h2 := y2 q rfl
      obtain ⟨y3, h3, y4, y5⟩ := pB_cases h2
      have p3 := pE_pos hw h3 (by omega) py.2
      cases y3 with
      | inl i =>
        rw [y4 i rfl]
        exact p3.1
      | inr q3 =>
        have e9 := pO_inv (y5 q3 rfl)
        rw [e9]
        exact p3.1
  refine w_159 (d := d + 1) ?_
  rcases hy2 : qOut E k y with w | q
  · have hx := qOut_thr hy2 y1 ⟨py.1, pxy⟩
    refine ⟨bc, bs, Nat.le_refl _, Nat.le_refl _, ?_⟩
    have H3 : qTh T P D bc bs I0 J0 (qOut E k y) := qTh_to H1 hx hy2
    exact ih1 hy (hok_sub y1 hok) hdp (by omega) hn hab hg hp hs H3 (fun q hq => absurd (hy2.symm.trans hq) (fun z => by cases z))
  · obtain ⟨e1, e3⟩ := qOut_go hy2 ⟨py.1, pxy⟩
    subst e1
    have a1 := pE_ok (k2 := q.1) (o := q.2) hy (by omega)
    have l1 := eml_bd (T := T) (pl := pl) (mn := mn) a1.1.2.1
    have a0 := a1.1.1
    have pq : q.1 < T.2.2.2 := py.2
    have t1 : tks T.1 ys k q.1 := ⟨a1.1.1, fun j h1 h2 => Or.inl (a1.1.2.2.1 j h1 h2)⟩
    have h2 := y2 q rfl
    rw [e3] at H1 H2
    refine ⟨0, 0, Nat.zero_le _, Nat.zero_le _, ?_⟩
    have H3 : qTh T P D 0 0 I0 J0 (qOut E k (Sum.inr q)) := qTh_no hy2
    refine ih1 hy (hok_sub y1 hok) hdp (by omega) hn hab hg hp hs H3 (fun q9 hq9 I1 z1 => ?_)
    have e9 : q = q9 := by
      have := hy2.symm.trans hq9
      cases this
      rfl
    subst e9
    have s1 := qPx_st hs z1
    have g1 := qGx_step hg t1
    have hle := qTw_le hw q.1
    have lv : pLv (T.1 q.1) = 2 ↔ T.1 q.1 = 41 ∨ 47 ≤ T.1 q.1 ∧ T.1 q.1 ≤ 51 := by
      unfold pLv
      (repeat' split) <;> omega
    rw [show pE T.1 (f + 1) (2 + 10) dp q.1 = if pLv (T.1 q.1) = 2 then pB (pE T.1 f (2 + 1) dp (q.1 + 1)) (fun k1 o => pO k1 (o ++ [(T.1 q.1, 0)])) else pO q.1 [] by rw [pE_lp]; rfl] at h2
    have go := n_go s1
    have T1 : ∀ b : Nat, b ≤ 51 → zo_148 I1 J (zi (qkm b : Int)) ∧ (zv_148 I1 J (zi (qkm b : Int)) = 0 ↔ ¬ T.1 q.1 = b) := fun b hb => by
      obtain ⟨o, h1, _⟩ := n_148 (a := b) hw s1.1 s1.2.1 pq hb
      exact ⟨o, h1⟩
    -- no operator
    have none9 : ¬ pLv (T.1 q.1) = 2 → P (.inl none) I1 J D := fun cl => by
      rw [if_neg cl] at h2
      have e5 := pO_inv h2
      have hr : qOut E q.1 r = .inr (q.1, q.2 ++ []) := by
        rw [e5]
        exact qOut_r (by rw [Nat.sub_self]; rfl)
      rw [List.append_nil] at hr
      exact H2 _ hr I1 z1
    have main : ∀ code : Nat, zmo (T.1 q.1, 0) = (code, 0, 0) → pLv (T.1 q.1) = 2 → ∃ c s, c ≤ bc ∧ s ≤ bs ∧ zz RO (d + 2) 160 [.ref 28] (zu I1 28 24 ((I1 28 24) + 1)) J D c s (zNv P fun I2 J2 D2 => zz RO (d + 2) 155 [.ref 28, .int (zi (code : Int))] I2 J2 D2 0 0 (zNv P fun I3 J3 D3 => P (.inl none) I3 J3 D3)) := fun code hc cl => by
      rw [if_pos cl, ← pB_assoc] at h2
      refine s_opr (l := 2) (NX := fun I3 J3 D3 _ _ => P (.inl none) I3 J3 D3) hw (by omega) cl hc ih2 h2 hok (fun k1 o hG _ => ?_) hdp (by omega) (fun z => by have := hab z; omega) g1 pq s1 go.1 go.2 H1 (fun k1 o hG ek q1 q2 q3 q4 I3 f3 s3 z3 => ?_)
      · have hG : pO k1 (q.2 ++ (o ++ [(T.1 q.1, (0 : Int32))])) = some r := hG
        have e5 := pO_inv hG
        rw [e5]
        exact Nat.le_refl _
      · have hG : pO k1 (q.2 ++ (o ++ [(T.1 q.1, (0 : Int32))])) = some r := hG
        have e5 := pO_inv hG
        have hr : qOut E q.1 r = .inr (k1, q.2 ++ (o ++ [(T.1 q.1, (0 : Int32))])) := by
          rw [ek, e5]
          exact qOut_r (by rw [Nat.sub_self]; rfl)
        refine H2 _ hr I3 ⟨zfm_trans z1.1 f3, s3.2.1, s3.2.2.2.2.1, ?_⟩
        show qmN a (eml mn ((q.2 ++ (o ++ [(T.1 q.1, (0 : Int32))])).map (qRm T pl))) I I3
        rw [List.map_append, eml_app]
        exact qmN_app z1.2.2.2 z3
    have no : ∀ b : Nat, b ≤ 51 → ¬ zv_148 I1 J (zi (qkm b : Int)) = 0 → T.1 q.1 = b := fun b hb z => by
      by_cases z2 : T.1 q.1 = b
      · exact z2
      · exact absurd ((T1 b hb).2.mpr z2) z
    refine ⟨(T1 41 (by omega)).1, fun q1 => ⟨(T1 51 (by omega)).1, fun q2 => ⟨(T1 47 (by omega)).1, fun q3 => ⟨(T1 48 (by omega)).1, fun q4 => ⟨(T1 49 (by omega)).1, fun q5 => ⟨(T1 50 (by omega)).1, fun q6 => ?_, fun q6 => ?_⟩, fun q5 => ?_⟩, fun q4 => ?_⟩, fun q3 => ?_⟩, fun q2 => ?_⟩, fun q1 => ?_⟩
    · refine none9 (fun z => ?_)
      have b1 := (T1 41 (by omega)).2.mp q1
      have b2 := (T1 51 (by omega)).2.mp q2
      have b3 := (T1 47 (by omega)).2.mp q3
      have b4 := (T1 48 (by omega)).2.mp q4
      have b5 := (T1 49 (by omega)).2.mp q5
      have b6 := (T1 50 (by omega)).2.mp q6
      have := lv.mp z
      omega
    · have b := no 50 (by omega) q6
      exact main 425 (by rw [b]; rfl) (lv.mpr (by omega))
    · have b := no 49 (by omega) q5
      exact main 424 (by rw [b]; rfl) (lv.mpr (by omega))
    · have b := no 48 (by omega) q4
      exact main 423 (by rw [b]; rfl) (lv.mpr (by omega))
    · have b := no 47 (by omega) q3
      exact main 422 (by rw [b]; rfl) (lv.mpr (by omega))
    · have b := no 51 (by omega) q2
      exact main 421 (by rw [b]; rfl) (lv.mpr (by omega))
    · have b := no 41 (by omega) q1
      exact main 420 (by rw [b]; rfl) (lv.mpr (by omega))
end MForm4

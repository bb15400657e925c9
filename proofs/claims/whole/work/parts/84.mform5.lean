/-! ===== the reference's reading: factors; all of expressions ===== -/
section MForm5
variable {RO : zRo} {d : Nat} {P : zP} {I : zI} {J : zJ} {D : zD} {bc bs : Nat} {T : qTk} {E : Nat → Nat} {pl : Nat → Option Nat} {tb : List (Int64 × Nat × Nat)} {mn ct k dp a j c : Nat} {I0 : zI} {J0 : zJ}
theorem zi_clk (h : k < 1000) : (zi (k : Int)).toNatClampNeg = k := by rw [zi_cl (by omega) (by omega)]; omega
theorem qOut_leaf {α : Type} {x : Nat × α} (hE : E k = 0) (hx : x.1 = k + 1) : qOut E k (.inr x) = .inr x := qOut_r (qFe_none (fun j h1 h2 => by
  have e : j = k := by omega
  rw [e]
  exact hE))
/-- behind the code of a leaf, whose token is then taken -/
theorem s_leaf {x : zOp} {y : zM3} {r : Nat ⊕ (Nat × List zOp)} {I2 : zI} (hr : r = .inr (k + 1, [x])) (hE : E k = 0) (hq : qRm T pl x = y) (hs : qMx T tb mn ct I0 J0 k dp a I J) (z : qmN a (if mn = 1 then [y] else []) I I2) (f : zfm [19] [43, 44, 45] I I2) (H2 : ∀ q, qOut E k r = .inr q → ∀ I', qPx T pl mn dp a q I I' → P (.inl none) I' J D) : P (.inl none) (zu I2 28 24 ((I2 28 24) + 1)) J D := by
  have e24 : I2 28 24 = zi (k : Int) := by rw [f.2 24 (by decide)]; exact hs.2.1
  rw [e24, zi_succ]
  refine H2 (k + 1, [x]) (by rw [hr]; exact qOut_leaf hE rfl) _ ⟨zfm_z (zfm_x1 f) _ _ (by decide), zu_s _ _ _ _, ?_, ?_⟩
  · rw [zu_n _ _ (by omega), f.2 27 (by decide)]
    exact hs.2.2.2.2.1
  · show qmN a (eml mn ([x].map (qRm T pl))) I _
    rw [List.map_singleton, hq]
    exact qmN_of z (zfm_refl _) (zfm_z (zfm_refl _) _ _ (by decide))
/-- my, their, or a pool in an expression -/
theorem s_plc {code : Nat} {r : Nat ⊕ (Nat × List zOp)} (hw : qTw T) (hc : T.1 k = 25 ∧ code = 401 ∨ T.1 k = 26 ∧ code = 402 ∨ T.1 k = 2 ∧ code = 403) (h : pB (pPl T.1 k) (fun k1 nm => pO k1 [(2, zi (nm : Int))]) = some r) (hab : mn = 1 → a ≤ 900 + k) (hg : qGx T E mn ct pl tb k) (hn : k < T.2.2.2) (hp : ¬ (T.1 (k - 1) = 25 ∨ T.1 (k - 1) = 26)) (hs : qMx T tb mn ct I0 J0 k dp a I J) (H1 : qTh T P D bc bs I0 J0 (qOut E k r)) (H2 : ∀ q, qOut E k r = .inr q → ∀ I', qPx T pl mn dp a q I I' → P (.inl none) I' J D) :
    ∃ c s, c ≤ bc ∧ s ≤ bs ∧ zz RO (d + 4) 164 [.ref 28] I J D c s (zNi P fun v1 I1 J1 D1 => zz RO (d + 4) 154 [.ref 28, .int (zi (code : Int)), .int v1, .int 0] I1 J1 D1 0 0 (zNi P fun _ I2 J2 D2 => P (.inl none) I2 J2 D2)) := by
  have hN := hw.2.1
  have hlt := qTw_lt hw (k := k) (by omega)
  obtain ⟨y, hy, y1, y2⟩ := pB_cases h
  have py : k ≤ qPos y := by
    cases y with
    | inl i =>
      unfold pPl at hy
      show k ≤ i
      by_cases z1 : T.1 k = 25 ∨ T.1 k = 26
      · rw [if_pos z1] at hy
        by_cases z2 : T.1 (k + 1) = 2
        · rw [if_pos z2] at hy
          cases pO_inv hy
        · rw [if_neg z2] at hy
          cases pF_inv hy
          omega
      · rw [if_neg z1] at hy
        by_cases z2 : T.1 k = 2
        · rw [if_pos z2] at hy
          cases pO_inv hy
        · rw [if_neg z2] at hy
          cases pF_inv hy
          omega
    | inr q =>
      have := (tks_pl (k2 := q.1) (nm := q.2) hy).2.1
      show k ≤ q.1
      omega
  have pxy : qPos y ≤ qPos r := by
    cases y with
    | inl i =>
      rw [y1 i rfl]
      exact Nat.le_refl _
    | inr q =>
      have e5 := pO_inv (y2 q rfl)
      rw [e5]
      exact Nat.le_refl _
  rcases hy2 : qOut E k y with w | q
  · have hx := qOut_thr hy2 y1 ⟨py, pxy⟩
    refine ⟨bc, bs, Nat.le_refl _, Nat.le_refl _, ?_⟩
    have H3 : qTh T P D bc bs I0 J0 (qOut E k y) := qTh_to H1 hx hy2
    exact s_164 hw hy hg hs hn hp H3 (fun q hq => absurd (hy2.symm.trans hq) (fun z => by cases z))
  · obtain ⟨e1, e3⟩ := qOut_go hy2 ⟨py, pxy⟩
    subst e1
    have a1 := tks_pl (k2 := q.1) (nm := q.2) hy
    have e5 := pO_inv (y2 q rfl)
    refine ⟨0, 0, Nat.zero_le _, Nat.zero_le _, ?_⟩
    have H3 : qTh T P D 0 0 I0 J0 (qOut E k (Sum.inr q)) := qTh_no hy2
    refine s_164 hw hy hg hs hn hp H3 (fun q9 hq9 v I1 hv e24 f1 e27 => ?_)
    have e9 : q = q9 := by
      have := hy2.symm.trans hq9
      cases this
      rfl
    subst e9
    have m1 : I1 28 25 = zi (mn : Int) := by rw [f1.2 25 (by decide)]; exact hs.2.2.1
    have a9 : I1 28 19 = zi (a : Int) := by rw [f1.2 19 (by decide)]; exact hs.2.2.2.2.2.1
    refine s_154 (d := d + 3) (x := (code, v, 0)) m1 hg.1 a9 (fun z => by have := hab z; omega) (fun v2 I2 hv2 z2 f2 => ?_)
    have hr : qOut E k r = .inr (q.1, [(2, zi (q.2 : Int))]) := by
      rw [e5]
      exact qOut_r (qOut_inv hy2).2
    refine H2 _ hr I2 ⟨zfm_trans (xfr_n f1) (zfm_x1 f2), ?_, ?_, ?_⟩
    · rw [f2.2 24 (by decide)]
      exact e24
    · rw [f2.2 27 (by decide), e27]
      exact hs.2.2.2.2.1
    · show qmN a (eml mn ([(2, zi (q.2 : Int))].map (qRm T pl))) I I2
      have el : eml mn ([(2, zi (q.2 : Int))].map (qRm T pl)) = if mn = 1 then [(code, v, 0)] else [] := by
        unfold eml
        rcases hg.1 with m0 | m1
        · rw [if_neg (by omega), if_neg (by omega)]
        · rw [if_pos m1, if_pos m1, List.map_singleton]
          obtain ⟨p, hp1, hp2, hp3, hp4, hp5⟩ := hv m1
          have l2 : q.2 < 1000 := by have := qTw_lt hw (k := q.2) (by omega); omega
          have ep : plD pl q.2 = p := by
            unfold plD
            rw [hp1]
            rfl
          have e0 : qRm T pl (2, zi (q.2 : Int)) = zmo (2, zi (p : Int)) := by
            unfold qRm qRo
            rw [if_pos (Or.inl rfl)]
            show zmo (2, zi (plD pl (zi (q.2 : Int)).toNatClampNeg : Int)) = _
            rw [zi_clk l2, ep]
          rw [e0, hp2]
          unfold zmo
          rw [if_pos rfl]
          rcases hc with ⟨c1, c2⟩ | ⟨c1, c2⟩ | ⟨c1, c2⟩
          · have b := hp3 c1
            rw [show (2, zi (p : Int)).2.toNatClampNeg = p from zi_clk (by omega), if_pos b, c2, Nat.mod_eq_of_lt b]
          · have b := hp4 c1
            rw [show (2, zi (p : Int)).2.toNatClampNeg = p from zi_clk (by omega), if_neg (by omega), if_pos b.2, c2, show p % 6 = p - 6 by omega]
          · have b := hp5 c1
            rw [show (2, zi (p : Int)).2.toNatClampNeg = p from zi_clk (by omega), if_neg (by omega), if_neg (by omega), c2, show p % 6 = p - 12 by omega]
      rw [el]
      exact qmN_of z2 f1 (zfm_refl _)
/-- deeper: the token is taken -/
theorem s_153 (hw : qTw T) (hs : qMx T tb mn ct I0 J0 k dp a I J) (hn : k < T.2.2.2) (hdp : dp ≤ 8) (Hf : dp = 8 → (1 ≤ bc ∧ 8 ≤ bs) ∧ P (.inr (3, 1, zi (T.2.1 k : Int))) I J D) (Hk : dp < 8 → ∀ I', I' 28 24 = zi ((k + 1 : Nat) : Int) → I' 28 27 = zi ((dp + 1 : Nat) : Int) → nfr I I' → P (.inl none) I' J D) : zz RO (d + 1) 153 [.ref 28] I J D bc bs P := by
  have e8 : I 28 27 = 8 ↔ dp = 8 := by
    rw [hs.2.2.2.2.1, show (8 : Int32) = zi ((8 : Nat) : Int) from rfl, zi_eq (by omega) (by omega)]
    omega
  refine w_153 ⟨fun q => ?_, fun q => ?_⟩
  · rw [hs.2.2.2.2.1, hs.2.1, zi_succ, zi_succ]
    exact Hk (by
      have : ¬ dp = 8 := fun z => q (e8.mpr z)
      omega) _ (zu_s _ _ _ _) (by rw [zu_n _ _ (by omega), zu_s]) (zfm_z (zfm_z (zfm_refl _) _ _ (by decide)) _ _ (by decide))
  · have c1 : dp = 8 := by
      by_cases z : dp = 8
      · exact z
      · exact absurd (fun w => z (e8.mp w)) q
    obtain ⟨b1, b2⟩ := Hf c1
    refine ⟨b1, n_in hw hs.2.1 hn, ?_⟩
    rw [n_pl hs.1 hs.2.1 hw hn]
    exact b2
/-- a minus in front, not, die -/
theorem s_un {f code : Nat} {x : Int32} {r : Nat ⊕ (Nat × List zOp)} (hw : qTw T) (hc : T.1 k = 43 ∧ code = 441 ∨ T.1 k = 35 ∧ code = 440 ∨ T.1 k = 27 ∧ code = 442) (hx : x = 0 ↔ T.1 k = 27 ∧ ct = 0) (ih5 : mA RO T E pl tb mn ct I0 J0 f 5)
    (h : (if dp < 8 then pB (pE T.1 f 5 (dp + 1) (k + 1)) (fun k1 o => pO k1 (o ++ [(if T.1 k = 43 then 52 else T.1 k, 0)])) else pF k) = some r) (hok : mn = 1 → ∃ q, r = .inr q) (hdp : dp ≤ 8) (he : 6 * (8 - dp) + 8 ≤ d + 4) (hab : mn = 1 → a ≤ 900 + k) (hg : qGx T E mn ct pl tb k) (hn : k < T.2.2.2) (hs : qMx T tb mn ct I0 J0 k dp a I J) (H1 : qTh T P D bc bs I0 J0 (qOut E k r)) (H2 : ∀ q, qOut E k r = .inr q → ∀ I', qPx T pl mn dp a q I I' → P (.inl none) I' J D) :
    ∃ c5 s5, c5 ≤ bc ∧ s5 ≤ bs ∧ zz RO (d + 4) 150 [.ref 28, .int x, .int 6, .int (I 32 ((I 28 24).toNatClampNeg))] I J D c5 s5 (zNv P fun I5 J5 D5 => (∃ c6 s6, c6 ≤ (bc - c5) ∧ s6 ≤ (bs - s5) ∧ zz RO (d + 4) 153 [.ref 28] I5 J5 D5 c6 s6 (zNv P fun I6 J6 D6 => (∃ c7 s7, c7 ≤ ((bc - c5) - c6) ∧ s7 ≤ ((bs - s5) - s6) ∧ zz RO (d + 4) 162 [.ref 28] I6 J6 D6 c7 s7 (zNv P fun I7 J7 D7 => (zz RO (d + 4) 155 [.ref 28, .int (zi (code : Int))] (zu I7 28 27 ((I7 28 27) - 1)) J7 D7 0 0 (zNv P fun I8 J8 D8 => P (.inl none) I8 J8 D8))))))) := by
  have hN := hw.2.1
  have hxk : xs (T.1 k) := by
    unfold xs
    omega
  have hlt := qTw_lt hw (k := k) (by omega)
  have tk := tks_one (s := T.1) (ok := ys) (k := k) (Or.inl hxk)
  have g1 := qGx_step hg tk
  have pk : dp < 8 → k + 1 ≤ qPos r := fun d8 => by
    rw [if_pos d8] at h
    obtain ⟨y, hy, y1, y2⟩ := pB_cases h
    have py := pE_pos hw hy (by omega) (by omega)
    cases y with
    | inl i =>
      rw [y1 i rfl]
      exact py.1
    | inr q =>
      have e5 := pO_inv (y2 q rfl)
      rw [e5]
      exact py.1
  by_cases c0 : mn = 1 ∧ T.1 k = 27 ∧ ct = 0
  · have d8 : dp < 8 := by
      by_cases z : dp < 8
      · exact z
      · rw [if_neg z] at h
        obtain ⟨q, hq⟩ := hok c0.1
        rw [pF_inv h] at hq
        cases hq
    have E6 : E k = 6 := by
      rw [qGx_E hg (Or.inl hxk), if_neg (by omega)]
      unfold eX
      rw [if_neg (fun z => by omega), if_pos c0.2]
    have hr : qOut E k r = .inl (k, 6) := by
      rw [qOut_one (by rw [E6]; decide) (by have := pk d8; omega), E6]
    have h9 := H1 k 6 hr
    refine ⟨bc, bs, Nat.le_refl _, Nat.le_refl _, ?_⟩
    refine s_150f (by rw [hs.2.2.1, c0.1]; rfl) (hx.mpr c0.2) h9.1 ?_
    rw [n_pl hs.1 hs.2.1 hw hn]
    exact h9.2 I J hs.2.2.2.2.2.2.2.1 hs.2.2.2.2.2.2.2.2
  · have E0 : E k = 0 := by
      rw [qGx_E hg (Or.inl hxk)]
      rcases hg.1 with m0 | m1
      · rw [if_pos m0]
      · rw [if_neg (by omega)]
        unfold eX
        rw [if_neg (fun z => by omega), if_neg (fun z => c0 ⟨m1, z⟩)]
    refine ⟨0, 0, Nat.zero_le _, Nat.zero_le _, ?_⟩
    refine s_150t ?_ ?_
    · rcases hg.1 with m0 | m1
      · exact Or.inl (by rw [hs.2.2.1, m0]; rfl)
      · exact Or.inr (fun z => c0 ⟨m1, hx.mp z⟩)
    · by_cases d8 : dp < 8
      · rw [if_pos d8] at h
        have pkk := pk d8
        have ek : qOut E k r = qOut E (k + 1) r := qOut_step (fun j h1 h2 => by
          have e : j = k := by omega
          rw [e]
          exact E0) ⟨by omega, pkk⟩
        obtain ⟨y, hy, y1, y2⟩ := pB_cases h
        have py := pE_pos hw hy (by omega) (by omega)
        have pxy : qPos y ≤ qPos r := by
          cases y with
          | inl i =>
            rw [y1 i rfl]
            exact Nat.le_refl _
          | inr q =>
            have e5 := pO_inv (y2 q rfl)
            rw [e5]
            exact Nat.le_refl _
        refine ⟨0, 0, Nat.zero_le _, Nat.zero_le _, ?_⟩
        refine s_153 (d := d + 3) hw hs hn hdp (fun z => absurd d8 (by omega)) (fun _ I6 e24 e27 f6 => ?_)
        have f6x : xfr I I6 := xfr_n f6
        have s6 : qMx T tb mn ct I0 J0 (k + 1) (dp + 1) a I6 J := qMx_fr hs f6x e24 e27 (by rw [f6.2 19 (by decide)]; exact hs.2.2.2.2.2.1)
        have hp1 : ¬ (T.1 (k + 1 - 1) = 25 ∨ T.1 (k + 1 - 1) = 26) := by
          rw [Nat.add_sub_cancel]
          omega
        rcases hy2 : qOut E (k + 1) y with w | q
        · have hx2 := qOut_thr hy2 y1 ⟨py.1, pxy⟩
          refine ⟨bc, bs, Nat.le_refl _, Nat.le_refl _, ?_⟩
          have H3 : qTh T P D bc bs I0 J0 (qOut E (k + 1) y) := qTh_to H1 (ek.trans hx2) hy2
          exact ih5 hy (hok_sub y1 hok) (by omega) (by omega) (by omega) (fun z => by have := hab z; omega) g1 hp1 s6 H3 (fun q hq => absurd (hy2.symm.trans hq) (fun z => by cases z))
        · obtain ⟨e2, e3⟩ := qOut_go hy2 ⟨py.1, pxy⟩
          subst e2
          have a1 := pE_ok (k2 := q.1) (o := q.2) hy (by omega)
          have l1 := eml_bd (T := T) (pl := pl) (mn := mn) a1.1.2.1
          have a0 := a1.1.1
          have pq : q.1 < T.2.2.2 := py.2
          refine ⟨0, 0, Nat.zero_le _, Nat.zero_le _, ?_⟩
          have H3 : qTh T P D 0 0 I0 J0 (qOut E (k + 1) (Sum.inr q)) := qTh_no hy2
          refine ih5 hy (hok_sub y1 hok) (by omega) (by omega) (by omega) (fun z => by have := hab z; omega) g1 hp1 s6 H3 (fun q9 hq9 I7 z7 => ?_)
          have e9 : q = q9 := by
            have := hy2.symm.trans hq9
            cases this
            rfl
          subst e9
          have s7 := qPx_st s6 z7
          have e27b : I7 28 27 - 1 = zi (dp : Int) := by
            rw [z7.2.2.1, show (1 : Int32) = zi 1 from rfl, zi_sub]
            congr 1
            omega
          show zz RO (d + 4) 155 [.ref 28, .int (zi (code : Int))] (zu I7 28 27 ((I7 28 27) - 1)) J D 0 0 _
          rw [e27b]
          have f78 : nfr I7 (zu I7 28 27 (zi (dp : Int))) := zfm_z (zfm_refl _) _ _ (by decide)
          have s8 : qMx T tb mn ct I0 J0 q.1 dp (a + (eml mn (q.2.map (qRm T pl))).length) (zu I7 28 27 (zi (dp : Int))) J := qMx_fr s7 (xfr_n f78) (by rw [zu_n _ _ (by omega)]; exact s7.2.1) (zu_s _ _ _ _) (by rw [zu_n _ _ (by omega)]; exact s7.2.2.2.2.2.1)
          have hq : qRm T pl (if T.1 k = 43 then 52 else T.1 k, 0) = (code, 0, 0) := by
            rcases hc with ⟨c1, c2⟩ | ⟨c1, c2⟩ | ⟨c1, c2⟩
            · rw [if_pos c1, c2]
              rfl
            · rw [if_neg (by omega), c1, c2]
              rfl
            · rw [if_neg (by omega), c1, c2]
              rfl
          refine s_155 (d := d + 2) s8.2.2.1 hg.1 s8.2.2.2.2.2.1 (fun z => by have := hab z; omega) (fun I9 z9 f9 => ?_)
          have e5 := pO_inv (y2 q rfl)
          have hr : qOut E k r = .inr (q.1, q.2 ++ [(if T.1 k = 43 then 52 else T.1 k, 0)]) := by
            rw [ek, e3, e5]
            exact qOut_r (by rw [Nat.sub_self]; rfl)
          have z9' : qmN (a + (eml mn (q.2.map (qRm T pl))).length) (eml mn ([((if T.1 k = 43 then 52 else T.1 k : Nat), (0 : Int32))].map (qRm T pl))) (zu I7 28 27 (zi (dp : Int))) I9 := by
            rw [← eml_one hq]
            exact z9
          refine H2 _ hr I9 ⟨zfm_trans f6x (zfm_trans z7.1 (zfm_trans (xfr_n f78) (zfm_x1 f9))), ?_, ?_, ?_⟩
          · rw [f9.2 24 (by decide)]
            exact s8.2.1
          · rw [f9.2 27 (by decide)]
            exact s8.2.2.2.2.1
          · show qmN a (eml mn ((q.2 ++ [((if T.1 k = 43 then 52 else T.1 k : Nat), (0 : Int32))]).map (qRm T pl))) I I9
            rw [List.map_append, eml_app]
            exact qmN_app (qmN_of z7.2.2.2 f6 f78) z9'
      · rw [if_neg d8] at h
        have e5 := pF_inv h
        have hr : qOut E k r = .inl (k, 1) := by
          rw [e5]
          exact qOut_here
        have h9 := H1 k 1 hr
        refine ⟨bc, bs, Nat.le_refl _, Nat.le_refl _, ?_⟩
        exact s_153 (d := d + 3) hw hs hn hdp (fun _ => ⟨h9.1, h9.2 I J hs.2.2.2.2.2.2.2.1 hs.2.2.2.2.2.2.2.2⟩) (fun z => absurd z d8)
end MForm5

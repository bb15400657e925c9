/-! ===== the reference's reading: if ===== -/
def qLa (mn b : Nat) (v : Int32) (I I' : zI) : Prop := (mn = 0 → I' = I) ∧ (mn = 1 → I' = zu I 44 b v)
section MForm11
variable {RO : zRo} {d : Nat} {P : zP} {I : zI} {J : zJ} {D : zD} {bc bs : Nat} {T : qTk} {E : Nat → Nat} {pl : Nat → Option Nat} {tb : List (Int64 × Nat × Nat)} {mn ct k dp a j c : Nat} {I0 : zI} {J0 : zJ}
theorem qLa_fr {b : Nat} {v : Int32} {I' : zI} (hm : mn = 0 ∨ mn = 1) (h : qLa mn b v I I') : zfm [] [44] I I' := by
  rcases hm with m | m
  · rw [h.1 m]
    exact zfm_refl _
  · rw [h.2 m]
    exact zfm_zu (zfm_refl _) _ _ (by decide) (by decide)
theorem emlN_land {c op b : Nat} {A B : List zM3} {x y z : Int32} {I I1 I2 : zI} (hm : mn = 0 ∨ mn = 1) (h : qmN c (eml mn (A ++ (op, y, z) :: B)) I I1) (hb : mn = 1 → b = c + A.length) (h2 : qLa mn b x I1 I2) : qmN c (eml mn (A ++ (op, x, z) :: B)) I I2 := by
  rcases hm with m | m
  · rw [eml0 m] at h ⊢
    rw [h2.1 m]
    exact h
  · rw [eml1 m] at h ⊢
    rw [h2.2 m, hb m]
    exact qmN_land h
theorem emz {α : Type} {f : α → Nat → List zM3} {t : List α} {X : List zM3} : eml mn (zcam f t (a + (eml mn X).length)) = eml mn (zcam f t (a + X.length)) := by
  by_cases h : mn = 1
  · rw [eml1 (L := X) h]
  · unfold eml
    rw [if_neg h, if_neg h]
theorem s_xe {l : Int32} {b : Nat} (hm : mn = 0 ∨ mn = 1) (h25 : I 28 25 = zi (mn : Int)) (hl : mn = 1 → l = zi (b : Int) ∧ b < 1350) (K : ∀ I5, qLa mn b (I 28 19) I I5 → ∃ c1 s1, c1 ≤ bc ∧ s1 ≤ bs ∧ zz RO d 151 [.ref 28, .int 11] I5 J D c1 s1 (zNv P fun I1 J1 D1 => P (.inl none) I1 J1 D1)) : tXE RO d P l I J D bc bs := by
  rcases hm with m | m
  · subst m
    exact ⟨fun _ => K I ⟨fun _ => rfl, fun z => absurd z (by decide)⟩, fun q => absurd (by rw [h25]; rfl) q⟩
  · subst m
    obtain ⟨e1, e2⟩ := hl rfl
    have cl : l.toNatClampNeg = b := by rw [e1, zi_cl (by omega) (by omega)]; omega
    refine ⟨fun q => absurd q (by rw [h25]; decide), fun _ => ⟨by rw [e1]; exact zi_in (by omega) (by omega) (by omega), ?_⟩⟩
    rw [cl]
    exact K _ ⟨fun z => absurd z (by decide), fun _ => rfl⟩
/-- the end behind an if: the token is there -/
theorem s_xend {I5 : zI} {b : Nat} {v : Int32} (hw : qTw T) (hm : mn = 0 ∨ mn = 1) (hs : qMw T tb mn 1 I0 J0 k a I J) (hn : k < T.2.2.2) (hk : T.1 k = 15) (h5 : qLa mn b v I I5) (K : ∀ I', I' 28 24 = zi ((k + 1 : Nat) : Int) → zfm [24] [] I5 I' → P (.inl none) I' J D) : ∃ c1 s1, c1 ≤ bc ∧ s1 ≤ bs ∧ zz RO (d + 2) 151 [.ref 28, .int 11] I5 J D c1 s1 (zNv P fun I1 J1 D1 => P (.inl none) I1 J1 D1) := by
  have f5 := qLa_fr hm h5
  have s5 : qMw T tb mn 1 I0 J0 k a I5 J := qMw_fr hs (zfm_sub f5 (by simp) (by simp)) (by rw [f5.2 24 (by decide)]; exact hs.2.1) (by rw [f5.2 19 (by decide)]; exact hs.2.2.2.2.1)
  exact ⟨0, 0, Nat.zero_le _, Nat.zero_le _, s_151t (d := d) (a := 15) hw s5.1 s5.2.1 hn (by omega) hk K⟩
theorem s_174 {f n nest : Nat} {r : Nat ⊕ (Nat × zSt (n + 1))} (hw : qTw T) (ihL : mLo RO T E pl tb mn I0 J0 f) (h : pIf T.1 n (pS T.1 f n) k = some r) (h18 : T.1 k = 18) (hok : mn = 1 → ∃ q, r = .inr q) (hne : nest + n = 4) (he : 2 * n + 66 ≤ d + 1) (hn : k + 1 < T.2.2.2) (hab : mn = 1 → a ≤ 3 * k) (hg : qGx T E mn 1 pl tb (k + 1)) (hs : qMw T tb mn 1 I0 J0 (k + 1) a I J) (h28 : I 28 28 = zi (nest : Int)) (H1 : qTh T P D bc bs I0 J0 (qOut E (k + 1) r))
    (H2 : ∀ q, qOut E (k + 1) r = .inr q → ∀ I', sfr I I' → I' 28 24 = zi (q.1 : Int) → I' 28 28 = zi (nest : Int) → qmN a (eml mn (zmc (n + 1) (qRs T pl (n + 1) q.2) a)) I I' → P (.inl none) I' J D) : zz RO (d + 2) 174 [.ref 28] I J D bc bs P := by
  have hN := hw.2.1
  unfold pIf at h
  obtain ⟨y, hy, y1, y2⟩ := pB_cases h
  obtain ⟨d, rfl⟩ : ∃ d', d = d' + 62 := ⟨d - 62, by omega⟩
  have py := pEx_pos hw hy hn
  have pr : ∀ q, y = .inr q → q.1 ≤ qPos r ∧ qPos r < T.2.2.2 := fun q hq => by
    have h2 := y2 q hq
    have pq : q.1 < T.2.2.2 := by
      rw [hq] at py
      exact py.2
    by_cases z : T.1 q.1 = 19
    · rw [if_pos z] at h2
      have l1 := qTw_lt hw (k := q.1) (by omega)
      have := pB_pos (k := q.1 + 1) h2 (fun y hy => pS_pos hw f l1 hy) (fun k2 t h3 h4 x hx => by
        by_cases z2 : T.1 k2 = 20
        · rw [if_pos z2] at hx
          have l2 := qTw_lt hw (k := k2) (by omega)
          have := pB_pos (k := k2 + 1) hx (fun y hy => pS_pos hw f l2 hy) (fun k3 e h5 h6 x hx => pK_pos hw (by omega) h6 hx)
          omega
        · rw [if_neg z2] at hx
          exact pK_pos hw (by omega) h4 hx)
      omega
    · rw [if_neg z] at h2
      rw [pF_inv h2]
      show q.1 ≤ q.1 ∧ q.1 < _
      omega
  have pxy : qPos y ≤ qPos r := qPos_le y1 (fun q hq => (pr q hq).1)
  refine w_174 (d := d + 62) ?_
  have hp1 : ¬ (T.1 (k + 1 - 1) = 25 ∨ T.1 (k + 1 - 1) = 26) := by
    rw [Nat.add_sub_cancel]
    omega
  rcases hy2 : qOut E (k + 1) y with w | q
  · have hx := qOut_thr hy2 y1 ⟨py.1, pxy⟩
    refine ⟨bc, bs, Nat.le_refl _, Nat.le_refl _, ?_⟩
    have H3 : qTh T P D bc bs I0 J0 (qOut E (k + 1) y) := qTh_to H1 hx hy2
    exact s_156 (d := d) hw hy (hok_sub y1 hok) hn (fun z => by have := hab z; omega) hg hp1 hs H3 (fun q hq => absurd (hy2.symm.trans hq) (fun z => by cases z))
  · obtain ⟨e1, e3⟩ := qOut_go hy2 ⟨py.1, pxy⟩
    subst e1
    have a1 := tks_ex (k2 := q.1) (o := q.2) hy
    have pq : q.1 < T.2.2.2 := py.2
    have h2 := y2 q rfl
    have g1 := qGx_step hg a1.1
    refine ⟨0, 0, Nat.zero_le _, Nat.zero_le _, ?_⟩
    have H3 : qTh T P D 0 0 I0 J0 (qOut E (k + 1) (Sum.inr q)) := qTh_no hy2
    refine s_156 (d := d) hw hy (hok_sub y1 hok) hn (fun z => by have := hab z; omega) hg hp1 hs H3 (fun q9 hq9 v1 I1 hv1 f1 e24 z1 => ?_)
    have e9 : q = q9 := by
      have := hy2.symm.trans hq9
      cases this
      rfl
    subst e9
    have s1 := qMw_fr hs (sfr_x f1) e24 z1.1
    have lo : (zmw (q.2.map (qRo T pl)) a).length = q.2.length + 2 := by rw [zmw_len, List.length_map]
    have lo2 : (eml mn (zmw (q.2.map (qRo T pl)) a)).length ≤ q.2.length + 2 := by
      have := eml_len (mn := mn) (A := zmw (q.2.map (qRo T pl)) a)
      omega
    have e281 : I1 28 28 = zi (nest : Int) := by rw [f1.2 28 (by decide)]; exact h28
    by_cases c2 : T.1 q.1 = 19
    · rw [if_pos c2] at h2
      have lq := qTw_lt hw (k := q.1) (by omega)
      refine ⟨0, 0, Nat.zero_le _, Nat.zero_le _, ?_⟩
      refine s_151t (d := d + 61) (a := 19) hw s1.1 s1.2.1 pq (by omega) c2 (fun I2 e242 f2 => ?_)
      have f2s : sfr I1 I2 := zfm_sub f2 (by simp) (by simp)
      have s2 := qMw_fr s1 f2s e242 (a2 := a + (eml mn (zmw (q.2.map (qRo T pl)) a)).length) (by rw [f2.2 19 (by decide)]; exact s1.2.2.2.2.1)
      have tk9 : tks T.1 ys q.1 (q.1 + 1) := tks_one (Or.inr (Or.inl (by omega)))
      have E9 : E q.1 = 0 := qGx_0 g1 (Or.inr (Or.inl (by omega))) (by omega) (fun z => by omega)
      have g2 := qGx_step g1 tk9
      refine s_154 (d := d + 62) (x := (300, 0, v1)) s2.2.2.1 hg.1 s2.2.2.2.2.1 (fun z => by have := hab z; omega) (fun v3 I3 hv3 z3 f3 => ?_)
      have z3' : qmN (a + (eml mn (zmw (q.2.map (qRo T pl)) a)).length) (eml mn [(300, 0, v1)]) I2 I3 := z3
      have z03 : qmN a (eml mn (zmw (q.2.map (qRo T pl)) a ++ [(300, 0, v1)])) I I3 := by
        rw [eml_app]
        exact qmN_app (qmN_of z1 (zfm_refl _) (zfm_n1 f2)) z3'
      have f03 : sfr I I3 := zfm_trans (sfr_x f1) (zfm_trans f2s (zfm_sub f3 (by simp) (by simp)))
      have s3 := qMw_fr hs f03 (k2 := q.1 + 1) (by rw [f3.2 24 (by decide)]; exact e242) z03.1
      have e283 : I3 28 28 = zi (nest : Int) := by rw [f3.2 28 (by decide), f2.2 28 (by decide)]; exact e281
      have lo3 : (zmw (q.2.map (qRo T pl)) a ++ [((300 : Nat), (0 : Int32), v1)]).length = q.2.length + 3 := by rw [List.length_append, List.length_singleton, lo]
      have lo4 : (eml mn (zmw (q.2.map (qRo T pl)) a ++ [((300 : Nat), (0 : Int32), v1)])).length ≤ q.2.length + 3 := by
        have := eml_len (mn := mn) (A := zmw (q.2.map (qRo T pl)) a ++ [((300 : Nat), (0 : Int32), v1)])
        omega
      have er9 : qOut E (k + 1) r = qOut E (q.1 + 1) r := by
        rw [e3]
        refine qOut_step (fun j h1 h2 => ?_) ⟨by omega, ?_⟩
        · rw [show j = q.1 by omega]
          exact E9
        · have := pB_pos (k := q.1 + 1) h2 (fun y hy => pS_pos hw f lq hy) (fun k2 t h3 h4 x hx => by
            by_cases z2 : T.1 k2 = 20
            · rw [if_pos z2] at hx
              have l2 := qTw_lt hw (k := k2) (by omega)
              have := pB_pos (k := k2 + 1) hx (fun y hy => pS_pos hw f l2 hy) (fun k3 e h5 h6 x hx => pK_pos hw (by omega) h6 hx)
              omega
            · rw [if_neg z2] at hx
              exact pK_pos hw (by omega) h4 hx)
          exact this.1
      rw [er9] at H1 H2
      obtain ⟨y3, hy3, y31, y32⟩ := pB_cases h2
      have hv3b : mn = 1 → v3 = zi ((a + q.2.length + 2 : Nat) : Int) := fun z => by
        rw [hv3 z, eml1 z, lo]
        rfl
      show zw RO (d + 63) 174 P 21 [(0, .ref 28), (1, .int v1), (2, .int v3)] [] I3 J D bc bs
      refine ihL (st := fun c => c = 15 ∨ c = 20) (e := d + 63) (LOOP := fun I J D bc bs => zw RO (d + 63) 174 P 21 [(0, .ref 28), (1, .int v1), (2, .int v3)] [] I J D bc bs) (EXIT := tX174 RO (d + 63) P v1 v3) (x := r) hy3 (fun I bc bs k a hs hn hE hS => ?_) (fun c hb z => by unfold bst at hb; omega) y31 (fun q3 hq3 z => ?_) (fun q3 hq3 z => ?_) hok hne (by omega) lq (fun z => by have := hab z; omega) g2 s3 e283 H1 (fun q3 hq3 z ek I4 f4 e244 e284 z4 => ?_)
      · obtain ⟨o, h1, h2⟩ := n_is (b := 15) hw hs hn (by omega)
        obtain ⟨o2, h3, h4⟩ := n_is (b := 20) hw hs hn (by omega)
        exact wl_174_21 (d := d + 62) ⟨o, fun q => hE (Or.inl (h2 q)), fun q => ⟨o2, fun q2 => hE (Or.inr (h4 q2)), fun q2 => hS (fun z => z.elim (fun z => q (fun w => h1 w z)) (fun z => q2 (fun w => h3 w z)))⟩⟩
      · have h9 := y32 q3 hq3
        rw [if_neg (fun w => z (Or.inr w)), if_neg (fun w => z (Or.inl w))] at h9
        exact pF_inv h9
      · have h9 := y32 q3 hq3
        have p3 := pS_pos hw f lq hy3
        rw [hq3] at p3
        have p32 : q3.1 < T.2.2.2 := p3.2
        by_cases z2 : T.1 q3.1 = 20
        · rw [if_pos z2] at h9
          have l2 := qTw_lt hw (k := q3.1) (by omega)
          have := pB_pos (k := q3.1 + 1) h9 (fun y hy => pS_pos hw f l2 hy) (fun k3 e h5 h6 x hx => pK_pos hw (by omega) h6 hx)
          omega
        · rw [if_neg z2, if_pos (by omega)] at h9
          rw [pO_inv h9]
          show q3.1 ≤ q3.1 + 1
          omega
      · have h9 := y32 q3 hq3
        subst hq3
        have a3 := pS_ok f (k2 := q3.1) (l := q3.2) hy3
        have a30 := a3.1.1
        have p32 : q3.1 < T.2.2.2 := (pS_pos hw f lq hy3).2
        have g3 := qGx_step g2 a3.1
        have l9 := pS_ln (T := T) (pl := pl) f (k2 := q3.1) (l := q3.2) hy3 (a + q.2.length + 3)
        have z4' : qmN (a + (eml mn (zmw (q.2.map (qRo T pl)) a ++ [((300 : Nat), (0 : Int32), v1)])).length) (eml mn (zcam (zmc n) (q3.2.map (qRs T pl n)) (a + q.2.length + 3))) I3 I4 := by
          have z5 := z4
          rw [emz, lo3, ← Nat.add_assoc] at z5
          exact z5
        have z04 : qmN a (eml mn (zmw (q.2.map (qRo T pl)) a ++ (300, 0, v1) :: zcam (zmc n) (q3.2.map (qRs T pl n)) (a + q.2.length + 3))) I I4 := by
          have := qmN_app z03 z4'
          rw [← eml_app, List.append_assoc] at this
          exact this
        have f04 : sfr I I4 := zfm_trans f03 f4
        have s4 := qMw_fr hs f04 e244 z04.1
        have ll4 : (zmw (q.2.map (qRo T pl)) a ++ (300, (0 : Int32), v1) :: zcam (zmc n) (q3.2.map (qRs T pl n)) (a + q.2.length + 3)).length = q.2.length + 3 + (zcam (zmc n) (q3.2.map (qRs T pl n)) (a + q.2.length + 3)).length := by
          rw [List.length_append, List.length_cons, lo]
          omega
        have e194 : mn = 1 → I4 28 19 = zi ((a + q.2.length + 3 + (zcam (zmc n) (q3.2.map (qRs T pl n)) (a + q.2.length + 3)).length : Nat) : Int) := fun z => by
          have := z04.1
          rw [eml1 z, ll4] at this
          rw [this]
          congr 2
          omega
        rw [ek] at H1 H2
        by_cases c5 : T.1 q3.1 = 20
        · rw [if_pos c5] at h9
          have l2 := qTw_lt hw (k := q3.1) (by omega)
          refine s_152t (d := d + 61) (a := 20) hw s4.1 s4.2.1 p32 (by omega) c5 (fun I5 e245 f5 => ?_)
          refine ⟨fun q => absurd q (by decide), fun _ => ?_⟩
          have f5s : sfr I4 I5 := zfm_sub f5 (by simp) (by simp)
          have ll5 : (eml mn (zmw (q.2.map (qRo T pl)) a ++ (300, (0 : Int32), v1) :: zcam (zmc n) (q3.2.map (qRs T pl n)) (a + q.2.length + 3))).length ≤ q.2.length + 3 + (zcam (zmc n) (q3.2.map (qRs T pl n)) (a + q.2.length + 3)).length := by
            have := eml_len (mn := mn) (A := zmw (q.2.map (qRo T pl)) a ++ (300, (0 : Int32), v1) :: zcam (zmc n) (q3.2.map (qRs T pl n)) (a + q.2.length + 3))
            omega
          have s5 := qMw_fr s4 f5s e245 (a2 := a + (eml mn (zmw (q.2.map (qRo T pl)) a ++ (300, (0 : Int32), v1) :: zcam (zmc n) (q3.2.map (qRs T pl n)) (a + q.2.length + 3))).length) (by rw [f5.2 19 (by decide)]; exact s4.2.2.2.2.1)
          refine s_154 (d := d + 62) (x := (301, 0, 0)) s5.2.2.1 hg.1 s5.2.2.2.2.1 (fun z => by have := hab z; omega) (fun v6 I6 hv6 z6 f6 => ?_)
          have z06 : qmN a (eml mn (zmw (q.2.map (qRo T pl)) a ++ (300, 0, v1) :: (zcam (zmc n) (q3.2.map (qRs T pl n)) (a + q.2.length + 3) ++ [(301, 0, 0)]))) I I6 := by
            have z6' : qmN (a + (eml mn (zmw (q.2.map (qRo T pl)) a ++ (300, (0 : Int32), v1) :: zcam (zmc n) (q3.2.map (qRs T pl n)) (a + q.2.length + 3))).length) (eml mn [(301, 0, 0)]) I5 I6 := z6
            have := qmN_app (qmN_of z04 (zfm_refl _) (zfm_n1 f5)) z6'
            rw [← eml_app, List.append_assoc, List.cons_append] at this
            exact this
          have f06 : sfr I I6 := zfm_trans f04 (zfm_trans f5s (zfm_sub f6 (by simp) (by simp)))
          have hv6b : mn = 1 → v6 = zi ((a + q.2.length + 3 + (zcam (zmc n) (q3.2.map (qRs T pl n)) (a + q.2.length + 3)).length : Nat) : Int) := fun z => by
            rw [hv6 z, eml1 z, ll4]
            congr 2
            omega
          have ll6 : (zmw (q.2.map (qRo T pl)) a ++ (300, (0 : Int32), v1) :: (zcam (zmc n) (q3.2.map (qRs T pl n)) (a + q.2.length + 3) ++ [((301 : Nat), (0 : Int32), (0 : Int32))])).length = q.2.length + 4 + (zcam (zmc n) (q3.2.map (qRs T pl n)) (a + q.2.length + 3)).length := by
            rw [List.length_append, List.length_cons, List.length_append, List.length_singleton, lo]
            omega
          have m6 : I6 28 25 = zi (mn : Int) := by rw [f06.2 25 (by decide)]; exact hs.2.2.1
          have e196 : mn = 1 → I6 28 19 = zi ((a + q.2.length + 4 + (zcam (zmc n) (q3.2.map (qRs T pl n)) (a + q.2.length + 3)).length : Nat) : Int) := fun z => by
            have := z06.1
            rw [eml1 z, ll6] at this
            rw [this]
            congr 2
            omega
          -- the second loop, behind the landing of the test
          have main : ∀ I7, qLa mn (a + q.2.length + 2) (I6 28 19) I6 I7 → zw RO (d + 63) 174 P 82 [(0, .ref 28), (1, .int v1), (2, .int v3), (3, .int v6)] [] I7 J D bc bs := by
            intro I7 la
            have f67 := qLa_fr hg.1 la
            have f07 : sfr I I7 := zfm_trans f06 (zfm_sub f67 (by simp) (by simp))
            have z07 := emlN_land (x := I6 28 19) hg.1 z06 (b := a + q.2.length + 2) (fun _ => by rw [lo]; omega) la
            have ll7 : (zmw (q.2.map (qRo T pl)) a ++ (300, I6 28 19, v1) :: (zcam (zmc n) (q3.2.map (qRs T pl n)) (a + q.2.length + 3) ++ [((301 : Nat), (0 : Int32), (0 : Int32))])).length = q.2.length + 4 + (zcam (zmc n) (q3.2.map (qRs T pl n)) (a + q.2.length + 3)).length := by
              rw [List.length_append, List.length_cons, List.length_append, List.length_singleton, lo]
              omega
            have s7 := qMw_fr hs f07 (k2 := q3.1 + 1) (by rw [f67.2 24 (by decide), f6.2 24 (by decide)]; exact e245) z07.1
            have e287 : I7 28 28 = zi (nest : Int) := by rw [f67.2 28 (by decide), f6.2 28 (by decide), f5.2 28 (by decide)]; exact e284
            obtain ⟨y7, hy7, y71, y72⟩ := pB_cases h9
            have E20 : E q3.1 = 0 := qGx_0 g3 (Or.inr (Or.inl (by omega))) (by omega) (fun z => by omega)
            have g7 := qGx_step g3 (tks_one (k := q3.1) (Or.inr (Or.inl (by omega))))
            have pr7 := pB_pos (k := q3.1 + 1) h9 (fun y hy => pS_pos hw f l2 hy) (fun k3 e h5 h6 x hx => pK_pos hw (by omega) h6 hx)
            have er7 : qOut E q3.1 r = qOut E (q3.1 + 1) r := qOut_step (fun j h1 h2 => by
              rw [show j = q3.1 by omega]
              exact E20) ⟨by omega, pr7.1⟩
            rw [er7] at H1 H2
            have ll8 : (eml mn (zmw (q.2.map (qRo T pl)) a ++ (300, I6 28 19, v1) :: (zcam (zmc n) (q3.2.map (qRs T pl n)) (a + q.2.length + 3) ++ [((301 : Nat), (0 : Int32), (0 : Int32))]))).length ≤ q.2.length + 4 + (zcam (zmc n) (q3.2.map (qRs T pl n)) (a + q.2.length + 3)).length := by
              have := eml_len (mn := mn) (A := zmw (q.2.map (qRo T pl)) a ++ (300, I6 28 19, v1) :: (zcam (zmc n) (q3.2.map (qRs T pl n)) (a + q.2.length + 3) ++ [((301 : Nat), (0 : Int32), (0 : Int32))]))
              omega
            refine ihL (st := fun c => c = 15) (e := d + 63) (LOOP := fun I J D bc bs => zw RO (d + 63) 174 P 82 [(0, .ref 28), (1, .int v1), (2, .int v3), (3, .int v6)] [] I J D bc bs) (EXIT := tXE RO (d + 63) P v6) (x := r) hy7 (fun I bc bs k a hs hn hE hS => ?_) (fun c hb z => by unfold bst at hb; omega) y71 (fun q8 hq8 z => ?_) (fun q8 hq8 z => ?_) hok hne (by omega) l2 (fun z => by have := hab z; omega) g7 s7 e287 H1 (fun q8 hq8 z ek8 I8 f8 e248 e288 z8 => ?_)
            · obtain ⟨o, h1, h2⟩ := n_is (b := 15) hw hs hn (by omega)
              exact wl_174_82 (d := d + 62) ⟨o, fun q => hE (h2 q), fun q => hS (fun z => q (fun w => h1 w z))⟩
            · have h8 := y72 q8 hq8
              rw [if_neg z] at h8
              exact pF_inv h8
            · have h8 := y72 q8 hq8
              rw [if_pos z] at h8
              rw [pO_inv h8]
              show q8.1 ≤ q8.1 + 1
              omega
            · have h8 := y72 q8 hq8
              rw [if_pos z] at h8
              have e5 := pO_inv h8
              subst hq8
              have a8 := pS_ok f (k2 := q8.1) (l := q8.2) hy7
              have p82 : q8.1 < T.2.2.2 := (pS_pos hw f l2 hy7).2
              have a80 := a8.1.1
              have g8 := qGx_step g7 a8.1
              have l89 := pS_ln (T := T) (pl := pl) f (k2 := q8.1) (l := q8.2) hy7 (a + q.2.length + 4 + (zcam (zmc n) (q3.2.map (qRs T pl n)) (a + q.2.length + 3)).length)
              have z8' : qmN (a + (eml mn (zmw (q.2.map (qRo T pl)) a ++ (300, I6 28 19, v1) :: (zcam (zmc n) (q3.2.map (qRs T pl n)) (a + q.2.length + 3) ++ [((301 : Nat), (0 : Int32), (0 : Int32))]))).length) (eml mn (zcam (zmc n) (q8.2.map (qRs T pl n)) (a + q.2.length + 4 + (zcam (zmc n) (q3.2.map (qRs T pl n)) (a + q.2.length + 3)).length))) I7 I8 := by
                have z5 := z8
                rw [emz, ll7, show a + (q.2.length + 4 + (zcam (zmc n) (q3.2.map (qRs T pl n)) (a + q.2.length + 3)).length) = a + q.2.length + 4 + (zcam (zmc n) (q3.2.map (qRs T pl n)) (a + q.2.length + 3)).length by omega] at z5
                exact z5
              have z08 : qmN a (eml mn ((zmw (q.2.map (qRo T pl)) a ++ (300, I6 28 19, v1) :: zcam (zmc n) (q3.2.map (qRs T pl n)) (a + q.2.length + 3)) ++ (301, 0, 0) :: zcam (zmc n) (q8.2.map (qRs T pl n)) (a + q.2.length + 4 + (zcam (zmc n) (q3.2.map (qRs T pl n)) (a + q.2.length + 3)).length))) I I8 := by
                have := qmN_app z07 z8'
                rw [← eml_app, List.append_assoc, List.cons_append, List.append_assoc] at this
                rw [List.append_assoc, List.cons_append]
                exact this
              have f08 : sfr I I8 := zfm_trans f07 f8
              have s8 := qMw_fr hs f08 e248 z08.1
              have hr : qOut E (q3.1 + 1) r = .inr (q8.1 + 1, .inr (.inl (q.2, q3.2, some q8.2))) := by
                rw [ek8, e5]
                exact qOut_end g8 (Or.inl z) rfl
              have ll9 : (zmw (q.2.map (qRo T pl)) a ++ (300, I6 28 19, v1) :: zcam (zmc n) (q3.2.map (qRs T pl n)) (a + q.2.length + 3)).length = q.2.length + 3 + (zcam (zmc n) (q3.2.map (qRs T pl n)) (a + q.2.length + 3)).length := by
                rw [List.length_append, List.length_cons, lo]
                omega
              refine s_xe (b := a + q.2.length + 3 + (zcam (zmc n) (q3.2.map (qRs T pl n)) (a + q.2.length + 3)).length) hg.1 s8.2.2.1 (fun z => ⟨hv6b z, by have := hab z; omega⟩) (fun I9 la9 => ?_)
              refine s_xend (d := d + 61) hw hg.1 s8 p82 z la9 (fun I10 e2410 f10 => ?_)
              have f89 := qLa_fr hg.1 la9
              have z09 := emlN_land (x := I8 28 19) hg.1 z08 (b := a + q.2.length + 3 + (zcam (zmc n) (q3.2.map (qRs T pl n)) (a + q.2.length + 3)).length) (fun _ => by rw [ll9]; omega) la9
              refine H2 _ hr I10 (zfm_trans f08 (zfm_trans (zfm_sub f89 (by simp) (by simp)) (zfm_sub f10 (by simp) (by simp)))) e2410 (by rw [f10.2 28 (by decide), f89.2 28 (by decide)]; exact e288) ?_
              have z10 := qmN_of z09 (zfm_refl _) (zfm_n1 f10)
              have el : eml mn (zmc (n + 1) (qRs T pl (n + 1) (.inr (.inl (q.2, q3.2, some q8.2)))) a) = eml mn ((zmw (q.2.map (qRo T pl)) a ++ (300, I6 28 19, v1) :: zcam (zmc n) (q3.2.map (qRs T pl n)) (a + q.2.length + 3)) ++ (301, I8 28 19, 0) :: zcam (zmc n) (q8.2.map (qRs T pl n)) (a + q.2.length + 4 + (zcam (zmc n) (q3.2.map (qRs T pl n)) (a + q.2.length + 3)).length)) := by
                rcases hg.1 with m0 | m1
                · rw [eml0 m0, eml0 m0]
                · rw [eml1 m1, eml1 m1]
                  have e198 : I8 28 19 = zi ((a + q.2.length + 4 + (zcam (zmc n) (q3.2.map (qRs T pl n)) (a + q.2.length + 3)).length + (zcam (zmc n) (q8.2.map (qRs T pl n)) (a + q.2.length + 4 + (zcam (zmc n) (q3.2.map (qRs T pl n)) (a + q.2.length + 3)).length)).length : Nat) : Int) := by
                    have := z08.1
                    rw [eml1 m1, List.length_append, List.length_cons, ll9] at this
                    rw [this]
                    congr 2
                    omega
                  show zmw (q.2.map (qRo T pl)) a ++ [(300, zi (a + (q.2.map (qRo T pl)).length + 4 + (zcam (zmc n) (q3.2.map (qRs T pl n)) (a + (q.2.map (qRo T pl)).length + 3)).length : Nat), zi (a + 1 : Nat))] ++ zcam (zmc n) (q3.2.map (qRs T pl n)) (a + (q.2.map (qRo T pl)).length + 3) ++ [(301, zi (a + (q.2.map (qRo T pl)).length + 4 + (zcam (zmc n) (q3.2.map (qRs T pl n)) (a + (q.2.map (qRo T pl)).length + 3)).length + (zcam (zmc n) (q8.2.map (qRs T pl n)) (a + (q.2.map (qRo T pl)).length + 4 + (zcam (zmc n) (q3.2.map (qRs T pl n)) (a + (q.2.map (qRo T pl)).length + 3)).length)).length : Nat), 0)] ++ zcam (zmc n) (q8.2.map (qRs T pl n)) (a + (q.2.map (qRo T pl)).length + 4 + (zcam (zmc n) (q3.2.map (qRs T pl n)) (a + (q.2.map (qRo T pl)).length + 3)).length) = _
                  rw [List.length_map, e198, e196 m1, hv1 m1]
                  simp only [List.append_assoc, List.cons_append, List.nil_append]
              rw [el]
              exact z10
          show _ ∧ _
          rcases hg.1 with m0 | m1
          · exact ⟨fun _ => main I6 ⟨fun _ => rfl, fun z => by omega⟩, fun q9 => absurd (by rw [m6, m0]; rfl) q9⟩
          · have b3 := hab m1
            have cl3 : v3.toNatClampNeg = a + q.2.length + 2 := by rw [hv3b m1, zi_cl (by omega) (by omega)]; omega
            refine ⟨fun q9 => absurd q9 (by rw [m6, m1]; decide), fun _ => ⟨by rw [hv3b m1]; exact zi_in (by omega) (by omega) (by omega), ?_⟩⟩
            rw [cl3]
            exact main _ ⟨fun z => by omega, fun _ => rfl⟩
        · have c15 : T.1 q3.1 = 15 := by omega
          rw [if_neg c5, if_pos c15] at h9
          have e5 := pO_inv h9
          have hr : qOut E q3.1 r = .inr (q3.1 + 1, .inr (.inl (q.2, q3.2, none))) := by
            rw [e5]
            exact qOut_end g3 (Or.inl c15) rfl
          refine s_152f (d := d + 61) (a := 20) hw s4.1 s4.2.1 p32 (by omega) c5 ?_
          refine ⟨fun _ => ?_, fun q => absurd rfl q⟩
          refine s_xe (b := a + q.2.length + 2) hg.1 s4.2.2.1 (fun z => ⟨hv3b z, by have := hab z; omega⟩) (fun I9 la9 => ?_)
          refine s_xend (d := d + 61) hw hg.1 s4 p32 c15 la9 (fun I10 e2410 f10 => ?_)
          have f89 := qLa_fr hg.1 la9
          have z09 := emlN_land (x := I4 28 19) hg.1 z04 (b := a + q.2.length + 2) (fun _ => by rw [lo]; omega) la9
          refine H2 _ hr I10 (zfm_trans f04 (zfm_trans (zfm_sub f89 (by simp) (by simp)) (zfm_sub f10 (by simp) (by simp)))) e2410 (by rw [f10.2 28 (by decide), f89.2 28 (by decide)]; exact e284) ?_
          have z10 := qmN_of z09 (zfm_refl _) (zfm_n1 f10)
          have el : eml mn (zmc (n + 1) (qRs T pl (n + 1) (.inr (.inl (q.2, q3.2, none)))) a) = eml mn (zmw (q.2.map (qRo T pl)) a ++ (300, I4 28 19, v1) :: zcam (zmc n) (q3.2.map (qRs T pl n)) (a + q.2.length + 3)) := by
            rcases hg.1 with m0 | m1
            · rw [eml0 m0, eml0 m0]
            · rw [eml1 m1, eml1 m1]
              show zmw (q.2.map (qRo T pl)) a ++ [(300, zi (a + (q.2.map (qRo T pl)).length + 3 + (zcam (zmc n) (q3.2.map (qRs T pl n)) (a + (q.2.map (qRo T pl)).length + 3)).length : Nat), zi (a + 1 : Nat))] ++ zcam (zmc n) (q3.2.map (qRs T pl n)) (a + (q.2.map (qRo T pl)).length + 3) = _
              rw [List.length_map, e194 m1, hv1 m1]
              simp only [List.append_assoc, List.cons_append, List.nil_append]
          rw [el]
          exact z10
    · rw [if_neg c2] at h2
      have e5 := pF_inv h2
      have hr : qOut E (k + 1) r = .inl (q.1, 1) := by
        rw [e3, e5]
        exact qOut_here
      have h9 := H1 q.1 1 hr
      refine ⟨bc, bs, Nat.le_refl _, Nat.le_refl _, ?_⟩
      exact s_151f (d := d + 61) (a := 19) hw s1.1 s1.2.1 pq (by omega) c2 h9.1 (h9.2 I1 J s1.2.2.2.2.2.2.1 s1.2.2.2.2.2.2.2)
end MForm11

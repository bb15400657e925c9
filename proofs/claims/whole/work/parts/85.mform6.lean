/-! ===== the reference's reading: a factor; every expression ===== -/
section MForm6
variable {RO : zRo} {d : Nat} {P : zP} {I : zI} {J : zJ} {D : zD} {bc bs : Nat} {T : qTk} {E : Nat → Nat} {pl : Nat → Option Nat} {tb : List (Int64 × Nat × Nat)} {mn ct k dp a j c : Nat} {I0 : zI} {J0 : zJ}
theorem pPl_my {r : Nat ⊕ (Nat × List zOp)} (c : T.1 k = 25 ∨ T.1 k = 26) (h : (if T.1 (k + 1) = 2 then pO (k + 2) [(2, zi ((k + 1 : Nat) : Int))] else pF (k + 1)) = some r) : pB (pPl T.1 k) (fun k1 nm => pO k1 [(2, zi (nm : Int))]) = some r := by
  unfold pPl
  rw [if_pos c]
  by_cases c2 : T.1 (k + 1) = 2
  · rw [if_pos c2] at h ⊢
    exact h
  · rw [if_neg c2] at h ⊢
    exact h
theorem mA_5 {f : Nat} (hw : qTw T) (ih0 : mA RO T E pl tb mn ct I0 J0 f 0) (ih5 : mA RO T E pl tb mn ct I0 J0 f 5) : mA RO T E pl tb mn ct I0 J0 (f + 1) 5 := by
  intro dp k a e bc bs r I J D P h hok hdp he hn hab hg hp hs H1 H2
  obtain ⟨d, rfl⟩ : ∃ d, e = d + 5 := ⟨e - 5, by omega⟩
  have hN := hw.2.1
  have hle := qTw_le hw k
  rw [pE_fa] at h
  unfold pFc at h
  have TT : ∀ b : Nat, b ≤ 51 → zo_148 I J (zi (qkm b : Int)) ∧ (zv_148 I J (zi (qkm b : Int)) = 0 → ¬ T.1 k = b) ∧ (¬ zv_148 I J (zi (qkm b : Int)) = 0 → T.1 k = b) := fun b hb => by
    obtain ⟨o, h1, _⟩ := n_148 (a := b) hw hs.1 hs.2.1 hn hb
    refine ⟨o, h1.mp, fun z => ?_⟩
    by_cases z2 : T.1 k = b
    · exact z2
    · exact absurd (h1.mpr z2) z
  have vi := n_in hw hs.2.1 hn
  have kd := n_kd hs.1 hs.2.1 hw hn
  have cl : (zi (k : Int)).toNatClampNeg = k := zi_clk (by omega)
  have lq := qkm_le hle
  have km : (24 ≤ qkm (T.1 k) ∧ qkm (T.1 k) ≤ 28) ↔ 28 ≤ T.1 k ∧ T.1 k ≤ 32 := by
    unfold qkm
    (repeat' split) <;> omega
  have e136 : zv_136 I J (I 31 ((I 28 24).toNatClampNeg)).toInt64 24 28 = if (24 : Int) ≤ qkm (T.1 k) ∧ (qkm (T.1 k) : Int) ≤ 28 then 1 else 0 := by
    rw [kd]
    exact n_136 (lo := 24) (hi := 28) (by omega) (by omega) (by omega)
  refine w_162 (d := d + 3) ⟨(TT 3 (by omega)).1, fun q3 => ?_, fun q3 => ?_⟩
  · have n3 := (TT 3 (by omega)).2.1 q3
    refine ⟨(TT 25 (by omega)).1, fun q25 => ⟨(TT 25 (by omega)).1, ?_⟩, fun q25 => ⟨(TT 26 (by omega)).1, fun q26 => ⟨(TT 25 (by omega)).1, (TT 26 (by omega)).1, ?_⟩, fun q26 => ⟨(TT 2 (by omega)).1, fun q2 => ⟨vi, ?_⟩, fun q2 => ⟨(TT 25 (by omega)).1, (TT 26 (by omega)).1, ?_⟩⟩⟩⟩
    · have c := (TT 25 (by omega)).2.2 q25
      rw [if_neg (by omega), if_neg (by omega), if_pos (by omega)] at h
      exact s_plc (code := 401) hw (Or.inl ⟨c, rfl⟩) (pPl_my (Or.inl c) h) hab hg hn hp hs H1 H2
    · have c := (TT 26 (by omega)).2.2 q26
      rw [if_neg (by omega), if_neg (by omega), if_pos (by omega)] at h
      exact s_plc (code := 402) hw (Or.inr (Or.inl ⟨c, rfl⟩)) (pPl_my (Or.inr c) h) hab hg hn hp hs H1 H2
    · have n25 : ¬ T.1 k = 25 := fun z => q25 (fun w => (TT 25 (by omega)).2.1 w z)
      have n26 : ¬ T.1 k = 26 := fun z => q26 (fun w => (TT 26 (by omega)).2.1 w z)
      have n2 := (TT 2 (by omega)).2.1 q2
      rw [e136]
      by_cases cw : 28 ≤ T.1 k ∧ T.1 k ≤ 32
      · rw [if_pos (by have := km.mpr cw; omega)]
        refine ⟨fun q => absurd q (by decide), fun _ => ⟨vi, ?_⟩⟩
        rw [if_pos (Or.inr cw)] at h
        have hr := pO_inv h
        have E0 : E k = 0 := qGx_0 hg (Or.inl (by unfold xs; omega)) n2 (fun z => by omega)
        have ec : (I 31 ((I 28 24).toNatClampNeg)) - 24 = zi ((T.1 k - 28 : Nat) : Int) := by
          rw [kd, show (24 : Int32) = zi 24 from rfl, zi_sub]
          have h5 : T.1 k = 28 ∨ T.1 k = 29 ∨ T.1 k = 30 ∨ T.1 k = 31 ∨ T.1 k = 32 := by omega
          rcases h5 with h5 | h5 | h5 | h5 | h5 <;> rw [h5] <;> rfl
        rw [ec]
        refine s_154 (d := d + 3) (x := (404, zi ((T.1 k - 28 : Nat) : Int), 0)) hs.2.2.1 hg.1 hs.2.2.2.2.2.1 (fun z => by have := hab z; have := qTw_lt hw (k := k) (by omega); omega) (fun v I2 _ z2 f2 => ?_)
        refine s_leaf hr E0 ?_ hs z2 f2 H2
        unfold qRm qRo
        rw [if_neg (show ¬ (T.1 k = 2 ∨ T.1 k = 16 ∨ T.1 k = 17) by omega), if_neg (show ¬ T.1 k = 3 by omega)]
        unfold zmo
        rw [if_neg (show ¬ T.1 k = 2 by omega), if_neg (show ¬ T.1 k = 3 by omega), if_pos (show 28 ≤ T.1 k ∧ T.1 k ≤ 32 from cw)]
      · rw [if_neg (fun z => cw (km.mp (by omega)))]
        refine ⟨fun _ => ?_, fun q => absurd rfl q⟩
        rw [if_neg (by omega), if_neg (by omega), if_neg (by omega)] at h
        refine ⟨(TT 36 (by omega)).1, fun q36 => ?_, fun q36 => ?_⟩
        · have n36 := (TT 36 (by omega)).2.1 q36
          rw [if_neg n36] at h
          refine ⟨(TT 43 (by omega)).1, fun q43 => ⟨(TT 43 (by omega)).1, vi, ?_⟩, fun q43 => ⟨(TT 35 (by omega)).1, fun q35 => ⟨(TT 43 (by omega)).1, (TT 35 (by omega)).1, vi, ?_⟩, fun q35 => ⟨(TT 27 (by omega)).1, fun q27 => ?_, fun q27 => ⟨(TT 43 (by omega)).1, (TT 35 (by omega)).1, fun qc => ⟨vi, ?_⟩, fun qc => ⟨vi, ?_⟩⟩⟩⟩⟩
          · have c := (TT 43 (by omega)).2.2 q43
            rw [if_pos (by omega)] at h
            exact s_un (code := 441) hw (Or.inl ⟨c, rfl⟩) ⟨fun z => absurd z (by decide), fun z => by omega⟩ ih5 h hok hdp (by omega) hab hg hn hs H1 H2
          · have c := (TT 35 (by omega)).2.2 q35
            rw [if_pos (by omega)] at h
            exact s_un (code := 440) hw (Or.inr (Or.inl ⟨c, rfl⟩)) ⟨fun z => absurd z (by decide), fun z => by omega⟩ ih5 h hok hdp (by omega) hab hg hn hs H1 H2
          · have n43 : ¬ T.1 k = 43 := fun z => q43 (fun w => (TT 43 (by omega)).2.1 w z)
            have n35 : ¬ T.1 k = 35 := fun z => q35 (fun w => (TT 35 (by omega)).2.1 w z)
            have n27 := (TT 27 (by omega)).2.1 q27
            rw [if_neg (by omega)] at h
            have e5 := pF_inv h
            have hr : qOut E k r = .inl (k, 1) := by
              rw [e5]
              exact qOut_here
            have h9 := H1 k 1 hr
            refine ⟨h9.1, vi, ?_⟩
            rw [n_pl hs.1 hs.2.1 hw hn]
            exact h9.2 I J hs.2.2.2.2.2.2.2.1 hs.2.2.2.2.2.2.2.2
          · have c := (TT 27 (by omega)).2.2 q27
            rw [if_pos (by omega)] at h
            have c0 : ct = 0 := by
              rcases hg.2.1 with z | z
              · exact z
              · rw [hs.2.2.2.1, z] at qc
                exact absurd qc (by decide)
            exact s_un (code := 442) hw (Or.inr (Or.inr ⟨c, rfl⟩)) ⟨fun _ => ⟨c, c0⟩, fun _ => rfl⟩ ih5 h hok hdp (by omega) hab hg hn hs H1 H2
          · have c := (TT 27 (by omega)).2.2 q27
            rw [if_pos (by omega)] at h
            have c0 : ¬ ct = 0 := fun z => qc (by rw [hs.2.2.2.1, z]; rfl)
            exact s_un (code := 442) hw (Or.inr (Or.inr ⟨c, rfl⟩)) ⟨fun z => absurd z (by decide), fun z => absurd z.2 c0⟩ ih5 h hok hdp (by omega) hab hg hn hs H1 H2
        · have c := (TT 36 (by omega)).2.2 q36
          rw [if_pos c] at h
          have hlt := qTw_lt hw (k := k) (by omega)
          have hxk : ys (T.1 k) := Or.inl (by unfold xs; omega)
          have tk := tks_one (s := T.1) (ok := ys) (k := k) hxk
          have g1 := qGx_step hg tk
          have E0 : E k = 0 := qGx_0 hg hxk n2 (fun z => by omega)
          by_cases d8 : dp < 8
          · rw [if_pos d8] at h
            obtain ⟨y, hy, y1, y2⟩ := pB_cases h
            have py := pE_pos hw hy (by omega) (by omega)
            have pxy : qPos y ≤ qPos r := by
              cases y with
              | inl i =>
                rw [y1 i rfl]
                exact Nat.le_refl _
              | inr q =>
                have h2 := y2 q rfl
                by_cases c7 : T.1 q.1 = 37
                · rw [if_pos c7] at h2
                  have e5 := pO_inv h2
                  rw [e5]
                  show q.1 ≤ q.1 + 1
                  omega
                · rw [if_neg c7] at h2
                  have e5 := pF_inv h2
                  rw [e5]
                  exact Nat.le_refl _
            have ek : qOut E k r = qOut E (k + 1) r := qOut_step (fun j h1 h2 => by
              have e : j = k := by omega
              rw [e]
              exact E0) ⟨by omega, by omega⟩
            refine ⟨0, 0, Nat.zero_le _, Nat.zero_le _, ?_⟩
            refine s_153 (d := d + 3) hw hs hn hdp (fun z => absurd d8 (by omega)) (fun _ I6 e24 e27 f6 => ?_)
            have f6x : xfr I I6 := xfr_n f6
            have s6 : qMx T tb mn ct I0 J0 (k + 1) (dp + 1) a I6 J := qMx_fr hs f6x e24 e27 (by rw [f6.2 19 (by decide)]; exact hs.2.2.2.2.2.1)
            have hp1 : ¬ (T.1 (k + 1 - 1) = 25 ∨ T.1 (k + 1 - 1) = 26) := by
              rw [Nat.add_sub_cancel]
              omega
            rcases hy2 : qOut E (k + 1) y with w | q
            · have hx2 := qOut_thr hy2 y1 ⟨py.1, pxy⟩
              refine ⟨bc, bs, Nat.le_refl _, Nat.le_refl _, ?_⟩
              have H3 : qTh T P D bc bs I0 J0 (qOut E (k + 1) y) := qTh_to H1 (ek.trans hx2) hy2
              exact ih0 hy (hok_sub y1 hok) (by omega) (by omega) (by omega) (fun z => by have := hab z; omega) g1 hp1 s6 H3 (fun q hq => absurd (hy2.symm.trans hq) (fun z => by cases z))
            · obtain ⟨e2, e3⟩ := qOut_go hy2 ⟨py.1, pxy⟩
              subst e2
              have a1 := pE_ok (k2 := q.1) (o := q.2) hy (by omega)
              have a0 := a1.1.1
              have pq : q.1 < T.2.2.2 := py.2
              refine ⟨0, 0, Nat.zero_le _, Nat.zero_le _, ?_⟩
              have H3 : qTh T P D 0 0 I0 J0 (qOut E (k + 1) (Sum.inr q)) := qTh_no hy2
              refine ih0 hy (hok_sub y1 hok) (by omega) (by omega) (by omega) (fun z => by have := hab z; omega) g1 hp1 s6 H3 (fun q9 hq9 I7 z7 => ?_)
              have e9 : q = q9 := by
                have := hy2.symm.trans hq9
                cases this
                rfl
              subst e9
              have s7 := qPx_st s6 z7
              have h2 := y2 q rfl
              by_cases c7 : T.1 q.1 = 37
              · rw [if_pos c7] at h2
                have e5 := pO_inv h2
                have t1 : tks T.1 ys (k + 1) q.1 := ⟨a1.1.1, fun j h1 h2 => Or.inl (a1.1.2.2.1 j h1 h2)⟩
                have E7 : E q.1 = 0 := qGx_0 (qGx_step g1 t1) (Or.inl (by unfold xs; omega)) (by omega) (fun z => by omega)
                refine ⟨0, 0, Nat.zero_le _, Nat.zero_le _, ?_⟩
                refine s_151t (d := d + 2) (a := 37) hw s7.1 s7.2.1 pq (by omega) c7 (fun I8 e8 f8 => ?_)
                have e27b : I8 28 27 - 1 = zi (dp : Int) := by
                  rw [f8.2 27 (by decide), z7.2.2.1, show (1 : Int32) = zi 1 from rfl, zi_sub]
                  congr 1
                  omega
                show P (.inl none) (zu I8 28 27 ((I8 28 27) - 1)) J D
                rw [e27b]
                have hr : qOut E k r = .inr (q.1 + 1, q.2) := by
                  rw [ek, e3, e5]
                  exact qOut_leaf E7 rfl
                have f8n : nfr I7 (zu I8 28 27 (zi (dp : Int))) := zfm_z (zfm_n1 f8) _ _ (by decide)
                exact H2 _ hr _ ⟨zfm_trans f6x (zfm_trans z7.1 (xfr_n f8n)), by rw [zu_n _ _ (by omega)]; exact e8, zu_s _ _ _ _, qmN_of z7.2.2.2 f6 f8n⟩
              · rw [if_neg c7] at h2
                have e5 := pF_inv h2
                have hr : qOut E k r = .inl (q.1, 1) := by
                  rw [ek, e3, e5]
                  exact qOut_here
                have h9 := H1 q.1 1 hr
                refine ⟨bc, bs, Nat.le_refl _, Nat.le_refl _, ?_⟩
                exact s_151f (d := d + 2) (a := 37) hw s7.1 s7.2.1 pq (by omega) c7 h9.1 (h9.2 I7 J s7.2.2.2.2.2.2.2.1 s7.2.2.2.2.2.2.2.2)
          · rw [if_neg d8] at h
            have e5 := pF_inv h
            have hr : qOut E k r = .inl (k, 1) := by
              rw [e5]
              exact qOut_here
            have h9 := H1 k 1 hr
            refine ⟨bc, bs, Nat.le_refl _, Nat.le_refl _, ?_⟩
            exact s_153 (d := d + 3) hw hs hn hdp (fun _ => ⟨h9.1, h9.2 I J hs.2.2.2.2.2.2.2.1 hs.2.2.2.2.2.2.2.2⟩) (fun z => absurd z d8)
    · have c := (TT 2 (by omega)).2.2 q2
      rw [if_neg (by omega), if_pos c] at h
      have hpl : pB (pPl T.1 k) (fun k1 nm => pO k1 [(2, zi (nm : Int))]) = some r := by
        unfold pPl
        rw [if_neg (by omega), if_pos c]
        exact h
      exact s_plc (code := 403) hw (Or.inr (Or.inr ⟨c, rfl⟩)) hpl hab hg hn hp hs H1 H2
  · have c := (TT 3 (by omega)).2.2 q3
    rw [if_pos (Or.inl c)] at h
    have hr := pO_inv h
    have E0 : E k = 0 := qGx_0 hg (Or.inl (by unfold xs; omega)) (by omega) (fun z => by omega)
    refine ⟨vi, ?_⟩
    rw [hs.2.1, cl, (hs.1.2 k hn).2.2 (Or.inr c)]
    refine s_154 (d := d + 3) (x := (400, (T.2.2.1 k).toInt32, 0)) hs.2.2.1 hg.1 hs.2.2.2.2.2.1 (fun z => by have := hab z; have := qTw_lt hw (k := k) (by omega); omega) (fun v I2 _ z2 f2 => ?_)
    refine s_leaf hr E0 ?_ hs z2 f2 H2
    unfold qRm qRo
    rw [if_neg (show ¬ (T.1 k = 2 ∨ T.1 k = 16 ∨ T.1 k = 17) by omega), if_pos (show T.1 k = 3 from c)]
    show zmo (3, (T.2.2.1 (zi (k : Int)).toNatClampNeg).toInt32) = _
    rw [cl]
    rfl
theorem mE_all (hw : qTw T) (f : Nat) : ∀ g, g ≤ f → (∀ m, m ≤ 5 → mA RO T E pl tb mn ct I0 J0 g m) ∧ mL RO T E pl tb mn ct I0 J0 g 0 ∧ mL RO T E pl tb mn ct I0 J0 g 1 ∧ mL RO T E pl tb mn ct I0 J0 g 3 ∧ mL RO T E pl tb mn ct I0 J0 g 4 := by
  induction f with
  | zero =>
    intro g hg
    have e0 : g = 0 := by omega
    subst e0
    refine ⟨fun m _ => ?_, ?_, ?_, ?_, ?_⟩
    · intro dp k a e bc bs r I J D P h
      cases h
    · intro dp k a d bc bs r I J D P h
      cases h
    · intro dp k a d bc bs r I J D P h
      cases h
    · intro dp k a d bc bs r I J D P h
      cases h
    · intro dp k a d bc bs r I J D P h
      cases h
  | succ f ih =>
    intro g hg
    by_cases c : g ≤ f
    · exact ih g c
    · have e0 : g = f + 1 := by omega
      subst e0
      obtain ⟨hA, h0, h1, h3, h4⟩ := ih f (Nat.le_refl _)
      have hop0 : ∀ c, pLv c = 0 ↔ c = 34 := fun c => by
        unfold pLv
        (repeat' split) <;> omega
      have hop1 : ∀ c, pLv c = 1 ↔ c = 33 := fun c => by
        unfold pLv
        (repeat' split) <;> omega
      refine ⟨fun m hm => ?_, ?_, ?_, ?_, ?_⟩
      · have hm6 : m = 0 ∨ m = 1 ∨ m = 2 ∨ m = 3 ∨ m = 4 ∨ m = 5 := by omega
        rcases hm6 with e | e | e | e | e | e
        · subst e
          intro dp k a e bc bs r I J D P
          exact mA_lv hw (by omega) (fun h => w_157 h) (hA 1 (by omega)) h0
        · subst e
          intro dp k a e bc bs r I J D P
          exact mA_lv hw (by omega) (fun h => w_158 h) (hA 2 (by omega)) h1
        · subst e
          cases f with
          | zero =>
            intro dp k a e bc bs r I J D P h
            cases h
          | succ f =>
            intro dp k a e bc bs r I J D P
            exact mA_2 hw (hA 3 (by omega)) ((ih f (by omega)).1 3 (by omega))
        · subst e
          intro dp k a e bc bs r I J D P
          exact mA_lv hw (by omega) (fun h => w_160 h) (hA 4 (by omega)) h3
        · subst e
          intro dp k a e bc bs r I J D P
          exact mA_lv hw (by omega) (fun h => w_161 h) (hA 5 (by omega)) h4
        · subst e
          intro dp k a e bc bs r I J D P
          exact mA_5 hw (hA 0 (by omega)) (hA 5 (by omega))
      · intro dp k a d bc bs r I J D P
        exact mL_w (op := 34) (code := 431) hw (by omega) hop0 (by omega) rfl (fun h => wl_157_4 h) (hA 1 (by omega)) h0
      · intro dp k a d bc bs r I J D P
        exact mL_w (op := 33) (code := 430) hw (by omega) hop1 (by omega) rfl (fun h => wl_158_4 h) (hA 2 (by omega)) h1
      · intro dp k a d bc bs r I J D P
        exact mL_3 hw (hA 4 (by omega)) h3
      · intro dp k a d bc bs r I J D P
        exact mL_4 hw (hA 5 (by omega)) h4
/-- an expression -/
theorem s_157 {r : Nat ⊕ (Nat × List zOp)} (hw : qTw T) (h : pEx T.1 k = some r) (hok : mn = 1 → ∃ q, r = .inr q) (hn : k < T.2.2.2) (hab : mn = 1 → a ≤ 900 + k) (hg : qGx T E mn ct pl tb k) (hp : ¬ (T.1 (k - 1) = 25 ∨ T.1 (k - 1) = 26)) (hs : qMx T tb mn ct I0 J0 k 0 a I J) (H1 : qTh T P D bc bs I0 J0 (qOut E k r)) (H2 : ∀ q, qOut E k r = .inr q → ∀ I', qPx T pl mn 0 a q I I' → P (.inl none) I' J D) : zz RO (d + 62) 157 [.ref 28] I J D bc bs P :=
  ((mE_all hw 4000 4000 (Nat.le_refl _)).1 0 (by omega)) h hok (by omega) (by omega) hn hab hg hp hs H1 H2
end MForm6

/-! ===== the reference's reading: every statement ===== -/
theorem pSt_as {s : Nat → Nat} {n k : Nat} (c : s k = 16 ∨ s k = 17) : pSt s n k = pB (pAs s (s k) (k + 1)) (fun k2 b => if s k2 = 39 then pO (k2 + 1) (mkB n b) else pF k2) := by
  unfold pSt pAs
  rw [if_pos c, ← pB_assoc]
  congr 1
  funext k1 nm
  rw [← pB_assoc]
  rfl
section MForm12
variable {RO : zRo} {d : Nat} {P : zP} {I : zI} {J : zJ} {D : zD} {bc bs : Nat} {T : qTk} {E : Nat → Nat} {pl : Nat → Option Nat} {tb : List (Int64 × Nat × Nat)} {mn ct k dp a j c : Nat} {I0 : zI} {J0 : zJ}
theorem zmb_simple {op a : Nat} (h : ¬ (op = 16 ∨ op = 17)) : zmb (qRb T pl (op, 0, [])) a = [((op - 4 : Nat), 0, 0)] := by
  unfold zmb
  rw [if_neg (show ¬ ((qRb T pl (op, 0, [])).1 = 16 ∨ (qRb T pl (op, 0, [])).1 = 17) from h)]
  rfl
theorem mS_step {f : Nat} (hw : qTw T) (ihL : mLo RO T E pl tb mn I0 J0 f) : mS RO T E pl tb mn I0 J0 f := by
  intro n nest k a e bc bs r I J D P h hb hok hne he hn hab hg hs h28 H1 H2
  obtain ⟨d, rfl⟩ : ∃ d, e = d + 64 + 2 := ⟨e - 66, by omega⟩
  have hN := hw.2.1
  have hle := qTw_le hw k
  have lq := qkm_le hle
  have hlt := qTw_lt hw (k := k) (by unfold bst at hb; omega)
  have kd := n_kd hs.1 hs.2.1 hw hn
  have vi := n_in hw hs.2.1 hn
  have EQ : ∀ b : Nat, b ≤ 51 → (zi (qkm (T.1 k) : Int) = zi (qkm b : Int) ↔ T.1 k = b) := fun b hb => by
    have := qkm_le hb
    rw [zi_eq (by omega) (by omega), ← qkm_eq hle hb]
    omega
  have e14 : zi (qkm (T.1 k) : Int) = 14 ↔ T.1 k = 18 := EQ 18 (by omega)
  have e20 : zi (qkm (T.1 k) : Int) = 20 ↔ T.1 k = 24 := EQ 24 (by omega)
  have e12 : zi (qkm (T.1 k) : Int) = 12 ↔ T.1 k = 16 := EQ 16 (by omega)
  have e13 : zi (qkm (T.1 k) : Int) = 13 ↔ T.1 k = 17 := EQ 17 (by omega)
  have km : (17 ≤ qkm (T.1 k) ∧ qkm (T.1 k) ≤ 19) ↔ 21 ≤ T.1 k ∧ T.1 k ≤ 23 := by
    unfold qkm
    (repeat' split) <;> omega
  have e136 : zv_136 I J (zi (qkm (T.1 k) : Int)).toInt64 17 19 = if (17 : Int) ≤ qkm (T.1 k) ∧ (qkm (T.1 k) : Int) ≤ 19 then 1 else 0 := n_136 (lo := 17) (hi := 19) (by omega) (by omega) (by omega)
  have e4 : I 28 28 = 4 ↔ nest = 4 := by
    rw [h28, show (4 : Int32) = zi ((4 : Nat) : Int) from rfl, zi_eq (by omega) (by omega)]
    omega
  have hys : ys (T.1 k) := by
    unfold bst at hb
    exact Or.inr (Or.inl (by omega))
  have tk := tks_one (s := T.1) (ok := ys) (k := k) hys
  have E0 : E k = 0 := qGx_0 hg hys (by unfold bst at hb; omega) (fun z => by unfold bst at hb; omega)
  have g1 := qGx_step hg tk
  have pr := pStm_pos hw (pS_pos hw f) hb hn h
  have ekk : k + 1 ≤ qPos r → qOut E k r = qOut E (k + 1) r := fun z => qOut_step (fun j h1 h2 => by
    rw [show j = k by omega]
    exact E0) ⟨by omega, z⟩
  have fk : nfr I (zu I 28 24 ((I 28 24) + 1)) := zfm_z (zfm_refl _) _ _ (by decide)
  have ek1 : (zu I 28 24 ((I 28 24) + 1)) 28 24 = zi ((k + 1 : Nat) : Int) := by rw [zu_s, hs.2.1, zi_succ]
  have s1 := qMw_n hs fk ek1
  have e281 : (zu I 28 24 ((I 28 24) + 1)) 28 28 = zi (nest : Int) := by rw [zu_n _ _ (by omega)]; exact h28
  -- a statement without others in it
  have simple : pSt T.1 n k = some r → ¬ (T.1 k = 18 ∨ T.1 k = 24) → zz RO (d + 64 + 2) 172 [.ref 28] I J D bc bs P := by
    intro h nd
    have key : ∀ {b : zB0} {k2 : Nat} {I2 : zI} {bc bs : Nat}, (if T.1 k2 = 39 then pO (k2 + 1) (mkB n b) else pF k2) = some r → qOut E k r = qOut E k2 r → qGx T E mn 1 pl tb k2 → k2 < T.2.2.2 → sfr I I2 → I2 28 24 = zi (k2 : Int) → I2 28 28 = zi (nest : Int) → qmN a (eml mn (zmb (qRb T pl b) a)) I I2 → qTh T P D bc bs I0 J0 (qOut E k2 r) → ∃ c3 s3, c3 ≤ bc ∧ s3 ≤ bs ∧ zz RO (d + 65) 151 [.ref 28, .int 103] I2 J D c3 s3 (zNv P fun I3 J3 D3 => P (.inl none) I3 J3 D3) := by
      intro b k2 I2 bc bs h2 ek g2 hn2 f2 e24 e28 z2 H12
      have s2 := qMw_fr hs f2 e24 z2.1
      by_cases c3 : T.1 k2 = 39
      · rw [if_pos c3] at h2
        have e5 := pO_inv h2
        have E39 : E k2 = 0 := qGx_0 g2 (Or.inr (Or.inr c3)) (by omega) (fun z => by omega)
        have hr : qOut E k r = .inr (k2 + 1, mkB n b) := by
          rw [ek, e5]
          exact qOut_leaf E39 rfl
        refine ⟨0, 0, Nat.zero_le _, Nat.zero_le _, ?_⟩
        refine s_151t (d := d + 63) (a := 39) hw s2.1 s2.2.1 hn2 (by omega) c3 (fun I3 e243 f3 => ?_)
        refine H2 _ hr I3 (zfm_trans f2 (zfm_sub f3 (by simp) (by simp))) e243 (by rw [f3.2 28 (by decide)]; exact e28) ?_
        show qmN a (eml mn (zmc n (qRs T pl n (mkB n b)) a)) I I3
        rw [qRs_mkB, zmc_mkB]
        exact qmN_of z2 (zfm_refl _) (zfm_n1 f3)
      · rw [if_neg c3] at h2
        have e5 := pF_inv h2
        have h9 := H12 k2 1 (by rw [e5]; exact qOut_here)
        refine ⟨bc, bs, Nat.le_refl _, Nat.le_refl _, ?_⟩
        exact s_151f (d := d + 63) (a := 39) hw s2.1 s2.2.1 hn2 (by omega) c3 h9.1 (h9.2 I2 J s2.2.2.2.2.2.2.1 s2.2.2.2.2.2.2.2)
    by_cases c1 : T.1 k = 16 ∨ T.1 k = 17
    · rw [pSt_as c1] at h
      obtain ⟨y, hy, y1, y2⟩ := pB_cases h
      have py := pAs_pos hw hy hlt
      have pxy : qPos y ≤ qPos r := qPos_le y1 (fun q hq => by
        have h2 := y2 q hq
        rw [hq] at py
        have := pK_pos hw (by omega) py.2 h2
        exact this.1)
      have ek := ekk (by omega)
      have hp1 : ¬ (T.1 (k + 1 - 1) = 25 ∨ T.1 (k + 1 - 1) = 26) := by
        rw [Nat.add_sub_cancel]
        omega
      obtain ⟨dp, hdp⟩ := zi_nat_ex ((zu I 28 24 ((I 28 24) + 1)) 28 27)
      have eop : I 31 ((I 28 24).toNatClampNeg) = zi ((T.1 k - 4 : Nat) : Int) := by
        rw [kd]
        rcases c1 with c1 | c1 <;> rw [c1] <;> rfl
      have G : ∃ c2 s2, c2 ≤ bc ∧ s2 ≤ bs ∧ zz RO (d + 65) 173 [.ref 28, .int (I 31 ((I 28 24).toNatClampNeg))] (zu I 28 24 ((I 28 24) + 1)) J D c2 s2 (zNv P fun I2 J2 D2 => (∃ c3 s3, c3 ≤ (bc - c2) ∧ s3 ≤ (bs - s2) ∧ zz RO (d + 65) 151 [.ref 28, .int 103] I2 J2 D2 c3 s3 (zNv P fun I3 J3 D3 => P (.inl none) I3 J3 D3))) := by
        rw [eop]
        rcases hy2 : qOut E (k + 1) y with w | q
        · have hx := qOut_thr hy2 y1 ⟨py.1, pxy⟩
          refine ⟨bc, bs, Nat.le_refl _, Nat.le_refl _, ?_⟩
          have H3 : qTh T P D bc bs I0 J0 (qOut E (k + 1) y) := qTh_to H1 (ek.trans hx) hy2
          exact s_173 (d := d + 1) hw c1 hy (hok_sub y1 hok) hlt (fun z => by have := hab z; omega) g1 hp1 s1 hdp H3 (fun q hq => absurd (hy2.symm.trans hq) (fun z => by cases z))
        · obtain ⟨e1, e3⟩ := qOut_go hy2 ⟨py.1, pxy⟩
          subst e1
          have py2 : q.1 < T.2.2.2 := py.2
          refine ⟨0, 0, Nat.zero_le _, Nat.zero_le _, ?_⟩
          have H3 : qTh T P D 0 0 I0 J0 (qOut E (k + 1) (Sum.inr q)) := qTh_no hy2
          refine s_173 (d := d + 1) hw c1 hy (hok_sub y1 hok) hlt (fun z => by have := hab z; omega) g1 hp1 s1 hdp H3 (fun q9 hq9 I2 f2 e24 z2 => ?_)
          have e9 : q = q9 := by
            have := hy2.symm.trans hq9
            cases this
            rfl
          subst e9
          have a1 : tks T.1 ys (k + 1) q.1 := by
            unfold pAs at hy
            rcases pB_inv hy with ⟨i, _, e⟩ | ⟨k1, nm, h1, h3⟩
            · cases e
            rcases pB_inv h3 with ⟨i, _, e⟩ | ⟨k3, o, h4, h5⟩
            · cases e
            have e6 := pO_inv h5
            cases e6
            exact tks_app (tks_pl h1).1 (tks_ex h4).1
          exact key (y2 q rfl) (ek.trans e3) (qGx_step g1 a1) py2 (zfm_trans (sfr_x (xfr_n fk)) (sfr_x f2)) e24 (by rw [f2.2 28 (by decide)]; exact e281) (qmN_of z2 fk (zfm_refl _)) (by
            rw [← ek.trans e3]
            exact H1)
      refine w_172 (d := d + 64) ⟨vi, ?_⟩
      rw [kd] at G ⊢
      by_cases c2 : T.1 k = 16
      · exact ⟨fun q => absurd (e14.mp q) (by omega), fun _ => ⟨fun _ => ⟨fun _ => G, fun q => absurd (e12.mpr c2) q⟩, fun q => absurd (fun z => by have := e20.mp z; omega) q⟩⟩
      · exact ⟨fun q => absurd (e14.mp q) (by omega), fun _ => ⟨fun _ => ⟨fun q => absurd (e12.mp q) c2, fun _ => ⟨fun _ => G, fun q => absurd (e13.mpr (by omega)) q⟩⟩, fun q => absurd (fun z => by have := e20.mp z; omega) q⟩⟩
    · unfold pSt at h
      rw [if_neg c1] at h
      have c3 : 21 ≤ T.1 k ∧ T.1 k ≤ 23 := by
        unfold bst at hb
        omega
      have eop : I 31 ((I 28 24).toNatClampNeg) = zi ((T.1 k - 4 : Nat) : Int) := by
        rw [kd]
        have h5 : T.1 k = 21 ∨ T.1 k = 22 ∨ T.1 k = 23 := by omega
        rcases h5 with h5 | h5 | h5 <;> rw [h5] <;> rfl
      rw [if_pos (by have := km.mpr c3; omega)] at e136
      have ek : qOut E k r = qOut E (k + 1) r := ekk (by
        by_cases z : T.1 (k + 1) = 39
        · rw [if_pos z] at h
          rw [pO_inv h]
          show k + 1 ≤ k + 2
          omega
        · rw [if_neg z] at h
          rw [pF_inv h]
          exact Nat.le_refl _)
      have G : zz RO (d + 65) 155 [.ref 28, .int (I 31 ((I 28 24).toNatClampNeg))] (zu I 28 24 ((I 28 24) + 1)) J D 0 0 (zNv P fun I6 J6 D6 => (∃ c7 s7, c7 ≤ bc ∧ s7 ≤ bs ∧ zz RO (d + 65) 151 [.ref 28, .int 103] I6 J6 D6 c7 s7 (zNv P fun I7 J7 D7 => P (.inl none) I7 J7 D7))) := by
        rw [eop]
        refine s_155 (d := d + 63) s1.2.2.1 hg.1 s1.2.2.2.2.1 (fun z => by have := hab z; omega) (fun I6 z6 f6 => ?_)
        have z6' : qmN a (eml mn (zmb (qRb T pl (T.1 k, 0, [])) a)) (zu I 28 24 ((I 28 24) + 1)) I6 := by
          rw [zmb_simple c1]
          exact z6
        exact key (b := (T.1 k, 0, [])) h ek g1 hlt (zfm_trans (sfr_x (xfr_n fk)) (zfm_sub f6 (by simp) (by simp))) (by rw [f6.2 24 (by decide)]; exact ek1) (by rw [f6.2 28 (by decide)]; exact e281) (qmN_of z6' fk (zfm_refl _)) (by
          rw [← ek]
          exact H1)
      refine w_172 (d := d + 64) ⟨vi, ?_⟩
      rw [kd] at G ⊢
      rw [e136]
      exact ⟨fun q => absurd (e14.mp q) (by omega), fun _ => ⟨fun _ => ⟨fun q => absurd (Or.inl (e12.mp q)) c1, fun _ => ⟨fun q => absurd (Or.inr (e13.mp q)) c1, fun _ => ⟨fun q => absurd q (by decide), fun _ => G⟩⟩⟩, fun q => absurd (fun z => by have := e20.mp z; omega) q⟩⟩
  cases n with
  | zero =>
    have h : (if T.1 k = 18 ∨ T.1 k = 24 then pF k else pSt T.1 0 k) = some r := h
    by_cases c1 : T.1 k = 18 ∨ T.1 k = 24
    · rw [if_pos c1] at h
      have e5 := pF_inv h
      have h9 := H1 k 1 (by rw [e5]; exact qOut_here)
      have K : P (.inr (3, 1, zi (T.2.1 k : Int))) I J D := h9.2 I J hs.2.2.2.2.2.2.1 hs.2.2.2.2.2.2.2
      refine w_172 (d := d + 64) ⟨vi, ?_⟩
      rw [kd, n_pl hs.1 hs.2.1 hw hn]
      have n4 : I 28 28 = 4 := e4.mpr (by omega)
      by_cases c2 : T.1 k = 18
      · exact ⟨fun _ => ⟨fun q => absurd n4 q, fun _ => ⟨h9.1, vi, K⟩⟩, fun q => absurd (e14.mpr c2) q⟩
      · exact ⟨fun q => absurd (e14.mp q) c2, fun _ => ⟨fun q => absurd (e20.mpr (by omega)) q, fun _ => ⟨fun q => absurd n4 q, fun _ => ⟨h9.1, vi, K⟩⟩⟩⟩
    · rw [if_neg c1] at h
      exact simple h c1
  | succ n =>
    have h : (if T.1 k = 18 then pIf T.1 n (pS T.1 f n) k else if T.1 k = 24 then pAl T.1 n (pS T.1 f n) k else pSt T.1 (n + 1) k) = some r := h
    have n4 : ¬ I 28 28 = 4 := fun z => by have := e4.mp z; omega
    have fk2 : sfr I (zu (zu I 28 24 ((I 28 24) + 1)) 28 28 ((I 28 28) + 1)) := zfm_z (zfm_z (zfm_refl _) _ _ (by decide)) _ _ (by decide)
    have e242 : (zu (zu I 28 24 ((I 28 24) + 1)) 28 28 ((I 28 28) + 1)) 28 24 = zi ((k + 1 : Nat) : Int) := by rw [zu_n _ _ (by omega)]; exact ek1
    have e282 : (zu (zu I 28 24 ((I 28 24) + 1)) 28 28 ((I 28 28) + 1)) 28 28 = zi ((nest + 1 : Nat) : Int) := by rw [zu_s, h28, zi_succ]
    have s2 := qMw_fr hs fk2 e242 (a2 := a) (by rw [zu_n _ _ (by omega), zu_n _ _ (by omega)]; exact hs.2.2.2.2.1)
    have z0 : ∀ {L : List zM3} {I' : zI}, qmN a L (zu (zu I 28 24 ((I 28 24) + 1)) 28 28 ((I 28 28) + 1)) I' → qmN a L I I' := fun {L I'} z => by
      unfold qmN at z ⊢
      rw [show (zu (zu I 28 24 ((I 28 24) + 1)) 28 28 ((I 28 28) + 1)) 43 = I 43 by rw [zu_row _ _ (by decide), zu_row _ _ (by decide)], show (zu (zu I 28 24 ((I 28 24) + 1)) 28 28 ((I 28 28) + 1)) 44 = I 44 by rw [zu_row _ _ (by decide), zu_row _ _ (by decide)], show (zu (zu I 28 24 ((I 28 24) + 1)) 28 28 ((I 28 28) + 1)) 45 = I 45 by rw [zu_row _ _ (by decide), zu_row _ _ (by decide)]] at z
      exact z
    have zend : ∀ {I' : zI} {L : List zM3}, qmN a L I I' → ∀ v, qmN a L I (zu I' 28 28 v) := fun {I' L} z v => by
      unfold qmN at z ⊢
      rw [zu_n _ _ (by omega), zu_row _ _ (by decide), zu_row _ _ (by decide), zu_row _ _ (by decide)]
      exact z
    have H2' : ∀ q, qOut E (k + 1) r = .inr q → qOut E k r = qOut E (k + 1) r → ∀ I', sfr (zu (zu I 28 24 ((I 28 24) + 1)) 28 28 ((I 28 28) + 1)) I' → I' 28 24 = zi (q.1 : Int) → I' 28 28 = zi ((nest + 1 : Nat) : Int) → qmN a (eml mn (zmc (n + 1) (qRs T pl (n + 1) q.2) a)) (zu (zu I 28 24 ((I 28 24) + 1)) 28 28 ((I 28 28) + 1)) I' → P (.inl none) (zu I' 28 28 ((I' 28 28) - 1)) J D := fun q hq ek I' f e24 e28 z => by
      have ee : I' 28 28 - 1 = zi (nest : Int) := by
        rw [e28, show (1 : Int32) = zi 1 from rfl, zi_sub]
        congr 1
        omega
      refine H2 q (ek.trans hq) _ (zfm_trans fk2 (zfm_z f _ _ (by decide))) (by rw [zu_n _ _ (by omega)]; exact e24) (by rw [zu_s]; exact ee) (zend (z0 z) _)
    by_cases c1 : T.1 k = 18
    · rw [if_pos c1] at h
      have ek : qOut E k r = qOut E (k + 1) r := ekk (by
        have h9 := h
        unfold pIf at h9
        obtain ⟨y, hy, y1, y2⟩ := pB_cases h9
        have py := pEx_pos hw hy hlt
        have : qPos y ≤ qPos r := qPos_le y1 (fun q hq => by
          have h2 := y2 q hq
          have pq : q.1 < T.2.2.2 := by
            rw [hq] at py
            exact py.2
          by_cases z : T.1 q.1 = 19
          · rw [if_pos z] at h2
            have l1 := qTw_lt hw (k := q.1) (by omega)
            have := pB_pos (k := q.1 + 1) h2 (fun y hy => pS_pos hw f l1 hy) (fun k2 t h3 h4 x hx => by
              by_cases z2 : T.1 k2 = 20
              · rw [if_pos z2] at hx
                have l2 := qTw_lt hw (k := k2) (by omega)
                have := pB_pos (k := k2 + 1) hx (fun y hy => pS_pos hw f l2 hy) (fun k3 e h5 h6 x hx => pK_pos hw (by omega) h6 hx)
                omega
              · rw [if_neg z2] at hx
                exact pK_pos hw (by omega) h4 hx)
            omega
          · rw [if_neg z] at h2
            rw [pF_inv h2]
            exact Nat.le_refl _)
        omega)
      refine w_172 (d := d + 64) ⟨vi, ?_⟩
      rw [kd]
      refine ⟨fun _ => ⟨fun _ => ⟨bc, bs, Nat.le_refl _, Nat.le_refl _, ?_⟩, fun q => absurd n4 q⟩, fun q => absurd (e14.mpr c1) q⟩
      exact s_174 (d := d + 63) (a := a) hw ihL h c1 hok (by omega) (by omega) hlt hab g1 s2 e282 (by rw [← ek]; exact H1) (fun q hq I' f e24 e28 z => H2' q hq ek I' f e24 e28 z)
    · rw [if_neg c1] at h
      by_cases c2 : T.1 k = 24
      · rw [if_pos c2] at h
        have ek : qOut E k r = qOut E (k + 1) r := ekk (by
          have h9 := h
          unfold pAl at h9
          have := pB_pos (k := k + 1) h9 (fun y hy => pS_pos hw f hlt hy) (fun k3 e h5 h6 x hx => pK_pos hw (by omega) h6 hx)
          omega)
        refine w_172 (d := d + 64) ⟨vi, ?_⟩
        rw [kd]
        refine ⟨fun q => absurd (e14.mp q) c1, fun _ => ⟨fun q => absurd (e20.mpr c2) q, fun _ => ⟨fun _ => ⟨bc, bs, Nat.le_refl _, Nat.le_refl _, ?_⟩, fun q => absurd n4 q⟩⟩⟩
        exact s_175 (d := d + 63) (a := a) hw ihL h hok (by omega) (by omega) hlt hab g1 s2 e282 (by rw [← ek]; exact H1) (fun q hq I' f e24 e28 z => H2' q hq ek I' f e24 e28 z)
      · rw [if_neg c2] at h
        exact simple h (by omega)
theorem mLo_all (hw : qTw T) (f : Nat) : mLo RO T E pl tb mn I0 J0 f := by
  induction f with
  | zero =>
    intro n nest k a e bc bs y β x st LOOP EXIT I J D P h
    cases h
  | succ f ih =>
    intro n nest k a e bc bs y β x st LOOP EXIT I J D P
    exact mLo_step hw (mS_step hw ih) ih
end MForm12

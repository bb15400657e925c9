/-! ===== the reference's reading: all, if ===== -/
def tX175 (RO : zRo) (d : Nat) (P : zP) (l1 : Int32) : zI → zJ → zD → Nat → Nat → Prop := fun I J D bc bs => ∃ c1 s1, c1 ≤ bc ∧ s1 ≤ bs ∧ zz RO d 151 [.ref 28, .int 11] I J D c1 s1 (zNv P fun I1 J1 D1 => (zz RO d 155 [.ref 28, .int 303] I1 J1 D1 0 0 (zNv P fun I2 J2 D2 => (((I2 28 25) = 0 → P (.inl none) I2 J2 D2) ∧ (¬ ((I2 28 25) = 0) → (vp_in l1 1350 ∧ P (.inl none) (zu I2 44 l1.toNatClampNeg (I2 28 19)) J2 D2))))))
/-- landing a jump at l, then end -/
def tXE (RO : zRo) (d : Nat) (P : zP) (l : Int32) : zI → zJ → zD → Nat → Nat → Prop := fun I J D bc bs => (((I 28 25) = 0 → (∃ c1 s1, c1 ≤ bc ∧ s1 ≤ bs ∧ zz RO d 151 [.ref 28, .int 11] I J D c1 s1 (zNv P fun I1 J1 D1 => P (.inl none) I1 J1 D1))) ∧ (¬ ((I 28 25) = 0) → (vp_in l 1350 ∧ (∃ c2 s2, c2 ≤ bc ∧ s2 ≤ bs ∧ zz RO d 151 [.ref 28, .int 11] (zu I 44 l.toNatClampNeg (I 28 19)) J D c2 s2 (zNv P fun I2 J2 D2 => P (.inl none) I2 J2 D2)))))
def tX174 (RO : zRo) (d : Nat) (P : zP) (l1 l2 : Int32) : zI → zJ → zD → Nat → Nat → Prop := fun I J D bc bs => zz RO d 152 [.ref 28, .int 16] I J D 0 0 (zNi P fun v1 I1 J1 D1 => ((v1 = 0 → tXE RO d P l2 I1 J1 D1 bc bs) ∧ (¬ (v1 = 0) → (zz RO d 154 [.ref 28, .int 301, .int 0, .int 0] I1 J1 D1 0 0 (zNi P fun v4 I4 J4 D4 => (((I4 28 25) = 0 → zw RO d 174 P 82 [(0, .ref 28), (1, .int l1), (2, .int l2), (3, .int v4)] [] I4 J4 D4 bc bs) ∧ (¬ ((I4 28 25) = 0) → (vp_in l2 1350 ∧ zw RO d 174 P 82 [(0, .ref 28), (1, .int l1), (2, .int l2), (3, .int v4)] [] (zu I4 44 l2.toNatClampNeg (I4 28 19)) J4 D4 bc bs))))))))
section MForm10
variable {RO : zRo} {d : Nat} {P : zP} {I : zI} {J : zJ} {D : zD} {bc bs : Nat} {T : qTk} {E : Nat → Nat} {pl : Nat → Option Nat} {tb : List (Int64 × Nat × Nat)} {mn ct k dp a j c : Nat} {I0 : zI} {J0 : zJ}
theorem eml0 {L : List zM3} (h : mn = 0) : eml mn L = [] := by
  unfold eml
  rw [if_neg (by omega)]
theorem eml1 {L : List zM3} (h : mn = 1) : eml mn L = L := by
  unfold eml
  rw [if_pos h]
theorem n_is {b : Nat} (hw : qTw T) (hs : qMw T tb mn ct I0 J0 k a I J) (hn : k < T.2.2.2) (hb : b ≤ 51) : zo_148 I J (zi (qkm b : Int)) ∧ (zv_148 I J (zi (qkm b : Int)) = 0 → ¬ T.1 k = b) ∧ (¬ zv_148 I J (zi (qkm b : Int)) = 0 → T.1 k = b) := by
  obtain ⟨o, h1, _⟩ := n_148 (a := b) hw hs.1 hs.2.1 hn hb
  refine ⟨o, h1.mp, fun z => ?_⟩
  by_cases z2 : T.1 k = b
  · exact z2
  · exact absurd (h1.mpr z2) z
theorem qOut_end {α : Type} {x : Nat × α} (hg : qGx T E mn 1 pl tb k) (hk : T.1 k = 15 ∨ T.1 k = 20) (hx : x.1 = k + 1) : qOut E k (.inr x) = .inr x := qOut_leaf (qGx_0 hg (Or.inr (Or.inl (by omega))) (by omega) (fun _ => rfl)) hx
theorem s_175 {f n nest : Nat} {r : Nat ⊕ (Nat × zSt (n + 1))} (hw : qTw T) (ihL : mLo RO T E pl tb mn I0 J0 f) (h : pAl T.1 n (pS T.1 f n) k = some r) (hok : mn = 1 → ∃ q, r = .inr q) (hne : nest + n = 4) (he : 2 * n + 66 ≤ d + 1) (hn : k + 1 < T.2.2.2) (hab : mn = 1 → a ≤ 3 * k) (hg : qGx T E mn 1 pl tb (k + 1)) (hs : qMw T tb mn 1 I0 J0 (k + 1) a I J) (h28 : I 28 28 = zi (nest : Int)) (H1 : qTh T P D bc bs I0 J0 (qOut E (k + 1) r))
    (H2 : ∀ q, qOut E (k + 1) r = .inr q → ∀ I', sfr I I' → I' 28 24 = zi (q.1 : Int) → I' 28 28 = zi (nest : Int) → qmN a (eml mn (zmc (n + 1) (qRs T pl (n + 1) q.2) a)) I I' → P (.inl none) I' J D) : zz RO (d + 2) 175 [.ref 28] I J D bc bs P := by
  have hN := hw.2.1
  unfold pAl at h
  obtain ⟨y, hy, y1, y2⟩ := pB_cases h
  obtain ⟨d, rfl⟩ : ∃ d', d = d' + 1 := ⟨d - 1, by omega⟩
  refine w_175 (d := d + 1) ?_
  refine s_154 (d := d + 1) (x := (302, 0, 0)) hs.2.2.1 hg.1 hs.2.2.2.2.1 (fun z => by have := hab z; omega) (fun v1 I1 hv1 z1 f1 => ?_)
  have ez : (if mn = 1 then [((302 : Nat), (0 : Int32), (0 : Int32))] else []) = eml mn [(302, 0, 0)] := rfl
  rw [ez] at z1
  have l1 : (eml mn [((302 : Nat), (0 : Int32), (0 : Int32))]).length ≤ 1 := eml_len
  have f1s : sfr I I1 := sfr_x (zfm_x1 f1)
  have s1 := qMw_fr hs f1s (by rw [f1.2 24 (by decide)]; exact hs.2.1) z1.1
  have e28 : I1 28 28 = zi (nest : Int) := by rw [f1.2 28 (by decide)]; exact h28
  show zw RO (d + 2) 175 P 10 [(0, .ref 28), (1, .int v1)] [] I1 J D bc bs
  refine ihL (st := fun c => c = 15) (e := d + 2) (LOOP := fun I J D bc bs => zw RO (d + 2) 175 P 10 [(0, .ref 28), (1, .int v1)] [] I J D bc bs) (EXIT := tX175 RO (d + 2) P v1) (x := r) hy (fun I bc bs k a hs hn hE hS => ?_) (fun c hb z => by unfold bst at hb; omega) y1 (fun q hq z => ?_) (fun q hq z => ?_) hok hne (by omega) hn (fun z => by have := hab z; omega) hg s1 e28 H1 (fun q hq z ek I2 f2 e24 e28b z2 => ?_)
  · obtain ⟨o, h1, h2⟩ := n_is (b := 15) hw hs hn (by omega)
    exact wl_175_10 (d := d + 1) ⟨o, fun q => hE (h2 q), fun q => hS (fun z => q (fun w => h1 w z))⟩
  · have h2 := y2 q hq
    rw [if_neg z] at h2
    exact pF_inv h2
  · have h2 := y2 q hq
    rw [if_pos z] at h2
    rw [pO_inv h2]
    show q.1 ≤ q.1 + 1
    omega
  · have h2 := y2 q hq
    rw [if_pos z] at h2
    have e5 := pO_inv h2
    subst hq
    have a1 := pS_ok f (k2 := q.1) (l := q.2) hy
    have pq := (pS_pos hw f hn hy).2
    have pq2 : q.1 < T.2.2.2 := pq
    have l9 := pS_ln (T := T) (pl := pl) f (k2 := q.1) (l := q.2) hy (a + (eml mn [((302 : Nat), (0 : Int32), (0 : Int32))]).length)
    have a19 := a1.1.1
    have g2 := qGx_step hg a1.1
    have s2 := qMw_fr s1 f2 e24 z2.1
    have hr : qOut E (k + 1) r = .inr (q.1 + 1, .inr (.inr q.2)) := by
      rw [ek, e5]
      exact qOut_end g2 (Or.inl z) rfl
    refine ⟨0, 0, Nat.zero_le _, Nat.zero_le _, ?_⟩
    refine s_151t (d := d) (a := 15) hw s2.1 s2.2.1 pq2 (by omega) z (fun I3 e243 f3 => ?_)
    have l3 := eml_len (mn := mn) (A := zcam (zmc n) (q.2.map (qRs T pl n)) (a + (eml mn [((302 : Nat), (0 : Int32), (0 : Int32))]).length))
    have m3 : I3 28 25 = zi (mn : Int) := by rw [f3.2 25 (by decide)]; exact s2.2.2.1
    have a3 : I3 28 19 = zi ((a + (eml mn [((302 : Nat), (0 : Int32), (0 : Int32))]).length + (eml mn (zcam (zmc n) (q.2.map (qRs T pl n)) (a + (eml mn [((302 : Nat), (0 : Int32), (0 : Int32))]).length))).length : Nat) : Int) := by rw [f3.2 19 (by decide)]; exact s2.2.2.2.2.1
    refine s_155 (d := d) (x := 303) m3 hg.1 a3 (fun z => by have := hab z; have := qTw_lt hw (k := q.1) (by omega); omega) (fun I4 z4 f4 => ?_)
    have m4 : I4 28 25 = zi (mn : Int) := by rw [f4.2 25 (by decide)]; exact m3
    have f04 : sfr I I4 := zfm_trans f1s (zfm_trans f2 (zfm_trans (zfm_sub f3 (by simp) (by simp)) (zfm_sub f4 (by simp) (by simp))))
    have e244 : I4 28 24 = zi ((q.1 + 1 : Nat) : Int) := by rw [f4.2 24 (by decide)]; exact e243
    have e284 : I4 28 28 = zi (nest : Int) := by rw [f4.2 28 (by decide), f3.2 28 (by decide)]; exact e28b
    show _ ∧ _
    rcases hg.1 with m0 | m1
    · refine ⟨fun _ => H2 _ hr I4 f04 e244 e284 ?_, fun q9 => absurd (by rw [m4, m0]; rfl) q9⟩
      rw [eml0 m0]
      rw [eml0 m0] at z1
      simp only [eml0 m0] at z2
      rw [if_neg (by omega)] at z4
      have z3 := qmN_app z1 (qmN_of z2 (zfm_refl _) (zfm_n1 f3))
      have z5 : qmN (a + ([] ++ [] : List zM3).length) [] I3 I4 := by
        simp only [eml0 m0] at z4
        exact z4
      exact qmN_app z3 z5
    · refine ⟨fun q9 => absurd q9 (by rw [m4, m1]; decide), fun _ => ?_⟩
      have ev : v1 = zi (a : Int) := hv1 m1
      have ba := hab m1
      have cl : (zi (a : Int)).toNatClampNeg = a := by rw [zi_cl (by omega) (by omega)]; omega
      rw [eml1 m1] at z1
      simp only [eml1 m1] at z2
      simp only [eml1 m1] at z4
      rw [if_pos m1] at z4
      have z3 := qmN_app z1 (qmN_of z2 (zfm_refl _) (zfm_n1 f3))
      have z5 : qmN a ([] ++ (302, (0 : Int32), (0 : Int32)) :: (zcam (zmc n) (q.2.map (qRs T pl n)) (a + 1) ++ [(303, 0, 0)])) I I4 := by
        have := qmN_app z3 (by
          rw [List.length_append, ← Nat.add_assoc]
          exact z4)
        rw [List.append_assoc] at this
        exact this
      have z6 := qmN_land (x := zi ((a + 2 + (zcam (zmc n) (q.2.map (qRs T pl n)) (a + 1)).length : Nat) : Int)) z5
      have el5 : (([] : List zM3) ++ (302, (0 : Int32), (0 : Int32)) :: (zcam (zmc n) (q.2.map (qRs T pl n)) (a + 1) ++ [(303, 0, 0)])).length = (zcam (zmc n) (q.2.map (qRs T pl n)) (a + 1)).length + 2 := by
        rw [List.nil_append, List.length_cons, List.length_append, List.length_singleton]
      have e19 : I4 28 19 = zi ((a + 2 + (zcam (zmc n) (q.2.map (qRs T pl n)) (a + 1)).length : Nat) : Int) := by
        have := z5.1
        rw [el5] at this
        rw [this]
        congr 2
        omega
      rw [ev, cl, e19]
      refine ⟨zi_in (by omega) (by omega) (by omega), ?_⟩
      have f45 : zfm [] [44] I4 (zu I4 44 a (zi ((a + 2 + (zcam (zmc n) (q.2.map (qRs T pl n)) (a + 1)).length : Nat) : Int))) := zfm_zu (zfm_refl _) _ _ (by decide) (by decide)
      refine H2 _ hr _ (zfm_trans f04 (zfm_sub f45 (by simp) (by simp))) (by rw [f45.2 24 (by decide)]; exact e244) (by rw [f45.2 28 (by decide)]; exact e284) ?_
      rw [eml1 m1]
      exact z6
end MForm10

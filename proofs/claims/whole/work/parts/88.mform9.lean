/-! ===== the reference's reading: where statements end; rows of statements ===== -/
theorem zi_nat_ex (x : Int32) : ∃ n : Nat, x = zi (n : Int) := by
  have h1 := Int32.le_toInt x
  refine ⟨(x.toInt + 4294967296).toNat, ?_⟩
  have e : ((x.toInt + 4294967296).toNat : Int) = x.toInt + 4294967296 := by omega
  rw [e, ← zi_add, zi_of]
  show x = x + 0
  simp
theorem pB_pos {α β : Type} {r : zRs α} {f : Nat → α → zRs β} {x : Nat ⊕ (Nat × β)} {k N : Nat} (h : pB r f = some x) (hr : ∀ y, r = some y → k ≤ qPos y ∧ qPos y < N) (hf : ∀ k1 a, k ≤ k1 → k1 < N → ∀ x, f k1 a = some x → k1 ≤ qPos x ∧ qPos x < N) : k ≤ qPos x ∧ qPos x < N := by
  obtain ⟨y, hy, y1, y2⟩ := pB_cases h
  have p := hr y hy
  cases y with
  | inl j =>
    rw [y1 j rfl]
    exact p
  | inr q =>
    have p1 : k ≤ q.1 ∧ q.1 < N := p
    have := hf q.1 q.2 p1.1 p1.2 x (y2 q rfl)
    omega
theorem pK_pos {α : Type} {T : qTk} {c k : Nat} {a : α} {x : Nat ⊕ (Nat × α)} (hw : qTw T) (hc : 2 ≤ c) (hn : k < T.2.2.2) (h : (if T.1 k = c then pO (k + 1) a else pF k) = some x) : k ≤ qPos x ∧ qPos x < T.2.2.2 := by
  by_cases z : T.1 k = c
  · rw [if_pos z] at h
    have := qTw_lt hw (k := k) (by omega)
    rw [pO_inv h]
    show k ≤ k + 1 ∧ k + 1 < _
    omega
  · rw [if_neg z] at h
    rw [pF_inv h]
    show k ≤ k ∧ k < _
    omega
theorem pSt_pos {T : qTk} {n k : Nat} {x : Nat ⊕ (Nat × zSt n)} (hw : qTw T) (hb : bst (T.1 k)) (hn : k < T.2.2.2) (h : pSt T.1 n k = some x) : k ≤ qPos x ∧ qPos x < T.2.2.2 := by
  have hlt := qTw_lt hw (k := k) (by unfold bst at hb; omega)
  unfold pSt at h
  by_cases c : T.1 k = 16 ∨ T.1 k = 17
  · rw [if_pos c] at h
    have := pB_pos (k := k + 1) h (fun y hy => pPl_pos hw hy hlt) (fun k1 nm h1 h2 x hx => pB_pos hx (fun y hy => pEx_pos hw hy h2) (fun k2 o h3 h4 x hx => pK_pos hw (by omega) h4 hx))
    omega
  · rw [if_neg c] at h
    by_cases z : T.1 (k + 1) = 39
    · rw [if_pos z] at h
      have := qTw_lt hw (k := k + 1) (by omega)
      rw [pO_inv h]
      show k ≤ k + 2 ∧ k + 2 < _
      omega
    · rw [if_neg z] at h
      rw [pF_inv h]
      show k ≤ k + 1 ∧ k + 1 < _
      omega
def qSp (T : qTk) (f : Nat) : Prop := ∀ {n k : Nat} {x : Nat ⊕ (Nat × List (zSt n))}, k < T.2.2.2 → pS T.1 f n k = some x → k ≤ qPos x ∧ qPos x < T.2.2.2
theorem pStm_pos {T : qTk} {f n k : Nat} {x : Nat ⊕ (Nat × zSt n)} (hw : qTw T) (ih : qSp T f) (hb : bst (T.1 k)) (hn : k < T.2.2.2) (h : pStm T.1 (pS T.1 f) n k = some x) : k ≤ qPos x ∧ qPos x < T.2.2.2 := by
  have hlt := qTw_lt hw (k := k) (by unfold bst at hb; omega)
  cases n with
  | zero =>
    have h : (if T.1 k = 18 ∨ T.1 k = 24 then pF k else pSt T.1 0 k) = some x := h
    by_cases c : T.1 k = 18 ∨ T.1 k = 24
    · rw [if_pos c] at h
      rw [pF_inv h]
      show k ≤ k ∧ k < _
      omega
    · rw [if_neg c] at h
      exact pSt_pos hw hb hn h
  | succ n =>
    have h : (if T.1 k = 18 then pIf T.1 n (pS T.1 f n) k else if T.1 k = 24 then pAl T.1 n (pS T.1 f n) k else pSt T.1 (n + 1) k) = some x := h
    by_cases c : T.1 k = 18
    · rw [if_pos c] at h
      unfold pIf at h
      have := pB_pos (k := k + 1) h (fun y hy => pEx_pos hw hy hlt) (fun k1 o h1 h2 x hx => by
        by_cases z : T.1 k1 = 19
        · rw [if_pos z] at hx
          have l1 := qTw_lt hw (k := k1) (by omega)
          have := pB_pos (k := k1 + 1) hx (fun y hy => ih l1 hy) (fun k2 t h3 h4 x hx => by
            by_cases z2 : T.1 k2 = 20
            · rw [if_pos z2] at hx
              have l2 := qTw_lt hw (k := k2) (by omega)
              have := pB_pos (k := k2 + 1) hx (fun y hy => ih l2 hy) (fun k3 e h5 h6 x hx => pK_pos hw (by omega) h6 hx)
              omega
            · rw [if_neg z2] at hx
              exact pK_pos hw (by omega) h4 hx)
          omega
        · rw [if_neg z] at hx
          rw [pF_inv hx]
          show k1 ≤ k1 ∧ k1 < _
          omega)
      omega
    · rw [if_neg c] at h
      by_cases c2 : T.1 k = 24
      · rw [if_pos c2] at h
        unfold pAl at h
        have := pB_pos (k := k + 1) h (fun y hy => ih hlt hy) (fun k1 o h1 h2 x hx => pK_pos hw (by omega) h2 hx)
        omega
      · rw [if_neg c2] at h
        exact pSt_pos hw hb hn h
theorem pS_pos {T : qTk} (hw : qTw T) (f : Nat) : qSp T f := by
  induction f with
  | zero =>
    intro n k x hn h
    cases h
  | succ f ih =>
    intro n k x hn h
    unfold pS at h
    by_cases c : bst (T.1 k)
    · rw [if_pos c] at h
      exact pB_pos h (fun y hy => pStm_pos hw ih c hn hy) (fun k1 a h1 h2 x hx => pB_pos hx (fun y hy => ih h2 hy) (fun k2 l h3 h4 x hx => by
        rw [pO_inv hx]
        exact ⟨Nat.le_refl _, h4⟩))
    · rw [if_neg c] at h
      rw [pO_inv h]
      exact ⟨Nat.le_refl _, hn⟩
/-- one statement, of the reference -/
def mS (RO : zRo) (T : qTk) (E : Nat → Nat) (pl : Nat → Option Nat) (tb : List (Int64 × Nat × Nat)) (mn : Nat) (I0 : zI) (J0 : zJ) (f : Nat) : Prop := ∀ {n nest k a e bc bs : Nat} {r : Nat ⊕ (Nat × zSt n)} {I : zI} {J : zJ} {D : zD} {P : zP}, pStm T.1 (pS T.1 f) n k = some r → bst (T.1 k) → (mn = 1 → ∃ q, r = .inr q) → nest + n = 4 → 2 * n + 66 ≤ e → k < T.2.2.2 → (mn = 1 → a ≤ 3 * k) → qGx T E mn 1 pl tb k → qMw T tb mn 1 I0 J0 k a I J → I 28 28 = zi (nest : Int) → qTh T P D bc bs I0 J0 (qOut E k r) →
  (∀ q, qOut E k r = .inr q → ∀ I', sfr I I' → I' 28 24 = zi (q.1 : Int) → I' 28 28 = zi (nest : Int) → qmN a (eml mn (zmc n (qRs T pl n q.2) a)) I I' → P (.inl none) I' J D) → zz RO e 172 [.ref 28] I J D bc bs P
/-- a loop over statements, of the reference -/
def mLo (RO : zRo) (T : qTk) (E : Nat → Nat) (pl : Nat → Option Nat) (tb : List (Int64 × Nat × Nat)) (mn : Nat) (I0 : zI) (J0 : zJ) (f : Nat) : Prop := ∀ {n nest k a e bc bs : Nat} {y : Nat ⊕ (Nat × List (zSt n))} {β : Type} {x : Nat ⊕ (Nat × β)} {st : Nat → Prop} {LOOP EXIT : zI → zJ → zD → Nat → Nat → Prop} {I : zI} {J : zJ} {D : zD} {P : zP}, pS T.1 f n k = some y →
  (∀ I bc bs k a, qMw T tb mn 1 I0 J0 k a I J → k < T.2.2.2 → (st (T.1 k) → EXIT I J D bc bs) → (¬ st (T.1 k) → ∃ c s, c ≤ bc ∧ s ≤ bs ∧ zz RO e 172 [.ref 28] I J D c s (zNv P fun I3 J3 D3 => LOOP I3 J3 D3 (bc - c) (bs - s))) → LOOP I J D bc bs) → (∀ c, bst c → ¬ st c) →
  (∀ j, y = .inl j → x = .inl j) → (∀ q, y = .inr q → ¬ st (T.1 q.1) → x = .inl q.1) → (∀ q, y = .inr q → st (T.1 q.1) → q.1 ≤ qPos x) → (mn = 1 → ∃ q, x = .inr q) → nest + n = 4 → 2 * n + 66 ≤ e → k < T.2.2.2 → (mn = 1 → a ≤ 3 * k) → qGx T E mn 1 pl tb k → qMw T tb mn 1 I0 J0 k a I J → I 28 28 = zi (nest : Int) → qTh T P D bc bs I0 J0 (qOut E k x) →
  (∀ q, y = .inr q → st (T.1 q.1) → qOut E k x = qOut E q.1 x → ∀ I', sfr I I' → I' 28 24 = zi (q.1 : Int) → I' 28 28 = zi (nest : Int) → qmN a (eml mn (zcam (zmc n) (q.2.map (qRs T pl n)) a)) I I' → EXIT I' J D bc bs) → LOOP I J D bc bs
section MForm9
variable {RO : zRo} {d : Nat} {P : zP} {I : zI} {J : zJ} {D : zD} {bc bs : Nat} {T : qTk} {E : Nat → Nat} {pl : Nat → Option Nat} {tb : List (Int64 × Nat × Nat)} {mn ct k dp a j c : Nat} {I0 : zI} {J0 : zJ}
theorem s_172f (hw : qTw T) (hs : qMw T tb mn ct I0 J0 k a I J) (hn : k < T.2.2.2) (hb : ¬ bst (T.1 k)) (hbb : 1 ≤ bc ∧ 8 ≤ bs) (K : P (.inr (3, 1, zi (T.2.1 k : Int))) I J D) : zz RO (d + 2) 172 [.ref 28] I J D bc bs P := by
  have hle := qTw_le hw k
  have lq := qkm_le hle
  have kd := n_kd hs.1 hs.2.1 hw hn
  have vi := n_in hw hs.2.1 hn
  unfold bst at hb
  have EQ : ∀ b : Nat, b ≤ 51 → (zi (qkm (T.1 k) : Int) = zi (qkm b : Int) ↔ T.1 k = b) := fun b hb => by
    have := qkm_le hb
    rw [zi_eq (by omega) (by omega), ← qkm_eq hle hb]
    omega
  have e14 : zi (qkm (T.1 k) : Int) = 14 ↔ T.1 k = 18 := EQ 18 (by omega)
  have e20 : zi (qkm (T.1 k) : Int) = 20 ↔ T.1 k = 24 := EQ 24 (by omega)
  have e12 : zi (qkm (T.1 k) : Int) = 12 ↔ T.1 k = 16 := EQ 16 (by omega)
  have e13 : zi (qkm (T.1 k) : Int) = 13 ↔ T.1 k = 17 := EQ 17 (by omega)
  have km : (17 ≤ qkm (T.1 k) ∧ qkm (T.1 k) ≤ 19) ↔ 21 ≤ T.1 k ∧ T.1 k ≤ 23 := by
    unfold qkm
    (repeat' split) <;> omega
  have e136 : zv_136 I J (zi (qkm (T.1 k) : Int)).toInt64 17 19 = if (17 : Int) ≤ qkm (T.1 k) ∧ (qkm (T.1 k) : Int) ≤ 19 then 1 else 0 := n_136 (lo := 17) (hi := 19) (by omega) (by omega) (by omega)
  rw [if_neg (fun z => by have := km.mp (by omega); omega)] at e136
  refine w_172 ⟨vi, ?_⟩
  rw [kd, e136, n_pl hs.1 hs.2.1 hw hn]
  exact ⟨fun q => by have := e14.mp q; omega, fun _ => ⟨fun _ => ⟨fun q => by have := e12.mp q; omega, fun _ => ⟨fun q => by have := e13.mp q; omega, fun _ => ⟨fun _ => ⟨hbb, vi, K⟩, fun q => absurd rfl q⟩⟩⟩, fun q => absurd (fun z => by have := e20.mp z; omega) q⟩⟩
theorem mLo_step {f : Nat} (hw : qTw T) (ihS : mS RO T E pl tb mn I0 J0 f) (ihL : mLo RO T E pl tb mn I0 J0 f) : mLo RO T E pl tb mn I0 J0 (f + 1) := by
  intro n nest k a e bc bs y β x st LOOP EXIT I J D P h U hst y1 hx hxp hok hne he hn hab hg hs h28 H1 HE
  unfold pS at h
  by_cases c : bst (T.1 k)
  · rw [if_pos c] at h
    obtain ⟨ys, hys, ys1, ys2⟩ := pB_cases h
    have pys := pStm_pos hw (pS_pos hw f) c hn hys
    have pyx : qPos ys ≤ qPos x := qPos_le (fun j hj => y1 j (ys1 j hj)) (fun q hq => by
      obtain ⟨y3, h3, y31, y32⟩ := pB_cases (ys2 q hq)
      have pq : q.1 < T.2.2.2 := by
        rw [hq] at pys
        exact pys.2
      have p3 := pS_pos hw f pq h3
      have : qPos y3 ≤ qPos x := qPos_le (fun j hj => y1 j (y31 j hj)) (fun q3 hq3 => by
        have e9 := pO_inv (y32 q3 hq3)
        by_cases z : st (T.1 q3.1)
        · exact hxp (q3.1, q.2 :: q3.2) e9 z
        · rw [hx (q3.1, q.2 :: q3.2) e9 z]
          exact Nat.le_refl _)
      omega)
    refine U I bc bs k a hs hn (fun z => absurd z (hst _ c)) (fun _ => ?_)
    rcases hy2 : qOut E k ys with w | q
    · have hx2 := qOut_thr hy2 (fun j hj => y1 j (ys1 j hj)) ⟨pys.1, pyx⟩
      refine ⟨bc, bs, Nat.le_refl _, Nat.le_refl _, ?_⟩
      have H3 : qTh T P D bc bs I0 J0 (qOut E k ys) := qTh_to H1 hx2 hy2
      exact ihS hys c (hok_sub (fun j hj => y1 j (ys1 j hj)) hok) hne he hn hab hg hs h28 H3 (fun q hq => absurd (hy2.symm.trans hq) (fun z => by cases z))
    · obtain ⟨e1, e3⟩ := qOut_go hy2 ⟨pys.1, pyx⟩
      subst e1
      have a1 := pStm_ok (pS_ok f) c hys
      have pq : q.1 < T.2.2.2 := pys.2
      have a9 := a1.1.1
      obtain ⟨y3, h3, y31, y32⟩ := pB_cases (ys2 q rfl)
      refine ⟨0, 0, Nat.zero_le _, Nat.zero_le _, ?_⟩
      have H3 : qTh T P D 0 0 I0 J0 (qOut E k (Sum.inr q)) := qTh_no hy2
      have l1 := pStm_ln (T := T) (pl := pl) (pS_ln f) c hys a
      refine ihS hys c (hok_sub (fun j hj => y1 j (ys1 j hj)) hok) hne he hn hab hg hs h28 H3 (fun q9 hq9 I1 f1 e24 e28 z1 => ?_)
      have e9 : q = q9 := by
        have := hy2.symm.trans hq9
        cases this
        rfl
      subst e9
      have s1 := qMw_fr hs f1 e24 z1.1
      have l2 := eml_len (mn := mn) (A := zmc n (qRs T pl n q.2) a)
      have eE : mn = 1 → eml mn (zmc n (qRs T pl n q.2) a) = zmc n (qRs T pl n q.2) a := fun z => by
        unfold eml
        rw [if_pos z]
      show LOOP I1 J D bc bs
      rw [e3] at H1
      refine ihL h3 U hst (fun j hj => y1 j (y31 j hj)) (fun q3 hq3 z => hx (q3.1, q.2 :: q3.2) (pO_inv (y32 q3 hq3)) z) (fun q3 hq3 z => hxp (q3.1, q.2 :: q3.2) (pO_inv (y32 q3 hq3)) z) hok hne he pq (fun z => by have := hab z; omega) (qGx_step hg a1.1) s1 e28 H1 (fun q3 hq3 z ek I3 f3 e243 e283 z3 => ?_)
      refine HE (q3.1, q.2 :: q3.2) (pO_inv (y32 q3 hq3)) z (e3.trans ek) I3 (zfm_trans f1 f3) e243 e283 ?_
      show qmN a (eml mn (zcam (zmc n) ((q.2 :: q3.2).map (qRs T pl n)) a)) I I3
      rw [List.map_cons, zcam_cons, eml_app]
      rcases hg.1 with m0 | m1
      · have e0 : ∀ L : List zM3, eml mn L = [] := fun L => by
          unfold eml
          rw [if_neg (by omega)]
        simp only [e0] at z1 z3 ⊢
        exact qmN_app z1 z3
      · have z3' : qmN (a + (zmc n (qRs T pl n q.2) a).length) (eml mn (zcam (zmc n) (q3.2.map (qRs T pl n)) (a + (zmc n (qRs T pl n q.2) a).length))) I1 I3 := by
          have z4 := z3
          rw [eE m1] at z4
          exact z4
        rw [eE m1] at z1 ⊢
        exact qmN_app z1 z3'
  · rw [if_neg c] at h
    have ey := pO_inv h
    refine U I bc bs k a hs hn (fun z => ?_) (fun z => ?_)
    · refine HE (k, []) ey z rfl I (zfm_refl _) hs.2.1 h28 ?_
      have e : eml mn (zcam (zmc n) (List.map (qRs T pl n) []) a) = [] := by
        unfold eml
        split <;> rfl
      show qmN a (eml mn (zcam (zmc n) (List.map (qRs T pl n) []) a)) I I
      rw [e]
      exact qmN_nil hs.2.2.2.2.1
    · have ex := hx (k, []) ey z
      have h9 := H1 k 1 (by rw [ex]; exact qOut_here)
      refine ⟨bc, bs, Nat.le_refl _, Nat.le_refl _, ?_⟩
      obtain ⟨d, rfl⟩ : ∃ d, e = d + 2 := ⟨e - 2, by omega⟩
      exact s_172f hw hs hn c h9.1 (h9.2 I J hs.2.2.2.2.2.2.1 hs.2.2.2.2.2.2.2)
end MForm9

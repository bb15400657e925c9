/-! ===== the program that the meaning tells; what the reference holds of it between items ===== -/
def qXo (T : qTk) (t : Nat) : List zOp := match pEx T.1 (t + 1) with
  | some (.inr q) => q.2.map (qRo T (qPl T))
  | _ => []
def qXl (T : qTk) (t : Nat) : List (zSt 4) := match pS T.1 500 4 (t + 1) with
  | some (.inr q) => q.2.map (qRs T (qPl T) 4)
  | _ => []
theorem qXo_of {T : qTk} {t k : Nat} {o : List zOp} (h : pEx T.1 (t + 1) = pO k o) : qXo T t = o.map (qRo T (qPl T)) := by
  unfold qXo
  rw [h]
  rfl
theorem qXl_of {T : qTk} {t k : Nat} {l : List (zSt 4)} (h : pS T.1 500 4 (t + 1) = pO k l) : qXl T t = l.map (qRs T (qPl T) 4) := by
  unfold qXl
  rw [h]
  rfl
def qPg (T : qTk) (m : qMt) : zPg := (fun b => (m.2.2.2.2.1 b).map (qXo T), fun b => qXl T (m.2.2.2.2.2 b), qXo T (m.1 14), fun k => zi (m.2.1 k), m.2.2.1, m.2.2.2.1, m.1)
/-- code that stands below a -/
def qCd (a : Nat) (I : zI) (ad : Nat) (L : List zM3) : Prop := ad + L.length ≤ a ∧ ∀ j, j < L.length → I 43 (ad + j) = zi ((L.getD j (0, 0, 0)).1 : Int) ∧ I 44 (ad + j) = (L.getD j (0, 0, 0)).2.1 ∧ I 45 (ad + j) = (L.getD j (0, 0, 0)).2.2
def qBc (p : zPg) (a : Nat) (I : zI) (b : Nat) : Prop := (match gPw p b with
  | none => I 40 b = zi (-1)
  | some o => ∃ ad : Nat, I 40 b = zi (ad : Int) ∧ qCd a I ad (o.map zmo ++ [(450, 0, 0)])) ∧ ∃ ad : Nat, I 41 b = zi (ad : Int) ∧ qCd a I ad (zcam (zmc 4) (gPd p b) ad ++ [(303, 0, 0)])
def qRp (ok : Prop) (p : zPg) (a : Nat) (I : zI) : Prop :=
  (∀ c, c ≤ 6 → I 37 (qkm (c + 4)) = zi (gPc p c : Int)) ∧ (∀ c, c = 4 ∨ c = 5 → ∀ i, i < gPc p (c - 4) → ∀ w, w < 3 → I 38 (3 * qTg c i + w) = gPb p (3 * qTg c i + w)) ∧ ((ok → ∀ i, i < gPc p 2 → I 39 i = gPa p i) ∧ ∀ i, gPc p 2 ≤ i → i < 6 → I 39 i = 0) ∧ (∀ i, i < gPc p 5 → I 42 i = zi (gPr p i : Int)) ∧ (∀ c, 7 ≤ c → c ≤ 9 → ∀ i, i < gPc p (c - 4) → qBc p a I (qBd c i)) ∧ (0 < gPc p 6 → ∃ ad : Nat, I 28 18 = zi (ad : Int) ∧ qCd a I ad ((gPn p).map zmo ++ [(450, 0, 0)]))
theorem qCd_keep {a a2 ad : Nat} {L : List zM3} {I I' : zI} (h : qCd a I ad L) (ha : a ≤ a2) (hk : ∀ j, j < a → I' 43 j = I 43 j ∧ I' 44 j = I 44 j ∧ I' 45 j = I 45 j) : qCd a2 I' ad L := by
  obtain ⟨h1, h2⟩ := h
  refine ⟨by omega, fun j hj => ?_⟩
  have w := hk (ad + j) (by omega)
  rw [w.1, w.2.1, w.2.2]
  exact h2 j hj
theorem qBc_keep {p p2 : zPg} {a a2 b : Nat} {I I' : zI} (h : qBc p a I b) (h1 : gPw p2 b = gPw p b) (h2 : gPd p2 b = gPd p b) (ha : a ≤ a2) (hk : ∀ j, j < a → I' 43 j = I 43 j ∧ I' 44 j = I 44 j ∧ I' 45 j = I 45 j) (e40 : I' 40 b = I 40 b) (e41 : I' 41 b = I 41 b) : qBc p2 a2 I' b := by
  obtain ⟨q1, ad, q2, q3⟩ := h
  refine ⟨?_, ad, by rw [e41]; exact q2, by rw [h2]; exact qCd_keep q3 ha hk⟩
  rw [h1]
  cases hq : gPw p b with
  | none =>
    rw [hq] at q1
    show I' 40 b = zi (-1)
    rw [e40]
    exact q1
  | some o =>
    rw [hq] at q1
    obtain ⟨ad2, w1, w2⟩ := q1
    exact ⟨ad2, by rw [e40]; exact w1, qCd_keep w2 ha hk⟩
/-- what is appended leaves what was there -/
theorem qmN_low {a : Nat} {L : List zM3} {I I' : zI} (h : qmN a L I I') : ∀ j, j < a → I' 43 j = I 43 j ∧ I' 44 j = I 44 j ∧ I' 45 j = I 45 j := h.2.1
theorem qmN_cd {a : Nat} {A B C : List zM3} {I I' : zI} (h : qmN a (A ++ (B ++ C)) I I') : qCd (a + (A ++ (B ++ C)).length) I' (a + A.length) B := by
  obtain ⟨h1, h2, h3⟩ := h
  refine ⟨by rw [List.length_append, List.length_append]; omega, fun j hj => ?_⟩
  have w := h3 (A.length + j) (by rw [List.length_append, List.length_append]; omega)
  have e : (A ++ (B ++ C)).getD (A.length + j) (0, 0, 0) = B.getD j (0, 0, 0) := by
    rw [List.getD_eq_getElem?_getD, List.getElem?_append_right (by omega), Nat.add_sub_cancel_left, List.getElem?_append_left hj, ← List.getD_eq_getElem?_getD]
  rw [e, ← Nat.add_assoc] at w
  exact w
/-- another item of sort c: the other sorts' parts stay -/
theorem qRp_other {ok : Prop} {p p2 : zPg} {a a2 c : Nat} {I I' : zI} (h : qRp ok p a I) (hc : 4 ≤ c ∧ c ≤ 10) (hcn : ∀ x, x ≤ 6 → gPc p2 x = if x = c - 4 then gPc p x + 1 else gPc p x) (h37 : ∀ x, x ≤ 6 → I' 37 (qkm (x + 4)) = if x = c - 4 then I 37 (qkm (x + 4)) + 1 else I 37 (qkm (x + 4))) (hmx : ∀ x, x ≤ 6 → gPc p x ≤ 12)
    (hb : ∀ d i, d = 4 ∨ d = 5 → i < gPc p (d - 4) → ∀ w, w < 3 → I' 38 (3 * qTg d i + w) = I 38 (3 * qTg d i + w) ∧ gPb p2 (3 * qTg d i + w) = gPb p (3 * qTg d i + w)) (ha : ∀ i, (¬ c = 6 ∨ ¬ i = gPc p 2) → I' 39 i = I 39 i ∧ gPa p2 i = gPa p i) (hr : ∀ i, i < gPc p 5 → I' 42 i = I 42 i ∧ gPr p2 i = gPr p i)
    (hbd : ∀ d i, 7 ≤ d → d ≤ 9 → i < gPc p (d - 4) → gPw p2 (qBd d i) = gPw p (qBd d i) ∧ gPd p2 (qBd d i) = gPd p (qBd d i) ∧ I' 40 (qBd d i) = I 40 (qBd d i) ∧ I' 41 (qBd d i) = I 41 (qBd d i)) (hn : 0 < gPc p 6 → I' 28 18 = I 28 18 ∧ gPn p2 = gPn p) (haa : a ≤ a2) (hk : ∀ j, j < a → I' 43 j = I 43 j ∧ I' 44 j = I 44 j ∧ I' 45 j = I 45 j)
    (n4 : c = 4 ∨ c = 5 → ∀ w, w < 3 → I' 38 (3 * qTg c (gPc p (c - 4)) + w) = gPb p2 (3 * qTg c (gPc p (c - 4)) + w)) (n6 : c = 6 → ok → I' 39 (gPc p 2) = gPa p2 (gPc p 2)) (n9 : c = 9 → I' 42 (gPc p 5) = zi (gPr p2 (gPc p 5) : Int)) (n7 : 7 ≤ c → c ≤ 9 → qBc p2 a2 I' (qBd c (gPc p (c - 4)))) (n10 : c = 10 → ∃ ad : Nat, I' 28 18 = zi (ad : Int) ∧ qCd a2 I' ad ((gPn p2).map zmo ++ [(450, 0, 0)])) : qRp ok p2 a2 I' := by
  obtain ⟨r1, r2, ⟨r3, r4⟩, r5, r6, r7⟩ := h
  refine ⟨fun x hx => ?_, fun d hd i hi w hw => ?_, ⟨fun o i hi => ?_, fun i h1 h2 => ?_⟩, fun i hi => ?_, fun d h1 h2 i hi => ?_, fun hp => ?_⟩
  · rw [h37 x hx, hcn x hx, r1 x hx]
    split
    · have := hmx x hx
      rw [zi_succ]
    · rfl
  · rw [hcn (d - 4) (by omega)] at hi
    by_cases e : i < gPc p (d - 4)
    · have q := hb d i hd e w hw
      rw [q.1, q.2]
      exact r2 d hd i e w hw
    · by_cases ec : d - 4 = c - 4
      · rw [if_pos ec] at hi
        have ed : d = c := by omega
        subst ed
        have ei : i = gPc p (d - 4) := by omega
        rw [ei]
        exact n4 hd w hw
      · rw [if_neg ec] at hi
        omega
  · rw [hcn 2 (by omega)] at hi
    by_cases e : i < gPc p 2
    · have q := ha i (Or.inr (by omega))
      rw [q.1, q.2]
      exact r3 o i e
    · by_cases ec : 2 = c - 4
      · rw [if_pos ec] at hi
        have ei : i = gPc p 2 := by omega
        rw [ei]
        exact n6 (by omega) o
      · rw [if_neg ec] at hi
        omega
  · rw [hcn 2 (by omega)] at h1
    by_cases ec : 2 = c - 4
    · rw [if_pos ec] at h1
      rw [(ha i (Or.inr (by omega))).1]
      exact r4 i (by omega) h2
    · rw [if_neg ec] at h1
      rw [(ha i (Or.inl (by omega))).1]
      exact r4 i h1 h2
  · rw [hcn 5 (by omega)] at hi
    by_cases e : i < gPc p 5
    · have q := hr i e
      rw [q.1, q.2]
      exact r5 i e
    · by_cases ec : 5 = c - 4
      · rw [if_pos ec] at hi
        have ei : i = gPc p 5 := by omega
        rw [ei]
        exact n9 (by omega)
      · rw [if_neg ec] at hi
        omega
  · rw [hcn (d - 4) (by omega)] at hi
    by_cases e : i < gPc p (d - 4)
    · have q := hbd d i h1 h2 e
      exact qBc_keep (r6 d h1 h2 i e) q.1 q.2.1 haa hk q.2.2.1 q.2.2.2
    · by_cases ec : d - 4 = c - 4
      · rw [if_pos ec] at hi
        have ed : d = c := by omega
        subst ed
        have ei : i = gPc p (d - 4) := by omega
        rw [ei]
        exact n7 h1 h2
      · rw [if_neg ec] at hi
        omega
  · rw [hcn 6 (by omega)] at hp
    by_cases ec : 6 = c - 4
    · exact n10 (by omega)
    · rw [if_neg ec] at hp
      obtain ⟨ad, w1, w2⟩ := r7 hp
      have q := hn hp
      exact ⟨ad, by rw [q.1]; exact w1, by rw [q.2]; exact qCd_keep w2 haa hk⟩
section MItem6
variable {RO : zRo} {d : Nat} {P : zP} {I : zI} {J : zJ} {D : zD} {bc bs : Nat} {T : qTk} {mn ct k dp a j c : Nat} {I0 : zI} {J0 : zJ}
/-- a phase: the colon, the acts -/
theorem s_170 {N : Nat} {r : Nat ⊕ (Nat × Unit)} (hw : qTw T) (hm : mn = 0 ∨ mn = 1) (h : pPh T.1 k = some r) (hok : mn = 1 → ∃ q, r = .inr q) (hnm : mn = 1 → ∀ i, T.1 i = 7 → T.1 (i + 1) = 2) (hN : N < 6) (hn : k < T.2.2.2) (ht : qTm T I J) (h24 : I 28 24 = zi (k : Int)) (h25 : I 28 25 = zi (mn : Int)) (hr0 : rfr I0 I) (hj0 : rfj J0 J) (h37 : I 37 4 = zi (N : Int)) (hM : mn = 1 → (qMm T k).1 11 = N) (H1 : qTh T P D bc bs I0 J0 (qOut (qEp9 T mn) k r))
    (H2 : ∀ q, r = .inr q → (mn = 1 → ∀ i, k ≤ i → i < q.1 → qEE T i = 0) → ∀ I', zfm [24] [39] I I' → I' 28 24 = zi (q.1 : Int) → (mn = 0 → I' 39 = I 39) → (mn = 1 → qPa T N k q.1 I I') → P (.inl none) I' J D) : zz RO (d + 4) 170 [.ref 28] I J D bc bs P := by
  have ff := qTh_f hm hok H1
  unfold pPh at h
  obtain ⟨y, hy, y1, y2⟩ := pB_cases h
  refine w_170 (d := d + 3) ?_
  refine s_tk (d := d + 1) (b := 40) hw ht h24 hn (by omega) (fun z => ?_) (fun z I1 e1 f1 => ?_)
  · unfold pT at hy
    rw [if_neg z] at hy
    have b := ff k (y1 k (pF_inv hy))
    exact ⟨b.1, b.2 I J hr0 hj0⟩
  · unfold pT at hy
    rw [if_pos z] at hy
    have h2 : pB (pT T.1 2 (k + 1)) (fun k2 _ => pNs T.1 500 k2) = some r := y2 (k + 1, ()) (pO_inv hy)
    have l1 := qTw_lt hw (k := k) (by omega)
    have E40 : qEE T k = 0 := qEE_0 (by omega)
    have M40 : qMm T (k + 1) = qMm T k := qMm_0 (by omega)
    have p2 := pB_pos (k := k + 1) h2 (fun y hy => pT_pos hw (by omega) l1 hy) (fun k1 _ h1 h2 x hx => pNs_pos hw h2 hx)
    have ek : qOut (qEp9 T mn) k r = qOut (qEp9 T mn) (k + 1) r := qOut_step (fun j h1 h2 => by
      unfold qEp9
      split
      · rw [show j = k by omega]
        exact E40
      · rfl) ⟨by omega, p2.1⟩
    refine s_170_6 (d := d) (N := N) hw hm hok hnm hN h2 l1 (Or.inl (by rw [Nat.add_sub_cancel]; exact z)) (qTm_n ht f1) e1 (by rw [f1.2 25 (by decide)]; exact h25) (zfm_trans hr0 (zfm_sub f1 (by simp) (by simp))) hj0 (by rw [f1.1 37 (by decide) (by decide)]; exact h37) (fun m1 => by rw [M40]; exact hM m1) (by rw [← ek]; exact H1) (fun q hq hcl I4 f4 e4 k4 k4p => ?_)
    refine H2 q hq (fun m1 i h1 h2 => ?_) I4 (zfm_trans (zfm_sub f1 (by simp) (by simp)) f4) e4 (fun m0 => by rw [k4 m0, f1.1 39 (by decide) (by decide)]) (fun m1 => qPa_app (qPa_same M40 (f1.1 39 (by decide) (by decide))) (k4p m1))
    by_cases e : i = k
    · rw [e]
      exact E40
    · exact hcl m1 i (by omega) h2
end MItem6

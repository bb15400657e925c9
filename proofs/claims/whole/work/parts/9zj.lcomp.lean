/-! ===== the state of a run, and compile on both sides ===== -/
abbrev lS : Type := lTp × Int32 × Option (zPg × Option (Nat × zGm × Int64))
def noM (I : zI) : Prop := I 28 30 = 0 ∧ I 28 45 = 0 ∧ I 28 47 = 0
def CP (o : Option (zPg × Option (Nat × zGm × Int64))) (I : zI) (J : zJ) : Prop := match o with
  | none => I 12 7 = 0 ∧ (∀ x, x < 7 → I 13 x = 0) ∧ qNo I J
  | some (p, none) => I 12 7 = 1 ∧ zPok p ∧ zCp p I ∧ qNo I J
  | some (p, some (m, G, z0)) => I 12 7 = 1 ∧ zPok p ∧ (2 ≤ m ∧ m ≤ 4) ∧ gTr p m z0 G ∧ zCp p I ∧ zTb G I J ∧ zCs G z0 I J
def MP (o : Option (zPg × Option (Nat × zGm × Int64))) (I : zI) (J : zJ) : Prop := match o with
  | none => I 28 23 = 0 ∧ (∀ x, x < 9 → I 37 x = 0) ∧ noM I
  | some (p, none) => I 28 23 = 1 ∧ zMp p I ∧ noM I
  | some (p, some (_, G, z0)) => I 28 23 = 1 ∧ zMp p I ∧ zMb (gPc p 0) (gPc p 1) G I J ∧ zMg G z0 I J
def CI (s : lS) (I : zI) (J : zJ) : Prop := tC s.1 I ∧ tKc J ∧ I 0 8 = s.2.1 ∧ CP s.2.2 I J
def MI (s : lS) (I : zI) (J : zJ) : Prop := tM s.1 I ∧ tKm J ∧ I 28 29 = s.2.1 ∧ MP s.2.2 I J
def loE {α : Type} (f g : Nat → Nat → α) : Prop := ∀ o, o < 28 → g o = f o
def hiE {α : Type} (f g : Nat → Nat → α) : Prop := ∀ o, 28 ≤ o → o ≤ 51 → g o = f o
theorem loE_m {α : Type} {K L : List Nat} {f g : Nat → Nat → α} (h : zfm K L f g) (hL : ∀ o, o ∈ L → 28 ≤ o) : loE f g := fun o ho => h.1 o (fun z => by have := hL o z; omega) (by omega)
theorem loE_r {α : Type} {L : List Nat} {f g : Nat → Nat → α} (h : zfr L f g) (hL : ∀ o, o ∈ L → 28 ≤ o) : loE f g := fun o ho => h o (fun z => by have := hL o z; omega)
theorem hiE_r {α : Type} {L : List Nat} {f g : Nat → Nat → α} (h : zfr L f g) (hL : ∀ o, o ∈ L → o < 28) : hiE f g := fun o h1 _ => h o (fun z => by have := hL o z; omega)
theorem loE_refl {α : Type} (f : Nat → Nat → α) : loE f f := fun _ _ => rfl
theorem hiE_refl {α : Type} (f : Nat → Nat → α) : hiE f f := fun _ _ _ => rfl
theorem zCp_rows {p : zPg} {I I' : zI} (h : zCp p I) (e : ∀ o, 8 ≤ o → o ≤ 18 → ¬ o = 12 → I' o = I o) (e12 : I' 12 6 = I 12 6) : zCp p I' := by
  obtain ⟨p1, p2, p3, p4, p5, p6, a, p7, p8⟩ := h
  have zr9 : ∀ a L, zcR I a L → zcR I' a L := fun a L h => zcR_of h (e 8 (by omega) (by omega) (by omega)) (e 9 (by omega) (by omega) (by omega)) (e 10 (by omega) (by omega) (by omega))
  refine ⟨by rw [e 13 (by omega) (by omega) (by omega)]; exact p1, by rw [e 14 (by omega) (by omega) (by omega)]; exact p2, by rw [e 15 (by omega) (by omega) (by omega)]; exact p3, by rw [e 16 (by omega) (by omega) (by omega)]; exact p4, fun b hb => ?_, fun b hb => ?_, a, by rw [e12]; exact p7, zr9 _ _ p8⟩
  · have w := p5 b hb
    unfold zCw at w ⊢
    rw [e 17 (by omega) (by omega) (by omega)]
    split at w
    · exact w
    · obtain ⟨a, w1, w2⟩ := w
      exact ⟨a, w1, zr9 _ _ w2⟩
  · obtain ⟨a, w1, w2⟩ := p6 b hb
    exact ⟨a, by rw [e 18 (by omega) (by omega) (by omega)]; exact w1, zr9 _ _ w2⟩
theorem CI_lo {s : lS} {I I' : zI} {J J' : zJ} (h : CI s I J) (f : loE I I') (g : loE J J') : CI s I' J' := by
  obtain ⟨h1, h2, h3, h4⟩ := h
  refine ⟨tC_fr h1 (f 1 (by omega)) (f 2 (by omega)), ?_, by rw [f 0 (by omega)]; exact h3, ?_⟩
  · unfold tKc
    rw [g 7 (by omega)]
    exact h2
  · have no : qNo I J → qNo I' J' := fun h => by
      unfold qNo
      rw [f 23 (by omega), f 20 (by omega), g 20 (by omega)]
      exact h
    have cp : ∀ p, zCp p I → zCp p I' := fun p h => zCp_rows h (fun o _ h2 _ => f o (by omega)) (by rw [f 12 (by omega)])
    obtain ⟨S, ep, o⟩ := s
    match o, h4 with
    | none, h4 =>
      refine ⟨by rw [f 12 (by omega)]; exact h4.1, fun x hx => by rw [f 13 (by omega)]; exact h4.2.1 x hx, no h4.2.2⟩
    | some (p, none), h4 =>
      exact ⟨by rw [f 12 (by omega)]; exact h4.1, h4.2.1, cp p h4.2.2.1, no h4.2.2.2⟩
    | some (p, some (m, G, z0)), h4 =>
      refine ⟨by rw [f 12 (by omega)]; exact h4.1, h4.2.1, h4.2.2.1, h4.2.2.2.1, cp p h4.2.2.2.2.1, ?_, ?_⟩
      · unfold zTb
        rw [f 20 (by omega), f 21 (by omega), f 22 (by omega), g 20 (by omega)]
        exact h4.2.2.2.2.2.1
      · unfold zCs
        rw [f 23 (by omega), f 27 (by omega), g 23 (by omega)]
        exact h4.2.2.2.2.2.2
theorem zMp_rows {p : zPg} {I I' : zI} (h : zMp p I) (e : ∀ o, 37 ≤ o → o ≤ 45 → I' o = I o) (e18 : I' 28 18 = I 28 18) : zMp p I' := by
  have e37 := e 37 (by omega) (by omega); have e38 := e 38 (by omega) (by omega); have e39 := e 39 (by omega) (by omega); have e40 := e 40 (by omega) (by omega); have e41 := e 41 (by omega) (by omega); have e42 := e 42 (by omega) (by omega); have e43 := e 43 (by omega) (by omega); have e44 := e 44 (by omega) (by omega); have e45 := e 45 (by omega) (by omega)
  obtain ⟨h1, h2, h3, h4, h5, h6, a, h7, h8⟩ := h
  refine ⟨by rw [e37]; exact h1, by rw [e38]; exact h2, by rw [e39]; exact h3, by rw [e42]; exact h4, fun b hb => ?_, fun b hb => ?_, a, by rw [e18]; exact h7, zmR_of h8 e43 e44 e45⟩
  · have w := h5 b hb
    unfold zMw at w ⊢
    rw [e40]
    split at w
    · exact w
    · obtain ⟨a, w1, w2⟩ := w
      exact ⟨a, w1, zmR_of w2 e43 e44 e45⟩
  · obtain ⟨a, w1, w2⟩ := h6 b hb
    exact ⟨a, by rw [e41]; exact w1, zmR_of w2 e43 e44 e45⟩
theorem MI_hi {s : lS} {I I' : zI} {J J' : zJ} (h : MI s I J) (f : hiE I I') (g : hiE J J') : MI s I' J' := by
  obtain ⟨h1, h2, h3, h4⟩ := h
  have e28 := f 28 (by omega) (by omega)
  refine ⟨?_, ?_, by rw [e28]; exact h3, ?_⟩
  · unfold tM
    rw [e28, f 30 (by omega) (by omega)]
    exact h1
  · unfold tKm
    rw [g 29 (by omega) (by omega)]
    exact h2
  · have no : noM I → noM I' := fun h => by
      unfold noM
      rw [e28]
      exact h
    have mp : ∀ p, zMp p I → zMp p I' := fun p h => zMp_rows h (fun o h1 h2 => f o (by omega) (by omega)) (by rw [e28])
    obtain ⟨S, ep, o⟩ := s
    match o, h4 with
    | none, h4 => exact ⟨by rw [e28]; exact h4.1, fun x hx => by rw [f 37 (by omega) (by omega)]; exact h4.2.1 x hx, no h4.2.2⟩
    | some (p, none), h4 => exact ⟨by rw [e28]; exact h4.1, mp p h4.2.1, no h4.2.2⟩
    | some (p, some (m, G, z0)), h4 =>
      refine ⟨by rw [e28]; exact h4.1, mp p h4.2.1, ?_, ?_⟩
      · unfold zMb
        rw [e28, f 46 (by omega) (by omega), f 47 (by omega) (by omega), f 48 (by omega) (by omega), g 28 (by omega) (by omega)]
        exact h4.2.2.1
      · unfold zMg
        rw [e28, f 49 (by omega) (by omega), g 28 (by omega) (by omega)]
        exact h4.2.2.2
/-- the same program, but for wholes and acts that are not of it -/
def pSim (p q : zPg) : Prop := gPw p = gPw q ∧ gPd p = gPd q ∧ gPn p = gPn q ∧ gPr p = gPr q ∧ gPc p = gPc q ∧ (∀ k, k < 36 → zbv (gPc p 0) (gPc p 1) k → gPb p k = gPb q k) ∧ ∀ k, k < gPc p 2 → gPa p k = gPa q k
theorem zMp_of {p q : zPg} {a : Nat} {I : zI} {ok : Prop} (hok : ok) (ha : a ≤ 1350) (hs : pSim p q) (hk : zPok p) (h : qRp ok q a I) : zMp p I := by
  obtain ⟨s1, s2, s3, s4, s5, s6, s7⟩ := hs
  obtain ⟨r1, r2, ⟨r3, r4⟩, r5, r6, r7⟩ := h
  have cd : ∀ {ad : Nat} {L : List zM3}, qCd a I ad L → zmR I ad L := fun h => ⟨h.2, by have := h.1; omega⟩
  rw [← s5] at r1 r2 r3 r5 r6 r7
  refine ⟨⟨r1 0 (by omega), r1 1 (by omega), fun k h1 h2 => ?_⟩, fun k hk1 hv => ?_, fun k hk1 => by rw [r3 hok k hk1, s7 k hk1], fun k hk1 => by rw [s4]; exact r5 k hk1, fun b hb => ?_, fun b hb => ?_, ?_⟩
  · have e : qkm (k + 4) = k + 2 := by
      have : k = 2 ∨ k = 3 ∨ k = 4 ∨ k = 5 := by omega
      rcases this with z | z | z | z <;> rw [z] <;> rfl
    have w := r1 k (by omega)
    rw [e] at w
    exact w
  · rw [s6 k hk1 hv]
    obtain ⟨v1, v2⟩ := hv
    by_cases z : k < 18
    · have w := r2 4 (Or.inl rfl) (k / 3) (v1 z) (k % 3) (Nat.mod_lt _ (by omega))
      have e : 3 * qTg 4 (k / 3) + k % 3 = k := by
        show 3 * (k / 3) + k % 3 = k
        omega
      rw [e] at w
      exact w
    · have w := r2 5 (Or.inr rfl) (k / 3 - 6) (v2 (by omega)) (k % 3) (Nat.mod_lt _ (by omega))
      have e : 3 * qTg 5 (k / 3 - 6) + k % 3 = k := by
        show 3 * (6 + (k / 3 - 6)) + k % 3 = k
        omega
      rw [e] at w
      exact w
  · obtain ⟨c, i, hc, hi, rfl, hb28⟩ := zBd_c hb
    have w := (r6 c hc.1 hc.2 i hi).1
    unfold zMw
    rw [s1]
    cases hq : gPw q (qBd c i) with
    | none =>
      rw [hq] at w
      exact w
    | some o =>
      rw [hq] at w
      obtain ⟨ad, w1, w2⟩ := w
      exact ⟨ad, w1, cd w2⟩
  · obtain ⟨c, i, hc, hi, rfl, hb28⟩ := zBd_c hb
    obtain ⟨ad, w1, w2⟩ := (r6 c hc.1 hc.2 i hi).2
    rw [s2]
    exact ⟨ad, w1, cd w2⟩
  · obtain ⟨ad, w1, w2⟩ := r7 (by have := hk.1.2.2.2.2.2.2.2; omega)
    rw [s3]
    exact ⟨ad, w1, cd w2⟩
section LComp
variable {RO : zRo} {d : Nat} {P : zP} {I : zI} {J : zJ} {D : zD} {bc bs : Nat} {s : lS}
theorem cc_109 {r : Nat ⊕ (Nat × Unit)} (hRO : zROk RO) (h : CI s I J) (hr : pP (lT s.1).1 500 0 = some r)
    (E : ∀ e p, qCo (lT s.1) (zi (s.1.2 : Int)) r = some (e, p) → ∀ I' J', hiE I I' → hiE J J' → CI ((s.1.1, 0), p, none) I' J' → P (.inl (some (.int e))) I' J' D)
    (K : ∀ q, r = .inr q → qCo (lT s.1) (zi (s.1.2 : Int)) r = none → ∀ I' J' p', hiE I I' → hiE J J' → zPok p' → pSim p' (qPg (lT s.1) (qMm (lT s.1) q.1)) → CI ((s.1.1, 0), -1, some (p', none)) I' J' → P (.inl (some (.int 0))) I' J' D) : zz RO (d + 97) 109 [.ref 0] I J D bc bs P := by
  obtain ⟨h1, h2, h3, h4⟩ := h
  obtain ⟨w1, w2, w3⟩ := lT_w h1.1
  have tk0 : ∀ I' : zI, I' 1 1 = 0 → tC (s.1.1, 0) I' := fun I' e => ⟨⟨Nat.zero_le _, fun a ha => absurd ha (Nat.not_lt_zero a)⟩, e, fun a ha => absurd ha (Nat.not_lt_zero a)⟩
  have tk1 : ∀ J' : zJ, zfr [6, 20] J J' → tKc J' := fun J' g => by
    unfold tKc
    rw [g 7 (by decide)]
    exact h2
  refine s_109 (d := d) (T := lT s.1) (tp := zi (s.1.2 : Int)) hRO w1 w2 hr (fun e => by rw [w3 e]) (fun Q I0 J0 e1 e2 e7 KK => ?_) (fun e p hq I' J' f g q1 q2 q3 q4 q5 => ?_) (fun q er hq e1 hcl hg I' J' f g q1 q2 q3 q4 pk pc p14 p15 => ?_)
  · refine c_92 (d := d + 89) (S := s.1) (tC_fr h1 e1 e2) ?_ KK
    unfold tKc
    rw [e7]
    exact h2
  · exact E e p hq I' J' (hiE_r f (by decide)) (hiE_r g (by decide)) ⟨tk0 I' q1, tk1 J' g, q2, q3, q5, q4⟩
  · refine K q er hq I' J' _ (hiE_r f (by decide)) (hiE_r g (by decide)) pk ⟨rfl, rfl, rfl, rfl, rfl, fun k hk hv => ?_, fun k hk => ?_⟩ ⟨tk0 I' q1, tk1 J' g, q2, q3, pk, pc, q4⟩
    · have key : ∀ c i, c = 4 ∨ c = 5 → i < (qMm (lT s.1) q.1).1 (c - 4) → 3 * qTg c i + k % 3 = k → I' 14 k = zi ((qMm (lT s.1) q.1).2.1 k) := fun c i hc hi e => by
        have a := hg.2.2.1 c hc i hi (k % 3) (Nat.mod_lt _ (by omega))
        rw [e] at a
        exact p14 k hk a
      show I' 14 k = zi ((qMm (lT s.1) q.1).2.1 k)
      obtain ⟨v1, v2⟩ := hv
      by_cases z : k < 18
      · refine key 4 (k / 3) (Or.inl rfl) (v1 z) ?_
        show 3 * (k / 3) + k % 3 = k
        omega
      · refine key 5 (k / 3 - 6) (Or.inr rfl) (v2 (by omega)) ?_
        show 3 * (6 + (k / 3 - 6)) + k % 3 = k
        omega
    · have c2 : gPc (qPb (lT s.1) (qMm (lT s.1) q.1) I') 2 ≤ 6 := pk.1.2.2.2.1
      exact p15 k (by omega) hk
theorem cm_177 {r : Nat ⊕ (Nat × Unit)} (hRO : zROk RO) (h : MI s I J) (hr : pP (lT s.1).1 500 0 = some r) (hb : 1 ≤ bc ∧ 8 ≤ bs)
    (E : ∀ e p, qCo (lT s.1) (zi (s.1.2 : Int)) r = some (e, p) → ∀ I' J', loE I I' → loE J J' → MI ((s.1.1, 0), p, none) I' J' → P (.inl (some (.int e))) I' J' D)
    (K : ∀ q, r = .inr q → qCo (lT s.1) (zi (s.1.2 : Int)) r = none → ∀ I' J', loE I I' → loE J J' → (∀ p', zPok p' → pSim p' (qPg (lT s.1) (qMm (lT s.1) q.1)) → MI ((s.1.1, 0), -1, some (p', none)) I' J') → P (.inl (some (.int 0))) I' J' D) : zz RO (d + 79) 177 [.ref 28] I J D bc bs P := by
  obtain ⟨h1, h2, h3, h4⟩ := h
  obtain ⟨w1, w2, w3⟩ := lT_w h1.1
  have tk0 : ∀ I' : zI, I' 28 3 = 0 → tM (s.1.1, 0) I' := fun I' e => ⟨⟨Nat.zero_le _, fun a ha => absurd ha (Nat.not_lt_zero a)⟩, e, fun a ha => absurd ha (Nat.not_lt_zero a)⟩
  have fr0 : zfm [0] [] I (zu I 28 0 0) := zfm_z (zfm_refl I) _ _ (by simp)
  have t0 : tM s.1 (zu I 28 0 0) := by
    unfold tM
    rw [fr0.2 3 (by decide), fr0.1 30 (by decide) (by decide)]
    exact h1
  have tk1 : ∀ J1 J' : zJ, zfr [33] J J1 → rfj J1 J' → tKm J' := fun J1 J' g g' => by
    unfold tKm
    rw [g' 29 (by decide), g 29 (by decide)]
    exact h2
  refine s_177 (d := d) (T := lT s.1) hRO w1 w2 hr hb (fun I1 J1 => zfm [0, 4] [31, 32] I I1 ∧ zfr [33] J J1) (fun Q KK => ?_) (fun I1 J1 lx e p hq I' J' f g q1 q2 q3 => ?_) (fun I1 J1 lx q er hq q1 hcl I' J' a f g ha b19 b29 b3 b23 b30 b47 b45 rp => ?_)
  · refine m_145 (d := d + 71) (S := s.1) t0 h2 (fun I' J' f g t => KK I' J' t ⟨zfm_trans (zfm_sub fr0 (by simp) (by simp)) (zfm_sub f (by simp) (by simp)), g⟩)
  · obtain ⟨l1, l2⟩ := lx
    rw [l1.2 3 (by decide), h1.2.1] at hq
    refine E e p hq I' J' (fun o ho => ?_) (fun o ho => ?_) ⟨tk0 I' q1, tk1 J1 J' l2 g, q2, q3.2.2.1, q3.2.2.2.2.2.2.1, q3.2.2.2.1, q3.2.2.2.2.2.1, q3.2.2.2.2.1⟩
    · exact (loE_m f (by decide) o ho).trans (loE_m l1 (by decide) o ho)
    · exact (loE_r g (by decide) o ho).trans (loE_r l2 (by decide) o ho)
  · obtain ⟨l1, l2⟩ := lx
    rw [l1.2 3 (by decide), h1.2.1] at hq
    subst er
    obtain ⟨e1, e2, e3⟩ := pP_end w1 hr
    have hN9 := w1.2.1
    refine K q rfl hq I' J' (fun o ho => ?_) (fun o ho => ?_) (fun p' pk ps => ⟨tk0 I' b3, tk1 J1 J' l2 g, b29, b23, zMp_of (a := a) (p := p') (q := qPg (lT s.1) (qMm (lT s.1) q.1)) (ok := qCn (lT s.1).1 7 (lT s.1).2.2.2 ≤ 12) ?_ (by omega) ps pk rp, b30, b45, b47⟩)
    · exact (loE_m f (by decide) o ho).trans (loE_m l1 (by decide) o ho)
    · exact (loE_r g (by decide) o ho).trans (loE_r l2 (by decide) o ho)
    · have a1 := qCn_end w1 (c := 7) (by omega) (lT s.1).2.2.2
      have a2 : qCn (lT s.1).1 7 ((lT s.1).2.2.2 - 1) ≤ 12 := qCl_mx (T := lT s.1) (fun i hi => hcl i (by omega)) (c := 3) (by omega)
      omega
end LComp

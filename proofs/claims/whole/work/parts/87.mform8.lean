/-! ===== the reference's reading: assignments, statements without others in them ===== -/
def pAs (s : Nat → Nat) (op k : Nat) : zRs zB0 := pB (pPl s k) fun k1 nm => pB (pEx s k1) fun k2 o => pO k2 ((op, nm, o) : zB0)
section MForm8
variable {RO : zRo} {d : Nat} {P : zP} {I : zI} {J : zJ} {D : zD} {bc bs : Nat} {T : qTk} {E : Nat → Nat} {pl : Nat → Option Nat} {tb : List (Int64 × Nat × Nat)} {mn ct k dp a j c : Nat} {I0 : zI} {J0 : zJ}
theorem pPl_pos {r : Nat ⊕ (Nat × Nat)} (hw : qTw T) (h : pPl T.1 k = some r) (hn : k < T.2.2.2) : k ≤ qPos r ∧ qPos r < T.2.2.2 := by
  cases r with
  | inl i =>
    show k ≤ i ∧ i < _
    unfold pPl at h
    by_cases z1 : T.1 k = 25 ∨ T.1 k = 26
    · rw [if_pos z1] at h
      have := qTw_lt hw (k := k) (by omega)
      by_cases z2 : T.1 (k + 1) = 2
      · rw [if_pos z2] at h
        cases pO_inv h
      · rw [if_neg z2] at h
        cases pF_inv h
        omega
    · rw [if_neg z1] at h
      by_cases z2 : T.1 k = 2
      · rw [if_pos z2] at h
        cases pO_inv h
      · rw [if_neg z2] at h
        cases pF_inv h
        omega
  | inr q =>
    have a := tks_pl (k2 := q.1) (nm := q.2) h
    have := qTw_lt hw (k := q.2) (by omega)
    show k ≤ q.1 ∧ q.1 < _
    omega
theorem pEx_pos {r : Nat ⊕ (Nat × List zOp)} (hw : qTw T) (h : pEx T.1 k = some r) (hn : k < T.2.2.2) : k ≤ qPos r ∧ qPos r < T.2.2.2 := pE_pos hw h (by omega) hn
/-- where the parts of a sequence stand -/
theorem qPos_le {α β : Type} {y : Nat ⊕ (Nat × α)} {x : Nat ⊕ (Nat × β)} (y1 : ∀ j, y = .inl j → x = .inl j) (h : ∀ q, y = .inr q → q.1 ≤ qPos x) : qPos y ≤ qPos x := by
  cases y with
  | inl j =>
    rw [y1 j rfl]
    exact Nat.le_refl _
  | inr q => exact h q rfl
theorem qMw_n {k2 : Nat} {I' : zI} (hs : qMw T tb mn ct I0 J0 k a I J) (f : nfr I I') (h : I' 28 24 = zi (k2 : Int)) : qMw T tb mn ct I0 J0 k2 a I' J := qMw_fr hs (sfr_x (xfr_n f)) h (by rw [f.2 19 (by decide)]; exact hs.2.2.2.2.1)
theorem pAs_pos {op : Nat} {r : Nat ⊕ (Nat × zB0)} (hw : qTw T) (h : pAs T.1 op k = some r) (hn : k < T.2.2.2) : k ≤ qPos r ∧ qPos r < T.2.2.2 := by
  unfold pAs at h
  obtain ⟨y, hy, y1, y2⟩ := pB_cases h
  have py := pPl_pos hw hy hn
  cases y with
  | inl i =>
    rw [y1 i rfl]
    exact py
  | inr q =>
    obtain ⟨y3, h3, y4, y5⟩ := pB_cases (y2 q rfl)
    have py2 : q.1 < T.2.2.2 := py.2
    have p3 := pEx_pos hw h3 py2
    have py1 : k ≤ q.1 := py.1
    cases y3 with
    | inl i =>
      rw [y4 i rfl]
      have p31 : q.1 ≤ i := p3.1
      exact ⟨by show k ≤ i; omega, p3.2⟩
    | inr q3 =>
      have e9 := pO_inv (y5 q3 rfl)
      rw [e9]
      have p31 : q.1 ≤ q3.1 := p3.1
      exact ⟨by show k ≤ q3.1; omega, p3.2⟩
theorem s_asg {op so : Nat} {r : Nat ⊕ (Nat × zB0)} (hw : qTw T) (ho : op = 16 ∨ op = 17) (hso : T.1 k = 25 ∧ so = 0 ∨ T.1 k = 26 ∧ so = 1 ∨ ¬ (T.1 k = 25 ∨ T.1 k = 26) ∧ so = 2) (h : pAs T.1 op k = some r) (hok : mn = 1 → ∃ q, r = .inr q) (hn : k < T.2.2.2) (hab : mn = 1 → a ≤ 3 * k) (hg : qGx T E mn ct pl tb k) (hp : ¬ (T.1 (k - 1) = 25 ∨ T.1 (k - 1) = 26)) (hs : qMw T tb mn ct I0 J0 k a I J) (hdp : I 28 27 = zi (dp : Int)) (H1 : qTh T P D bc bs I0 J0 (qOut E k r))
    (H2 : ∀ q, qOut E k r = .inr q → ∀ I', xfr I I' → I' 28 24 = zi (q.1 : Int) → qmN a (eml mn (zmb (qRb T pl q.2) a)) I I' → P (.inl none) I' J D) :
    ∃ c1 s1, c1 ≤ bc ∧ s1 ≤ bs ∧ zz RO (d + 63) 164 [.ref 28] I J D c1 s1 (zNi P fun v1 I1 J1 D1 => (∃ c2 s2, c2 ≤ (bc - c1) ∧ s2 ≤ (bs - s1) ∧ zz RO (d + 63) 156 [.ref 28] I1 J1 D1 c2 s2 (zNi P fun v2 I2 J2 D2 => (zz RO (d + 63) 154 [.ref 28, .int (zi ((op - 4 : Nat) : Int)), .int ((4 * v1) + zi (so : Int)), .int v2] I2 J2 D2 0 0 (zNi P fun _ I3 J3 D3 => P (.inl none) I3 J3 D3))))) := by
  have hN := hw.2.1
  unfold pAs at h
  obtain ⟨y, hy, y1, y2⟩ := pB_cases h
  have py := pPl_pos hw hy hn
  have pxy : qPos y ≤ qPos r := qPos_le y1 (fun q hq => by
    obtain ⟨y3, h3, y4, y5⟩ := pB_cases (y2 q hq)
    have py2 : q.1 < T.2.2.2 := by
      rw [hq] at py
      exact py.2
    have p3 := pEx_pos hw h3 py2
    have : qPos y3 ≤ qPos r := qPos_le y4 (fun q3 hq3 => by
      have e9 := pO_inv (y5 q3 hq3)
      rw [e9]
      exact Nat.le_refl _)
    omega)
  rcases hy2 : qOut E k y with w | q
  · have hx := qOut_thr hy2 y1 ⟨py.1, pxy⟩
    refine ⟨bc, bs, Nat.le_refl _, Nat.le_refl _, ?_⟩
    have H3 : qTh T P D bc bs I0 J0 (qOut E k y) := qTh_to H1 hx hy2
    exact s_164 (d := d + 59) hw hy hg (qMw_x hs hdp) hn hp H3 (fun q hq => absurd (hy2.symm.trans hq) (fun z => by cases z))
  · obtain ⟨e1, e3⟩ := qOut_go hy2 ⟨py.1, pxy⟩
    subst e1
    have a1 := tks_pl (k2 := q.1) (nm := q.2) hy
    obtain ⟨y3, h3, y4, y5⟩ := pB_cases (y2 q rfl)
    have py2 : q.1 < T.2.2.2 := py.2
    have p3 := pEx_pos hw h3 py2
    have p3r : qPos y3 ≤ qPos r := qPos_le y4 (fun q3 hq3 => by
      have e9 := pO_inv (y5 q3 hq3)
      rw [e9]
      exact Nat.le_refl _)
    refine ⟨0, 0, Nat.zero_le _, Nat.zero_le _, ?_⟩
    have H3 : qTh T P D 0 0 I0 J0 (qOut E k (Sum.inr q)) := qTh_no hy2
    refine s_164 (d := d + 59) hw hy hg (qMw_x hs hdp) hn hp H3 (fun q9 hq9 v1 I1 hv1 e24 f1 e27 => ?_)
    have e9 : q = q9 := by
      have := hy2.symm.trans hq9
      cases this
      rfl
    subst e9
    have s1 := qMw_n hs f1 e24
    have g1 := qGx_step hg a1.1
    have hp1 : ¬ (T.1 (q.1 - 1) = 25 ∨ T.1 (q.1 - 1) = 26) := by
      rw [show q.1 - 1 = q.2 by omega]
      omega
    rw [e3] at H1 H2
    refine ⟨bc, bs, by omega, by omega, ?_⟩
    have H4 : qTh T P D bc bs I0 J0 (qOut E q.1 y3) := fun j e he => H1 j e (qOut_thr he y4 ⟨p3.1, p3r⟩)
    refine s_156 (d := d) hw h3 (hok_sub y4 hok) py2 (fun z => by have := hab z; omega) g1 hp1 s1 H4 (fun q3 hq3 v2 I2 hv2 f2 e24b z2 => ?_)
    obtain ⟨er, hf⟩ := qOut_inv hq3
    subst er
    have e5 := pO_inv (y5 q3 rfl)
    have a3 := tks_ex (k2 := q3.1) (o := q3.2) h3
    have p32 : q3.1 < T.2.2.2 := p3.2
    have l2 : (eml mn (zmw (q3.2.map (qRo T pl)) a)).length ≤ q3.1 - q.1 + 2 := by
      have := eml_len (mn := mn) (A := zmw (q3.2.map (qRo T pl)) a)
      rw [zmw_len, List.length_map] at this
      omega
    have m2 : I2 28 25 = zi (mn : Int) := by rw [f2.2 25 (by decide)]; exact s1.2.2.1
    refine s_154 (d := d + 62) (x := (op - 4, (4 * v1) + zi (so : Int), v2)) m2 hg.1 z2.1 (fun z => by have := hab z; omega) (fun v I3 _ z3 f3 => ?_)
    have hr : qOut E q.1 r = .inr (q3.1, (op, q.2, q3.2)) := by
      rw [e5]
      exact qOut_r hf
    refine H2 _ hr I3 (zfm_trans (xfr_n f1) (zfm_trans f2 (zfm_x1 f3))) (by rw [f3.2 24 (by decide)]; exact e24b) ?_
    have el : eml mn (zmb (qRb T pl (op, q.2, q3.2)) a) = eml mn (zmw (q3.2.map (qRo T pl)) a) ++ (if mn = 1 then [(op - 4, (4 * v1) + zi (so : Int), v2)] else []) := by
      unfold eml
      rcases hg.1 with m0 | m1
      · rw [if_neg (by omega), if_neg (by omega), if_neg (by omega)]
        rfl
      · rw [if_pos m1, if_pos m1, if_pos m1]
        obtain ⟨p, hp1, hp2, hp3, hp4, hp5⟩ := hv1 m1
        have ep : plD pl q.2 = p := by
          unfold plD
          rw [hp1]
          rfl
        have e0 : zmb (qRb T pl (op, q.2, q3.2)) a = zmw (q3.2.map (qRo T pl)) a ++ [((op - 4 : Nat), zi (4 * ((if op = 16 ∨ op = 17 then plD pl q.2 else q.2) % 6) + (if op = 16 ∨ op = 17 then plD pl q.2 else q.2) / 6 : Nat), zi (a + 1 : Nat))] := by
          unfold zmb
          rw [if_pos (show (qRb T pl (op, q.2, q3.2)).1 = 16 ∨ (qRb T pl (op, q.2, q3.2)).1 = 17 from ho)]
          rfl
        rw [e0, if_pos ho, ep, hv2 m1, hp2]
        have e4 : (4 : Int32) * zi ((p % 6 : Nat) : Int) + zi (so : Int) = zi ((4 * (p % 6) + p / 6 : Nat) : Int) := by
          rw [show (4 : Int32) = zi 4 from rfl, zi_mul, zi_add]
          congr 1
          rcases hso with ⟨c1, c2⟩ | ⟨c1, c2⟩ | ⟨c1, c2⟩
          · have := hp3 c1
            omega
          · have := hp4 c1
            omega
          · have := hp5 (by
              have := a1.1.2 k (Nat.le_refl _) a1.2.1
              unfold pPl at hy
              rw [if_neg c1] at hy
              by_cases z : T.1 k = 2
              · exact z
              · rw [if_neg z] at hy
                cases pF_inv hy)
            omega
        rw [e4]
    rw [el]
    exact qmN_of (qmN_app z2 z3) f1 (zfm_refl _)
theorem s_173 {op : Nat} {r : Nat ⊕ (Nat × zB0)} (hw : qTw T) (ho : op = 16 ∨ op = 17) (h : pAs T.1 op k = some r) (hok : mn = 1 → ∃ q, r = .inr q) (hn : k < T.2.2.2) (hab : mn = 1 → a ≤ 3 * k) (hg : qGx T E mn ct pl tb k) (hp : ¬ (T.1 (k - 1) = 25 ∨ T.1 (k - 1) = 26)) (hs : qMw T tb mn ct I0 J0 k a I J) (hdp : I 28 27 = zi (dp : Int)) (H1 : qTh T P D bc bs I0 J0 (qOut E k r))
    (H2 : ∀ q, qOut E k r = .inr q → ∀ I', xfr I I' → I' 28 24 = zi (q.1 : Int) → qmN a (eml mn (zmb (qRb T pl q.2) a)) I I' → P (.inl none) I' J D) : zz RO (d + 64) 173 [.ref 28, .int (zi ((op - 4 : Nat) : Int))] I J D bc bs P := by
  obtain ⟨o1, h11, h12⟩ := n_148 (a := 25) hw hs.1 hs.2.1 hn (by omega)
  obtain ⟨o2, h21, h22⟩ := n_148 (a := 26) hw hs.1 hs.2.1 hn (by omega)
  have yes : ∀ {b : Nat} {z : Int32}, (z = 0 ↔ ¬ T.1 k = b) → ¬ z = 0 → T.1 k = b := fun {b z} e q => by
    by_cases w : T.1 k = b
    · exact w
    · exact absurd (e.mpr w) q
  refine w_173 (d := d + 62) ⟨o1, fun q1 => ⟨o2, fun q2 => ?_, fun q2 => ?_⟩, fun q1 => ?_⟩
  · exact s_asg (so := 2) (dp := dp) hw ho (Or.inr (Or.inr ⟨by have := h11.mp q1; have := h21.mp q2; omega, rfl⟩)) h hok hn hab hg hp hs hdp H1 H2
  · exact s_asg (so := 1) (dp := dp) hw ho (Or.inr (Or.inl ⟨yes h21 q2, rfl⟩)) h hok hn hab hg hp hs hdp H1 H2
  · exact s_asg (so := 0) (dp := dp) hw ho (Or.inl ⟨yes h11 q1, rfl⟩) h hok hn hab hg hp hs hdp H1 H2
end MForm8

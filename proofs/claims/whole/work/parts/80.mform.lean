/-! ===== the reference's reading: outcomes, tokens, small steps ===== -/
/-- the first error of the meaning among m tokens from k on -/
def qFe (E : Nat → Nat) : Nat → Nat → Option Nat
  | 0, _ => none
  | m + 1, k => if E k = 0 then qFe E m (k + 1) else some k
def qPos {α : Type} (x : Nat ⊕ (Nat × α)) : Nat := match x with
  | .inl j => j
  | .inr q => q.1
/-- what comes out: an error and its token, or a reading -/
def qOut {α : Type} (E : Nat → Nat) (k : Nat) (r : Nat ⊕ (Nat × α)) : (Nat × Nat) ⊕ (Nat × α) := match qFe E (qPos r - k) k with
  | some i => .inl (i, E i)
  | none => match r with
    | .inl j => .inl (j, 1)
    | .inr q => .inr q
theorem qFe_app {E : Nat → Nat} : ∀ (m n k : Nat), qFe E (m + n) k = match qFe E m k with
    | some i => some i
    | none => qFe E n (k + m)
  | 0, n, k => by
    rw [Nat.zero_add]
    rfl
  | m + 1, n, k => by
    rw [show m + 1 + n = m + n + 1 by omega]
    unfold qFe
    by_cases c : E k = 0
    · rw [if_pos c, if_pos c, qFe_app m n (k + 1), show k + 1 + m = k + (m + 1) by omega]
      cases n <;> rfl
    · rw [if_neg c, if_neg c]
theorem qFe_none {E : Nat → Nat} : ∀ {m k : Nat}, (∀ j, k ≤ j → j < k + m → E j = 0) → qFe E m k = none
  | 0, _, _ => rfl
  | m + 1, k, h => by
    unfold qFe
    rw [if_pos (h k (Nat.le_refl _) (by omega))]
    exact qFe_none (fun j h1 h2 => h j (by omega) (by omega))
theorem qFe_clean {E : Nat → Nat} : ∀ {m k : Nat}, qFe E m k = none → ∀ j, k ≤ j → j < k + m → E j = 0
  | 0, k, _, j, h1, h2 => by omega
  | m + 1, k, h, j, h1, h2 => by
    unfold qFe at h
    by_cases c : E k = 0
    · rw [if_pos c] at h
      by_cases e : j = k
      · rw [e]
        exact c
      · exact qFe_clean h j (by omega) (by omega)
    · rw [if_neg c] at h
      cases h
theorem qOut_fe {α : Type} {E : Nat → Nat} {k i : Nat} {r : Nat ⊕ (Nat × α)} (h : qFe E (qPos r - k) k = some i) : qOut E k r = .inl (i, E i) := by
  unfold qOut
  rw [h]
theorem qOut_l {α : Type} {E : Nat → Nat} {k j : Nat} (h : qFe E (j - k) k = none) : qOut (α := α) E k (.inl j) = .inl (j, 1) := by
  unfold qOut
  rw [show qPos (.inl j : Nat ⊕ (Nat × α)) = j from rfl, h]
theorem qOut_r {α : Type} {E : Nat → Nat} {k : Nat} {q : Nat × α} (h : qFe E (q.1 - k) k = none) : qOut E k (.inr q) = .inr q := by
  unfold qOut
  rw [show qPos (.inr q : Nat ⊕ (Nat × α)) = q.1 from rfl, h]
/-- an error ahead is the error of the whole -/
theorem qOut_thr {α β : Type} {E : Nat → Nat} {k : Nat} {y : Nat ⊕ (Nat × α)} {x : Nat ⊕ (Nat × β)} {w : Nat × Nat} (h : qOut E k y = .inl w) (hx : ∀ j, y = .inl j → x = .inl j) (hp : k ≤ qPos y ∧ qPos y ≤ qPos x) : qOut E k x = .inl w := by
  have e : qPos x - k = (qPos y - k) + (qPos x - qPos y) := by omega
  cases hf : qFe E (qPos y - k) k with
  | some i =>
    rw [qOut_fe hf] at h
    cases h
    refine qOut_fe ?_
    rw [e, qFe_app, hf]
  | none =>
    cases y with
    | inl j =>
      have hf : qFe E (j - k) k = none := hf
      rw [qOut_l hf] at h
      cases h
      rw [hx j rfl]
      exact qOut_l hf
    | inr q =>
      rw [qOut_r hf] at h
      cases h
/-- what is read without an error goes on from there -/
theorem qOut_ok {α β : Type} {E : Nat → Nat} {k : Nat} {y : Nat ⊕ (Nat × α)} {x : Nat ⊕ (Nat × β)} {q : Nat × α} (h : qOut E k y = .inr q) (hp : k ≤ q.1 ∧ q.1 ≤ qPos x) : y = .inr q ∧ (∀ j, k ≤ j → j < q.1 → E j = 0) ∧ qOut E k x = qOut E q.1 x := by
  cases hf : qFe E (qPos y - k) k with
  | some i =>
    rw [qOut_fe hf] at h
    cases h
  | none =>
    cases y with
    | inl j =>
      have hf : qFe E (j - k) k = none := hf
      rw [qOut_l hf] at h
      cases h
    | inr q2 =>
      rw [qOut_r hf] at h
      cases h
      have hf : qFe E (q.1 - k) k = none := hf
      refine ⟨rfl, fun j h1 h2 => qFe_clean hf j h1 (by omega), ?_⟩
      have e : qPos x - k = (q.1 - k) + (qPos x - q.1) := by omega
      unfold qOut
      rw [e, qFe_app, hf, show k + (q.1 - k) = q.1 by omega]
/-- tokens without errors of the meaning ahead -/
theorem qOut_step {β : Type} {E : Nat → Nat} {k k1 : Nat} {x : Nat ⊕ (Nat × β)} (h : ∀ j, k ≤ j → j < k1 → E j = 0) (hp : k ≤ k1 ∧ k1 ≤ qPos x) : qOut E k x = qOut E k1 x := by
  have e : qPos x - k = (k1 - k) + (qPos x - k1) := by omega
  unfold qOut
  rw [e, qFe_app, qFe_none (fun j h1 h2 => h j h1 (by omega)), show k + (k1 - k) = k1 by omega]
theorem qOut_one {β : Type} {E : Nat → Nat} {k : Nat} {x : Nat ⊕ (Nat × β)} (h : ¬ E k = 0) (hp : k < qPos x) : qOut E k x = .inl (k, E k) := by
  refine qOut_fe ?_
  obtain ⟨m, hm⟩ : ∃ m, qPos x - k = m + 1 := ⟨qPos x - k - 1, by omega⟩
  rw [hm]
  unfold qFe
  rw [if_neg h]
theorem qOut_here {β : Type} {E : Nat → Nat} {k : Nat} : qOut E k (.inl k : Nat ⊕ (Nat × β)) = .inl (k, 1) := qOut_l (by rw [Nat.sub_self]; rfl)
/-! sorts of tokens as the reference numbers them -/
def qkm (c : Nat) : Nat := if c = 0 then 203 else if c = 1 then 202 else if c = 2 then 200 else if c = 3 then 201 else if c = 4 then 0 else if c = 5 then 1 else if c ≤ 10 then c - 2 else if c = 11 then 2 else if c = 12 then 3 else if c ≤ 35 then c - 4 else c + 64
theorem qkm_le {c : Nat} (h : c ≤ 51) : qkm c ≤ 203 := by
  unfold qkm
  (repeat' split) <;> omega
theorem qkm_inj : ∀ a, a < 52 → ∀ b, b < 52 → qkm a = qkm b → a = b := by decide +kernel
theorem qkm_eq {a b : Nat} (ha : a ≤ 51) (hb : b ≤ 51) : qkm a = qkm b ↔ a = b :=
  ⟨fun h => qkm_inj a (by omega) b (by omega) h, fun h => by rw [h]⟩
def qTm (T : qTk) (I : zI) (J : zJ) : Prop := I 28 4 = zi (T.2.2.2 : Int) ∧ ∀ k, k < T.2.2.2 → I 31 k = zi (qkm (T.1 k) : Int) ∧ I 32 k = zi (T.2.1 k : Int) ∧ (T.1 k = 2 ∨ T.1 k = 3 → J 33 k = T.2.2.1 k)
abbrev rKs : List Nat := [8, 18, 19, 24, 26, 27, 28]
abbrev rLs : List Nat := [35, 36, 37, 38, 39, 40, 41, 42, 43, 44, 45]
/-- what the reading changes, and what an expression does -/
abbrev rfr (I I' : zI) : Prop := zfm rKs rLs I I'
abbrev rfj (J J' : zJ) : Prop := zfr [34] J J'
abbrev xfr (I I' : zI) : Prop := zfm [19, 24, 27] [43, 44, 45] I I'
theorem rfr_x {I I1 I2 : zI} (h : rfr I I1) (f : xfr I1 I2) : rfr I I2 := zfm_trans h (zfm_sub f (by simp) (by simp))
theorem qTm_fr {T : qTk} {I I' : zI} {J J' : zJ} (h : qTm T I J) (f : rfr I I') (g : rfj J J') : qTm T I' J' := by
  unfold qTm
  rw [f.2 4 (by decide), f.1 31 (by decide) (by decide), f.1 32 (by decide) (by decide), g 33 (by decide)]
  exact h
/-! codes that stand from a on -/
def qmN (a : Nat) (L : List zM3) (I I' : zI) : Prop := I' 28 19 = zi ((a + L.length : Nat) : Int) ∧ (∀ j, j < a → I' 43 j = I 43 j ∧ I' 44 j = I 44 j ∧ I' 45 j = I 45 j) ∧ ∀ j, j < L.length → I' 43 (a + j) = zi ((L.getD j (0, 0, 0)).1 : Int) ∧ I' 44 (a + j) = (L.getD j (0, 0, 0)).2.1 ∧ I' 45 (a + j) = (L.getD j (0, 0, 0)).2.2
theorem qmN_nil {a : Nat} {I : zI} (h : I 28 19 = zi (a : Int)) : qmN a [] I I := ⟨h, fun _ _ => ⟨rfl, rfl, rfl⟩, fun j hj => absurd hj (Nat.not_lt_zero j)⟩
theorem qmN_app {a : Nat} {o o2 : List zM3} {I I1 I2 : zI} (h : qmN a o I I1) (h2 : qmN (a + o.length) o2 I1 I2) : qmN a (o ++ o2) I I2 := by
  obtain ⟨a1, a2, a3⟩ := h
  obtain ⟨b1, b2, b3⟩ := h2
  refine ⟨by rw [b1, List.length_append, Nat.add_assoc], fun j hj => ?_, fun j hj => ?_⟩
  · have q := b2 j (by omega)
    rw [q.1, q.2.1, q.2.2]
    exact a2 j hj
  · rw [List.length_append] at hj
    by_cases cj : j < o.length
    · have q := b2 (a + j) (by omega)
      rw [q.1, q.2.1, q.2.2, List.getD_eq_getElem?_getD, List.getElem?_append_left cj, ← List.getD_eq_getElem?_getD]
      exact a3 j cj
    · have q := b3 (j - o.length) (by omega)
      rw [show a + o.length + (j - o.length) = a + j by omega] at q
      rw [List.getD_eq_getElem?_getD, List.getElem?_append_right (by omega), ← List.getD_eq_getElem?_getD]
      exact q
/-- what touches no code -/
abbrev nfr (I I' : zI) : Prop := zfm [24, 27] [] I I'
theorem qmN_of {a : Nat} {o : List zM3} {I0 I I1 I2 : zI} (h : qmN a o I I1) (f : nfr I0 I) (g : nfr I1 I2) : qmN a o I0 I2 := by
  unfold qmN at h ⊢
  rw [g.2 19 (by decide), g.1 43 (by decide) (by decide), g.1 44 (by decide) (by decide), g.1 45 (by decide) (by decide), ← f.1 43 (by decide) (by decide), ← f.1 44 (by decide) (by decide), ← f.1 45 (by decide) (by decide)]
  exact h
theorem xfr_n {I I' : zI} (f : nfr I I') : xfr I I' := zfm_sub f (by simp) (by simp)
section MForm
variable {RO : zRo} {d : Nat} {P : zP} {I : zI} {J : zJ} {D : zD} {bc bs : Nat} {T : qTk} {k j c : Nat}
theorem n_148 {a : Nat} (hw : qTw T) (ht : qTm T I J) (hk : I 28 24 = zi (k : Int)) (hn : k < T.2.2.2) (ha : a ≤ 51) : zo_148 I J (zi (qkm a : Int)) ∧ (zv_148 I J (zi (qkm a : Int)) = 0 ↔ ¬ T.1 k = a) ∧ (T.1 k = a → zv_148 I J (zi (qkm a : Int)) = 1) := by
  have hN := hw.2.1
  have hle := qTw_le hw k
  have l1 := qkm_le hle
  have l2 := qkm_le ha
  have e := (ht.2 k hn).1
  have cl : (zi (k : Int)).toNatClampNeg = k := by rw [zi_cl (by omega) (by omega)]; omega
  have q : I 31 ((I 28 24).toNatClampNeg) = zi (qkm a : Int) ↔ T.1 k = a := by
    rw [hk, cl, e, zi_eq (by omega) (by omega), ← qkm_eq hle ha]
    omega
  refine ⟨⟨?_, trivial⟩, ?_, fun z => ?_⟩
  · rw [hk]
    exact zi_in (by omega) (by omega) (by omega)
  · unfold zv_148
    by_cases c : T.1 k = a
    · rw [if_neg (fun z => z (q.mpr c))]
      exact ⟨fun z => absurd z (by decide), fun z => absurd c z⟩
    · rw [if_pos (fun z => c (q.mp z))]
      exact ⟨fun _ => c, fun _ => rfl⟩
  · unfold zv_148
    rw [if_neg (fun w => w (q.mpr z))]
theorem n_in (hw : qTw T) (hk : I 28 24 = zi (k : Int)) (hn : k < T.2.2.2) : vp_in (I 28 24) 452 := by
  have hN := hw.2.1
  rw [hk]
  exact zi_in (by omega) (by omega) (by omega)
theorem n_pl (ht : qTm T I J) (hk : I 28 24 = zi (k : Int)) (hw : qTw T) (hn : k < T.2.2.2) : I 32 ((I 28 24).toNatClampNeg) = zi (T.2.1 k : Int) := by
  have hN := hw.2.1
  rw [hk, zi_cl (by omega) (by omega), show ((k : Nat) : Int).toNat = k by omega]
  exact (ht.2 k hn).2.1
theorem n_kd (ht : qTm T I J) (hk : I 28 24 = zi (k : Int)) (hw : qTw T) (hn : k < T.2.2.2) : I 31 ((I 28 24).toNatClampNeg) = zi (qkm (T.1 k) : Int) := by
  have hN := hw.2.1
  rw [hk, zi_cl (by omega) (by omega), show ((k : Nat) : Int).toNat = k by omega]
  exact (ht.2 k hn).1
/-- take a token that is there -/
theorem s_151t {a : Nat} (hw : qTw T) (ht : qTm T I J) (hk : I 28 24 = zi (k : Int)) (hn : k < T.2.2.2) (ha : a ≤ 51) (hs : T.1 k = a) (K : ∀ I', I' 28 24 = zi ((k + 1 : Nat) : Int) → zfm [24] [] I I' → P (.inl none) I' J D) : zz RO (d + 2) 151 [.ref 28, .int (zi (qkm a : Int))] I J D bc bs P := by
  obtain ⟨o, h1, h2⟩ := n_148 hw ht hk hn ha
  refine w_151 ⟨o, fun _ => ?_, fun q => absurd (fun z => h1.mp z hs) q⟩
  rw [hk, zi_succ]
  exact K _ (zu_s _ _ _ _) (zfm_z (zfm_refl _) _ _ (by decide))
theorem s_151f {a : Nat} (hw : qTw T) (ht : qTm T I J) (hk : I 28 24 = zi (k : Int)) (hn : k < T.2.2.2) (ha : a ≤ 51) (hs : ¬ T.1 k = a) (hb : 1 ≤ bc ∧ 8 ≤ bs) (K : P (.inr (3, 1, zi (T.2.1 k : Int))) I J D) : zz RO (d + 2) 151 [.ref 28, .int (zi (qkm a : Int))] I J D bc bs P := by
  obtain ⟨o, h1, h2⟩ := n_148 hw ht hk hn ha
  refine w_151 ⟨o, fun q => absurd (h1.mpr hs) q, fun _ => ⟨hb, n_in hw hk hn, ?_⟩⟩
  rw [n_pl ht hk hw hn]
  exact K
theorem s_152t {a : Nat} (hw : qTw T) (ht : qTm T I J) (hk : I 28 24 = zi (k : Int)) (hn : k < T.2.2.2) (ha : a ≤ 51) (hs : T.1 k = a) (K : ∀ I', I' 28 24 = zi ((k + 1 : Nat) : Int) → zfm [24] [] I I' → P (.inl (some (.int 1))) I' J D) : zz RO (d + 2) 152 [.ref 28, .int (zi (qkm a : Int))] I J D bc bs P := by
  obtain ⟨o, h1, h2⟩ := n_148 hw ht hk hn ha
  refine w_152 ⟨o, fun q => absurd hs (h1.mp q), fun _ => ?_⟩
  rw [hk, zi_succ, h2 hs]
  exact K _ (zu_s _ _ _ _) (zfm_z (zfm_refl _) _ _ (by decide))
theorem s_152f {a : Nat} (hw : qTw T) (ht : qTm T I J) (hk : I 28 24 = zi (k : Int)) (hn : k < T.2.2.2) (ha : a ≤ 51) (hs : ¬ T.1 k = a) (K : P (.inl (some (.int 0))) I J D) : zz RO (d + 2) 152 [.ref 28, .int (zi (qkm a : Int))] I J D bc bs P := by
  obtain ⟨o, h1, h2⟩ := n_148 hw ht hk hn ha
  refine w_152 ⟨o, fun _ => ?_, fun q => absurd (h1.mpr hs) q⟩
  rw [h1.mpr hs]
  exact K
/-- must, where it holds or the meaning isn't looked at -/
theorem s_150t {x a q : Int32} (h : I 28 25 = 0 ∨ ¬ x = 0) (K : P (.inl none) I J D) : zz RO (d + 1) 150 [.ref 28, .int x, .int a, .int q] I J D bc bs P := by
  refine w_150 ⟨fun _ => K, fun q1 => ⟨fun _ => K, fun q2 => ?_⟩⟩
  rcases h with h | h
  · exact absurd h q1
  · exact absurd h q2
theorem s_150f {x a q : Int32} (h : I 28 25 = 1) (hx : x = 0) (hb : 1 ≤ bc ∧ 8 ≤ bs) (K : P (.inr (3, a, q)) I J D) : zz RO (d + 1) 150 [.ref 28, .int x, .int a, .int q] I J D bc bs P :=
  w_150 ⟨fun q1 => absurd q1 (by rw [h]; decide), fun _ => ⟨fun q2 => absurd hx q2, fun _ => ⟨hb, K⟩⟩⟩
/-- emit: nothing in the first reading, a code in the second -/
theorem s_154 {mn a : Nat} {x : zM3} (hm : I 28 25 = zi (mn : Int)) (hm2 : mn = 0 ∨ mn = 1) (ha : I 28 19 = zi (a : Int)) (ha9 : mn = 1 → a < 1350) (K : ∀ v I', (mn = 1 → v = zi (a : Int)) → qmN a (if mn = 1 then [x] else []) I I' → zfm [19] [43, 44, 45] I I' → P (.inl (some (.int v))) I' J D) : zz RO (d + 1) 154 [.ref 28, .int (zi (x.1 : Int)), .int x.2.1, .int x.2.2] I J D bc bs P := by
  refine w_154 ?_
  rcases hm2 with e | e
  · subst e
    refine ⟨fun q => absurd (by rw [hm]; rfl) q, fun _ => K 0 I (fun z => absurd z (by decide)) ?_ (zfm_refl _)⟩
    rw [if_neg (by decide)]
    exact qmN_nil ha
  · subst e
    have l1 := ha9 rfl
    have cl : (zi (a : Int)).toNatClampNeg = a := by rw [zi_cl (by omega) (by omega)]; omega
    have vi : vp_in (zi (a : Int)) 1350 := zi_in (by omega) (by omega) (by omega)
    refine ⟨fun _ => ?_, fun q => absurd (show ¬ I 28 25 = 0 by rw [hm]; decide) q⟩
    rw [ha, cl, show zi (a : Int) + 1 - 1 = zi (a : Int) by rw [zi_succ, show (1 : Int32) = zi 1 from rfl, zi_sub]; congr 1; omega, zi_succ]
    refine ⟨vi, vi, vi, K _ _ (fun _ => rfl) ?_ (zfm_z (zfm_zu (zfm_zu (zfm_zu (zfm_refl _) _ _ (by decide) (by decide)) _ _ (by decide) (by decide)) _ _ (by decide) (by decide)) _ _ (by decide))⟩
    rw [if_pos rfl]
    refine ⟨zu_s _ _ _ _, fun j hj => ⟨?_, ?_, ?_⟩, fun j hj => ?_⟩
    · rw [zu_n _ _ (by omega), zu_n _ _ (by omega), zu_n _ _ (by omega), zu_n _ _ (by omega)]
    · rw [zu_n _ _ (by omega), zu_n _ _ (by omega), zu_n _ _ (by omega), zu_n _ _ (by omega)]
    · rw [zu_n _ _ (by omega), zu_n _ _ (by omega), zu_n _ _ (by omega), zu_n _ _ (by omega)]
    · have ej : j = 0 := by
        rw [List.length_singleton] at hj
        omega
      subst ej
      refine ⟨?_, ?_, ?_⟩
      · rw [zu_n _ _ (by omega), zu_n _ _ (by omega), zu_n _ _ (by omega)]
        exact zu_s _ _ _ _
      · rw [zu_n _ _ (by omega), zu_n _ _ (by omega)]
        exact zu_s _ _ _ _
      · rw [zu_n _ _ (by omega)]
        exact zu_s _ _ _ _
theorem s_155 {mn a x : Nat} (hm : I 28 25 = zi (mn : Int)) (hm2 : mn = 0 ∨ mn = 1) (ha : I 28 19 = zi (a : Int)) (ha9 : mn = 1 → a < 1350) (K : ∀ I', qmN a (if mn = 1 then [(x, 0, 0)] else []) I I' → zfm [19] [43, 44, 45] I I' → P (.inl none) I' J D) : zz RO (d + 2) 155 [.ref 28, .int (zi (x : Int))] I J D bc bs P := by
  refine w_155 (d := d + 1) ?_
  exact s_154 (x := (x, 0, 0)) hm hm2 ha ha9 (fun v I1 _ z1 f1 => K I1 z1 f1)
/-! the table of names -/
def tLk (tb : List (Int64 × Nat × Nat)) (w : Int64) (c : Nat) : Option Nat := (tb.find? (fun q => decide (q.1 = w ∧ q.2.1 = c))).map (fun q => q.2.2)
def qTb (tb : List (Int64 × Nat × Nat)) (I : zI) (J : zJ) : Prop := tb.length ≤ 46 ∧ I 28 8 = zi (tb.length : Int) ∧ ∀ i, i < tb.length → J 34 i = (tb.getD i (0, 0, 0)).1 ∧ I 35 i = zi ((tb.getD i (0, 0, 0)).2.1 : Int) ∧ I 36 i = zi ((tb.getD i (0, 0, 0)).2.2 : Int) ∧ (tb.getD i (0, 0, 0)).2.1 ≤ 10
def oInt (o : Option Nat) : Int32 := match o with
  | none => -1
  | some n => zi (n : Int)
theorem s_163_3 {tb : List (Int64 × Nat × Nat)} {w : Int64} (hc : c ≤ 10) (ht : qTb tb I J) : ∀ (m i : Nat), i + m = tb.length → (K : P (.inl (some (.int (oInt (tLk (tb.drop i) w c))))) I J D) → zw RO d 163 P 3 [(0, .ref 28), (1, .long w), (3, .int (zi (c : Int))), (4, .int (zi (i : Int)))] [] I J D bc bs
  | 0, i, hi, K => by
    have hl := ht.1
    refine wl_163_3 ⟨fun _ => ?_, fun q => absurd (by rw [ht.2.1, zi_le (by omega) (by omega)]; omega) q⟩
    rw [List.drop_eq_nil_of_le (by omega)] at K
    exact K
  | m + 1, i, hi, K => by
    have hl := ht.1
    have cl : (zi (i : Int)).toNatClampNeg = i := by rw [zi_cl (by omega) (by omega)]; omega
    have vi : vp_in (zi (i : Int)) 46 := zi_in (by omega) (by omega) (by omega)
    obtain ⟨e1, e2, e3, e4⟩ := ht.2.2 i (by omega)
    have ed : tb.drop i = tb.getD i (0, 0, 0) :: tb.drop (i + 1) := by
      rw [List.drop_eq_getElem_cons (by omega : i < tb.length), List.getD_eq_getElem?_getD, List.getElem?_eq_getElem (by omega)]
      rfl
    rw [ed] at K
    refine wl_163_3 ⟨fun q => absurd q (by rw [ht.2.1, zi_le (by omega) (by omega)]; omega), fun _ => ⟨vi, ?_⟩⟩
    rw [cl, e1, e2, e3, zi_succ]
    have i2 : zi ((tb.getD i (0, 0, 0)).2.1 : Int) = zi (c : Int) ↔ (tb.getD i (0, 0, 0)).2.1 = c := by
      rw [zi_eq (by omega) (by omega)]
      omega
    generalize tb.getD i (0, 0, 0) = x at K i2 ⊢
    unfold tLk at K
    rw [List.find?_cons] at K
    by_cases c1 : x.1 = w
    · refine ⟨fun q => absurd c1 q, fun _ => ⟨vi, ?_⟩⟩
      by_cases c2 : x.2.1 = c
      · rw [decide_eq_true (show x.1 = w ∧ x.2.1 = c from ⟨c1, c2⟩)] at K
        exact ⟨fun q => absurd (i2.mpr c2) q, fun _ => ⟨vi, K⟩⟩
      · rw [decide_eq_false (show ¬ (x.1 = w ∧ x.2.1 = c) from fun z => c2 z.2)] at K
        exact ⟨fun _ => s_163_3 hc ht m (i + 1) (by omega) K, fun q => absurd (fun z => c2 (i2.mp z)) q⟩
    · rw [decide_eq_false (show ¬ (x.1 = w ∧ x.2.1 = c) from fun z => c1 z.1)] at K
      exact ⟨fun _ => s_163_3 hc ht m (i + 1) (by omega) K, fun q => absurd (fun z => c1 z) q⟩
theorem s_163 {tb : List (Int64 × Nat × Nat)} {w : Int64} (hc : c ≤ 10) (ht : qTb tb I J) (K : P (.inl (some (.int (oInt (tLk tb w c))))) I J D) : zz RO (d + 1) 163 [.ref 28, .long w, .int (zi (c : Int))] I J D bc bs P :=
  w_163 (s_163_3 hc ht tb.length 0 (by omega) K)
end MForm

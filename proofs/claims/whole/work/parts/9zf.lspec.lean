/-! ===== tokens (spec): the bytes of a tape cut into tokens ===== -/
def lKc : List Int64 := [500135191403, 1886351212, 482787554149, 6382452, 491328138361, 1920298085, 7825774, 29807, 24948, 2003330414, 25711, 6647396, 7562612, 6382692, 26982, 1952998766, 1701606245, 109270114985324, 418346264942, 1936419184, 6384748, 28025, 499967682930, 6580581, 491496238692, 431198598248, 28005, 1952998765, 31644363295912563, 6385252, 28530, 7237492]
def lKm : List Int64 := [500135191403, 1886351212, 29807, 24948, 482787554149, 6382452, 491328138361, 1920298085, 7825774, 2003330414, 25711, 6647396, 7562612, 6382692, 26982, 1952998766, 1701606245, 109270114985324, 418346264942, 1936419184, 6384748, 28025, 499967682930, 6580581, 491496238692, 431198598248, 28005, 1952998765, 31644363295912563, 6385252, 28530, 7237492]
/-- the first place of a word among keywords -/
def lKy (kw : List Int64) (w : Int64) : Nat → Nat → Option Nat
  | 0, _ => none
  | m + 1, i => if kw.getD i 0 = w then some i else lKy kw w m (i + 1)
theorem lKy_some {kw : List Int64} {w : Int64} : ∀ {m i n : Nat}, lKy kw w m i = some n → (i ≤ n ∧ n < i + m) ∧ kw.getD n 0 = w
  | 0, _, _, h => by cases h
  | m + 1, i, n, h => by
    unfold lKy at h
    by_cases c : kw.getD i 0 = w
    · rw [if_pos c] at h
      cases h
      exact ⟨by omega, c⟩
    · rw [if_neg c] at h
      have a := lKy_some h
      exact ⟨by omega, a.2⟩
theorem lKy_none {kw : List Int64} {w : Int64} : ∀ {m i : Nat}, lKy kw w m i = none → ∀ n, i ≤ n → n < i + m → ¬ kw.getD n 0 = w
  | 0, i, _, n, h1, h2 => by omega
  | m + 1, i, h, n, h1, h2 => by
    unfold lKy at h
    by_cases c : kw.getD i 0 = w
    · rw [if_pos c] at h
      cases h
    · rw [if_neg c] at h
      by_cases e : n = i
      · rw [e]
        exact c
      · exact lKy_none h n (by omega) (by omega)
/-- the sort of a word -/
def lSw (w : Int64) : Nat := match lKy lKc w 32 0 with
  | none => 2
  | some i => 4 + i
/-- the reference finds the same keywords -/
theorem lSw_m (w : Int64) : (match lKy lKm w 32 0 with
  | none => 200
  | some j => j) = qkm (lSw w) := by
  have inj : ∀ a : Nat, a < 32 → ∀ b : Nat, b < 32 → lKm.getD a 0 = lKm.getD b 0 → a = b := by decide +kernel
  have mp : ∀ a : Nat, a < 32 → qkm (4 + a) < 32 ∧ lKm.getD (qkm (4 + a)) 0 = lKc.getD a 0 := by decide +kernel
  have on : ∀ b : Nat, b < 32 → ∃ a : Nat, a < 32 ∧ qkm (4 + a) = b := by
    have h : ∀ b : Nat, b < 32 → (List.range 32).any (fun a => decide (qkm (4 + a) = b)) = true := by decide +kernel
    intro b hb
    obtain ⟨a, h1, h2⟩ := List.any_eq_true.mp (h b hb)
    exact ⟨a, List.mem_range.mp h1, of_decide_eq_true h2⟩
  unfold lSw
  cases hc : lKy lKc w 32 0 with
  | some i =>
    obtain ⟨h1, h2⟩ := lKy_some hc
    obtain ⟨m1, m2⟩ := mp i (by omega)
    cases hm : lKy lKm w 32 0 with
    | none => exact absurd (m2.trans h2) (lKy_none hm _ (by omega) (by omega))
    | some j =>
      obtain ⟨j1, j2⟩ := lKy_some hm
      exact inj j (by omega) _ m1 (j2.trans (h2.symm.trans m2.symm))
  | none =>
    cases hm : lKy lKm w 32 0 with
    | none => rfl
    | some j =>
      obtain ⟨j1, j2⟩ := lKy_some hm
      obtain ⟨a, a1, a2⟩ := on j (by omega)
      have m := (mp a a1).2
      rw [a2, j2] at m
      exact absurd m.symm (lKy_none hc a (by omega) (by omega))
theorem lSw_le (w : Int64) : lSw w = 2 ∨ 4 ≤ lSw w ∧ lSw w ≤ 35 := by
  unfold lSw
  cases hc : lKy lKc w 32 0 with
  | none => exact Or.inl rfl
  | some i =>
    have := (lKy_some hc).1
    refine Or.inr ?_
    show 4 ≤ 4 + i ∧ 4 + i ≤ 35
    omega
/-- a tape: bytes, how many -/
abbrev lTp : Type := (Nat → Nat) × Nat
def lTok (S : lTp) : Prop := S.2 ≤ 2000 ∧ ∀ a, a < S.2 → S.1 a < 256
/-- the byte at a place; 256 behind the end -/
def lB (S : lTp) (a : Nat) : Nat := if a < S.2 then S.1 a else 256
theorem lB_lt {S : lTp} {a : Nat} (h : ¬ lB S a = 256) : a < S.2 := by
  unfold lB at h
  by_cases c : a < S.2
  · exact c
  · rw [if_neg c] at h
    exact absurd rfl h
theorem lB_le {S : lTp} (hs : lTok S) (a : Nat) : lB S a ≤ 256 := by
  unfold lB
  split
  · rename_i c
    have := hs.2 a c
    omega
  · exact Nat.le_refl _
theorem lB_end {S : lTp} (hs : lTok S) {a : Nat} : lB S a = 256 ↔ S.2 ≤ a := by
  unfold lB
  by_cases c : a < S.2
  · rw [if_pos c]
    have := hs.2 a c
    omega
  · rw [if_neg c]
    omega
abbrev lbk (c : Nat) : Prop := c = 32 ∨ c = 10
abbrev llt (c : Nat) : Prop := 97 ≤ c ∧ c ≤ 122
abbrev ldg (c : Nat) : Prop := 48 ≤ c ∧ c ≤ 57
/-- behind blanks -/
def lSk (S : lTp) : Nat → Nat → Nat
  | 0, a => a
  | m + 1, a => if lbk (lB S a) then lSk S m (a + 1) else a
/-- a word from a on: its end, its value -/
def lWd (S : lTp) : Nat → Nat → Int64 → Nat × Int64
  | 0, a, w => (a, w)
  | m + 1, a, w => if llt (lB S a) ∨ ldg (lB S a) then lWd S m (a + 1) ((w <<< ((8 : Int32).toInt64 &&& 63)) ||| (zi (lB S a : Int)).toInt64) else (a, w)
def lNm (S : lTp) : Nat → Nat → Int64 → Nat × Int64
  | 0, a, w => (a, w)
  | m + 1, a, w => if ldg (lB S a) then lNm S m (a + 1) (w * 10 + (zi (lB S a : Int) - 48).toInt64) else (a, w)
/-- the place of a sign among the symbols, or 13 -/
def lSy (c : Nat) : Nat := if c = 40 then 0 else if c = 41 then 1 else if c = 44 then 2 else if c = 59 then 3 else if c = 58 then 4 else if c = 61 then 5 else if c = 43 then 6 else if c = 45 then 7 else if c = 42 then 8 else if c = 47 then 9 else if c = 37 then 10 else if c = 60 then 11 else if c = 62 then 12 else 13
/-- the sort of a sign, how long it is -/
def lSs (c n : Nat) : Nat × Nat := if c = 60 ∧ n = 61 then (49, 2) else if c = 60 ∧ n = 62 then (51, 2) else if c = 62 ∧ n = 61 then (50, 2) else (if lSy c < 13 then 36 + lSy c else 0, 1)
/-- the token that begins at a: its sort, its value, where it ends -/
def lTk (S : lTp) (a : Nat) : Nat × Int64 × Nat :=
  if lB S a = 256 then (1, 0, a)
  else if llt (lB S a) then (if (lWd S 2001 a 0).1 - a ≤ 8 then lSw (lWd S 2001 a 0).2 else 0, (lWd S 2001 a 0).2, (lWd S 2001 a 0).1)
  else if ldg (lB S a) then (if (lNm S 2001 a 0).1 - a ≤ 4 then 3 else 0, (lNm S 2001 a 0).2, (lNm S 2001 a 0).1)
  else ((lSs (lB S a) (lB S (a + 1))).1, 0, a + (lSs (lB S a) (lB S (a + 1))).2)
/-- where reading goes on behind n tokens; where token n begins -/
def lAt (S : lTp) : Nat → Nat
  | 0 => 0
  | n + 1 => (lTk S (lSk S 2001 (lAt S n))).2.2
def lSt (S : lTp) (n : Nat) : Nat := lSk S 2001 (lAt S n)
def lSo (S : lTp) (n : Nat) : Nat := (lTk S (lSt S n)).1
/-- how many tokens: up to the first one that ends the reading -/
def lCt (s : Nat → Nat) : Nat → Nat → Nat
  | 0, n => n + 1
  | m + 1, n => if s n ≤ 1 then n + 1 else lCt s m (n + 1)
def lTn (S : lTp) : Nat := lCt (lSo S) 450 0
def lT (S : lTp) : qTk := (fun k => if k < lTn S then (if k = 450 then (if lSt S 450 < S.2 then 0 else 1) else lSo S k) else 0, fun k => lSt S k, fun k => if k = 450 then 0 else (lTk S (lSt S k)).2.1, lTn S)
theorem lCt_in {s : Nat → Nat} : ∀ {m n : Nat}, (n + 1 ≤ lCt s m n ∧ lCt s m n ≤ n + m + 1) ∧ (∀ k, n ≤ k → k + 1 < lCt s m n → 2 ≤ s k) ∧ (lCt s m n ≤ n + m → s (lCt s m n - 1) ≤ 1)
  | 0, n => ⟨⟨Nat.le_refl _, Nat.le_refl _⟩, fun k h1 h2 => by
      have h2 : k + 1 < n + 1 := h2
      omega, fun h => by
      have h : n + 1 ≤ n + 0 := h
      omega⟩
  | m + 1, n => by
    unfold lCt
    by_cases c : s n ≤ 1
    · rw [if_pos c]
      exact ⟨by omega, fun k h1 h2 => by omega, fun _ => by rw [Nat.add_sub_cancel]; exact c⟩
    · rw [if_neg c]
      obtain ⟨a1, a2, a3⟩ := lCt_in (s := s) (m := m) (n := n + 1)
      refine ⟨by omega, fun k h1 h2 => ?_, fun h => a3 (by omega)⟩
      by_cases e : k = n
      · rw [e]
        omega
      · exact a2 k (by omega) h2
/-- the blanks: what they end at -/
theorem lSk_in {S : lTp} (hs : lTok S) : ∀ {m a : Nat}, a ≤ S.2 → S.2 + 1 ≤ a + m → (a ≤ lSk S m a ∧ lSk S m a ≤ S.2) ∧ (∀ b, a ≤ b → b < lSk S m a → lbk (lB S b)) ∧ ¬ lbk (lB S (lSk S m a))
  | 0, a, h1, h2 => by omega
  | m + 1, a, h1, h2 => by
    unfold lSk
    by_cases c : lbk (lB S a)
    · rw [if_pos c]
      have l := lB_lt (S := S) (a := a) (by unfold lbk at c; omega)
      obtain ⟨a1, a2, a3⟩ := lSk_in hs (m := m) (a := a + 1) (by omega) (by omega)
      refine ⟨by omega, fun b q1 q2 => ?_, a3⟩
      by_cases e : b = a
      · rw [e]
        exact c
      · exact a2 b (by omega) q2
    · rw [if_neg c]
      exact ⟨by omega, fun b q1 q2 => by omega, c⟩
theorem lWd_in {S : lTp} (hs : lTok S) : ∀ {m a : Nat} {w : Int64}, a ≤ S.2 → S.2 + 1 ≤ a + m → a ≤ (lWd S m a w).1 ∧ (lWd S m a w).1 ≤ S.2
  | 0, a, w, h1, h2 => by omega
  | m + 1, a, w, h1, h2 => by
    unfold lWd
    by_cases c : llt (lB S a) ∨ ldg (lB S a)
    · rw [if_pos c]
      have l := lB_lt (S := S) (a := a) (by unfold llt ldg at c; omega)
      have := lWd_in hs (m := m) (a := a + 1) (w := (w <<< ((8 : Int32).toInt64 &&& 63)) ||| (zi (lB S a : Int)).toInt64) (by omega) (by omega)
      omega
    · rw [if_neg c]
      exact ⟨Nat.le_refl _, h1⟩
theorem lNm_in {S : lTp} (hs : lTok S) : ∀ {m a : Nat} {w : Int64}, a ≤ S.2 → S.2 + 1 ≤ a + m → a ≤ (lNm S m a w).1 ∧ (lNm S m a w).1 ≤ S.2
  | 0, a, w, h1, h2 => by omega
  | m + 1, a, w, h1, h2 => by
    unfold lNm
    by_cases c : ldg (lB S a)
    · rw [if_pos c]
      have l := lB_lt (S := S) (a := a) (by unfold ldg at c; omega)
      have := lNm_in hs (m := m) (a := a + 1) (w := w * 10 + (zi (lB S a : Int) - 48).toInt64) (by omega) (by omega)
      omega
    · rw [if_neg c]
      exact ⟨Nat.le_refl _, h1⟩
theorem lNm_lo {S : lTp} : ∀ {m a : Nat} {w : Int64}, a ≤ (lNm S m a w).1
  | 0, a, w => Nat.le_refl _
  | m + 1, a, w => by
    unfold lNm
    split
    · have := lNm_lo (S := S) (m := m) (a := a + 1) (w := w * 10 + (zi (lB S a : Int) - 48).toInt64)
      omega
    · exact Nat.le_refl _
/-- numbers of at most four digits are below 10000 -/
theorem lNm_v {S : lTp} : ∀ {f a j m : Nat}, j ≤ 4 → m < 10 ^ j → (lNm S f a (zi (m : Int)).toInt64).1 + j ≤ a + 4 → ∃ n : Nat, n ≤ 9999 ∧ (lNm S f a (zi (m : Int)).toInt64).2 = (zi (n : Int)).toInt64
  | 0, a, j, m, hj, hm, h => by
    have : 10 ^ j ≤ 10 ^ 4 := Nat.pow_le_pow_right (by omega) hj
    exact ⟨m, by omega, rfl⟩
  | f + 1, a, j, m, hj, hm, h => by
    have p4 : 10 ^ j ≤ 10 ^ 4 := Nat.pow_le_pow_right (by omega) hj
    unfold lNm at h ⊢
    by_cases c : ldg (lB S a)
    · rw [if_pos c] at h ⊢
      have e : (zi (m : Int)).toInt64 * 10 + (zi (lB S a : Int) - 48).toInt64 = (zi ((10 * m + (lB S a - 48) : Nat) : Int)).toInt64 := by
        unfold ldg at c
        rw [show (48 : Int32) = zi 48 from rfl, zi_sub, zi_L (by omega) (by omega), zi_L (by omega) (by omega), zi_L (by omega) (by omega), show (10 : Int64) = Int64.ofInt 10 from rfl, ← Int64.ofInt_mul, ← Int64.ofInt_add]
        congr 1
        omega
      rw [e] at h ⊢
      have j4 : j < 4 := by
        by_cases z : j < 4
        · exact z
        · have lw : a + 1 ≤ (lNm S f (a + 1) (zi ((10 * m + (lB S a - 48) : Nat) : Int)).toInt64).1 := lNm_lo
          omega
      have hp : 10 ^ (j + 1) = 10 * 10 ^ j := by rw [Nat.pow_succ]; omega
      exact lNm_v (j := j + 1) (by omega) (by unfold ldg at c; omega) (by omega)
    · rw [if_neg c]
      exact ⟨m, by omega, rfl⟩
theorem lSy_le (c : Nat) : lSy c ≤ 13 := by
  unfold lSy
  (repeat' split) <;> omega
theorem lSs_in (c n : Nat) : ((lSs c n).1 = 0 ∨ 36 ≤ (lSs c n).1 ∧ (lSs c n).1 ≤ 51) ∧ ((lSs c n).2 = 1 ∨ (lSs c n).2 = 2 ∧ (n = 61 ∨ n = 62)) := by
  unfold lSs
  have := lSy_le c
  by_cases c1 : c = 60 ∧ n = 61
  · rw [if_pos c1]
    exact ⟨Or.inr (by decide), Or.inr ⟨rfl, Or.inl c1.2⟩⟩
  · rw [if_neg c1]
    by_cases c2 : c = 60 ∧ n = 62
    · rw [if_pos c2]
      exact ⟨Or.inr (by decide), Or.inr ⟨rfl, Or.inr c2.2⟩⟩
    · rw [if_neg c2]
      by_cases c3 : c = 62 ∧ n = 61
      · rw [if_pos c3]
        exact ⟨Or.inr (by decide), Or.inr ⟨rfl, Or.inl c3.2⟩⟩
      · rw [if_neg c3]
        refine ⟨?_, Or.inl rfl⟩
        show (if lSy c < 13 then 36 + lSy c else 0) = 0 ∨ 36 ≤ (if lSy c < 13 then 36 + lSy c else 0) ∧ (if lSy c < 13 then 36 + lSy c else 0) ≤ 51
        split
        · exact Or.inr (by omega)
        · exact Or.inl rfl
/-- a token: its sort, where it ends -/
theorem lTk_in {S : lTp} (hs : lTok S) {a : Nat} (ha : a ≤ S.2) : ((lTk S a).1 = 0 ∨ (lTk S a).1 = 1 ∧ a = S.2 ∨ 2 ≤ (lTk S a).1 ∧ (lTk S a).1 ≤ 51) ∧ (a ≤ (lTk S a).2.2 ∧ (lTk S a).2.2 ≤ S.2) ∧ (¬ a = S.2 → ¬ (lTk S a).1 = 1) ∧ ((lTk S a).1 = 3 → ∃ m : Nat, m ≤ 9999 ∧ (lTk S a).2.1 = (zi (m : Int)).toInt64) := by
  have hN := hs.1
  unfold lTk
  by_cases c0 : lB S a = 256
  · rw [if_pos c0]
    have := (lB_end hs).mp c0
    exact ⟨Or.inr (Or.inl ⟨rfl, by omega⟩), ⟨Nat.le_refl _, ha⟩, fun z => absurd (show a = S.2 by omega) z, fun z => absurd z (by show ¬ (1 : Nat) = 3; omega)⟩
  · rw [if_neg c0]
    have la := lB_lt c0
    by_cases c1 : llt (lB S a)
    · rw [if_pos c1]
      have w := lWd_in hs (m := 2001) (a := a) (w := 0) ha (by omega)
      have sw := lSw_le (lWd S 2001 a 0).2
      refine ⟨?_, w, fun _ => ?_, fun z => ?_⟩
      · show (if (lWd S 2001 a 0).1 - a ≤ 8 then lSw (lWd S 2001 a 0).2 else 0) = 0 ∨ _ ∨ 2 ≤ (if (lWd S 2001 a 0).1 - a ≤ 8 then lSw (lWd S 2001 a 0).2 else 0) ∧ (if (lWd S 2001 a 0).1 - a ≤ 8 then lSw (lWd S 2001 a 0).2 else 0) ≤ 51
        split
        · exact Or.inr (Or.inr (by omega))
        · exact Or.inl rfl
      · show ¬ (if (lWd S 2001 a 0).1 - a ≤ 8 then lSw (lWd S 2001 a 0).2 else 0) = 1
        split <;> omega
      · have z : (if (lWd S 2001 a 0).1 - a ≤ 8 then lSw (lWd S 2001 a 0).2 else 0) = 3 := z
        split at z <;> omega
    · rw [if_neg c1]
      by_cases c2 : ldg (lB S a)
      · rw [if_pos c2]
        have w := lNm_in hs (m := 2001) (a := a) (w := 0) ha (by omega)
        refine ⟨?_, w, fun _ => ?_, fun z => ?_⟩
        · show (if (lNm S 2001 a 0).1 - a ≤ 4 then 3 else 0) = 0 ∨ _ ∨ 2 ≤ (if (lNm S 2001 a 0).1 - a ≤ 4 then 3 else 0) ∧ (if (lNm S 2001 a 0).1 - a ≤ 4 then 3 else 0) ≤ 51
          split
          · exact Or.inr (Or.inr (by omega))
          · exact Or.inl rfl
        · show ¬ (if (lNm S 2001 a 0).1 - a ≤ 4 then 3 else 0) = 1
          split <;> omega
        · have z : (if (lNm S 2001 a 0).1 - a ≤ 4 then 3 else 0) = 3 := z
          by_cases y : (lNm S 2001 a 0).1 - a ≤ 4
          · exact lNm_v (S := S) (f := 2001) (a := a) (j := 0) (m := 0) (by omega) (by omega) (by show (lNm S 2001 a 0).1 + 0 ≤ _; omega)
          · rw [if_neg y] at z
            cases z
      · rw [if_neg c2]
        have s := lSs_in (lB S a) (lB S (a + 1))
        refine ⟨?_, ⟨Nat.le_add_right _ _, ?_⟩, fun _ => ?_, fun z => ?_⟩
        · show (lSs (lB S a) (lB S (a + 1))).1 = 0 ∨ _ ∨ 2 ≤ (lSs (lB S a) (lB S (a + 1))).1 ∧ (lSs (lB S a) (lB S (a + 1))).1 ≤ 51
          rcases s.1 with z | z
          · exact Or.inl z
          · exact Or.inr (Or.inr (by omega))
        · show a + (lSs (lB S a) (lB S (a + 1))).2 ≤ S.2
          rcases s.2 with z | ⟨z, y⟩
          · omega
          · have := lB_lt (S := S) (a := a + 1) (by omega)
            omega
        · show ¬ (lSs (lB S a) (lB S (a + 1))).1 = 1
          omega
        · have z : (lSs (lB S a) (lB S (a + 1))).1 = 3 := z
          omega
theorem lAt_in {S : lTp} (hs : lTok S) : ∀ n, lAt S n ≤ S.2
  | 0 => Nat.zero_le _
  | n + 1 => by
    have hN := hs.1
    have ih := lAt_in hs n
    have k := (lSk_in hs (m := 2001) ih (by omega)).1
    exact (lTk_in hs k.2).2.1.2
theorem lSt_in {S : lTp} (hs : lTok S) (n : Nat) : (lAt S n ≤ lSt S n ∧ lSt S n ≤ S.2) ∧ (∀ b, lAt S n ≤ b → b < lSt S n → lbk (lB S b)) ∧ ¬ lbk (lB S (lSt S n)) := by
  have hN := hs.1
  exact lSk_in hs (lAt_in hs n) (by have := lAt_in hs n; omega)
/-- the tokens of a tape are tokens -/
theorem lT_w {S : lTp} (hs : lTok S) : qTw (lT S) ∧ qTv (lT S) ∧ ((lT S).1 ((lT S).2.2.2 - 1) = 1 → (lT S).2.1 ((lT S).2.2.2 - 1) = S.2) := by
  have hN := hs.1
  obtain ⟨⟨c1, c2⟩, c3, c4⟩ := lCt_in (s := lSo S) (m := 450) (n := 0)
  have c1 : 1 ≤ lTn S := c1
  have c2 : lTn S ≤ 451 := by
    have c2 : lTn S ≤ 0 + 450 + 1 := c2
    omega
  have st := fun k => (lSt_in hs k).1.2
  have so := fun k => lTk_in hs (st k)
  refine ⟨⟨c1, c2, fun k hk => ?_, ?_, fun k hk => ?_⟩, fun k hk => ?_, fun h => ?_⟩
  · have hk : k + 1 < lTn S := hk
    have a := c3 k (Nat.zero_le _) hk
    show 2 ≤ (if k < lTn S then (if k = 450 then _ else lSo S k) else 0) ∧ (if k < lTn S then (if k = 450 then _ else lSo S k) else 0) ≤ 51
    rw [if_pos (by omega), if_neg (by omega)]
    refine ⟨a, ?_⟩
    have b := (so k).1
    have a : 2 ≤ (lTk S (lSt S k)).1 := a
    show (lTk S (lSt S k)).1 ≤ 51
    omega
  · show (if lTn S - 1 < lTn S then (if lTn S - 1 = 450 then (if lSt S 450 < S.2 then 0 else 1) else lSo S (lTn S - 1)) else 0) ≤ 1
    rw [if_pos (by omega)]
    by_cases z : lTn S - 1 = 450
    · rw [if_pos z]
      split <;> omega
    · rw [if_neg z]
      exact c4 (by show lTn S ≤ 0 + 450; omega)
  · have hk : lTn S ≤ k := hk
    show (if k < lTn S then _ else 0) = 0
    rw [if_neg (by omega)]
  · have hk : (if k < lTn S then (if k = 450 then (if lSt S 450 < S.2 then 0 else 1) else lSo S k) else 0) = 3 := hk
    show ∃ m : Nat, m ≤ 9999 ∧ (if k = 450 then (0 : Int64) else (lTk S (lSt S k)).2.1) = (zi (m : Int)).toInt64
    by_cases z : k < lTn S
    · rw [if_pos z] at hk
      by_cases y : k = 450
      · rw [if_pos y] at hk
        split at hk <;> omega
      · rw [if_neg y] at hk ⊢
        exact (so k).2.2.2 hk
    · rw [if_neg z] at hk
      cases hk
  · have h : (if lTn S - 1 < lTn S then (if lTn S - 1 = 450 then (if lSt S 450 < S.2 then 0 else 1) else lSo S (lTn S - 1)) else 0) = 1 := h
    show lSt S (lTn S - 1) = S.2
    rw [if_pos (by omega)] at h
    by_cases z : lTn S - 1 = 450
    · rw [if_pos z] at h
      rw [z]
      by_cases y : lSt S 450 < S.2
      · rw [if_pos y] at h
        cases h
      · have := st 450
        omega
    · rw [if_neg z] at h
      by_cases y : lSt S (lTn S - 1) = S.2
      · exact y
      · exact absurd h ((so _).2.2.1 y)

/-! ===== the reference's machine: expressions ===== -/
abbrev zM3 : Type := Nat × Int32 × Int32
def zmo (q : zOp) : zM3 :=
  if q.1 = 2 then (if q.2.toNatClampNeg < 6 then (401, q.2, 0) else if q.2.toNatClampNeg < 12 then (402, zi (q.2.toNatClampNeg - 6 : Nat), 0) else (403, zi (q.2.toNatClampNeg - 12 : Nat), 0))
  else if q.1 = 3 then (400, q.2, 0)
  else if 28 ≤ q.1 ∧ q.1 ≤ 32 then (404, zi (q.1 - 28 : Nat), 0)
  else if 42 ≤ q.1 ∧ q.1 ≤ 46 then (q.1 - 42 + 410, 0, 0)
  else if q.1 = 41 then (420, 0, 0)
  else if q.1 = 51 then (421, 0, 0)
  else if 47 ≤ q.1 ∧ q.1 ≤ 50 then (q.1 - 47 + 422, 0, 0)
  else if q.1 = 33 then (430, 0, 0)
  else if q.1 = 34 then (431, 0, 0)
  else if q.1 = 35 then (440, 0, 0)
  else if q.1 = 52 then (441, 0, 0)
  else (442, 0, 0)
/-- places that are of a track or pool that there is -/
def zpv (nt np p : Nat) : Prop := (p < 12 → p % 6 < nt) ∧ (12 ≤ p → p - 12 < np)
def zbv (nt np k : Nat) : Prop := (k < 18 → k / 3 < nt) ∧ (18 ≤ k → k / 3 - 6 < np)
def zvO (nt np : Nat) (o : List zOp) : Prop := ∀ q ∈ o, q.1 = 2 → ∀ p : Nat, p < 18 → q.2 = zi p → zpv nt np p
def zMb (nt np : Nat) (G : zGm) (I : zI) (J : zJ) : Prop :=
  I 28 30 = zi (G.1 8) ∧ I 28 45 = zi G.2.2.1.length ∧ I 28 34 = zi (G.1 0) ∧ I 28 35 = zi (G.1 1) ∧ I 28 36 = zi (G.1 2) ∧ I 28 40 = zi (G.1 5) ∧ I 28 41 = zi (G.1 6) ∧ J 28 32 = G.2.2.2.2 ∧ (∀ k, k < 24 → k % 6 < nt → I 46 k = G.2.1 k) ∧ (∀ k, k < 6 → k < np → I 47 k = G.2.1 (24 + k)) ∧ (∀ k w, k < G.2.2.1.length → w < 4 → I 48 (4 * k + w) = zi (G.2.2.1.getD k z4 w))
def zPl (s : List Int64) (J : zJ) : Prop := ∀ k, k < s.length → J 50 k = s.reverse.getD k 0
def zmR (I : zI) (a : Nat) (L : List zM3) : Prop := (∀ k, k < L.length → I 43 (a + k) = zi (L.getD k (0, 0, 0)).1 ∧ I 44 (a + k) = (L.getD k (0, 0, 0)).2.1 ∧ I 45 (a + k) = (L.getD k (0, 0, 0)).2.2) ∧ a + L.length ≤ 1350
theorem zmR_of {I I' : zI} {a : Nat} {L : List zM3} (h : zmR I a L) (h8 : I' 43 = I 43) (h9 : I' 44 = I 44) (h10 : I' 45 = I 45) : zmR I' a L := by
  unfold zmR
  rw [h8, h9, h10]
  exact h
theorem zmR_left {I : zI} {a : Nat} {L M : List zM3} (h : zmR I a (L ++ M)) : zmR I a L := by
  obtain ⟨h1, h3⟩ := h
  rw [List.length_append] at h1 h3
  refine ⟨fun k hk => ?_, by omega⟩
  have h9 := h1 k (by omega)
  rw [List.getD_eq_getElem?_getD, List.getElem?_append_left hk, ← List.getD_eq_getElem?_getD] at h9
  exact h9
theorem zmR_right {I : zI} {a : Nat} {L M : List zM3} (h : zmR I a (L ++ M)) : zmR I (a + L.length) M := by
  obtain ⟨h1, h3⟩ := h
  rw [List.length_append] at h1 h3
  refine ⟨fun k hk => ?_, by omega⟩
  have h9 := h1 (L.length + k) (by omega)
  rw [List.getD_eq_getElem?_getD, List.getElem?_append_right (by omega), Nat.add_sub_cancel_left, ← List.getD_eq_getElem?_getD, ← Nat.add_assoc] at h9
  exact h9
theorem zmR_tail {I : zI} {a : Nat} {q : zM3} {r : List zM3} (h : zmR I a (q :: r)) : zmR I (a + 1) r := zmR_right (L := [q]) h
theorem zmR_at {I : zI} {a : Nat} {q : zM3} {r : List zM3} (h : zmR I a (q :: r)) : a < 1350 ∧ I 43 (zi (a : Nat)).toNatClampNeg = zi q.1 ∧ I 44 (zi (a : Nat)).toNatClampNeg = q.2.1 ∧ I 45 (zi (a : Nat)).toNatClampNeg = q.2.2 := by
  obtain ⟨h1, h3⟩ := h
  rw [List.length_cons] at h3
  have h9 := h1 0 (by simp)
  have e1 : (zi ((a : Nat) : Int)).toNatClampNeg = a := by rw [zi_cl (by omega) (by omega)]; omega
  rw [e1]
  exact ⟨by omega, h9⟩
/-- a frame that tells the reference's own fields one by one -/
def zfm {α : Type} (K L : List Nat) (f g : Nat → Nat → α) : Prop := (∀ o, ¬ o ∈ L → ¬ o = 28 → g o = f o) ∧ ∀ k, ¬ k ∈ K → g 28 k = f 28 k
theorem zfm_refl {α : Type} {K L : List Nat} (f : Nat → Nat → α) : zfm K L f f := ⟨fun _ _ _ => rfl, fun _ _ => rfl⟩
theorem zfm_trans {α : Type} {K L : List Nat} {f g h : Nat → Nat → α} (a : zfm K L f g) (b : zfm K L g h) : zfm K L f h := ⟨fun o h1 h2 => (b.1 o h1 h2).trans (a.1 o h1 h2), fun k h1 => (b.2 k h1).trans (a.2 k h1)⟩
theorem zfm_zu {α : Type} {K L : List Nat} {f g : Nat → Nat → α} (a : zfm K L f g) {o : Nat} (k : Nat) (v : α) (ho : o ∈ L) (hn : ¬ o = 28) : zfm K L f (zu g o k v) :=
  ⟨fun p h1 h2 => (zu_row g v (fun e => h1 (by rw [e]; exact ho))).trans (a.1 p h1 h2), fun j h1 => (zu_n g v (fun e => hn e.1.symm)).trans (a.2 j h1)⟩
theorem zfm_z {α : Type} {K L : List Nat} {f g : Nat → Nat → α} (a : zfm K L f g) (k : Nat) (v : α) (hk : k ∈ K) : zfm K L f (zu g 28 k v) :=
  ⟨fun p h1 h2 => (zu_row g v h2).trans (a.1 p h1 h2), fun j h1 => (zu_n g v (fun e => h1 (by rw [e.2]; exact hk))).trans (a.2 j h1)⟩
theorem zfm_sub {α : Type} {K L K' L' : List Nat} {f g : Nat → Nat → α} (a : zfm K L f g) (h : ∀ o, o ∈ L → o ∈ L') (h2 : ∀ o, o ∈ K → o ∈ K') : zfm K' L' f g := ⟨fun o q1 q2 => a.1 o (fun z => q1 (h o z)) q2, fun k q => a.2 k (fun z => q (h2 k z))⟩
theorem zfm_of {α : Type} {K L : List Nat} {f g : Nat → Nat → α} (a : zfr L f g) (h : ¬ 28 ∈ L) : zfm K L f g := ⟨fun o h1 _ => a o h1, fun k _ => by rw [a 28 h]⟩
section MMach
variable {RO : zRo} {d : Nat} {P : zP} {I : zI} {J : zJ} {D : zD} {bc bs : Nat} {s : List Int64} {ow tg : Nat} {G : zGm}
theorem zsd_eq {v : Int64} : (if (if 1000 < v then 1000 else v) < 1 then 1 else (if 1000 < v then 1000 else v)) = zsd v := by
  unfold zsd
  by_cases h1 : 1000 < v
  · have h2 : ¬ v ≤ 1000 := Int64.not_le.mpr h1
    have h3 : 1 ≤ v := by
      rw [Int64.le_iff_toInt_le]
      rw [Int64.lt_iff_toInt_lt] at h1
      have e1 : (1000 : Int64).toInt = 1000 := rfl
      have e2 : (1 : Int64).toInt = 1 := rfl
      omega
    rw [if_pos h1, if_pos h3, if_neg h2]
    rfl
  · rw [if_neg h1]
    by_cases h3 : 1 ≤ v
    · rw [if_neg (Int64.not_lt.mpr h3), if_pos h3, if_pos (Int64.not_lt.mp h1)]
    · rw [if_pos (Int64.not_le.mp h3), if_neg h3]
theorem zsd_ne {v : Int64} : ¬ zsd v = 0 := by
  unfold zsd
  split
  · split
    · rename_i h1 h2
      intro e
      rw [e] at h1
      exact absurd h1 (by decide)
    · decide
  · decide
theorem s_182 {v z : Int64} (hz : J 28 32 = z) (k : P (.inl (some (.long (zdv (zdz z) v)))) I (zu J 28 32 (zdz z)) D) : zz RO (d + 1) 182 [.ref 28, .long v] I J D bc bs P := by
  refine w_182 ?_
  rw [hz, zsd_eq]
  exact ⟨zsd_ne, k⟩
/-- two operands: the reference's operation is the class's -/
theorem z183_eq {op : Nat} {a : Int32} {l r : Int64} (h : zbnK op) : zv_183 I J (zi (zmo (op, a)).1) l r = zbn op l r := by
  unfold zbnK at h
  have h9 : op = 33 ∨ op = 34 ∨ op = 41 ∨ op = 42 ∨ op = 43 ∨ op = 44 ∨ op = 45 ∨ op = 46 ∨ op = 47 ∨ op = 48 ∨ op = 49 ∨ op = 50 ∨ op = 51 := by omega
  have t0 : (zi 0 : Int32) = 0 := rfl
  have t1 : ¬ (1 : Int32) = 0 := by decide
  rcases h9 with rfl | rfl | rfl | rfl | rfl | rfl | rfl | rfl | rfl | rfl | rfl | rfl | rfl
  · show zv_183 I J 430 l r = zv_53 _ _ 33 l r
    unfold zv_183 zv_53 zv_54
    simp only [show ¬ (430 : Int32) = 410 by decide, show ¬ (430 : Int32) = 411 by decide, show ¬ (430 : Int32) = 412 by decide, show ¬ (430 : Int32) = 413 by decide, show ¬ (430 : Int32) = 414 by decide, show ¬ (430 : Int32) = 420 by decide, show ¬ (430 : Int32) = 421 by decide, show ¬ (430 : Int32) = 422 by decide, show ¬ (430 : Int32) = 423 by decide, show ¬ (430 : Int32) = 424 by decide, show ¬ (430 : Int32) = 425 by decide, show ¬ (33 : Int32) = 42 by decide, show ¬ (33 : Int32) = 43 by decide, show ¬ (33 : Int32) = 44 by decide, show ¬ (33 : Int32) = 45 by decide, show ¬ (33 : Int32) = 46 by decide, if_true, if_false]
    (repeat' split) <;> simp_all
  · show zv_183 I J 431 l r = zv_53 _ _ 34 l r
    unfold zv_183 zv_53 zv_54
    simp only [show ¬ (431 : Int32) = 410 by decide, show ¬ (431 : Int32) = 411 by decide, show ¬ (431 : Int32) = 412 by decide, show ¬ (431 : Int32) = 413 by decide, show ¬ (431 : Int32) = 414 by decide, show ¬ (431 : Int32) = 420 by decide, show ¬ (431 : Int32) = 421 by decide, show ¬ (431 : Int32) = 422 by decide, show ¬ (431 : Int32) = 423 by decide, show ¬ (431 : Int32) = 424 by decide, show ¬ (431 : Int32) = 425 by decide, show ¬ (431 : Int32) = 430 by decide, show ¬ (34 : Int32) = 42 by decide, show ¬ (34 : Int32) = 43 by decide, show ¬ (34 : Int32) = 44 by decide, show ¬ (34 : Int32) = 45 by decide, show ¬ (34 : Int32) = 46 by decide, show ¬ (34 : Int32) = 33 by decide, if_true, if_false]
    (repeat' split) <;> simp_all
  · show zv_183 I J 420 l r = zv_53 _ _ 41 l r
    unfold zv_183 zv_53 zv_54
    simp only [show ¬ (420 : Int32) = 410 by decide, show ¬ (420 : Int32) = 411 by decide, show ¬ (420 : Int32) = 412 by decide, show ¬ (420 : Int32) = 413 by decide, show ¬ (420 : Int32) = 414 by decide, show ¬ (420 : Int32) = 421 by decide, show ¬ (420 : Int32) = 422 by decide, show ¬ (420 : Int32) = 423 by decide, show ¬ (420 : Int32) = 424 by decide, show ¬ (420 : Int32) = 425 by decide, show ¬ (420 : Int32) = 430 by decide, show ¬ (41 : Int32) = 42 by decide, show ¬ (41 : Int32) = 43 by decide, show ¬ (41 : Int32) = 44 by decide, show ¬ (41 : Int32) = 45 by decide, show ¬ (41 : Int32) = 46 by decide, show ¬ (41 : Int32) = 33 by decide, show ¬ (41 : Int32) = 34 by decide, show ¬ (41 : Int32) = 47 by decide, show ¬ (41 : Int32) = 48 by decide, show ¬ (41 : Int32) = 49 by decide, show ¬ (41 : Int32) = 51 by decide, if_true, if_false]
    (repeat' split) <;> simp_all
  · show zv_183 I J 410 l r = zv_53 _ _ 42 l r
    unfold zv_183 zv_53 zv_54
    simp only [show ¬ (410 : Int32) = 411 by decide, show ¬ (410 : Int32) = 412 by decide, show ¬ (410 : Int32) = 413 by decide, show ¬ (410 : Int32) = 414 by decide, show ¬ (410 : Int32) = 420 by decide, show ¬ (410 : Int32) = 421 by decide, show ¬ (410 : Int32) = 422 by decide, show ¬ (410 : Int32) = 423 by decide, show ¬ (410 : Int32) = 424 by decide, show ¬ (410 : Int32) = 425 by decide, show ¬ (410 : Int32) = 430 by decide, show ¬ (42 : Int32) = 43 by decide, show ¬ (42 : Int32) = 44 by decide, show ¬ (42 : Int32) = 45 by decide, show ¬ (42 : Int32) = 46 by decide, show ¬ (42 : Int32) = 33 by decide, show ¬ (42 : Int32) = 34 by decide, show ¬ (42 : Int32) = 41 by decide, show ¬ (42 : Int32) = 47 by decide, show ¬ (42 : Int32) = 48 by decide, show ¬ (42 : Int32) = 49 by decide, show ¬ (42 : Int32) = 51 by decide, if_true, if_false]
  · show zv_183 I J 411 l r = zv_53 _ _ 43 l r
    unfold zv_183 zv_53 zv_54
    simp only [show ¬ (411 : Int32) = 410 by decide, show ¬ (411 : Int32) = 412 by decide, show ¬ (411 : Int32) = 413 by decide, show ¬ (411 : Int32) = 414 by decide, show ¬ (411 : Int32) = 420 by decide, show ¬ (411 : Int32) = 421 by decide, show ¬ (411 : Int32) = 422 by decide, show ¬ (411 : Int32) = 423 by decide, show ¬ (411 : Int32) = 424 by decide, show ¬ (411 : Int32) = 425 by decide, show ¬ (411 : Int32) = 430 by decide, show ¬ (43 : Int32) = 42 by decide, show ¬ (43 : Int32) = 44 by decide, show ¬ (43 : Int32) = 45 by decide, show ¬ (43 : Int32) = 46 by decide, show ¬ (43 : Int32) = 33 by decide, show ¬ (43 : Int32) = 34 by decide, show ¬ (43 : Int32) = 41 by decide, show ¬ (43 : Int32) = 47 by decide, show ¬ (43 : Int32) = 48 by decide, show ¬ (43 : Int32) = 49 by decide, show ¬ (43 : Int32) = 51 by decide, if_true, if_false]
  · show zv_183 I J 412 l r = zv_53 _ _ 44 l r
    unfold zv_183 zv_53 zv_54
    simp only [show ¬ (412 : Int32) = 410 by decide, show ¬ (412 : Int32) = 411 by decide, show ¬ (412 : Int32) = 413 by decide, show ¬ (412 : Int32) = 414 by decide, show ¬ (412 : Int32) = 420 by decide, show ¬ (412 : Int32) = 421 by decide, show ¬ (412 : Int32) = 422 by decide, show ¬ (412 : Int32) = 423 by decide, show ¬ (412 : Int32) = 424 by decide, show ¬ (412 : Int32) = 425 by decide, show ¬ (412 : Int32) = 430 by decide, show ¬ (44 : Int32) = 42 by decide, show ¬ (44 : Int32) = 43 by decide, show ¬ (44 : Int32) = 45 by decide, show ¬ (44 : Int32) = 46 by decide, show ¬ (44 : Int32) = 33 by decide, show ¬ (44 : Int32) = 34 by decide, show ¬ (44 : Int32) = 41 by decide, show ¬ (44 : Int32) = 47 by decide, show ¬ (44 : Int32) = 48 by decide, show ¬ (44 : Int32) = 49 by decide, show ¬ (44 : Int32) = 51 by decide, if_true, if_false]
  · show zv_183 I J 413 l r = zv_53 _ _ 45 l r
    unfold zv_183 zv_53 zv_54
    simp only [show ¬ (413 : Int32) = 410 by decide, show ¬ (413 : Int32) = 411 by decide, show ¬ (413 : Int32) = 412 by decide, show ¬ (413 : Int32) = 414 by decide, show ¬ (413 : Int32) = 420 by decide, show ¬ (413 : Int32) = 421 by decide, show ¬ (413 : Int32) = 422 by decide, show ¬ (413 : Int32) = 423 by decide, show ¬ (413 : Int32) = 424 by decide, show ¬ (413 : Int32) = 425 by decide, show ¬ (413 : Int32) = 430 by decide, show ¬ (45 : Int32) = 42 by decide, show ¬ (45 : Int32) = 43 by decide, show ¬ (45 : Int32) = 44 by decide, show ¬ (45 : Int32) = 46 by decide, show ¬ (45 : Int32) = 33 by decide, show ¬ (45 : Int32) = 34 by decide, show ¬ (45 : Int32) = 41 by decide, show ¬ (45 : Int32) = 47 by decide, show ¬ (45 : Int32) = 48 by decide, show ¬ (45 : Int32) = 49 by decide, show ¬ (45 : Int32) = 51 by decide, if_true, if_false]
  · show zv_183 I J 414 l r = zv_53 _ _ 46 l r
    unfold zv_183 zv_53 zv_54
    simp only [show ¬ (414 : Int32) = 410 by decide, show ¬ (414 : Int32) = 411 by decide, show ¬ (414 : Int32) = 412 by decide, show ¬ (414 : Int32) = 413 by decide, show ¬ (414 : Int32) = 420 by decide, show ¬ (414 : Int32) = 421 by decide, show ¬ (414 : Int32) = 422 by decide, show ¬ (414 : Int32) = 423 by decide, show ¬ (414 : Int32) = 424 by decide, show ¬ (414 : Int32) = 425 by decide, show ¬ (414 : Int32) = 430 by decide, show ¬ (46 : Int32) = 42 by decide, show ¬ (46 : Int32) = 43 by decide, show ¬ (46 : Int32) = 44 by decide, show ¬ (46 : Int32) = 45 by decide, show ¬ (46 : Int32) = 33 by decide, show ¬ (46 : Int32) = 34 by decide, show ¬ (46 : Int32) = 41 by decide, show ¬ (46 : Int32) = 47 by decide, show ¬ (46 : Int32) = 48 by decide, show ¬ (46 : Int32) = 49 by decide, show ¬ (46 : Int32) = 51 by decide, if_true, if_false]
  · show zv_183 I J 422 l r = zv_53 _ _ 47 l r
    unfold zv_183 zv_53 zv_54
    simp only [show ¬ (422 : Int32) = 410 by decide, show ¬ (422 : Int32) = 411 by decide, show ¬ (422 : Int32) = 412 by decide, show ¬ (422 : Int32) = 413 by decide, show ¬ (422 : Int32) = 414 by decide, show ¬ (422 : Int32) = 420 by decide, show ¬ (422 : Int32) = 421 by decide, show ¬ (422 : Int32) = 423 by decide, show ¬ (422 : Int32) = 424 by decide, show ¬ (422 : Int32) = 425 by decide, show ¬ (422 : Int32) = 430 by decide, show ¬ (47 : Int32) = 42 by decide, show ¬ (47 : Int32) = 43 by decide, show ¬ (47 : Int32) = 44 by decide, show ¬ (47 : Int32) = 45 by decide, show ¬ (47 : Int32) = 46 by decide, show ¬ (47 : Int32) = 33 by decide, show ¬ (47 : Int32) = 34 by decide, show ¬ (47 : Int32) = 41 by decide, show ¬ (47 : Int32) = 48 by decide, show ¬ (47 : Int32) = 49 by decide, show ¬ (47 : Int32) = 51 by decide, if_true, if_false]
    (repeat' split) <;> simp_all
  · show zv_183 I J 423 l r = zv_53 _ _ 48 l r
    unfold zv_183 zv_53 zv_54
    simp only [show ¬ (423 : Int32) = 410 by decide, show ¬ (423 : Int32) = 411 by decide, show ¬ (423 : Int32) = 412 by decide, show ¬ (423 : Int32) = 413 by decide, show ¬ (423 : Int32) = 414 by decide, show ¬ (423 : Int32) = 420 by decide, show ¬ (423 : Int32) = 421 by decide, show ¬ (423 : Int32) = 422 by decide, show ¬ (423 : Int32) = 424 by decide, show ¬ (423 : Int32) = 425 by decide, show ¬ (423 : Int32) = 430 by decide, show ¬ (48 : Int32) = 42 by decide, show ¬ (48 : Int32) = 43 by decide, show ¬ (48 : Int32) = 44 by decide, show ¬ (48 : Int32) = 45 by decide, show ¬ (48 : Int32) = 46 by decide, show ¬ (48 : Int32) = 33 by decide, show ¬ (48 : Int32) = 34 by decide, show ¬ (48 : Int32) = 41 by decide, show ¬ (48 : Int32) = 47 by decide, show ¬ (48 : Int32) = 49 by decide, show ¬ (48 : Int32) = 51 by decide, if_true, if_false]
    (repeat' split) <;> simp_all
  · show zv_183 I J 424 l r = zv_53 _ _ 49 l r
    unfold zv_183 zv_53 zv_54
    simp only [show ¬ (424 : Int32) = 410 by decide, show ¬ (424 : Int32) = 411 by decide, show ¬ (424 : Int32) = 412 by decide, show ¬ (424 : Int32) = 413 by decide, show ¬ (424 : Int32) = 414 by decide, show ¬ (424 : Int32) = 420 by decide, show ¬ (424 : Int32) = 421 by decide, show ¬ (424 : Int32) = 422 by decide, show ¬ (424 : Int32) = 423 by decide, show ¬ (424 : Int32) = 425 by decide, show ¬ (424 : Int32) = 430 by decide, show ¬ (49 : Int32) = 42 by decide, show ¬ (49 : Int32) = 43 by decide, show ¬ (49 : Int32) = 44 by decide, show ¬ (49 : Int32) = 45 by decide, show ¬ (49 : Int32) = 46 by decide, show ¬ (49 : Int32) = 33 by decide, show ¬ (49 : Int32) = 34 by decide, show ¬ (49 : Int32) = 41 by decide, show ¬ (49 : Int32) = 47 by decide, show ¬ (49 : Int32) = 48 by decide, show ¬ (49 : Int32) = 51 by decide, if_true, if_false]
    (repeat' split) <;> simp_all
  · show zv_183 I J 425 l r = zv_53 _ _ 50 l r
    unfold zv_183 zv_53 zv_54
    simp only [show ¬ (425 : Int32) = 410 by decide, show ¬ (425 : Int32) = 411 by decide, show ¬ (425 : Int32) = 412 by decide, show ¬ (425 : Int32) = 413 by decide, show ¬ (425 : Int32) = 414 by decide, show ¬ (425 : Int32) = 420 by decide, show ¬ (425 : Int32) = 421 by decide, show ¬ (425 : Int32) = 422 by decide, show ¬ (425 : Int32) = 423 by decide, show ¬ (425 : Int32) = 424 by decide, show ¬ (425 : Int32) = 430 by decide, show ¬ (50 : Int32) = 42 by decide, show ¬ (50 : Int32) = 43 by decide, show ¬ (50 : Int32) = 44 by decide, show ¬ (50 : Int32) = 45 by decide, show ¬ (50 : Int32) = 46 by decide, show ¬ (50 : Int32) = 33 by decide, show ¬ (50 : Int32) = 34 by decide, show ¬ (50 : Int32) = 41 by decide, show ¬ (50 : Int32) = 47 by decide, show ¬ (50 : Int32) = 48 by decide, show ¬ (50 : Int32) = 49 by decide, show ¬ (50 : Int32) = 51 by decide, if_true, if_false]
    (repeat' split) <;> simp_all
  · show zv_183 I J 421 l r = zv_53 _ _ 51 l r
    unfold zv_183 zv_53 zv_54
    simp only [show ¬ (421 : Int32) = 410 by decide, show ¬ (421 : Int32) = 411 by decide, show ¬ (421 : Int32) = 412 by decide, show ¬ (421 : Int32) = 413 by decide, show ¬ (421 : Int32) = 414 by decide, show ¬ (421 : Int32) = 420 by decide, show ¬ (421 : Int32) = 422 by decide, show ¬ (421 : Int32) = 423 by decide, show ¬ (421 : Int32) = 424 by decide, show ¬ (421 : Int32) = 425 by decide, show ¬ (421 : Int32) = 430 by decide, show ¬ (51 : Int32) = 42 by decide, show ¬ (51 : Int32) = 43 by decide, show ¬ (51 : Int32) = 44 by decide, show ¬ (51 : Int32) = 45 by decide, show ¬ (51 : Int32) = 46 by decide, show ¬ (51 : Int32) = 33 by decide, show ¬ (51 : Int32) = 34 by decide, show ¬ (51 : Int32) = 41 by decide, show ¬ (51 : Int32) = 47 by decide, show ¬ (51 : Int32) = 48 by decide, show ¬ (51 : Int32) = 49 by decide, if_true, if_false]
    (repeat' split) <;> simp_all
end MMach

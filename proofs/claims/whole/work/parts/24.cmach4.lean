/-! ===== the class's machine: the run over statements ===== -/
def zwE (o : List zOp) : Prop := zwf 0 o 1
def zwB (b : zB0) : Prop := (b.1 = 16 ∧ b.2.1 < 18 ∧ zwE b.2.2) ∨ (b.1 = 17 ∧ b.2.1 < 18 ∧ zwE b.2.2) ∨ ((b.1 = 21 ∨ b.1 = 22 ∨ b.1 = 23) ∧ b.2.1 = 0 ∧ b.2.2 = [])
def zwS : (n : Nat) → zSt n → Prop
  | 0, b => zwB b
  | _ + 1, .inl b => zwB b
  | n + 1, .inr (.inl (o, t, none)) => zwE o ∧ ∀ s ∈ t, zwS n s
  | n + 1, .inr (.inl (o, t, some e)) => zwE o ∧ (∀ s ∈ t, zwS n s) ∧ ∀ s ∈ e, zwS n s
  | n + 1, .inr (.inr b) => ∀ s ∈ b, zwS n s
def zsum {α : Type} (f : α → Nat) (l : List α) : Nat := (l.map f).sum
/-- how many steps at most -/
def zco : (n : Nat) → zSt n → Nat
  | 0, b => b.2.2.length + 1
  | _ + 1, .inl b => b.2.2.length + 1
  | n + 1, .inr (.inl (o, t, none)) => o.length + 1 + zsum (zco n) t
  | n + 1, .inr (.inl (o, t, some e)) => o.length + 2 + zsum (zco n) t + zsum (zco n) e
  | n + 1, .inr (.inr b) => 1 + 4 * (zsum (zco n) b + 1)
theorem zsum_cons {α : Type} (f : α → Nat) (a : α) (l : List α) : zsum f (a :: l) = f a + zsum f l := rfl
theorem zcat_cons {α : Type} (f : α → Nat → List zOp) (s : α) (r : List α) (a : Nat) : zcat f (s :: r) a = f s a ++ zcat f r (a + (f s a).length) := rfl
theorem zb0_8 {B : Nat → Int32} {b : zB0} {ow tg : Nat} {G : zGm} : (zb0 B b ow tg G).1 8 = G.1 8 := by
  unfold zb0
  (repeat' split) <;> rfl
theorem zfold_8 {α : Type} {f : zGm → α → zGm} (h : ∀ G a, (f G a).1 8 = G.1 8) : ∀ (l : List α) (G : zGm), (l.foldl f G).1 8 = G.1 8
  | [], _ => rfl
  | a :: l, G => (zfold_8 h l (f G a)).trans (h G a)
theorem zdn_if {B : Nat → Int32} {n : Nat} {o : List zOp} {t : List (zSt n)} {e : Option (List (zSt n))} {ow tg : Nat} {G : zGm} : zdn B (n + 1) (.inr (.inl (o, t, e))) ow tg G = if zvl G ow tg o = 0 then (match e with | none => zvG G ow tg o | some e => e.foldl (fun G s => zdn B n s ow tg G) (zvG G ow tg o)) else t.foldl (fun G s => zdn B n s ow tg G) (zvG G ow tg o) := rfl
theorem zdn_all {B : Nat → Int32} {n : Nat} {b : List (zSt n)} {ow tg : Nat} {G : zGm} : zdn B (n + 1) (.inr (.inr b)) ow tg G = (ztg (G.1 8).toNat ow).foldl (fun G tg => b.foldl (fun G s => zdn B n s ow tg G) G) G := rfl
theorem zdn_8 {B : Nat → Int32} : ∀ (n : Nat) (st : zSt n) {ow tg : Nat} {G : zGm}, (zdn B n st ow tg G).1 8 = G.1 8
  | 0, b, _, _, _ => zb0_8
  | _ + 1, .inl b, _, _, _ => zb0_8
  | n + 1, .inr (.inl (o, t, e)), ow, tg, G => by
    rw [zdn_if]
    have h : ∀ (l : List (zSt n)) (G : zGm), (l.foldl (fun G s => zdn B n s ow tg G) G).1 8 = G.1 8 := fun l G => zfold_8 (fun G a => zdn_8 n a) l G
    split
    · cases e with
      | none => rfl
      | some e => exact h e _
    · exact h t _
  | n + 1, .inr (.inr b), ow, _, G => by
    rw [zdn_all]
    exact zfold_8 (fun G tg => zfold_8 (fun G a => zdn_8 n a) b G) _ G
theorem zb0_len {B : Nat → Int32} {b : zB0} {ow tg : Nat} {G : zGm} : (zb0 B b ow tg G).2.2.1.length ≤ G.2.2.1.length := by
  unfold zb0
  split
  · exact Nat.le_refl _
  · split
    · exact Nat.le_refl _
    · split
      · show G.2.2.1.dropLast.length ≤ _
        rw [List.length_dropLast]
        omega
      · split <;> exact Nat.le_refl _
theorem zfold_len {α : Type} {f : zGm → α → zGm} (h : ∀ G a, (f G a).2.2.1.length ≤ G.2.2.1.length) : ∀ (l : List α) (G : zGm), (l.foldl f G).2.2.1.length ≤ G.2.2.1.length
  | [], _ => Nat.le_refl _
  | a :: l, G => Nat.le_trans (zfold_len h l (f G a)) (h G a)
theorem zdn_len {B : Nat → Int32} : ∀ (n : Nat) (st : zSt n) {ow tg : Nat} {G : zGm}, (zdn B n st ow tg G).2.2.1.length ≤ G.2.2.1.length
  | 0, b, _, _, _ => zb0_len
  | _ + 1, .inl b, _, _, _ => zb0_len
  | n + 1, .inr (.inl (o, t, e)), ow, tg, G => by
    rw [zdn_if]
    have h : ∀ (l : List (zSt n)) (G : zGm), (l.foldl (fun G s => zdn B n s ow tg G) G).2.2.1.length ≤ G.2.2.1.length := fun l G => zfold_len (fun G a => zdn_len n a) l G
    split
    · cases e with
      | none => exact Nat.le_refl _
      | some e => exact h e _
    · exact h t _
  | n + 1, .inr (.inr b), ow, _, G => by
    rw [zdn_all]
    exact zfold_len (fun G tg => zfold_len (fun G a => zdn_len n a) b G) _ G
theorem zev_len {G : zGm} {ow tg : Nat} : ∀ (o : List zOp) {n m : Nat}, zwf n o m → ∀ {s : List Int64} {z : Int64}, s.length = n → (zev G ow tg o (s, z)).1.length = m
  | [], n, m, h, s, z, hs => by
    have h9 : n = m := h
    rw [← h9, ← hs]
    rfl
  | q :: r, n, m, h, s, z, hs => by
    rw [zev_cons]
    rcases h with ⟨h1, h2, h3, h4⟩ | ⟨h1, h2, h4⟩ | ⟨h1, h2, h4⟩
    · have e : zes G ow tg (s, z) q = (zlf G ow tg q.1 q.2 :: s, z) := by
        unfold zes
        unfold zlfK at h1
        rw [if_pos h1]
      rw [e]
      exact zev_len r h4 (by rw [List.length_cons, hs])
    · have e : zes G ow tg (s, z) q = ((zun q.1 (s.headD 0) z).1 :: s.tail, (zun q.1 (s.headD 0) z).2) := by
        unfold zes
        unfold zunK at h1
        rw [if_neg (by omega), if_pos h1]
      rw [e]
      exact zev_len r h4 (by rw [List.length_cons, List.length_tail]; omega)
    · have e : zes G ow tg (s, z) q = (zbn q.1 (s.tail.headD 0) (s.headD 0) :: s.tail.tail, z) := by
        unfold zes
        unfold zbnK at h1
        rw [if_neg (by omega), if_neg (by omega)]
      rw [e]
      exact zev_len r h4 (by rw [List.length_cons, List.length_tail, List.length_tail]; omega)
section CMach4
variable {RO : zRo} {d : Nat} {P : zP} {D : zD} {bc bs : Nat} {B : Nat → Int32} {m ow : Nat} {l1 l2 l3 : Int32}
/-- the run comes from a to behind the code, as the game goes by den -/
def zRun (RO : zRo) (d : Nat) (P : zP) (D : zD) (bc bs : Nat) (B : Nat → Int32) (m ow : Nat) (l1 l2 l3 : Int32) (n cost : Nat) (code : Nat → List zOp) (den : Nat → zGm → zGm) : Prop :=
  ∀ (a step tg : Nat) (sv : List Nat) (G : zGm) (I : zI) (J : zJ), sv.length + n ≤ 4 → tg < m → G.1 8 = m → G.2.2.1.length ≤ 10 → zTb G I J → zMc [] ow tg sv I J → zcR I a (code a) → (∀ k, k < 36 → I 14 k = B k) → step + cost < 1000000 →
    (∀ I' J' (step' : Nat), step' ≤ step + cost → zTb (den tg G) I' J' → zMc [] ow tg sv I' J' → zfr [20, 21, 24, 26] I I' → zfr [20, 25] J J' →
      zw RO (d + 2) 43 P 37 [(0, .ref 24), (1, .int l1), (2, .int l2), (3, .int l3), (4, .int (zi (a + (code a).length : Nat))), (5, .int (zv_3 I' J' (zi (a + (code a).length : Nat)))), (6, .int (zi step'))] [] I' J' D bc bs) →
    zw RO (d + 2) 43 P 37 [(0, .ref 24), (1, .int l1), (2, .int l2), (3, .int l3), (4, .int (zi a)), (5, .int (zv_3 I J (zi a))), (6, .int (zi step))] [] I J D bc bs
theorem r_list {α : Type} {n : Nat} {f : α → Nat → List zOp} {g : α → Nat → zGm → zGm} {c : α → Nat} (h8 : ∀ x tg G, (g x tg G).1 8 = G.1 8) (h9 : ∀ x tg G, (g x tg G).2.2.1.length ≤ G.2.2.1.length) : ∀ (l : List α), (∀ x ∈ l, zRun RO d P D bc bs B m ow l1 l2 l3 n (c x) (f x) (g x)) →
    zRun RO d P D bc bs B m ow l1 l2 l3 n (zsum c l) (zcat f l) (fun tg G => l.foldl (fun G x => g x tg G) G)
  | [], _ => fun a step tg sv G I J h1 h2 h3 h10 hT hM hc hB hs k => k I J step (by omega) hT hM (zfr_refl _) (zfr_refl _)
  | x :: r, hx => by
    intro a step tg sv G I J h1 h2 h3 h10 hT hM hc hB hs k
    rw [zsum_cons] at hs k
    rw [zcat_cons] at hc k
    refine hx x List.mem_cons_self a step tg sv G I J h1 h2 h3 h10 hT hM (zcR_left hc) hB (by omega) (fun I1 J1 st1 hst hT1 hM1 f1 f2 => ?_)
    refine r_list h8 h9 r (fun y hy => hx y (List.mem_cons_of_mem _ hy)) (a + (f x a).length) st1 tg sv (g x tg G) I1 J1 h1 h2 ((h8 _ _ _).trans h3) (Nat.le_trans (h9 _ _ _) h10) hT1 hM1 (zcR_of (zcR_right hc) (f1 8 (by simp)) (f1 9 (by simp)) (f1 10 (by simp))) (by rw [f1 14 (by simp)]; exact hB) (by omega) (fun I2 J2 st2 hst2 hT2 hM2 f3 f4 => ?_)
    have k9 := k I2 J2 st2 (by omega) hT2 hM2 (zfr_trans f1 f3) (zfr_trans f2 f4)
    rw [List.length_append, ← Nat.add_assoc] at k9
    exact k9
/-- an expression's run from an empty row of operands -/
theorem r_exp {o : List zOp} {a step tg : Nat} {sv : List Nat} {G : zGm} {I : zI} {J : zJ} (h1 : ow < 4) (h2 : tg < 4) (hw : zwE o) (hT : zTb G I J) (hM : zMc [] ow tg sv I J) (hc : zcR I a o) (hs : step + o.length < 1000000)
    (k : ∀ I' J', zTb (zvG G ow tg o) I' J' → zMc [zvl G ow tg o] ow tg sv I' J' → zfr [24] I I' → zfr [20, 25] J J' →
      zw RO (d + 2) 43 P 37 [(0, .ref 24), (1, .int l1), (2, .int l2), (3, .int l3), (4, .int (zi (a + o.length : Nat))), (5, .int (zv_3 I' J' (zi (a + o.length : Nat)))), (6, .int (zi (step + o.length : Nat)))] [] I' J' D bc bs) :
    zw RO (d + 2) 43 P 37 [(0, .ref 24), (1, .int l1), (2, .int l2), (3, .int l3), (4, .int (zi a)), (5, .int (zv_3 I J (zi a))), (6, .int (zi step))] [] I J D bc bs := by
  refine r_ops (G := G) (s := []) (z := G.2.2.2.2) h1 h2 o (by simp) hw hT hM hc hs (fun I' J' hT' hM' f1 f2 => k I' J' hT' ?_ f1 f2)
  have hl := zev_len (G := G) (ow := ow) (tg := tg) o hw (s := []) (z := G.2.2.2.2) rfl
  have e : (zev G ow tg o ([], G.2.2.2.2)).1 = [zvl G ow tg o] := by
    unfold zvl
    generalize (zev G ow tg o ([], G.2.2.2.2)).1 = l at hl
    match l, hl with
    | [x], _ => rfl
  rw [e] at hM'
  exact hM'
end CMach4

/-! ===== what a game is: 0 round, 1 turn, 2 phase, 3 asked, 4 winner, 5 skip, 6 again, 7 passes, 8 players, 9 outcome; values; stack; record; z ===== -/
abbrev zR4 : Type := Nat → Int
abbrev zGm : Type := (Nat → Int) × (Nat → Int32) × List zR4 × List zR4 × Int64
def z4 : zR4 := fun _ => 0
def sS (G : zGm) (k : Nat) (v : Int) : zGm := (fun j => if j = k then v else G.1 j, G.2)
def sV (G : zGm) (k : Nat) (v : Int32) : zGm := (G.1, fun j => if j = k then v else G.2.1 j, G.2.2)
def sK (G : zGm) (s : List zR4) : zGm := (G.1, G.2.1, s, G.2.2.2)
def sR (G : zGm) (r : List zR4) : zGm := (G.1, G.2.1, G.2.2.1, r, G.2.2.2.2)
def sZ (G : zGm) (z : Int64) : zGm := (G.1, G.2.1, G.2.2.1, G.2.2.2.1, z)
/-! expressions: operations of the class's code, resolved; a row of operands, the uppermost first -/
abbrev zOp : Type := Nat × Int32
def zlfK (op : Nat) : Prop := op = 2 ∨ op = 3 ∨ 28 ≤ op ∧ op ≤ 32
def zunK (op : Nat) : Prop := op = 52 ∨ op = 35 ∨ op = 27
def zbnK (op : Nat) : Prop := op = 33 ∨ op = 34 ∨ 41 ≤ op ∧ op ≤ 51
def zpl (ow tg n : Nat) : Nat := if n < 6 then ow * 6 + n else if n < 12 then tg * 6 + n - 6 else 24 + n - 12
def zlf (G : zGm) (ow tg op : Nat) (a : Int32) : Int64 :=
  if op = 2 then (G.2.1 (zpl ow tg a.toNatClampNeg)).toInt64 else if op = 28 then (zi (G.1 0)).toInt64 else if op = 29 then (zi G.2.2.1.length).toInt64 else if op = 30 then (zi ow).toInt64 else if op = 31 then (zi tg).toInt64 else if op = 32 then (zi (G.1 8)).toInt64 else a.toInt64
def zdz (z : Int64) : Int64 := z * 6364136223846793005 + 1442695040888963407
def zsd (v : Int64) : Int64 := if 1 ≤ v then (if v ≤ 1000 then v else 1000) else 1
def zdv (z v : Int64) : Int64 := 1 + ((z.toUInt64 >>> ((33 : Int32).toInt64.toUInt64 &&& Int64.toUInt64 63)).toInt64 - (z.toUInt64 >>> ((33 : Int32).toInt64.toUInt64 &&& Int64.toUInt64 63)).toInt64 / zsd v * zsd v)
def zbn (op : Nat) (l r : Int64) : Int64 := zv_53 (fun _ _ => 0) (fun _ _ => 0) (zi op) l r
def zun (op : Nat) (v z : Int64) : Int64 × Int64 := if op = 35 then (if v = 0 then 1 else 0, z) else if op = 52 then (-v, z) else (zdv (zdz z) v, zdz z)
def zes (G : zGm) (ow tg : Nat) (x : List Int64 × Int64) (q : zOp) : List Int64 × Int64 :=
  if q.1 = 2 ∨ q.1 = 3 ∨ 28 ≤ q.1 ∧ q.1 ≤ 32 then (zlf G ow tg q.1 q.2 :: x.1, x.2)
  else if q.1 = 52 ∨ q.1 = 35 ∨ q.1 = 27 then ((zun q.1 (x.1.headD 0) x.2).1 :: x.1.tail, (zun q.1 (x.1.headD 0) x.2).2)
  else (zbn q.1 (x.1.tail.headD 0) (x.1.headD 0) :: x.1.tail.tail, x.2)
def zev (G : zGm) (ow tg : Nat) (ops : List zOp) (x : List Int64 × Int64) : List Int64 × Int64 := ops.foldl (zes G ow tg) x
/-- from n operands to m, never more than 60 -/
def zwf : Nat → List zOp → Nat → Prop
  | n, [], m => n = m
  | n, q :: r, m => (zlfK q.1 ∧ n < 60 ∧ (q.1 = 2 → ∃ p : Nat, p < 18 ∧ q.2 = zi p) ∧ zwf (n + 1) r m) ∨ (zunK q.1 ∧ 1 ≤ n ∧ zwf n r m) ∨ (zbnK q.1 ∧ 2 ≤ n ∧ zwf (n - 1) r m)
theorem zwf_app {b : List zOp} {m l : Nat} : ∀ {a : List zOp} {n : Nat}, zwf n a m → zwf m b l → zwf n (a ++ b) l
  | [], n, h, hb => by
    have h9 : n = m := h
    rw [h9]
    exact hb
  | q :: r, n, h, hb => by
    rcases h with ⟨h1, h2, h3, h4⟩ | ⟨h1, h2, h4⟩ | ⟨h1, h2, h4⟩
    · exact Or.inl ⟨h1, h2, h3, zwf_app h4 hb⟩
    · exact Or.inr (Or.inl ⟨h1, h2, zwf_app h4 hb⟩)
    · exact Or.inr (Or.inr ⟨h1, h2, zwf_app h4 hb⟩)
/-- the value of an expression, and the game behind it -/
def zvl (G : zGm) (ow tg : Nat) (ops : List zOp) : Int64 := (zev G ow tg ops ([], G.2.2.2.2)).1.headD 0
def zvG (G : zGm) (ow tg : Nat) (ops : List zOp) : zGm := sZ G (zev G ow tg ops ([], G.2.2.2.2)).2
/-! statements: 16 set, 17 add, 21 cancel, 22 again, 23 skip, with place and expression; if; all -/
abbrev zB0 : Type := Nat × Nat × List zOp
def zSt : Nat → Type
  | 0 => zB0
  | n + 1 => zB0 ⊕ ((List zOp × List (zSt n) × Option (List (zSt n))) ⊕ List (zSt n))
def zclp (lo hi : Int32) (v : Int64) : Int32 := if v < lo.toInt64 then lo else if hi.toInt64 < v then hi else v.toInt32
def zth (p : Nat) : Nat := if p < 24 then p % 6 else p - 18
def zsto (B : Nat → Int32) (G : zGm) (p : Nat) (v : Int64) : zGm := sV G p (zclp (B (3 * zth p)) (B (3 * zth p + 1)) v)
def zb0 (B : Nat → Int32) (b : zB0) (ow tg : Nat) (G : zGm) : zGm :=
  if b.1 = 16 then zsto B (zvG G ow tg b.2.2) (zpl ow tg b.2.1) (zvl G ow tg b.2.2)
  else if b.1 = 17 then zsto B (zvG G ow tg b.2.2) (zpl ow tg b.2.1) ((G.2.1 (zpl ow tg b.2.1)).toInt64 + zvl G ow tg b.2.2)
  else if b.1 = 21 then sK G G.2.2.1.dropLast
  else if b.1 = 22 then sS G 6 1
  else sS G 5 1
def ztg (m ow : Nat) : List Nat := (List.range m).map (fun i => (ow + 1 + i) % m)
def zdn (B : Nat → Int32) : (n : Nat) → zSt n → (ow tg : Nat) → zGm → zGm
  | 0, b, ow, tg, G => zb0 B b ow tg G
  | _ + 1, .inl b, ow, tg, G => zb0 B b ow tg G
  | n + 1, .inr (.inl (o, t, e)), ow, tg, G => if zvl G ow tg o = 0 then (match e with | none => zvG G ow tg o | some e => e.foldl (fun G s => zdn B n s ow tg G) (zvG G ow tg o)) else t.foldl (fun G s => zdn B n s ow tg G) (zvG G ow tg o)
  | n + 1, .inr (.inr b), ow, _, G => (ztg (G.1 8).toNat ow).foldl (fun G tg => b.foldl (fun G s => zdn B n s ow tg G) G) G
def zdns (B : Nat → Int32) (n : Nat) (l : List (zSt n)) (ow tg : Nat) (G : zGm) : zGm := l.foldl (fun G s => zdn B n s ow tg G) G
/-! the class's code of statements: at address a -/
def zcat {α : Type} (f : α → Nat → List zOp) : List α → Nat → List zOp
  | [], _ => []
  | s :: r, a => f s a ++ zcat f r (a + (f s a).length)
def zkc : (n : Nat) → zSt n → Nat → List zOp
  | 0, b, _ => b.2.2 ++ [(b.1, zi b.2.1)]
  | _ + 1, .inl b, _ => b.2.2 ++ [(b.1, zi b.2.1)]
  | n + 1, .inr (.inl (o, t, none)), a =>
    o ++ [(18, zi (a + o.length + 1 + (zcat (zkc n) t (a + o.length + 1)).length : Nat))] ++ zcat (zkc n) t (a + o.length + 1)
  | n + 1, .inr (.inl (o, t, some e)), a =>
    o ++ [(18, zi (a + o.length + 2 + (zcat (zkc n) t (a + o.length + 1)).length : Nat))] ++ zcat (zkc n) t (a + o.length + 1) ++
      [(20, zi (a + o.length + 2 + (zcat (zkc n) t (a + o.length + 1)).length + (zcat (zkc n) e (a + o.length + 2 + (zcat (zkc n) t (a + o.length + 1)).length)).length : Nat))] ++
      zcat (zkc n) e (a + o.length + 2 + (zcat (zkc n) t (a + o.length + 1)).length)
  | n + 1, .inr (.inr b), a => [(24, 0)] ++ zcat (zkc n) b (a + 1) ++ [(53, zi (a + 1 : Nat))]

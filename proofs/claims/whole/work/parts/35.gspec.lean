/-! ===== the game: what follows from a move (spec) ===== -/
/-- a program: when, deed by bodies (acts, 12 replies, 20 rules); win; bounds; acts of phases; phases of rules; counts -/
abbrev zPg : Type := (Nat → Option (List zOp)) × (Nat → List (zSt 4)) × List zOp × (Nat → Int32) × (Nat → Int32) × (Nat → Nat) × (Nat → Nat)
def gPw (p : zPg) := p.1
def gPd (p : zPg) := p.2.1
def gPn (p : zPg) : List zOp := p.2.2.1
def gPb (p : zPg) : Nat → Int32 := p.2.2.2.1
def gPa (p : zPg) : Nat → Int32 := p.2.2.2.2.1
def gPr (p : zPg) : Nat → Nat := p.2.2.2.2.2.1
def gPc (p : zPg) : Nat → Nat := p.2.2.2.2.2.2
def gM (G : zGm) : Nat := (G.1 8).toNat
def gT (G : zGm) : Nat := (G.1 1).toNat
def gB (G : zGm) (p : Nat) : Nat := (p + 1) % gM G
/-- whether a when is true, or there is none -/
def gWhen (p : zPg) (b : Nat) (G : zGm) (ow tg : Nat) : Bool := match gPw p b with
  | none => true
  | some o => decide (¬ zvl G ow tg o = 0)
def gEnd (G : zGm) (how by9 : Int) : zGm := sS (sS (sS (sS G 9 how) 4 by9) 3 (-1)) 7 0
def gLk (p : zPg) (G : zGm) : Nat → Nat → zGm
  | 0, _ => G
  | j + 1, q => if zvl G q (gB G q) (gPn p) = 0 then gLk p G j (gB G q) else sS (sS (sS (sS G 9 1) 4 q) 3 (-1)) 7 0
def gLook (p : zPg) (G : zGm) : zGm := gLk p G (gM G) (gT G)

def gRule (p : zPg) (G : zGm) (r : Nat) : zGm :=
  if G.1 9 = 0 ∧ (gPr p r : Int) = G.1 2 ∧ gWhen p (20 + r) G (gT G) (gB G (gT G)) = true then gLook p (zdns (gPb p) 4 (gPd p (20 + r)) (gT G) (gB G (gT G)) G) else G
def gRules (p : zPg) (G : zGm) : zGm := (List.range (gPc p 5)).foldl (gRule p) G
def gNew (G : zGm) (q : Nat) : zGm := sS (sS (sS (sS G 1 q) 2 0) 5 0) 6 0
/-- turns begin, at most k more -/
def gTurns (p : zPg) : Nat → zGm → zGm
  | 0, G => G
  | k + 1, G =>
    let next := if G.1 6 = 0 then gB G (gT G) else gT G
    let round := if next = 0 ∧ G.1 6 = 0 then G.1 0 + 1 else G.1 0
    if 50 < round ∨ k = 0 then gEnd G 2 (-1)
    else
      let G1 := gRules p (gNew (sS G 0 round) next)
      if G1.1 9 = 0 ∧ G1.1 5 = 1 then gTurns p k G1 else G1
/-- who is asked behind the uppermost -/
def gAsk (G : zGm) : zGm := match G.2.2.1.getLast? with
  | none => sS (sS G 7 0) 3 (-1)
  | some r => sS (sS G 7 0) 3 (gB G (r 2).toNat)
def gRow (sort num ow tg : Int) : zR4 := fun k => if k = 0 then sort else if k = 1 then num else if k = 2 then ow else tg
def gNote (G : zGm) (sort num tg who : Int) : zGm := sR G (G.2.2.2.1 ++ [fun k => if k = 0 then sort else if k = 1 then num else if k = 2 then tg else who])
/-- the uppermost is taken and done -/
def gDo (p : zPg) (G : zGm) : zGm := match G.2.2.1.getLast? with
  | none => G
  | some r =>
    let G1 := gLook p (zdns (gPb p) 4 (gPd p ((12 * r 0 + r 1).toNat)) (r 2).toNat (r 3).toNat (sK (sS (sS G 7 0) 3 (-1)) G.2.2.1.dropLast))
    if G1.1 9 = 0 then gAsk G1 else G1
def gPassOn (p : zPg) (G : zGm) : zGm :=
  if G.1 7 + 1 < G.1 8 - 1 then sS (sS G 7 (G.1 7 + 1)) 3 (gB G (G.1 3).toNat) else gDo p G

def gMake (p : zPg) (G0 : zGm) (sort num tg : Int) : zGm :=
  let who := if G0.2.2.1.isEmpty = true then G0.1 1 else G0.1 3
  let G := gNote G0 sort num tg who
  let G1 : zGm × Bool :=
    if ¬ sort = 2 then (gAsk (sK G (G.2.2.1 ++ [gRow sort num who tg])), false)
    else if ¬ G.2.2.1.isEmpty = true then (gPassOn p G, false)
    else if G.1 2 + 1 < gPc p 2 then (gRules p (sS G 2 (G.1 2 + 1)), false)
    else (G, true)
  let G2 := if G1.1.1 9 = 0 ∧ G1.1.2.2.1.isEmpty = true ∧ (G1.2 = true ∨ G1.1.1 5 = 1) then gTurns p 101 G1.1 else G1.1
  if G2.1 9 = 0 ∧ 250 ≤ G2.2.2.2.1.length then gEnd G2 2 (-1) else G2
def gStart0 (p : zPg) (m : Nat) (z : Int64) : zGm :=
  (fun k => if k = 0 then 1 else if k = 3 then -1 else if k = 4 then -1 else if k = 8 then m else 0, fun k => if k < 24 then gPb p (3 * (k % 6) + 2) else gPb p (3 * (k - 18) + 2), [], [], z)
def gStart (p : zPg) (m : Nat) (z : Int64) : zGm :=
  let G1 := gRules p (gStart0 p m z)
  if G1.1 9 = 0 ∧ G1.1 5 = 1 then gTurns p 101 G1 else G1

/-- whether an act or a reply can be done -/
def gAllow (p : zPg) (G : zGm) (sort num tg : Nat) : Bool :=
  if G.1 9 = 0 ∧ (sort = 0 ∧ G.2.2.1.isEmpty = true ∧ ((gPa p (G.1 2).toNat >>> (zi num &&& 31)) &&& 1) = 1 ∧ gWhen p num G (gT G) tg = true ∨ sort = 1 ∧ ¬ G.2.2.1.isEmpty = true ∧ G.2.2.1.length < 10 ∧ gWhen p (12 + num) G (G.1 3).toNat tg = true) then true else false

/-! ===== the law's loop, all calls ===== -/
theorem l_loop {RO : zRo} {d : Nat} {P : zP} {L : Nat} {X : Nat → Int} (hRO : zROk RO) (hL : RO 99 = some (L, fun k => zi (X k))) (hX : ∀ k, -2147483648 ≤ X k ∧ X k < 2147483648) (hL9 : L < 100000) (hP : ∀ (I : zI) (J : zJ) (D : zD), P (.inl (some (.int 1))) I J D) : ∀ (n i : Nat) (s : lS) (I : zI) (J : zJ) (D : zD) (bc bs : Nat), CI s I J → MI s I J → L < i + 6 * n + 6 → i < 200000 → 501 * n ≤ bc → 2006 * n ≤ bs → zw RO (d + 96 + 1) 235 P 28 [(0, .ref 99), (1, .ref 0), (2, .ref 28), (3, .ref 52), (4, .ref 53), (5, .int (zi (i : Int)))] [] I J D bc bs := by
  have ex : ∀ (i : Nat) (I : zI) (J : zJ) (D : zD) (bc bs : Nat), L < i + 6 → i < 200000 → zw RO (d + 96 + 1) 235 P 28 [(0, .ref 99), (1, .ref 0), (2, .ref 28), (3, .ref 52), (4, .ref 53), (5, .int (zi (i : Int)))] [] I J D bc bs := by
    intro i I J D bc bs h1 h2
    refine wl_235_28 hL ⟨fun _ => hP I J D, fun z => absurd ?_ z⟩
    rw [zi_nat, show (6 : Int32) = zi 6 from rfl, zi_sub, zi_lt (by omega) (by omega)]
    omega
  intro n
  induction n with
  | zero => exact fun i s I J D bc bs _ _ h h2 _ _ => ex i I J D bc bs (by omega) h2
  | succ n ih =>
    intro i s I J D bc bs hc hm h h2 hb hs
    by_cases z : i + 6 ≤ L
    · refine l_step hRO hL hX hL9 (n := n) hc hm ⟨hb, hs⟩ z (fun s' I' J' D' b c c' m' hb' hs' => ?_)
      rw [show zi (i : Int) + 6 = zi ((i + 6 : Nat) : Int) by rw [show (6 : Int32) = zi 6 from rfl, zi_add]; rfl]
      exact ih (i + 6) s' I' J' D' b c c' m' (by omega) (by omega) hb' hs'
    · exact ex i I J D bc bs (by omega) h2

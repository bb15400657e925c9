/-! ===== the faces that read, on both sides ===== -/
def vC (s : lS) (k : Nat) : Nat := match s.2.2 with
  | none => 0
  | some (p, _) => gPc p k
def vPl (s : lS) : Nat := match s.2.2 with
  | some (_, some (m, _, _)) => m
  | _ => 0
def vK (s : lS) : List zR4 := match s.2.2 with
  | some (_, some (_, G, _)) => G.2.2.1
  | _ => []
def vR (s : lS) : List zR4 := match s.2.2 with
  | some (_, some (_, G, _)) => G.2.2.2.1
  | _ => []
def vG (s : lS) (x : Nat) : Int := match s.2.2 with
  | some (_, some (_, G, _)) => G.1 x
  | _ => -1
def vZ (s : lS) : Int64 := match s.2.2 with
  | some (_, some (_, G, _)) => G.2.2.2.2
  | _ => 0
def vV (s : lS) (k : Nat) : Int32 := match s.2.2 with
  | some (_, some (_, G, _)) => G.2.1 k
  | _ => 0
def vP (s : lS) (k : Nat) : Int32 := match s.2.2 with
  | some (_, some (_, G, _)) => G.2.1 (24 + k)
  | some (p, none) => gPb p (3 * (6 + k) + 2)
  | none => 0
def vIs (s : lS) : Bool := match s.2.2 with
  | some (_, some _) => true
  | _ => false
def loX (J J' : zJ) : Prop := loE J J' ∧ J' 52 = J 52
theorem loX_refl (J : zJ) : loX J J := ⟨loE_refl J, rfl⟩
section Read
variable {RO : zRo} {d : Nat} {P : zP} {I : zI} {J : zJ} {D : zD} {bc bs : Nat} {s : lS}
/-- the state as the class's numbers -/
theorem CI_v (h : CI s I J) : (∀ k, k < 7 → I 13 k = zi (vC s k : Int)) ∧ I 20 2 = zi (vPl s : Int) ∧ I 23 4 = zi ((vR s).length : Int) ∧ I 20 3 = zi ((vK s).length : Int) ∧ J 20 9 = vZ s ∧ I 23 5 = zi (vG s 9) ∧ (∀ k w, k < (vK s).length → w < 4 → I 22 (4 * k + w) = zi ((vK s).getD k z4 w)) ∧ (∀ k w, k < (vR s).length → w < 4 → I 27 (4 * k + w) = zi ((vR s).getD k z4 w)) ∧ (∀ x : Nat, x ≤ 7 → zv_131 I J (zi (x : Int)) = zi (vG s x)) ∧ (vC s 0 ≤ 6 ∧ vC s 1 ≤ 6 ∧ vC s 3 ≤ 12 ∧ vC s 4 ≤ 8) ∧ ((vK s).length ≤ 10 ∧ (vR s).length ≤ 250) ∧ vPl s ≤ 4 ∧ (1 ≤ vPl s → ∀ k, k < 24 → I 21 k = vV s k) ∧ (I 23 5 = -1 ↔ vIs s = false) ∧ (vIs s = true → ∀ k, k < 6 → I 21 (24 + k) = vP s k) ∧ (vIs s = false → ∀ k, k < 6 → k < vC s 1 → I 14 (3 * (6 + k) + 2) = vP s k) ∧ (vG s 9 = -1 ∨ vG s 9 = 0 ∨ vG s 9 = 1 ∨ vG s 9 = 2) := by
  obtain ⟨S, ep, o⟩ := s
  obtain ⟨h1, h2, h3, h4⟩ := h
  match o, h4 with
  | none, h4 =>
    obtain ⟨c1, c2, n1, n2, n3, n4, n5⟩ := h4
    refine ⟨fun k hk => c2 k hk, n3, n2, n4, n5, n1, fun k w hk => absurd hk (Nat.not_lt_zero k), fun k w hk => absurd hk (Nat.not_lt_zero k), fun x hx => n_131n n1, ⟨Nat.zero_le _, Nat.zero_le _, Nat.zero_le _, Nat.zero_le _⟩, ⟨Nat.zero_le _, Nat.zero_le _⟩, Nat.zero_le _, fun z => absurd z (by show ¬ 1 ≤ 0; omega), ⟨fun _ => rfl, fun _ => n1⟩, fun z => absurd z (by show ¬ false = true; decide), fun _ k _ hk => absurd hk (Nat.not_lt_zero k), Or.inl rfl⟩
  | some (p, none), h4 =>
    obtain ⟨c1, pk, c2, n1, n2, n3, n4, n5⟩ := h4
    have k1 := pk.1
    refine ⟨fun k hk => c2.1 k hk, n3, n2, n4, n5, n1, fun k w hk => absurd hk (Nat.not_lt_zero k), fun k w hk => absurd hk (Nat.not_lt_zero k), fun x hx => n_131n n1, ⟨k1.1, k1.2.1, k1.2.2.2.2.1, k1.2.2.2.2.2.1⟩, ⟨Nat.zero_le _, Nat.zero_le _⟩, Nat.zero_le _, fun z => absurd z (by show ¬ 1 ≤ 0; omega), ⟨fun _ => rfl, fun _ => n1⟩, fun z => absurd z (by show ¬ false = true; decide), fun _ k hk _ => c2.2.1 _ (by omega), Or.inl rfl⟩
  | some (p, some (m, G, z0)), h4 =>
    obtain ⟨c1, pk, hm, tr, c2, tb, cs⟩ := h4
    have k1 := pk.1
    have ok := gTr_ok pk hm tr
    have rg := ok.1.1.2.2.1
    have r9 := rg.2.2.2.2
    have hll := ok.1.1.2.2.2.1
    have hl := ok.2.2.2.2.1
    refine ⟨fun k hk => c2.1 k hk, ?_, cs.1, tb.2.1, tb.2.2.2.2.2.2.2.1, cs.2.1, tb.2.2.2.2.2.2.2.2.2, cs.2.2.2.2.2.2, fun x hx => n_131 hx rg tb cs, ⟨k1.1, k1.2.1, k1.2.2.2.2.1, k1.2.2.2.2.2.1⟩, ⟨hll, hl⟩, hm.2, fun _ k hk => tb.2.2.2.2.2.2.2.2.1 k (by omega), ⟨fun z => ?_, fun z => absurd z (by show ¬ true = false; decide)⟩, fun _ k hk => tb.2.2.2.2.2.2.2.2.1 (24 + k) (by omega), fun z => absurd z (by show ¬ true = false; decide), Or.inr r9⟩
    · rw [tb.1, ok.1.1.1]
      rfl
    · rw [cs.2.1, show (-1 : Int32) = zi (-1) from rfl, zi_eq (by omega) (by omega)] at z
      omega
/-- the state as the reference's numbers -/
theorem MI_v (h : MI s I J) (hc : ∃ I0 J0, CI s I0 J0) : (I 37 0 = zi (vC s 0 : Int) ∧ I 37 1 = zi (vC s 1 : Int) ∧ ∀ k, 2 ≤ k → k < 6 → I 37 (k + 2) = zi (vC s k : Int)) ∧ I 28 30 = zi (vPl s : Int) ∧ I 28 47 = zi ((vR s).length : Int) ∧ I 28 45 = zi ((vK s).length : Int) ∧ (∀ k w, k < (vK s).length → w < 4 → I 48 (4 * k + w) = zi ((vK s).getD k z4 w)) ∧ (∀ k w, k < (vR s).length → w < 4 → I 49 (4 * k + w) = zi ((vR s).getD k z4 w)) ∧ (∀ x : Nat, x ≤ 7 → zv_210 I J (zi (x : Int)) = zi (vG s x)) ∧ (1 ≤ vPl s → ∀ k, k < 24 → k % 6 < vC s 0 → I 46 k = vV s k) ∧ (zv_195 I J = 0 ↔ vIs s = false) ∧ (vIs s = true → ∀ k, k < 6 → k < vC s 1 → I 47 k = vP s k) ∧ (vIs s = false → ∀ k, k < 6 → k < vC s 1 → I 38 (3 * (6 + k) + 2) = vP s k) ∧ (if zv_195 I J = 0 then (0 : Int64) else J 28 32) = vZ s := by
  obtain ⟨S, ep, o⟩ := s
  obtain ⟨h1, h2, h3, h4⟩ := h
  obtain ⟨I0, J0, hc⟩ := hc
  match o, h4, hc with
  | none, h4, _ =>
    obtain ⟨c1, c2, n1, n2, n3⟩ := h4
    refine ⟨⟨c2 0 (by omega), c2 1 (by omega), fun k _ hk => c2 (k + 2) (by omega)⟩, n1, n3, n2, fun k w hk => absurd hk (Nat.not_lt_zero k), fun k w hk => absurd hk (Nat.not_lt_zero k), fun x hx => n_210n n1, fun z => absurd z (by show ¬ 1 ≤ 0; omega), ⟨fun _ => rfl, fun _ => n_195n n1⟩, fun z => absurd z (by show ¬ false = true; decide), fun _ k _ hk => absurd hk (Nat.not_lt_zero k), by rw [n_195n n1]; rfl⟩
  | some (p, none), h4, hc =>
    obtain ⟨c1, c2, n1, n2, n3⟩ := h4
    have pk : zPok p := hc.2.2.2.2.1
    refine ⟨c2.1, n1, n3, n2, fun k w hk => absurd hk (Nat.not_lt_zero k), fun k w hk => absurd hk (Nat.not_lt_zero k), fun x hx => n_210n n1, fun z => absurd z (by show ¬ 1 ≤ 0; omega), ⟨fun _ => rfl, fun _ => n_195n n1⟩, fun z => absurd z (by show ¬ false = true; decide), fun _ k hk hk1 => ?_, by rw [n_195n n1]; rfl⟩
    have hk1 : k < gPc p 1 := hk1
    exact c2.2.1 (3 * (6 + k) + 2) (by omega) ⟨fun z => by omega, fun _ => by omega⟩
  | some (p, some (m, G, z0)), h4, hc =>
    obtain ⟨c1, c2, mb, mg⟩ := h4
    obtain ⟨-, pk, hm, tr, -⟩ := hc.2.2.2
    have ok := gTr_ok pk hm tr
    have rg := ok.1.1.2.2.1
    have e8 := ok.1.1.1
    refine ⟨c2.1, ?_, mg.2.2.1, mb.2.1, mb.2.2.2.2.2.2.2.2.2.2, mg.2.2.2.2.1, fun x hx => n_210 hx hm e8 rg mb mg, fun _ k hk hk2 => mb.2.2.2.2.2.2.2.2.1 k hk hk2, ⟨fun z => ?_, fun z => absurd z (by show ¬ true = false; decide)⟩, fun _ k hk hk2 => mb.2.2.2.2.2.2.2.2.2.1 k hk hk2, fun z => absurd z (by show ¬ true = false; decide), ?_⟩
    · rw [mb.1, e8]
      rfl
    · rw [n_195 hm e8 mb] at z
      exact absurd z (by decide)
    · rw [n_195 hm e8 mb, if_neg (by decide)]
      exact mb.2.2.2.2.2.2.2.1
theorem fr_0 (x : Int32) : loE I (zu I 28 0 x) := loE_m (K := [0]) (L := []) (zfm_z (zfm_refl I) _ _ (by simp)) (by decide)
/-! count -/
def oCnt (s : lS) (a : Int) : Int32 := zi (fC (vC s) s.1.2 (vPl s) (vR s).length (vK s).length a.toNat : Int)
theorem g_111 {a : Int} (ha : -2147483648 ≤ a ∧ a < 2147483648) (h : CI s I J) (hb : 1 ≤ bc ∧ 6 ≤ bs) (K1 : (0 ≤ a ∧ a ≤ 9) → P (.inl (some (.int (oCnt s a)))) I J D) (K2 : ¬ (0 ≤ a ∧ a ≤ 9) → P (.inr (2, 0, 0)) I J D) : zz RO (d + 3) 111 [.ref 0, .int (zi a)] I J D bc bs P := by
  obtain ⟨v1, v2, v3, v4, -⟩ := CI_v h
  exact f_111 ha hb (fun k hk => v1 k (by omega)) h.1.2.1 v2 v3 v4 K2 K1
theorem g_207 {a : Int} (ha : -2147483648 ≤ a ∧ a < 2147483648) (h : MI s I J) (hc : ∃ I0 J0, CI s I0 J0) (K1 : (0 ≤ a ∧ a ≤ 9) → P (.inl (some (.int (oCnt s a)))) (zu I 28 0 0) J D) (K2 : ¬ (0 ≤ a ∧ a ≤ 9) → P (.inl (some (.int 0))) (zu I 28 0 1) J D) : zz RO (d + 2) 207 [.ref 28, .int (zi a)] I J D bc bs P := by
  obtain ⟨v1, v2, v3, v4, -⟩ := MI_v h hc
  exact f_207 ha v1.1 v1.2.1 v1.2.2 h.1.2.1 v2 v3 v4 K2 K1
/-! told -/
theorem g_120 {a : Int} (ha : -2147483648 ≤ a ∧ a < 2147483648) (h : CI s I J) (hb : 1 ≤ bc ∧ 6 ≤ bs) (K1 : (0 ≤ a ∧ a ≤ 7) → P (.inl (some (.int (zi (vG s a.toNat))))) I J D) (K2 : ¬ (0 ≤ a ∧ a ≤ 7) → P (.inr (2, 0, 0)) I J D) : zz RO (d + 2) 120 [.ref 0, .int (zi a)] I J D bc bs P := by
  have v := (CI_v h).2.2.2.2.2.2.2.2.1
  exact f_120 ha hb v K2 K1
theorem g_211 {a : Int} (ha : -2147483648 ≤ a ∧ a < 2147483648) (h : MI s I J) (hc : ∃ I0 J0, CI s I0 J0) (K1 : (0 ≤ a ∧ a ≤ 7) → P (.inl (some (.int (zi (vG s a.toNat))))) (zu I 28 0 0) J D) (K2 : ¬ (0 ≤ a ∧ a ≤ 7) → P (.inl (some (.int 0))) (zu I 28 0 1) J D) : zz RO (d + 3) 211 [.ref 28, .int (zi a)] I J D bc bs P := by
  have v := (MI_v (MI_0 h 0) hc).2.2.2.2.2.2.1
  exact f_211 ha v K2 K1
/-! track -/
theorem g_121 {a b : Int} (ha : -2147483648 ≤ a ∧ a < 2147483648) (hb9 : -2147483648 ≤ b ∧ b < 2147483648) (h : CI s I J) (hb : 1 ≤ bc ∧ 6 ≤ bs) (K1 : (0 ≤ a ∧ a < vPl s ∧ 0 ≤ b ∧ b < vC s 0) → P (.inl (some (.int (vV s (6 * a.toNat + b.toNat))))) I J D) (K2 : ¬ (0 ≤ a ∧ a < vPl s ∧ 0 ≤ b ∧ b < vC s 0) → P (.inr (2, 0, 0)) I J D) : zz RO (d + 2) 121 [.ref 0, .int (zi a), .int (zi b)] I J D bc bs P := by
  obtain ⟨v1, v2, -, -, -, -, -, -, -, v10, -, v12, v13, -⟩ := CI_v h
  by_cases z : 1 ≤ vPl s
  · exact f_121 ha hb9 hb v12 v10.1 v2 (v1 0 (by omega)) (fun k hk _ => v13 z k hk) K2 K1
  · exact f_121 (v := fun k => I 21 k) ha hb9 hb v12 v10.1 v2 (v1 0 (by omega)) (fun _ _ _ => rfl) K2 (fun y => by omega)
theorem g_212 {a b : Int} (ha : -2147483648 ≤ a ∧ a < 2147483648) (hb9 : -2147483648 ≤ b ∧ b < 2147483648) (h : MI s I J) (hc : ∃ I0 J0, CI s I0 J0) (K1 : (0 ≤ a ∧ a < vPl s ∧ 0 ≤ b ∧ b < vC s 0) → P (.inl (some (.int (vV s (6 * a.toNat + b.toNat))))) (zu I 28 0 0) J D) (K2 : ¬ (0 ≤ a ∧ a < vPl s ∧ 0 ≤ b ∧ b < vC s 0) → P (.inl (some (.int 0))) (zu I 28 0 1) J D) : zz RO (d + 3) 212 [.ref 28, .int (zi a), .int (zi b)] I J D bc bs P := by
  obtain ⟨v1, v2, -, -, -, -, -, v8, -⟩ := MI_v h hc
  obtain ⟨I0, J0, hc⟩ := hc
  have v10 := (CI_v hc).2.2.2.2.2.2.2.2.2
  by_cases z : 1 ≤ vPl s
  · exact f_212 ha hb9 v10.2.2.1 v10.1.1 v2 v1.1 (fun k hk hk2 => v8 z k hk hk2) K2 K1
  · exact f_212 (v := fun k => I 46 k) ha hb9 v10.2.2.1 v10.1.1 v2 v1.1 (fun _ _ _ => rfl) K2 (fun y => by omega)
/-! pool -/
theorem g_122 {a : Int} (ha : -2147483648 ≤ a ∧ a < 2147483648) (h : CI s I J) (hb : 1 ≤ bc ∧ 6 ≤ bs) (K1 : (0 ≤ a ∧ a < vC s 1) → P (.inl (some (.int (vP s a.toNat)))) I J D) (K2 : ¬ (0 ≤ a ∧ a < vC s 1) → P (.inr (2, 0, 0)) I J D) : zz RO (d + 2) 122 [.ref 0, .int (zi a)] I J D bc bs P := by
  obtain ⟨v1, -, -, -, -, -, -, -, -, v10, -, -, -, v14, v15, v16, -⟩ := CI_v h
  exact f_122 ha hb v10.2.1 (v1 1 (by omega)) v14 (fun z k hk _ => v15 z k hk) v16 K2 K1
theorem g_213 {a : Int} (ha : -2147483648 ≤ a ∧ a < 2147483648) (h : MI s I J) (hc : ∃ I0 J0, CI s I0 J0) (K1 : (0 ≤ a ∧ a < vC s 1) → P (.inl (some (.int (vP s a.toNat)))) (zu I 28 0 0) J D) (K2 : ¬ (0 ≤ a ∧ a < vC s 1) → P (.inl (some (.int 0))) (zu I 28 0 1) J D) : zz RO (d + 2) 213 [.ref 28, .int (zi a)] I J D bc bs P := by
  obtain ⟨v1, -, -, -, -, -, -, -, -, v10, v11, -⟩ := MI_v h hc
  have v9 := (MI_v (MI_0 h 0) hc).2.2.2.2.2.2.2.2.1
  obtain ⟨I0, J0, hc⟩ := hc
  exact f_213 ha (CI_v hc).2.2.2.2.2.2.2.2.2.1.2.1 v1.2.1 v9 v10 v11 K2 K1
/-! stack, move -/
theorem g_123 {a b : Int} (ha : -2147483648 ≤ a ∧ a < 2147483648) (hb9 : -2147483648 ≤ b ∧ b < 2147483648) (h : CI s I J) (hb : 1 ≤ bc ∧ 6 ≤ bs) (K1 : (0 ≤ a ∧ a < (vK s).length ∧ 0 ≤ b ∧ b < 4) → P (.inl (some (.int (zi ((vK s).getD a.toNat z4 b.toNat))))) I J D) (K2 : ¬ (0 ≤ a ∧ a < (vK s).length ∧ 0 ≤ b ∧ b < 4) → P (.inr (2, 0, 0)) I J D) : zz RO (d + 2) 123 [.ref 0, .int (zi a), .int (zi b)] I J D bc bs P := by
  obtain ⟨-, -, -, v4, -, -, v7, -, -, -, v11, -⟩ := CI_v h
  exact f_123 ha hb9 hb v11.1 v4 v7 K2 K1
theorem g_214 {a b : Int} (ha : -2147483648 ≤ a ∧ a < 2147483648) (hb9 : -2147483648 ≤ b ∧ b < 2147483648) (h : MI s I J) (hc : ∃ I0 J0, CI s I0 J0) (K1 : (0 ≤ a ∧ a < (vK s).length ∧ 0 ≤ b ∧ b < 4) → P (.inl (some (.int (zi ((vK s).getD a.toNat z4 b.toNat))))) (zu I 28 0 0) J D) (K2 : ¬ (0 ≤ a ∧ a < (vK s).length ∧ 0 ≤ b ∧ b < 4) → P (.inl (some (.int 0))) (zu I 28 0 1) J D) : zz RO (d + 2) 214 [.ref 28, .int (zi a), .int (zi b)] I J D bc bs P := by
  obtain ⟨-, -, -, v4, v5, -⟩ := MI_v h hc
  obtain ⟨I0, J0, hc⟩ := hc
  exact f_214 ha hb9 (CI_v hc).2.2.2.2.2.2.2.2.2.2.1.1 v4 v5 K2 K1
theorem g_124 {a b : Int} (ha : -2147483648 ≤ a ∧ a < 2147483648) (hb9 : -2147483648 ≤ b ∧ b < 2147483648) (h : CI s I J) (hb : 1 ≤ bc ∧ 6 ≤ bs) (K1 : (0 ≤ a ∧ a < (vR s).length ∧ 0 ≤ b ∧ b < 4) → P (.inl (some (.int (zi ((vR s).getD a.toNat z4 b.toNat))))) I J D) (K2 : ¬ (0 ≤ a ∧ a < (vR s).length ∧ 0 ≤ b ∧ b < 4) → P (.inr (2, 0, 0)) I J D) : zz RO (d + 2) 124 [.ref 0, .int (zi a), .int (zi b)] I J D bc bs P := by
  obtain ⟨-, -, v3, -, -, -, -, v8, -, -, v11, -⟩ := CI_v h
  exact f_124 ha hb9 hb v11.2 v3 v8 K2 K1
theorem g_215 {a b : Int} (ha : -2147483648 ≤ a ∧ a < 2147483648) (hb9 : -2147483648 ≤ b ∧ b < 2147483648) (h : MI s I J) (hc : ∃ I0 J0, CI s I0 J0) (K1 : (0 ≤ a ∧ a < (vR s).length ∧ 0 ≤ b ∧ b < 4) → P (.inl (some (.int (zi ((vR s).getD a.toNat z4 b.toNat))))) (zu I 28 0 0) J D) (K2 : ¬ (0 ≤ a ∧ a < (vR s).length ∧ 0 ≤ b ∧ b < 4) → P (.inl (some (.int 0))) (zu I 28 0 1) J D) : zz RO (d + 2) 215 [.ref 28, .int (zi a), .int (zi b)] I J D bc bs P := by
  obtain ⟨-, -, v3, -, -, v6, -⟩ := MI_v h hc
  obtain ⟨I0, J0, hc⟩ := hc
  exact f_215 ha hb9 (CI_v hc).2.2.2.2.2.2.2.2.2.2.1.2 v3 v6 K2 K1
/-! state, z, errorAt -/
theorem g_209 (h : MI s I J) (hc : ∃ I0 J0, CI s I0 J0) (K : P (.inl (some (.int (zi (vG s 9))))) (zu I 28 0 0) J D) : zz RO (d + 3) 209 [.ref 28] I J D bc bs P := by
  obtain ⟨S, ep, o⟩ := s
  obtain ⟨I0, J0, hc⟩ := hc
  match o, h, hc with
  | none, h, _ => exact f_209n h.2.2.2.2.2.1 K
  | some (p, none), h, _ => exact f_209n h.2.2.2.2.2.1 K
  | some (p, some (m, G, z0)), h, hc =>
    obtain ⟨-, pk, hm, tr, -⟩ := hc.2.2.2
    obtain ⟨c1, c2, mb, mg⟩ := h.2.2.2
    exact f_209 hm (gTr_ok pk hm tr).1.1.1 mb mg K
theorem g_217 (h : MI s I J) (hc : ∃ I0 J0, CI s I0 J0) (K : P (.inl (some (.long (vZ s)))) (zu I 28 0 0) J D) : zz RO (d + 2) 217 [.ref 28] I J D bc bs P := by
  obtain ⟨S, ep, o⟩ := s
  obtain ⟨I0, J0, hc⟩ := hc
  match o, h, hc with
  | none, h, _ => exact f_217n h.2.2.2.2.2.1 K
  | some (p, none), h, _ => exact f_217n h.2.2.2.2.2.1 K
  | some (p, some (m, G, z0)), h, hc =>
    obtain ⟨-, pk, hm, tr, -⟩ := hc.2.2.2
    obtain ⟨c1, c2, mb, mg⟩ := h.2.2.2
    exact f_217 hm (gTr_ok pk hm tr).1.1.1 mb K
theorem g_178 (h : MI s I J) (K : P (.inl (some (.int s.2.1))) (zu I 28 0 0) J D) : zz RO (d + 1) 178 [.ref 28] I J D bc bs P := by
  refine w_178 ?_
  rw [h.2.2.1]
  exact K
end Read

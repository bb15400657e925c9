/-! ===== indexOf(' ', from) of a String constant ===== -/
section Xi
variable {RO : zRo} {d j r : Nat} {P : zP} {I : zI} {J : zJ} {D : zD} {bc bs : Nat}
theorem x_254_7 (hj : j < 3) (hr : r < zSln.getD j 0) (hb : (zSbt.getD j []).getD r 0 = 32) {l1 l2 : Int32} (K : P (.inl (some (.int (zi (r : Int))))) I J D) : ∀ (m i : Nat), i + m = r → (∀ x : Nat, i ≤ x → x < r → ¬ (zSbt.getD j []).getD x 0 = 32) → xw RO d 254 P 7 [(0, .ref (120 + j)), (1, .int l1), (2, .int l2), (3, .int (Int32.ofNat (zSln.getD j 0))), (4, .int 32), (5, .int (zi (i : Int)))] [] I J D bc bs := by
  have h9 : zSln.getD j 0 ≤ 149 := by
    have : ∀ j, j < 3 → zSln.getD j 0 ≤ 149 := by decide
    exact this j hj
  have ec : ∀ i : Nat, i ≤ r → (zi (i : Int)).toNatClampNeg = i := fun i hi => by rw [zi_cl (by omega) (by omega)]; rfl
  have ng : ∀ i : Nat, i ≤ r → ¬ (Int32.ofNat (zSln.getD j 0) ≤ zi (i : Int)) := fun i hi => by
    rw [zi_nat, zi_le (by omega) (by omega)]
    omega
  intro m
  induction m with
  | zero =>
    intro i hi _
    have hi : i = r := hi
    subst hi
    refine xl_254_7 hj ⟨fun z => absurd z (ng i (by omega)), fun _ => ⟨zi_in (by omega) (by omega) (by omega), ?_⟩⟩
    rw [ec i (by omega)]
    exact ⟨fun z => absurd hb z, fun _ => K⟩
  | succ m ih =>
    intro i hi h
    refine xl_254_7 hj ⟨fun z => absurd z (ng i (by omega)), fun _ => ⟨zi_in (by omega) (by omega) (by omega), ?_⟩⟩
    rw [ec i (by omega), dg_s]
    exact ⟨fun _ => ih (i + 1) (by omega) (fun x h1 h2 => h x (by omega) h2), fun z => absurd (h i (Nat.le_refl _) (by omega)) z⟩
theorem x_246 (hj : j < 3) {k : Nat} (hk : k ≤ r) (hr : r < zSln.getD j 0) (hb : (zSbt.getD j []).getD r 0 = 32) (hn : ∀ x : Nat, k ≤ x → x < r → ¬ (zSbt.getD j []).getD x 0 = 32) (K : P (.inl (some (.int (zi (r : Int))))) I J D) : xx RO (d + 3) 246 [.ref (110 + j), .int 32, .int (zi (k : Int))] I J D bc bs P := by
  have h9 : zSln.getD j 0 ≤ 149 := by
    have : ∀ j, j < 3 → zSln.getD j 0 ≤ 149 := by decide
    exact this j hj
  refine xw_246 hj ⟨fun z => absurd z (by decide), fun _ => ?_⟩
  refine xw_253 hj ⟨fun _ => ?_, fun z => absurd (by unfold zv_252; decide) z⟩
  have e1 : (if zi (k : Int) < 0 then (0 : Int32) else zi (k : Int)) = zi (k : Int) := if_neg (by
    rw [show (0 : Int32) = zi 0 from rfl, zi_lt (by omega) (by omega)]
    omega)
  have e2 : (if Int32.ofNat (zSln.getD j 0) < Int32.ofNat (zSln.getD j 0) then Int32.ofNat (zSln.getD j 0) else Int32.ofNat (zSln.getD j 0)) = Int32.ofNat (zSln.getD j 0) := by split <;> rfl
  rw [e1, e2]
  refine ⟨fun _ => ?_, fun z => absurd ?_ z⟩
  · refine xw_254 hj ?_
    refine x_254_7 hj hr hb ?_ (r - k) k (by omega) hn
    exact K
  · rw [zi_nat, zi_lt (by omega) (by omega)]
    omega
end Xi

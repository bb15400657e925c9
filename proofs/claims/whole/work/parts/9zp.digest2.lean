/-! ===== mean and digest of the state, on both sides ===== -/
def oMean (s : lS) (a : Nat) : UInt64 := if vIs s = true then FP.ddiv (FP.i2d (smf (fun j => vV s (6 * j + a)) (vPl s) 0 0)) (FP.i2d (zi (vPl s : Int))) else FP.dconst0
def oRw (L : List zR4) (k : Nat) : Int32 := zi (L.getD (k / 4) z4 (k % 4))
def oDig (s : lS) : Int64 :=
  let d1 := dgf (fun x => zi (fC (vC s) s.1.2 (vPl s) (vR s).length (vK s).length x : Int)) 10 0 419 * 31 + (zi (vG s 9)).toInt64
  let d2 := dgf (fun x => zi (vG s x)) 8 0 d1 * 31 + vZ s
  let d3 := dgr (fun r w => vV s (6 * r + w)) (vC s 0) (vPl s) 0 d2
  let d4 := if vIs s = true then dgf (vP s) (vC s 1) 0 d3 else d3
  dgf (oRw (vR s)) (4 * (vR s).length) 0 (dgf (oRw (vK s)) (4 * (vK s).length) 0 d4)
theorem oRw_at {L : List zR4} {i w : Nat} (hw : w < 4) : zi (L.getD i z4 w) = oRw L (4 * i + w) := by
  unfold oRw
  rw [show (4 * i + w) / 4 = i by omega, show (4 * i + w) % 4 = w by omega]
section Dig2
variable {RO : zRo} {d : Nat} {P : zP} {I : zI} {J : zJ} {D : zD} {bc bs : Nat} {s : lS}
theorem vPl_is (h : CI s I J) : (vIs s = true → 2 ≤ vPl s ∧ vPl s ≤ 4) ∧ (vIs s = false → vPl s = 0) := by
  obtain ⟨S, ep, o⟩ := s
  match o, h with
  | none, _ => exact ⟨fun z => absurd z (by show ¬ false = true; decide), fun _ => rfl⟩
  | some (p, none), _ => exact ⟨fun z => absurd z (by show ¬ false = true; decide), fun _ => rfl⟩
  | some (p, some (m, G, z0)), h => exact ⟨fun _ => h.2.2.2.2.2.1, fun z => absurd z (by show ¬ true = false; decide)⟩
theorem n_208 (h : MI s I J) (hc : ∃ I0 J0, CI s I0 J0) : zv_208 I J = zi (vG s 9) := by
  obtain ⟨S, ep, o⟩ := s
  obtain ⟨I0, J0, hc⟩ := hc
  unfold zv_208
  match o, h, hc with
  | none, h, _ => rw [n_195n h.2.2.2.2.2.1]; rfl
  | some (p, none), h, _ => rw [n_195n h.2.2.2.2.2.1]; rfl
  | some (p, some (m, G, z0)), h, hc =>
    obtain ⟨-, pk, hm, tr, -⟩ := hc.2.2.2
    obtain ⟨c1, c2, mb, mg⟩ := h.2.2.2
    rw [n_195 hm (gTr_ok pk hm tr).1.1.1 mb, if_neg (by decide)]
    exact mg.1
/-! mean -/
theorem g_127 {a : Int} (ha : -2147483648 ≤ a ∧ a < 2147483648) (h : CI s I J) (hb : 1 ≤ bc ∧ 6 ≤ bs) (K1 : (0 ≤ a ∧ a < vC s 0) → P (.inl (some (.double (oMean s a.toNat)))) I J D) (K2 : ¬ (0 ≤ a ∧ a < vC s 0) → P (.inr (2, 0, 0)) I J D) : zz RO (d + 2) 127 [.ref 0, .int (zi a)] I J D bc bs P := by
  obtain ⟨v1, v2, -, -, -, -, -, -, -, v10, -, v12, v13, -⟩ := CI_v h
  have vp := vPl_is h
  have i1 : zi a < 0 ↔ a < 0 := by rw [show (0 : Int32) = zi 0 from rfl, zi_lt ha (by omega)]
  have i2 : (1 : Int32) ≤ zi (vPl s : Int) ↔ (1 : Int) ≤ vPl s := by rw [show (1 : Int32) = zi 1 from rfl, zi_le (by omega) (by omega)]
  have e75 : zv_75 I J 0 = zi (vC s 0 : Int) := by rw [show (0 : Int32) = zi ((0 : Nat) : Int) from rfl, zv75_at (by omega), v1 0 (by omega)]
  refine w_127 ?_
  rw [e75, v2, i1, i2, zi_lt ha (by omega)]
  refine ⟨fun q => ⟨hb, K2 (by omega)⟩, fun q => ⟨fun q2 => ?_, fun q2 => ⟨hb, K2 (by omega)⟩⟩⟩
  have k := K1 (by omega)
  unfold oMean at k
  by_cases z : vIs s = true
  · rw [if_pos z] at k
    have := vp.1 z
    refine ⟨fun _ => ?_, fun z9 => absurd z9 (by omega)⟩
    have ea : zi a = zi ((a.toNat : Nat) : Int) := by congr 1; omega
    rw [ea]
    exact d_127 (m := vPl s) (a := a.toNat) (by omega) (by omega) (fun j hj => v13 (by omega) (6 * j + a.toNat) (by omega)) (vPl s) 0 0 (by omega) k
  · rw [if_neg z] at k
    have := vp.2 (by cases e : vIs s <;> simp_all)
    exact ⟨fun z9 => absurd z9 (by omega), fun _ => k⟩
theorem g_218 {a : Int} (ha : -2147483648 ≤ a ∧ a < 2147483648) (h : MI s I J) (hc : ∃ I0 J0, CI s I0 J0) (K1 : (0 ≤ a ∧ a < vC s 0) → P (.inl (some (.double (oMean s a.toNat)))) (zu I 28 0 0) J D) (K2 : ¬ (0 ≤ a ∧ a < vC s 0) → P (.inl (some (.double FP.dconst0))) (zu I 28 0 1) J D) : zz RO (d + 2) 218 [.ref 28, .int (zi a)] I J D bc bs P := by
  have w0 := MI_v (MI_0 h 0) hc
  obtain ⟨u1, -⟩ := MI_v h hc
  obtain ⟨v1, v2, -, -, -, -, -, v8, v9, -⟩ := w0
  obtain ⟨I0, J0, hc⟩ := hc
  have v10 := (CI_v hc).2.2.2.2.2.2.2.2.2
  have vp := vPl_is hc
  have e136 : zv_136 I J (zi a).toInt64 0 (((I 37 0) - 1).toInt64) = if 0 ≤ a ∧ a ≤ (vC s 0 : Int) - 1 then 1 else 0 := by
    rw [u1.1, show (1 : Int32) = zi 1 from rfl, zi_sub]
    exact n_136 (lo := 0) (hi := (vC s 0 : Int) - 1) ha (by omega) (by omega)
  refine w_218 ?_
  rw [e136]
  by_cases q : 0 ≤ a ∧ a ≤ (vC s 0 : Int) - 1
  · rw [if_pos q]
    have k := K1 (by omega)
    unfold oMean at k
    refine ⟨fun z => absurd z (by decide), fun _ => ⟨fun z => ?_, fun z => ?_⟩⟩
    · by_cases y : vIs s = true
      · rw [if_pos y] at k
        have := vp.1 y
        have ea : zi a = zi ((a.toNat : Nat) : Int) := by congr 1; omega
        rw [ea]
        exact d_218 (m := vPl s) (a := a.toNat) (by omega) v2 (by omega) (fun j hj => v8 (by omega) (6 * j + a.toNat) (by omega) (by omega)) (vPl s) 0 0 (by omega) k
      · exact absurd (v9.mpr (by cases e : vIs s <;> simp_all)) z
    · by_cases y : vIs s = true
      · rw [v9] at z
        exact absurd (by rw [y]; decide) z
      · rw [if_neg y] at k
        exact k
  · rw [if_neg q]
    exact ⟨fun _ => K2 (by omega), fun z => absurd rfl z⟩
/-! digest -/
theorem g_128 (h : CI s I J) (K : P (.inl (some (.long (oDig s)))) I J D) : zz RO (d + 3) 128 [.ref 0] I J D bc bs P := by
  obtain ⟨v1, v2, v3, v4, v5, v6, v7, v8, v9, v10, v11, v12, v13, v14, v15, -⟩ := CI_v h
  have vp := vPl_is h
  refine w_128 ?_
  refine d_128a (f := fun x => zi (fC (vC s) s.1.2 (vPl s) (vR s).length (vK s).length x : Int)) (fun k hk => n_112 hk (fun k hk => v1 k (by omega)) h.1.2.1 v2 v3 v4) 10 0 419 (by omega) ?_
  rw [v6]
  refine d_128b (f := fun x => zi (vG s x)) (fun k hk => v9 k hk) 8 0 _ (by omega) ?_
  rw [v5]
  refine w_129 ?_
  have fin : zw RO (d + 2) 128 P 95 [(0, .ref 0), (1, .long (if vIs s = true then dgf (vP s) (vC s 1) 0 (dgr (fun r w => vV s (6 * r + w)) (vC s 0) (vPl s) 0 (dgf (fun x => zi (vG s x)) 8 0 (dgf (fun x => zi (fC (vC s) s.1.2 (vPl s) (vR s).length (vK s).length x : Int)) 10 0 419 * 31 + (zi (vG s 9)).toInt64) * 31 + vZ s)) else dgr (fun r w => vV s (6 * r + w)) (vC s 0) (vPl s) 0 (dgf (fun x => zi (vG s x)) 8 0 (dgf (fun x => zi (fC (vC s) s.1.2 (vPl s) (vR s).length (vK s).length x : Int)) 10 0 419 * 31 + (zi (vG s 9)).toInt64) * 31 + vZ s))), (3, .int 0)] [] I J D bc bs := by
    refine d_128d (m := (vK s).length) (f := fun i w => zi ((vK s).getD i z4 w)) v11.1 v4 (fun k w hk hw => ?_) (vK s).length 0 _ (by omega) ?_
    · rw [zv86_at (by omega)]
      exact v7 k w hk hw
    · refine d_128f (m := (vR s).length) (f := fun i w => zi ((vR s).getD i z4 w)) v11.2 v3 (fun k w hk hw => ?_) (vR s).length 0 _ (by omega) ?_
      · rw [n_31 (by omega)]
        exact v8 k w hk hw
      · rw [dgr_4 (g := oRw (vR s)) (fun i w hw => oRw_at hw), dgr_4 (g := oRw (vK s)) (fun i w hw => oRw_at hw)]
        exact K
  refine d_129b (m := vPl s) (c := vC s 0) (f := fun r w => vV s (6 * r + w)) v12 v10.1 v2 (v1 0 (by omega)) (fun r w hr hw => v13 (by omega) _ (by omega)) (vPl s) 0 _ (by omega) ⟨fun z => ?_, fun z => ?_⟩
  · have y := v14.mp z
    rw [if_neg (by rw [y]; decide)] at fin
    exact fin
  · by_cases y : vIs s = true
    · rw [if_pos y] at fin
      exact d_129c (c := vC s 1) (f := vP s) v10.2.1 (v1 1 (by omega)) (fun w hw => v15 y w (by omega)) (vC s 1) 0 _ (by omega) fin
    · exact absurd (v14.mpr (by cases e : vIs s <;> simp_all)) z
theorem g_219 (h : MI s I J) (hc : ∃ I0 J0, CI s I0 J0) (K : P (.inl (some (.long (oDig s)))) (zu I 28 0 0) J D) : zz RO (d + 3) 219 [.ref 28] I J D bc bs P := by
  have n8 := n_208 (MI_0 h 0) hc
  have ht : (zu I 28 0 0) 28 3 = zi (s.1.2 : Int) := (MI_0 h 0).1.2.1
  obtain ⟨v1, v2, v3, v4, v5, v6, v7, v8, v9, v10, -, v12⟩ := MI_v (MI_0 h 0) hc
  obtain ⟨I0, J0, hc⟩ := hc
  have c10 := (CI_v hc).2.2.2.2.2.2.2.2.2
  have vp := vPl_is hc
  refine w_219 ?_
  refine d_219a (f := fun x => zi (fC (vC s) s.1.2 (vPl s) (vR s).length (vK s).length x : Int)) (fun k hk => n_206 hk v1.1 v1.2.1 v1.2.2 ht v2 v3 v4) 10 0 419 (by omega) ?_
  rw [n8]
  have fin : zw RO (d + 2) 219 P 194 [(0, .ref 28), (1, .long (if vIs s = true then dgf (vP s) (vC s 1) 0 (dgr (fun r w => vV s (6 * r + w)) (vC s 0) (vPl s) 0 (dgf (fun x => zi (vG s x)) 8 0 (dgf (fun x => zi (fC (vC s) s.1.2 (vPl s) (vR s).length (vK s).length x : Int)) 10 0 419 * 31 + (zi (vG s 9)).toInt64) * 31 + vZ s)) else dgr (fun r w => vV s (6 * r + w)) (vC s 0) (vPl s) 0 (dgf (fun x => zi (vG s x)) 8 0 (dgf (fun x => zi (fC (vC s) s.1.2 (vPl s) (vR s).length (vK s).length x : Int)) 10 0 419 * 31 + (zi (vG s 9)).toInt64) * 31 + vZ s))), (3, .int 0)] [] (zu I 28 0 0) J D bc bs := by
    refine d_219f (m := (vK s).length) (f := oRw (vK s)) c10.2.1.1 v4 (fun k hk => ?_) (4 * (vK s).length) 0 _ (by omega) ?_
    · have := v5 (k / 4) (k % 4) (by omega) (by omega)
      rw [show 4 * (k / 4) + k % 4 = k by omega] at this
      exact this
    · refine d_219g (m := (vR s).length) (f := oRw (vR s)) c10.2.1.2 v3 (fun k hk => ?_) (4 * (vR s).length) 0 _ (by omega) K
      have := v6 (k / 4) (k % 4) (by omega) (by omega)
      rw [show 4 * (k / 4) + k % 4 = k by omega] at this
      exact this
  have pools : zw RO (d + 2) 219 P 155 [(0, .ref 28), (1, .long (dgr (fun r w => vV s (6 * r + w)) (vC s 0) (vPl s) 0 (dgf (fun x => zi (vG s x)) 8 0 (dgf (fun x => zi (fC (vC s) s.1.2 (vPl s) (vR s).length (vK s).length x : Int)) 10 0 419 * 31 + (zi (vG s 9)).toInt64) * 31 + vZ s))), (3, .int 0)] [] (zu I 28 0 0) J D bc bs := by
    by_cases y : vIs s = true
    · rw [if_pos y] at fin
      exact d_219e (c := vC s 1) (f := vP s) c10.1.2.1 v1.2.1 (fun z => by rw [v9.mp z] at y; exact absurd y (by decide)) (fun w hw => v10 y w (by omega) hw) (vC s 1) 0 _ (by omega) fin
    · rw [if_neg y] at fin
      exact d_219n (c := vC s 1) c10.1.2.1 v1.2.1 (v9.mpr (by cases e : vIs s <;> simp_all)) fin
  have rows := d_219d (RO := RO) (d := d) (P := P) (J := J) (D := D) (bc := bc) (bs := bs) (m := vPl s) (c := vC s 0) (f := fun r w => vV s (6 * r + w)) c10.2.2.1 c10.1.1 v2 v1.1 (fun r w hr hw => v8 (by omega) _ (by omega) (by omega)) (vPl s) 0 _ (by omega) pools
  refine d_219b (f := fun x => zi (vG s x)) (fun k hk => v7 k hk) 8 0 _ (by omega) ⟨fun z => ?_, fun z => ?_⟩
  · rw [if_pos z] at v12
    rw [← v12] at rows
    exact rows
  · rw [if_neg z] at v12
    rw [← v12] at rows
    exact rows
end Dig2

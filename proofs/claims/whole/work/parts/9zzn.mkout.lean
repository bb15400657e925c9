/-! ===== the reference's keywords: all words ===== -/
theorem mN_end : ∀ i, i < 32 → mN 32 i = lKm.getD i 0 := by decide +kernel
section Mk10
variable {p : Program} {l : Launch} {e : Env} {R : Room} {s : State} {m : MethodId} {args : Array Value} {below : List Frame} {meth : Method} {c : Code} {Q : State → Prop} {cells slots : Nat}
variable {A : Nat → Prop} {G : va_G} {ad ca : Nat → Nat} {q ak : Nat} {fs : List Value} {r : va_W}
set_option maxHeartbeats 1000000 in
theorem mk_out (hC : zC [] p s m args c A G ad ca 133) (hEX : zEX ad zRz zXT2 A s s.heap) (hR : 4 + 11 ≤ R.frames ∧ (4 + 1) * 100 ≤ R.locals) (hc : cells ≤ R.cells) (hs : slots ≤ R.slots) (hfk : fs[1]? = some (.ref ak))
    (kk : ∀ (H : Heap) (locs : List Loc) (ls : Array Slot), va_P G vwCl (wsM ca q ak fs r (mN 32)) H → va_D A (wsM ca q ak fs r (mN 32)) → va_S A s.heap H locs → W p l e R s m args below meth c H locs cells slots Q (F0 m 271 ls [])) :
    ∀ (k n : Nat) (H : Heap) (locs : List Loc) (ls : Array Slot), n + k = 32 → va_P G vwCl (wsM ca q ak fs r (mN n)) H → va_D A (wsM ca q ak fs r (mN n)) → va_S A s.heap H locs → lv_has ls 5 [(0, .ref q), (1, .int (zi (mSt.getD n 0 : Nat))), (2, .int (zi (n : Int)))] → W p l e R s m args below meth c H locs cells slots Q (F0 m 207 ls []) := by
  have hC0 := hC
  obtain ⟨hx, hb, hml, hown, hts, hK, hD0, hA⟩ := hC
  have hstr : vk_R "RuleStackModel" 84 (zStx.getD 2 "") (ad (110 + 2)) s := hEX.2.2.1.2.2.2.2.2.2.2.2.1 ("RuleStackModel", 84, 2) (by decide)
  intro k
  induction k with
  | zero =>
    intro n H locs ls hn hP hD hS hll
    have hn : n = 32 := hn
    subst hn
    refine lv_iload_n (i := 2) (x := zi ((32 : Nat) : Int)) hx hb zd133_207 rfl (lv_at hll 2 rfl) ?_
    refine lv_bipush (v := zi 32) hx hb zd133_208 rfl ?_
    exact lv_icmp_ge (tgt := 271) hx hb zd133_210 rfl (fun _ => kk H locs ls hP hD hS) (fun z => absurd ((zi_le (by omega) (by omega)).mpr (by omega)) z)
  | succ k ih =>
    intro n H locs ls hn hP hD hS hll
    obtain ⟨t1, t2, t3, t4⟩ := mT_ok n (by omega)
    have t5 := mT_no n (by omega)
    have hN : mN (n + 1) = mI n (mEn.getD n 0 - mSt.getD n 0) (mSt.getD n 0) (mN n) := rfl
    generalize mSt.getD n 0 = S at *
    generalize mEn.getD n 0 = E at *
    refine lv_iload_n (i := 2) (x := zi (n : Int)) hx hb zd133_207 rfl (lv_at hll 2 rfl) ?_
    refine lv_bipush (v := zi 32) hx hb zd133_208 rfl ?_
    refine lv_icmp_ge (tgt := 271) hx hb zd133_210 rfl (fun z => absurd ((zi_le (by omega) (by omega)).mp z) (by omega)) (fun _ => ?_)
    refine va_ldcS hx hb hown hstr zd133_213 ?_
    refine lv_bipush (v := 32) hx hb zd133_215 rfl ?_
    refine lv_iload_n (i := 1) (x := zi (S : Int)) hx hb zd133_217 rfl (lv_at hll 1 rfl) ?_
    refine x_callV (d := 4) (idx := 86) (mj := 246) (j := 2) (v := zi (E : Int)) (As := [.int 32, .int (zi (S : Int))]) (rest := []) (I := fun _ _ => 0) (J := fun _ _ => 0) (D := fun _ _ => 0) (P9 := fun o _ _ _ => o = .inl (some (.int (zi (E : Int))))) hC0 hEX hR hS hll.1 zd133_218 zk_11_86 zms_246 (by decide +kernel) (by decide) (Nat.le_of_ble_eq_true rfl) (x_246 (d := 1) (k := S) (r := E) (by decide) t1 (by show E < 149; omega) t3 (fun x h1 h2 => t5 x (by omega) h1 h2) rfl) (fun _ _ _ _ h => h) rfl hc hs (fun H2 locs2 hS2 ho2 => ?_)
    have hP2 := wsM_kept hP ho2
    refine lv_istore_n (i := 3) (lv' := [(3, .int (zi (E : Int))), (0, .ref q), (1, .int (zi (S : Int))), (2, .int (zi (n : Int)))]) hx hb zd133_221 rfl hll (by decide) rfl (fun ls1 h1 => ?_)
    refine lv_iload_n (i := 1) (x := zi (S : Int)) hx hb zd133_222 rfl (lv_at h1 2 rfl) ?_
    refine lv_istore (i := 4) (lv' := [(4, .int (zi (S : Int))), (3, .int (zi (E : Int))), (0, .ref q), (1, .int (zi (S : Int))), (2, .int (zi (n : Int)))]) hx hb zd133_223 h1 (by decide) rfl (fun ls2 h2 => ?_)
    refine mk_in hC0 hEX hR hc hs hfk (n := n) (E := E) (fr := zi (S : Int)) (by omega) t2 (E - S) S (mN n) H2 locs2 ls2 (by omega) hP2 hD hS2 h2 (fun H3 locs3 ls3 hP3 hD3 hS3 h3 => ?_)
    rw [← hN] at hP3 hD3
    refine lv_iload_n (i := 3) (x := zi (E : Int)) hx hb zd133_261 rfl (lv_at h3 1 rfl) ?_
    refine lv_iconst (v := 1) hx hb zd133_262 (show Int32.ofInt 1 = 1 from rfl) ?_
    refine lv_iadd hx hb zd133_263 ?_
    refine lv_istore_n (i := 1) (lv' := [(1, .int (zi (E : Int) + 1)), (4, .int (zi (E : Int))), (3, .int (zi (E : Int))), (0, .ref q), (2, .int (zi (n : Int)))]) hx hb zd133_264 rfl h3 (by decide) rfl (fun ls4 h4 => ?_)
    refine lv_iinc (k := 4) (v := zi ((n + 1 : Nat) : Int)) (lv' := [(2, .int (zi ((n + 1 : Nat) : Int))), (1, .int (zi (E : Int) + 1)), (4, .int (zi (E : Int))), (3, .int (zi (E : Int))), (0, .ref q)]) hx hb zd133_265 h4 rfl (dg_s n) (by decide) rfl (fun ls5 h5 => ?_)
    refine lv_goto (tgt := 207) hx hb zd133_268 rfl ?_
    refine ih (n + 1) H3 locs3 ls5 (by omega) hP3 hD3 hS3 ⟨h5.1, h5.2.1, fun y hy => h5.2.2 y ?_⟩
    rw [t4, ← dg_s] at hy
    simp only [List.mem_cons, List.not_mem_nil, or_false] at hy ⊢
    rcases hy with h | h | h
    · exact Or.inr (Or.inr (Or.inr (Or.inr h)))
    · exact Or.inr (Or.inl h)
    · exact Or.inl h
end Mk10

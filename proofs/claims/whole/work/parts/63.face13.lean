/-! ===== faces of the game: back of the reference ===== -/
section Face13
variable {RO : zRo} {d : Nat} {P : zP} {I : zI} {J : zJ} {D : zD} {m : Nat} {G : zGm} {p : zPg} {z0 : Int64} {I0 : zI} {J0 : zJ}
theorem f_216_86 {n : Nat} (hk : zPok p) (hm4 : 2 ≤ m ∧ m ≤ 4) (hTr : gTr p m z0 G) (hn : n ≤ G.2.2.2.1.length)
    (K : ∀ I' J', zMb (gPc p 0) (gPc p 1) (gRun p m z0 (G.2.2.2.1.take n)) I' J' → zMg (gRun p m z0 (G.2.2.2.1.take n)) z0 I' J' → zfm zKb [46, 47, 48, 49] I0 I' → zfm [31, 32] [50] J0 J' → P (.inl (some (.int (zi ((gRun p m z0 (G.2.2.2.1.take n)).1 9))))) I' J' D) :
    ∀ (j k : Nat) {I : zI} {J : zJ} {bc bs : Nat}, k + j = n → 2 * j ≤ bc → 8 * j ≤ bs → zMp p I → zMb (gPc p 0) (gPc p 1) (gRun p m z0 (G.2.2.2.1.take k)) I J → zMg (gRun p m z0 (G.2.2.2.1.take k)) z0 I J → (∀ i w, i < n → w < 4 → I 51 (4 * i + w) = zi (G.2.2.2.1.getD i z4 w)) → zfm zKb [46, 47, 48, 49] I0 I → zfm [31, 32] [50] J0 J →
    zw RO (d + 12) 216 P 86 [(0, .ref 28), (1, .int (zi (n : Int))), (2, .int (zi (k : Int)))] [] I J D bc bs
  | 0, k, I, J, bc, bs, hj, hbc, hbs, hp, hM, hS, h51, f, g => by
    have ek : k = n := by omega
    have hl := (gTr_ok hk hm4 hTr).2.2.2.2.1
    subst ek
    refine wl_216_86 ⟨fun _ => ?_, fun q => absurd (by rw [zi_le (by omega) (by omega)]; omega) q⟩
    have k9 := K I J hM hS f g
    rw [← hS.1] at k9
    exact k9
  | j + 1, k, I, J, bc, bs, hj, hbc, hbs, hp, hM, hS, h51, f, g => by
    have hO := gTr_okk hk hm4 hTr k (by omega)
    have hl := (gTr_ok hk hm4 hTr).2.2.2.2.1
    obtain ⟨t2, t3, t4⟩ := hTr.2 k (by omega)
    have hlen : (gRun p m z0 (G.2.2.2.1.take k)).2.2.2.1.length = k := by rw [t2, List.length_take]; omega
    have c0 : 4 * zi (k : Int) = zi ((4 * k : Nat) : Int) := by
      rw [show (4 : Int32) = zi 4 from rfl, zi_mul]
      congr 1
    have c1 : zi ((4 * k : Nat) : Int) + 1 = zi ((4 * k + 1 : Nat) : Int) := by
      rw [show (1 : Int32) = zi 1 from rfl, zi_add]
      congr 1
    have c2 : zi ((4 * k : Nat) : Int) + 2 = zi ((4 * k + 2 : Nat) : Int) := by
      rw [show (2 : Int32) = zi 2 from rfl, zi_add]
      congr 1
    have l0 : (zi ((4 * k : Nat) : Int)).toNatClampNeg = 4 * k := by rw [zi_cl (by omega) (by omega)]; omega
    have l1 : (zi ((4 * k + 1 : Nat) : Int)).toNatClampNeg = 4 * k + 1 := by rw [zi_cl (by omega) (by omega)]; omega
    have l2 : (zi ((4 * k + 2 : Nat) : Int)).toNatClampNeg = 4 * k + 2 := by rw [zi_cl (by omega) (by omega)]; omega
    refine wl_216_86 ⟨fun q => absurd q (by rw [zi_le (by omega) (by omega)]; omega), fun _ => ?_⟩
    rw [c0, c1, c2, l0, l1, l2, show I 51 (4 * k) = _ from h51 k 0 (by omega) (by omega), h51 k 1 (by omega) (by omega), h51 k 2 (by omega) (by omega)]
    refine ⟨zi_in (by omega) (by omega) (by omega), zi_in (by omega) (by omega) (by omega), zi_in (by omega) (by omega) (by omega), 2, 8, by omega, by omega, ?_⟩
    refine n_193 (bc := 2) (bs := 8) (m := m) (d := d) hk hm4 hO.1 t3 t4 (by omega) hO.2.1 (hO.2.2.1 t3) ⟨by omega, by omega⟩ hp hM hS (fun I1 J1 hM1 hS1 f1 g1 => ?_)
    rw [← gTr_step (p := p) (m := m) (z := z0) (G := G) (k := k) (by omega)] at hM1 hS1
    rw [zi_succ]
    refine f_216_86 hk hm4 hTr hn K j (k + 1) (by omega) (by omega) (by omega) (zMp_keep hp (zfm_sub f1 (by simp) (by simp))) hM1 hS1 (fun i w hi hw => ?_) (zfm_trans f (zfm_sub f1 (by simp) (by simp))) (zfm_trans g (zfm_sub g1 (by simp) (by simp)))
    rw [f1.1 51 (by decide) (by decide)]
    exact h51 i w hi hw
end Face13

/-! ===== the class's machine: throws of dice, unary, the run over an expression ===== -/
theorem zi_succ (a : Nat) : zi (a : Int) + 1 = zi ((a + 1 : Nat) : Int) := by rw [zlit, zi_add]; rfl
section CMach2
variable {RO : zRo} {d : Nat} {P : zP} {I : zI} {J : zJ} {D : zD} {bc bs : Nat} {s : List Int64} {ow tg : Nat} {sv : List Nat} {G : zGm}
theorem Int64.zle_of {x y : Int64} (h : ¬ x ≤ y) : y < x := Int64.not_le.mp h
theorem s_52 {v z : Int64} (hz : J 20 9 = z) (k : P (.inl (some (.long (zdv (zdz z) v)))) I (zu J 20 9 (zdz z)) D) : zz RO (d + 1) 52 [.ref 24, .long v] I J D bc bs P := by
  refine w_52 ?_
  rw [hz]
  unfold zdv zsd at k
  refine ⟨fun h1 => ?_, fun h1 => ?_⟩
  · rw [if_pos h1] at k
    refine ⟨fun h2 => ?_, fun h2 => ?_⟩
    · rw [if_pos h2] at k
      refine ⟨fun e => ?_, k⟩
      rw [e] at h1
      exact absurd h1 (by decide)
    · rw [if_neg h2] at k
      exact k
  · rw [if_neg h1] at k
    exact k
theorem s_51 {op : Nat} {v z : Int64} (ho : zunK op) (hz : J 20 9 = z) (k : ∀ J', zfr [20] J J' → J' 20 9 = (zun op v z).2 → P (.inl (some (.long (zun op v z).1))) I J' D) : zz RO (d + 2) 51 [.ref 24, .int (zi op), .long v] I J D bc bs P := by
  unfold zunK at ho
  refine w_51 ?_
  unfold zun at k
  simp (disch := omega) only [zlit, zi_eq]
  refine ⟨fun h1 => ?_, fun h1 => ⟨fun h2 => ?_, fun h2 => s_52 hz ?_⟩⟩
  · have h9 := k J (zfr_refl _)
    rw [if_pos (by omega)] at h9
    refine ⟨fun h3 => ?_, fun h3 => ?_⟩
    · rw [if_neg h3] at h9
      exact h9 hz
    · rw [if_pos (Classical.not_not.mp h3)] at h9
      exact h9 hz
  · have h9 := k J (zfr_refl _)
    rw [if_neg (by omega), if_pos (by omega)] at h9
    exact h9 hz
  · have h9 := k (zu J 20 9 (zdz z)) (zfr_zu (zfr_refl _) _ _ (by simp))
    rw [if_neg (by omega), if_neg (by omega)] at h9
    exact h9 (zu_s _ _ _ _)
theorem zMc_keep {I' : zI} {J' : zJ} (h : zMc s ow tg sv I J) (e24 : I' 24 = I 24) (e26 : I' 26 = I 26) (ej : J' 25 = J 25) : zMc s ow tg sv I' J' := by
  unfold zMc
  rw [e24, e26, ej]
  exact h
theorem zev_nil {x : List Int64 × Int64} : zev G ow tg [] x = x := rfl
theorem zev_cons {x : List Int64 × Int64} {q : zOp} {r : List zOp} : zev G ow tg (q :: r) x = zev G ow tg r (zes G ow tg x q) := rfl
theorem zwf_op {n m : Nat} {q : zOp} {r : List zOp} (h : zwf n (q :: r) m) : q.1 < 54 := by
  rcases h with ⟨h1, -⟩ | ⟨h1, -⟩ | ⟨h1, -⟩
  · unfold zlfK at h1; omega
  · unfold zunK at h1; omega
  · unfold zbnK at h1; omega
theorem zcR_tail {a : Nat} {q : zOp} {r : List zOp} (h : zcR I a (q :: r)) : zcR I (a + 1) r := zcR_right (L := [q]) h
set_option maxHeartbeats 1000000 in
theorem r_ops {l1 l2 l3 : Int32} (h1 : ow < 4) (h2 : tg < 4) : ∀ (ops : List zOp) {m : Nat} {s : List Int64} {z : Int64} {a step : Nat} {I : zI} {J : zJ}, s.length ≤ 60 → zwf s.length ops m → zTb (sZ G z) I J → zMc s ow tg sv I J → zcR I a ops → step + ops.length < 1000000 →
    (∀ I' J', zTb (sZ G (zev G ow tg ops (s, z)).2) I' J' → zMc (zev G ow tg ops (s, z)).1 ow tg sv I' J' → zfr [24] I I' → zfr [20, 25] J J' →
      zw RO (d + 2) 43 P 37 [(0, .ref 24), (1, .int l1), (2, .int l2), (3, .int l3), (4, .int (zi (a + ops.length : Nat))), (5, .int (zv_3 I' J' (zi (a + ops.length : Nat)))), (6, .int (zi (step + ops.length : Nat)))] [] I' J' D bc bs) →
    zw RO (d + 2) 43 P 37 [(0, .ref 24), (1, .int l1), (2, .int l2), (3, .int l3), (4, .int (zi (a : Nat))), (5, .int (zv_3 I J (zi (a : Nat)))), (6, .int (zi (step : Nat)))] [] I J D bc bs
  | [], m, s, z, a, step, I, J, hl, hw, hT, hM, hc, hs, k => k I J hT hM (zfr_refl _) (zfr_refl _)
  | q :: r, m, s, z, a, step, I, J, hl, hw, hT, hM, hc, hs, k => by
    have hop := zwf_op hw
    have hd9 := zop_at (J := J) hc
    rw [List.length_cons] at hs
    have next : ∀ {s' : List Int64} {z' : Int64} {I' : zI} {J' : zJ}, s'.length ≤ 60 → zwf s'.length r m → zes G ow tg (s, z) q = (s', z') → zTb (sZ G z') I' J' → zMc s' ow tg sv I' J' → zfr [24] I I' → zfr [20, 25] J J' →
        zw RO (d + 2) 43 P 37 [(0, .ref 24), (1, .int l1), (2, .int l2), (3, .int l3), (4, .int (zi (a : Nat) + 1)), (5, .int (zv_3 I' J' (zi (a : Nat) + 1))), (6, .int (zi (step : Nat) + 1))] [] I' J' D bc bs := by
      intro s' z' I' J' hl' hw' he hT' hM' f1 f2
      rw [zi_succ, zi_succ]
      refine r_ops h1 h2 r hl' hw' hT' hM' (zcR_of (zcR_tail hc) (f1 8 (by simp)) (f1 9 (by simp)) (f1 10 (by simp))) (by omega) (fun I9 J9 hT9 hM9 f3 f4 => ?_)
      have k9 := k I9 J9 (by rw [zev_cons, he]; exact hT9) (by rw [zev_cons, he]; exact hM9) (zfr_trans f1 f3) (zfr_trans f2 f4)
      rw [List.length_cons] at k9
      rw [show a + 1 + r.length = a + (r.length + 1) by omega, show step + 1 + r.length = step + (r.length + 1) by omega]
      exact k9
    refine wl_43_37 ?_
    rw [hd9.1]
    simp (disch := omega) only [zk44, zk45, zk46, hd9.2]
    simp (disch := omega) only [zlit, zi_le, zi_eq]
    refine ⟨fun h => absurd h (by omega), fun _ => ⟨fun h => absurd h (by omega), fun _ => ⟨fun hn => ?_, fun hy => ?_⟩⟩⟩
    · refine ⟨fun hn2 => ?_, fun hy => ?_⟩
      · refine ⟨fun hn3 => ?_, fun hy => ?_⟩
        · rcases hw with ⟨h9, -⟩ | ⟨h9, -⟩ | ⟨h9, -⟩
          · exact absurd h9 hn
          · exact absurd h9 hn2
          · exact absurd h9 hn3
        · rcases hw with ⟨h9, -⟩ | ⟨h9, -⟩ | ⟨h9, h10, h11⟩
          · exact absurd h9 hn
          · exact absurd h9 hn2
          · rcases s with _ | ⟨b, _ | ⟨c, s2⟩⟩
            · exact absurd h10 (by simp)
            · exact absurd h10 (by simp)
            · simp only [List.length_cons] at hl
              refine s_pop hM (by simp only [List.length_cons]; omega) (fun I1 hM1 f1 => ?_)
              refine s_pop hM1 (by omega) (fun I2 hM2 f2 => ?_)
              refine s_push hM2 (by omega) (fun I3 J3 hM3 f3 g3 => ?_)
              refine next (s' := zbn q.1 c b :: s2) (z' := z) (by simp only [List.length_cons]; omega) (by simpa using h11) ?_ ?_ hM3 (zfr_trans f1 (zfr_trans f2 f3)) (zfr_sub g3 (by simp))
              · unfold zes
                unfold zlfK at hn
                unfold zunK at hn2
                rw [if_neg hn, if_neg hn2]
                rfl
              · have f4 := zfr_trans f1 (zfr_trans f2 f3)
                exact zTb_keep hT (f4 20 (by simp)) (f4 21 (by simp)) (f4 22 (by simp)) (g3 20 (by simp))
      · have hy := Classical.not_not.mp hy
        rcases hw with ⟨h9, -⟩ | ⟨h9, h10, h11⟩ | ⟨h9, -⟩
        · exact absurd h9 hn
        · rcases s with _ | ⟨b, s2⟩
          · exact absurd h10 (by simp)
          · simp only [List.length_cons] at hl
            refine s_pop hM (by omega) (fun I1 hM1 f1 => ?_)
            refine s_51 hy hT.2.2.2.2.2.2.2.1 (fun J2 g2 e2 => ?_)
            refine s_push (zMc_keep hM1 rfl rfl (g2 25 (by simp))) (by omega) (fun I3 J3 hM3 f3 g3 => ?_)
            refine next (s' := (zun q.1 b z).1 :: s2) (z' := (zun q.1 b z).2) (by simp only [List.length_cons]; omega) (by simpa using h11) ?_ ?_ hM3 (zfr_trans f1 f3) (zfr_trans (zfr_sub g2 (by simp)) (zfr_sub g3 (by simp)))
            · unfold zes
              unfold zlfK at hn
              unfold zunK at hy
              rw [if_neg hn, if_pos hy]
              rfl
            · have f4 := zfr_trans f1 f3
              have h20 : J3 20 9 = (zun q.1 b z).2 := by rw [g3 20 (by simp)]; exact e2
              obtain ⟨t2, t3, t4, t5, t6, t7, t8, tz, tv, ts⟩ := hT
              unfold zTb
              rw [f4 20 (by simp), f4 21 (by simp), f4 22 (by simp)]
              exact ⟨t2, t3, t4, t5, t6, t7, t8, h20, tv, ts⟩
        · unfold zbnK at h9; unfold zunK at hy; omega
    · have hy := Classical.not_not.mp hy
      rcases hw with ⟨h9, h10, h11, h12⟩ | ⟨h9, -⟩ | ⟨h9, -⟩
      · rw [zlf_at hT hM hy h11 h1 h2]
        refine s_push hM h10 (fun I3 J3 hM3 f3 g3 => ?_)
        refine next (s' := zlf G ow tg q.1 q.2 :: s) (z' := z) (by simp only [List.length_cons]; omega) (by simpa using h12) ?_ ?_ hM3 f3 (zfr_sub g3 (by simp))
        · unfold zes
          unfold zlfK at hy
          rw [if_pos hy]
        · exact zTb_keep hT (f3 20 (by simp)) (f3 21 (by simp)) (f3 22 (by simp)) (g3 20 (by simp))
      · unfold zunK at h9; unfold zlfK at hy; omega
      · unfold zbnK at h9; unfold zlfK at hy; omega
end CMach2

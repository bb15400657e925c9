/-! ===== the class's game: make ===== -/
section CGame7
variable {RO : zRo} {d : Nat} {P : zP} {I : zI} {J : zJ} {D : zD} {bc bs : Nat} {m : Nat} {G : zGm} {p : zPg} {z0 : Int64} {l1 l2 l3 l4 : Int32}
theorem r_34 (hk : zPok p) (hm4 : 2 ≤ m ∧ m ≤ 4) {sort num tg : Int} (hV : gVd p m G) (h9 : G.1 9 = 0) (hv : gMay p m G sort num tg) (hr : G.2.2.2.1.length < 250) (hp : zCp p I) (hT : zTb G I J) (hC : zCs G z0 I J)
    (k : ∀ I' J', zTb (gMake p G sort num tg) I' J' → zCs (gMake p G sort num tg) z0 I' J' → zfr [20, 21, 22, 23, 24, 26, 27] I I' → zfr [20, 25] J J' → (∀ j, 4 * G.2.2.2.1.length + 4 ≤ j → I' 27 j = I 27 j) → P (.inl none) I' J' D) :
    zw RO (d + 6) 34 P 26 [(0, .ref 23), (1, .int (zi sort)), (2, .int (zi num)), (3, .int (zi tg)), (4, .int (zi (if G.2.2.1.isEmpty = true then G.1 1 else G.1 3)))] [] I J D bc bs := by
  have hI := gIn_of hV h9
  have hs2 : -100 ≤ sort ∧ sort ≤ 100 := by
    rcases hv with e | ⟨e, _⟩ <;> omega
  have hV1 := gVd_mk hm4 hV h9 hv
  have hr1 : (gMk p G sort num tg).1.2.2.2.1.length ≤ 250 := by
    rw [gMk_r, List.length_append]
    show G.2.2.2.1.length + 1 ≤ 250
    omega
  -- what follows, whatever the move was
  have fin : ∀ (over : Bool) (I1 : zI) (J1 : zJ), (gMk p G sort num tg).2 = over → zCp p I1 → zTb (gMk p G sort num tg).1 I1 J1 → zCs (gMk p G sort num tg).1 z0 I1 J1 → zfr [20, 21, 22, 23, 24, 26, 27] I I1 → zfr [20, 25] J J1 → (∀ j, 4 * G.2.2.2.1.length + 4 ≤ j → I1 27 j = I 27 j) →
      ∀ lo : List (Nat × Value), True → zw RO (d + 6) 34 P 122 [(0, .ref 23), (1, .int (zi sort)), (2, .int (zi num)), (3, .int (zi tg)), (4, .int (zi (if G.2.2.1.isEmpty = true then G.1 1 else G.1 3))), (5, .int (if over = true then 1 else 0))] [] I1 J1 D bc bs := by
    intro over I1 J1 ho hp1 hT1 hC1 f1 g1 n1 _ _
    refine r_122 (m := m) hk hm4 hV1.1.2.2.1 hV1.1.2.2.2.1 hr1 (fun q1 q2 => gQ_of hV1 q1 q2) hp1 hT1 hC1 (fun I2 J2 hT2 hC2 f2 g2 => ?_)
    refine k I2 J2 (by rw [gMake_eq, ho]; exact hT2) (by rw [gMake_eq, ho]; exact hC2) (zfr_trans f1 (zfr_sub f2 (by simp))) (zfr_trans g1 g2) (fun j hj => by rw [f2 27 (by simp)]; exact n1 j hj)
  refine wl_34_26 (s_35 hC hT hr (fun I1 hC1 hT1 f1 n1 => ?_))
  have hp1 : zCp p I1 := zCp_keep hp (zfr_sub f1 (by simp))
  have h6 : I1 20 6 = zi (G.1 2) := hT1.2.2.2.2.1
  have hl1 : I1 20 3 = zi G.2.2.1.length := hT1.2.1
  have hll := hV.1.2.2.2.1
  have hR := hV.1.2.2.1
  have hC2k := hk.1.2.2.2.1
  have h22 := hR.2.1
  rw [show (2 : Int32) = zi 2 from rfl, zi_eq (by omega) (by omega)]
  refine ⟨fun c1 => ?_, fun c1 => ?_⟩
  · rw [hl1, show (0 : Int32) = zi 0 from rfl, zi_le (by omega) (by omega)]
    refine ⟨fun c2 => ?_, fun c2 => ?_⟩
    · have hs : G.2.2.1 = [] := List.length_eq_zero_iff.mp (by omega)
      have hcn : ¬ ¬ (gNote G sort num tg (if G.2.2.1.isEmpty = true then G.1 1 else G.1 3)).2.2.1.isEmpty = true := by
        intro q
        exact q (by show G.2.2.1.isEmpty = true; rw [hs]; rfl)
      have hc1 : ¬ ¬ sort = 2 := fun q => q c1
      rw [h6, show (1 : Int32) = zi 1 from rfl, zi_add, show zi 2 = zi ((2 : Nat) : Int) from rfl, zv75_at (by omega), hp1.1 2 (by omega), zi_le (by omega) (by omega)]
      refine ⟨fun c3 => ?_, fun c3 => ?_⟩
      · have hmk : gMk p G sort num tg = (gNote G sort num tg (if G.2.2.1.isEmpty = true then G.1 1 else G.1 3), true) := by
          unfold gMk
          simp only [if_neg hc1]
          rw [if_neg hcn, if_neg (show ¬ (gNote G sort num tg (if G.2.2.1.isEmpty = true then G.1 1 else G.1 3)).1 2 + 1 < gPc p 2 from fun q => by have q' : G.1 2 + 1 < gPc p 2 := q; omega)]
        refine fin true I1 J (by rw [hmk]) hp1 (by rw [hmk]; exact hT1) (by rw [hmk]; exact hC1) (zfr_sub f1 (by simp)) (zfr_refl _) n1 [] trivial
      · have c3' : G.1 2 + 1 < gPc p 2 := by omega
        have hmk : gMk p G sort num tg = (gRules p (sS (gNote G sort num tg (if G.2.2.1.isEmpty = true then G.1 1 else G.1 3)) 2 (G.1 2 + 1)), false) := by
          unfold gMk
          simp only [if_neg hc1]
          rw [if_neg hcn, if_pos (show (gNote G sort num tg (if G.2.2.1.isEmpty = true then G.1 1 else G.1 3)).1 2 + 1 < gPc p 2 from c3')]
          rfl
        obtain ⟨t, ht, hq⟩ := gQ_of hV h9 hs
        have hT2 : zTb (sS (gNote G sort num tg (if G.2.2.1.isEmpty = true then G.1 1 else G.1 3)) 2 (G.1 2 + 1)) (zu I1 20 6 (zi (G.1 2 + 1))) J := by
          obtain ⟨t1, t2, t3, t4, t5, t6, t7, t8, t9, t10⟩ := hT1
          refine ⟨?_, ?_, ?_, ?_, ?_, ?_, ?_, t8, ?_, ?_⟩
          · rw [zu_n _ _ (by omega)]; exact t1
          · rw [zu_n _ _ (by omega)]; exact t2
          · rw [zu_n _ _ (by omega)]; exact t3
          · rw [zu_n _ _ (by omega)]; exact t4
          · rw [zu_s]; rfl
          · rw [zu_n _ _ (by omega)]; exact t6
          · rw [zu_n _ _ (by omega)]; exact t7
          · intro k hk; rw [zu_n _ _ (by omega)]; exact t9 k hk
          · intro k w hk hw; rw [zu_n _ _ (by omega)]; exact t10 k w hk hw
        have hC2 : zCs (sS (gNote G sort num tg (if G.2.2.1.isEmpty = true then G.1 1 else G.1 3)) 2 (G.1 2 + 1)) z0 (zu I1 20 6 (zi (G.1 2 + 1))) J := zCs_keep (G := sS (gNote G sort num tg (if G.2.2.1.isEmpty = true then G.1 1 else G.1 3)) 2 (G.1 2 + 1)) hC1 (by rw [zu_row _ _ (by omega)]) (by rw [zu_row _ _ (by omega)]) rfl
        have hf : zfr [20] I1 (zu I1 20 6 (zi (G.1 2 + 1))) := zfr_zu (zfr_refl _) _ _ (by simp)
        refine s_40 hk hm4 ht (G := sS (gNote G sort num tg (if G.2.2.1.isEmpty = true then G.1 1 else G.1 3)) 2 (G.1 2 + 1)) ⟨hq.1, hq.2.1, hq.2.2.1, hq.2.2.2.1, hq.2.2.2.2⟩ (by show -100 ≤ G.1 2 + 1 ∧ G.1 2 + 1 ≤ 100; omega) (by show -100 ≤ G.1 9 ∧ G.1 9 ≤ 100; omega) (zCp_keep hp1 (zfr_sub hf (by simp))) hT2 hC2 (fun I3 J3 hT3 hC3 f3 g3 => ?_)
        refine fin false I3 J3 (by rw [hmk]) (zCp_keep (zCp_keep hp1 (zfr_sub hf (by simp))) (zfr_sub f3 (by simp))) (by rw [hmk]; exact hT3) (by rw [hmk]; exact hC3) (zfr_trans (zfr_sub f1 (by simp)) (zfr_trans (zfr_sub hf (by simp)) (zfr_sub f3 (by simp)))) g3 (fun j hj => by rw [f3 27 (by simp), hf 27 (by simp)]; exact n1 j hj) [] trivial
    · have hs : ¬ G.2.2.1 = [] := by
        intro q
        rw [q] at c2
        exact c2 (by decide)
      have hcn : ¬ (gNote G sort num tg (if G.2.2.1.isEmpty = true then G.1 1 else G.1 3)).2.2.1.isEmpty = true := fun q => hs (List.isEmpty_iff.mp q)
      have hmk : gMk p G sort num tg = (gPassOn p (gNote G sort num tg (if G.2.2.1.isEmpty = true then G.1 1 else G.1 3)), false) := by
        unfold gMk
        simp only [if_neg (fun q => q c1 : ¬ ¬ sort = 2)]
        rw [if_pos hcn]
      refine s_38 hk hm4 (G := gNote G sort num tg (if G.2.2.1.isEmpty = true then G.1 1 else G.1 3)) ⟨hI.1, hI.2.1, hI.2.2.1, hI.2.2.2.1, hI.2.2.2.2.1, hI.2.2.2.2.2.1, hI.2.2.2.2.2.2⟩ hs h9 hp1 hT1 hC1 (fun I2 J2 hT2 hC2 f2 g2 => ?_)
      refine fin false I2 J2 (by rw [hmk]) (zCp_keep hp1 (zfr_sub f2 (by simp))) (by rw [hmk]; exact hT2) (by rw [hmk]; exact hC2) (zfr_trans (zfr_sub f1 (by simp)) (zfr_sub f2 (by simp))) g2 (fun j hj => by rw [f2 27 (by simp)]; exact n1 j hj) [] trivial
  · have hv2 := hv.resolve_left c1
    have hmk : gMk p G sort num tg = (gAsk (sK (gNote G sort num tg (if G.2.2.1.isEmpty = true then G.1 1 else G.1 3)) (G.2.2.1 ++ [gRow sort num (if G.2.2.1.isEmpty = true then G.1 1 else G.1 3) tg])), false) := by
      unfold gMk
      simp only [if_pos c1]
      rfl
    refine s_87 (G := gNote G sort num tg (if G.2.2.1.isEmpty = true then G.1 1 else G.1 3)) hT1 hv2.2.2.2 (fun I2 hT2 f2 => ?_)
    have hp2 : zCp p I2 := zCp_keep hp1 (zfr_sub f2 (by simp))
    have hC2 : zCs (sK (gNote G sort num tg (if G.2.2.1.isEmpty = true then G.1 1 else G.1 3)) (G.2.2.1 ++ [gRow sort num (if G.2.2.1.isEmpty = true then G.1 1 else G.1 3) tg])) z0 I2 J := zCs_keep (G := sK (gNote G sort num tg (if G.2.2.1.isEmpty = true then G.1 1 else G.1 3)) (G.2.2.1 ++ [gRow sort num (if G.2.2.1.isEmpty = true then G.1 1 else G.1 3) tg])) hC1 (f2 23 (by simp)) (f2 27 (by simp)) rfl
    refine s_37 (p := p) (m := m) (G := sK (gNote G sort num tg (if G.2.2.1.isEmpty = true then G.1 1 else G.1 3)) (G.2.2.1 ++ [gRow sort num (if G.2.2.1.isEmpty = true then G.1 1 else G.1 3) tg])) hI.1 hm4 ?_ ?_ hT2 (zCq_of hC2) (fun I3 hT3 hC3 f3 => ?_)
    · show (G.2.2.1 ++ [_]).length ≤ 10
      rw [List.length_append]
      show G.2.2.1.length + 1 ≤ 10
      omega
    · intro r hr
      rcases List.mem_append.mp hr with q | q
      · exact hV.1.2.2.2.2 r q
      · rw [List.mem_singleton.mp q]
        exact gMk_row hI hv c1
    · refine fin false I3 J (by rw [hmk]) (zCp_keep hp2 (zfr_sub f3 (by simp))) (by rw [hmk]; exact hT3) (by rw [hmk]; exact hC3) (zfr_trans (zfr_sub f1 (by simp)) (zfr_trans (zfr_sub f2 (by simp)) (zfr_sub f3 (by simp)))) (zfr_refl _) (fun j hj => by rw [f3 27 (by simp), f2 27 (by simp)]; exact n1 j hj) [] trivial
theorem s_34 (hk : zPok p) (hm4 : 2 ≤ m ∧ m ≤ 4) {sort num tg : Int} (hV : gVd p m G) (h9 : G.1 9 = 0) (hv : gMay p m G sort num tg) (hr : G.2.2.2.1.length < 250) (hp : zCp p I) (hT : zTb G I J) (hC : zCs G z0 I J)
    (k : ∀ I' J', zTb (gMake p G sort num tg) I' J' → zCs (gMake p G sort num tg) z0 I' J' → zfr [20, 21, 22, 23, 24, 26, 27] I I' → zfr [20, 25] J J' → (∀ j, 4 * G.2.2.2.1.length + 4 ≤ j → I' 27 j = I 27 j) → P (.inl none) I' J' D) :
    zz RO (d + 7) 34 [.ref 23, .int (zi sort), .int (zi num), .int (zi tg)] I J D bc bs P := by
  have key := r_34 (RO := RO) (d := d) (P := P) (D := D) (bc := bc) (bs := bs) hk hm4 hV h9 hv hr hp hT hC k
  have hll := hV.1.2.2.2.1
  refine w_34 ?_
  rw [hT.2.1, show (0 : Int32) = zi 0 from rfl, zi_le (by omega) (by omega)]
  refine ⟨fun c => ?_, fun c => ?_⟩
  · have hs : G.2.2.1.isEmpty = true := by
      rw [List.length_eq_zero_iff.mp (show G.2.2.1.length = 0 by omega)]
      rfl
    rw [hT.2.2.2.1]
    rw [if_pos hs] at key
    exact key
  · have hs : ¬ G.2.2.1.isEmpty = true := by
      intro q
      rw [List.isEmpty_iff.mp q] at c
      exact c (by decide)
    rw [hC.2.2.2.1]
    rw [if_neg hs] at key
    exact key
end CGame7

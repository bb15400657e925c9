/-! ===== the class's machine: each statement ===== -/
section CMach5
variable {RO : zRo} {d : Nat} {P : zP} {I : zI} {J : zJ} {D : zD} {bc bs : Nat} {B : Nat → Int32} {m ow tg : Nat} {l1 l2 l3 : Int32} {s : List Int64} {sv : List Nat} {G : zGm} {a step : Nat} {q : zOp}
theorem r_c16 {r : List zOp} (hc : zcR I a (q :: r)) (hq : q.1 = 16 ∨ q.1 = 17) (hs : step < 1000000)
    (h : zz RO (d + 2) 48 [.ref 24] I J D 0 0 (zNl P fun v I1 J1 D1 => zz RO (d + 2) 56 [.ref 24, .int (zi q.1), .int (zv_50 I J q.2), .long v] I1 J1 D1 0 0 (zNv P fun I2 J2 D2 =>
      zw RO (d + 2) 43 P 37 [(0, .ref 24), (1, .int l1), (2, .int l2), (3, .int l3), (4, .int (zi (a + 1 : Nat))), (5, .int (zv_3 I2 J2 (zi (a + 1 : Nat)))), (6, .int (zi (step + 1 : Nat)))] [] I2 J2 D2 bc bs))) :
    zw RO (d + 2) 43 P 37 [(0, .ref 24), (1, .int l1), (2, .int l2), (3, .int l3), (4, .int (zi a)), (5, .int (zv_3 I J (zi a))), (6, .int (zi step))] [] I J D bc bs := by
  have n1 : ¬ zlfK q.1 := by unfold zlfK; omega
  have n2 : ¬ zunK q.1 := by unfold zunK; omega
  have n3 : ¬ zbnK q.1 := by unfold zbnK; omega
  have hd9 := zop_at (J := J) hc
  rw [← zi_succ, ← zi_succ] at h
  refine wl_43_37 ?_
  rw [hd9.1]
  simp (disch := omega) only [zk44, zk45, zk46, hd9.2]
  simp (disch := omega) only [zlit, zi_le, zi_eq]
  exact ⟨fun h => absurd h (by omega), fun _ => ⟨fun h => absurd h (by omega), fun _ => ⟨fun _ => ⟨fun _ => ⟨fun _ => ⟨fun _ => h, fun _ => ⟨fun q => absurd q (by omega), fun _ => h⟩⟩, fun h => absurd n3 h⟩, fun h => absurd n2 h⟩, fun h => absurd n1 h⟩⟩⟩
theorem r_c53 {r : List zOp} (hc : zcR I a (q :: r)) (hq : q.1 = 53) (hs : step < 1000000)
    (h : zz RO (d + 2) 58 [.ref 24] I J D 0 0 (zNi P fun v I1 J1 D1 =>
      (v = 0 → zw RO (d + 2) 43 P 37 [(0, .ref 24), (1, .int l1), (2, .int l2), (3, .int l3), (4, .int (zi (a + 1 : Nat))), (5, .int (zv_3 I1 J1 (zi (a + 1 : Nat)))), (6, .int (zi (step + 1 : Nat)))] [] I1 J1 D1 bc bs) ∧
      (¬ v = 0 → zw RO (d + 2) 43 P 37 [(0, .ref 24), (1, .int l1), (2, .int l2), (3, .int l3), (4, .int q.2), (5, .int (zv_3 I1 J1 q.2)), (6, .int (zi (step + 1 : Nat)))] [] I1 J1 D1 bc bs))) :
    zw RO (d + 2) 43 P 37 [(0, .ref 24), (1, .int l1), (2, .int l2), (3, .int l3), (4, .int (zi a)), (5, .int (zv_3 I J (zi a))), (6, .int (zi step))] [] I J D bc bs := by
  have n1 : ¬ zlfK q.1 := by unfold zlfK; omega
  have n2 : ¬ zunK q.1 := by unfold zunK; omega
  have n3 : ¬ zbnK q.1 := by unfold zbnK; omega
  have hd9 := zop_at (J := J) hc
  rw [← zi_succ, ← zi_succ] at h
  refine wl_43_37 ?_
  rw [hd9.1]
  simp (disch := omega) only [zk44, zk45, zk46, hd9.2]
  simp (disch := omega) only [zi_le, zi_eq, show (16 : Int32) = zi 16 from rfl, show (17 : Int32) = zi 17 from rfl, show (53 : Int32) = zi 53 from rfl, show (54 : Int32) = zi 54 from rfl, show (1000000 : Int32) = zi 1000000 from rfl]
  exact ⟨fun h => absurd h (by omega), fun _ => ⟨fun h => absurd h (by omega), fun _ => ⟨fun _ => ⟨fun _ => ⟨fun _ => ⟨fun q => absurd q (by omega), fun _ => ⟨fun _ => ⟨fun q => absurd q (by omega), fun _ => h⟩, fun q => absurd q (by omega)⟩⟩, fun h => absurd n3 h⟩, fun h => absurd n2 h⟩, fun h => absurd n1 h⟩⟩⟩
theorem r_c55 {r : List zOp} (hc : zcR I a (q :: r)) (hq : q.1 = 18 ∨ 20 ≤ q.1 ∧ q.1 ≤ 24) (hs : step < 1000000)
    (h : zz RO (d + 2) 55 [.ref 24, .int (zi q.1), .int q.2, .int (zi (a + 1 : Nat))] I J D 0 0 (zNi P fun v I1 J1 D1 =>
      zw RO (d + 2) 43 P 37 [(0, .ref 24), (1, .int l1), (2, .int l2), (3, .int l3), (4, .int v), (5, .int (zv_3 I1 J1 v)), (6, .int (zi (step + 1 : Nat)))] [] I1 J1 D1 bc bs)) :
    zw RO (d + 2) 43 P 37 [(0, .ref 24), (1, .int l1), (2, .int l2), (3, .int l3), (4, .int (zi a)), (5, .int (zv_3 I J (zi a))), (6, .int (zi step))] [] I J D bc bs := by
  have n1 : ¬ zlfK q.1 := by unfold zlfK; omega
  have n2 : ¬ zunK q.1 := by unfold zunK; omega
  have n3 : ¬ zbnK q.1 := by unfold zbnK; omega
  have hd9 := zop_at (J := J) hc
  rw [← zi_succ, ← zi_succ] at h
  refine wl_43_37 ?_
  rw [hd9.1]
  simp (disch := omega) only [zk44, zk45, zk46, hd9.2]
  simp (disch := omega) only [zlit, zi_le, zi_eq]
  exact ⟨fun h => absurd h (by omega), fun _ => ⟨fun h => absurd h (by omega), fun _ => ⟨fun _ => ⟨fun _ => ⟨fun _ => ⟨fun q => absurd q (by omega), fun _ => ⟨fun _ => ⟨fun _ => h, fun q => absurd q (by omega)⟩, fun q => absurd q (by omega)⟩⟩, fun h => absurd n3 h⟩, fun h => absurd n2 h⟩, fun h => absurd n1 h⟩⟩⟩
/-! what takes no place -/
theorem s_55if {x y : Int32} {v : Int64} (hM : zMc [v] ow tg sv I J) (k : ∀ I', zMc [] ow tg sv I' J → zfr [24] I I' → P (.inl (some (.int (if v = 0 then x else y)))) I' J D) : zz RO (d + 2) 55 [.ref 24, .int (zi 18), .int x, .int y] I J D bc bs P := by
  refine w_55 ⟨fun _ => s_pop hM (by simp) (fun I' hM' f => ?_), fun q => absurd rfl q⟩
  have k9 := k I' hM' f
  refine ⟨fun e => ?_, fun e => ?_⟩
  · rw [if_pos e] at k9
    exact k9
  · rw [if_neg e] at k9
    exact k9
theorem s_55else {x y : Int32} (k : P (.inl (some (.int x))) I J D) : zz RO (d + 2) 55 [.ref 24, .int (zi 20), .int x, .int y] I J D bc bs P :=
  w_55 ⟨fun q => absurd q (by decide), fun _ => ⟨fun _ => k, fun q => absurd rfl q⟩⟩
theorem zTb_can (hT : zTb G I J) : zTb (sK G G.2.2.1.dropLast) (zu I 20 3 (zi G.2.2.1.dropLast.length)) J := by
  obtain ⟨t2, t3, t4, t5, t6, t7, t8, tz, tv, ts⟩ := hT
  unfold zTb sK
  refine ⟨?_, ?_, ?_, ?_, ?_, ?_, ?_, tz, ?_, ?_⟩
  · rw [zu_n _ _ (by omega)]; exact t2
  · rw [zu_s]
  · rw [zu_n _ _ (by omega)]; exact t4
  · rw [zu_n _ _ (by omega)]; exact t5
  · rw [zu_n _ _ (by omega)]; exact t6
  · rw [zu_n _ _ (by omega)]; exact t7
  · rw [zu_n _ _ (by omega)]; exact t8
  · intro k hk
    rw [zu_n _ _ (by omega)]
    exact tv k hk
  · intro k w hk hw
    have hk2 : k < G.2.2.1.dropLast.length := hk
    rw [List.length_dropLast] at hk2
    rw [zu_n _ _ (by omega), ts k w (by omega) hw]
    show _ = zi (G.2.2.1.dropLast.getD k z4 w)
    rw [List.getD_eq_getElem?_getD, List.getD_eq_getElem?_getD, List.dropLast_eq_take, List.getElem?_take_of_lt (by omega)]
theorem s_55can {x y : Int32} (hT : zTb G I J) (hG : G.2.2.1.length < 1000) (k : ∀ I', zTb (sK G G.2.2.1.dropLast) I' J → zfr [20] I I' → P (.inl (some (.int y))) I' J D) : zz RO (d + 2) 55 [.ref 24, .int (zi 21), .int x, .int y] I J D bc bs P := by
  refine w_55 ⟨fun q => absurd q (by decide), fun _ => ⟨fun q => absurd q (by decide), fun _ => ⟨fun _ => ?_, fun q => absurd rfl q⟩⟩⟩
  have k9 := k _ (zTb_can hT) (zfr_zu (zfr_refl _) _ _ (by simp))
  rw [hT.2.1]
  rw [List.length_dropLast] at k9
  simp (disch := omega) only [zlit, zi_le, zi_sub]
  refine ⟨fun e => ?_, fun e => ?_⟩
  · rw [show ((G.2.2.1.length - 1 : Nat) : Int) = 0 by omega] at k9
    exact k9
  · rw [show ((G.2.2.1.length - 1 : Nat) : Int) = (G.2.2.1.length : Int) - 1 by omega] at k9
    exact k9
theorem zTb_6 (hT : zTb G I J) : zTb (sS G 6 1) (zu I 20 8 1) J := by
  obtain ⟨t2, t3, t4, t5, t6, t7, t8, tz, tv, ts⟩ := hT
  refine ⟨?_, ?_, ?_, ?_, ?_, ?_, ?_, tz, ?_, ?_⟩
  · rw [zu_n _ _ (by omega)]; exact t2
  · rw [zu_n _ _ (by omega)]; exact t3
  · rw [zu_n _ _ (by omega)]; exact t4
  · rw [zu_n _ _ (by omega)]; exact t5
  · rw [zu_n _ _ (by omega)]; exact t6
  · rw [zu_n _ _ (by omega)]; exact t7
  · rw [zu_s]; rfl
  · intro k hk
    rw [zu_n _ _ (by omega)]
    exact tv k hk
  · intro k w hk hw
    rw [zu_n _ _ (by omega)]
    exact ts k w hk hw
theorem zTb_5 (hT : zTb G I J) : zTb (sS G 5 1) (zu I 20 7 1) J := by
  obtain ⟨t2, t3, t4, t5, t6, t7, t8, tz, tv, ts⟩ := hT
  refine ⟨?_, ?_, ?_, ?_, ?_, ?_, ?_, tz, ?_, ?_⟩
  · rw [zu_n _ _ (by omega)]; exact t2
  · rw [zu_n _ _ (by omega)]; exact t3
  · rw [zu_n _ _ (by omega)]; exact t4
  · rw [zu_n _ _ (by omega)]; exact t5
  · rw [zu_n _ _ (by omega)]; exact t6
  · rw [zu_s]; rfl
  · rw [zu_n _ _ (by omega)]; exact t8
  · intro k hk
    rw [zu_n _ _ (by omega)]
    exact tv k hk
  · intro k w hk hw
    rw [zu_n _ _ (by omega)]
    exact ts k w hk hw
theorem s_55again {x y : Int32} (hT : zTb G I J) (k : ∀ I', zTb (sS G 6 1) I' J → zfr [20] I I' → P (.inl (some (.int y))) I' J D) : zz RO (d + 2) 55 [.ref 24, .int (zi 22), .int x, .int y] I J D bc bs P :=
  w_55 ⟨fun q => absurd q (by decide), fun _ => ⟨fun q => absurd q (by decide), fun _ => ⟨fun q => absurd q (by decide), fun _ => ⟨fun _ => k _ (zTb_6 hT) (zfr_zu (zfr_refl _) _ _ (by simp)), fun q => absurd rfl q⟩⟩⟩⟩
theorem s_55skip {x y : Int32} (hT : zTb G I J) (k : ∀ I', zTb (sS G 5 1) I' J → zfr [20] I I' → P (.inl (some (.int y))) I' J D) : zz RO (d + 2) 55 [.ref 24, .int (zi 23), .int x, .int y] I J D bc bs P :=
  w_55 ⟨fun q => absurd q (by decide), fun _ => ⟨fun q => absurd q (by decide), fun _ => ⟨fun q => absurd q (by decide), fun _ => ⟨fun q => absurd q (by decide), fun _ => ⟨fun _ => k _ (zTb_5 hT) (zfr_zu (zfr_refl _) _ _ (by simp)), fun q => absurd rfl q⟩⟩⟩⟩⟩
theorem s_55all {x y : Int32} (hm : I 20 2 = zi m) (h1 : m ≤ 4) (ho : ow < m) (hM : zMc s ow tg sv I J) (hs : sv.length < 4) (k : ∀ I', zMc s ow ((ow + 1) % m) (tg :: sv) I' J → zfr [24, 26] I I' → P (.inl (some (.int y))) I' J D) : zz RO (d + 2) 55 [.ref 24, .int (zi 24), .int x, .int y] I J D bc bs P := by
  refine w_55 ⟨fun q => absurd q (by decide), fun _ => ⟨fun q => absurd q (by decide), fun _ => ⟨fun q => absurd q (by decide), fun _ => ⟨fun q => absurd q (by decide), fun _ => ⟨fun q => absurd q (by decide), fun _ => ⟨fun _ => ?_, fun q => absurd rfl q⟩⟩⟩⟩⟩⟩
  rw [hM.2.2.1, zv83_at hm h1 ho]
  exact s_57 hM hs k
end CMach5

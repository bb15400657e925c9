/-! ===== the class's keywords: the loop of the tokens' constructor ===== -/
def tkS (b : Int32) (kf : Nat × (Nat → Int64)) : Nat × (Nat → Int64) := if b = 32 then (kf.1 + 1, kf.2) else if kf.1 < 32 then (kf.1, vp_updL kf.2 kf.1 ((kf.2 kf.1 <<< ((8 : Int32).toInt64 &&& 63)) ||| b.toInt64)) else kf
def tkN : Nat → Nat × (Nat → Int64)
  | 0 => (0, fun _ => 0)
  | n + 1 => tkS (zSb1.getD n 0) (tkN n)
theorem tkN_le : ∀ n, (tkN n).1 ≤ n
  | 0 => Nat.le_refl _
  | n + 1 => by
    have := tkN_le n
    show (tkS (zSb1.getD n 0) (tkN n)).1 ≤ n + 1
    unfold tkS
    split
    · show (tkN n).1 + 1 ≤ n + 1
      omega
    · split
      · show (tkN n).1 ≤ n + 1
        omega
      · omega
def wsT (ca : Nat → Nat) (q a1 a2 a3 a4 : Nat) (f : Nat → Int64) : va_W := [(q, .inr (8, [.ref a1, .ref a2, .ref a3, .ref a4, .int 0])), (a1, .inl (ca 0, zZr 0 451)), (a2, .inl (ca 0, zZr 0 451)), (a3, .inl (ca 1, zZr 1 451)), (a4, .inl (ca 1, 32, .inr (.inl f)))]
theorem zd91_0 : decode (zcc 91) 0 = .ok (.aload_n 0, 1) := by
  show decode cX8_init 0 = _
  decide +kernel
theorem zd91_1 : decode (zcc 91) 1 = .ok (.invokespecial 3, 3) := by
  show decode cX8_init 1 = _
  decide +kernel
theorem zd91_4 : decode (zcc 91) 4 = .ok (.aload_n 0, 1) := by
  show decode cX8_init 4 = _
  decide +kernel
theorem zd91_5 : decode (zcc 91) 5 = .ok (.sipush 451, 3) := by
  show decode cX8_init 5 = _
  decide +kernel
theorem zd91_8 : decode (zcc 91) 8 = .ok (.newarray .int, 2) := by
  show decode cX8_init 8 = _
  decide +kernel
theorem zd91_10 : decode (zcc 91) 10 = .ok (.putfield 9, 3) := by
  show decode cX8_init 10 = _
  decide +kernel
theorem zd91_13 : decode (zcc 91) 13 = .ok (.aload_n 0, 1) := by
  show decode cX8_init 13 = _
  decide +kernel
theorem zd91_14 : decode (zcc 91) 14 = .ok (.sipush 451, 3) := by
  show decode cX8_init 14 = _
  decide +kernel
theorem zd91_17 : decode (zcc 91) 17 = .ok (.newarray .int, 2) := by
  show decode cX8_init 17 = _
  decide +kernel
theorem zd91_19 : decode (zcc 91) 19 = .ok (.putfield 15, 3) := by
  show decode cX8_init 19 = _
  decide +kernel
theorem zd91_22 : decode (zcc 91) 22 = .ok (.aload_n 0, 1) := by
  show decode cX8_init 22 = _
  decide +kernel
theorem zd91_23 : decode (zcc 91) 23 = .ok (.sipush 451, 3) := by
  show decode cX8_init 23 = _
  decide +kernel
theorem zd91_26 : decode (zcc 91) 26 = .ok (.newarray .long, 2) := by
  show decode cX8_init 26 = _
  decide +kernel
theorem zd91_28 : decode (zcc 91) 28 = .ok (.putfield 18, 3) := by
  show decode cX8_init 28 = _
  decide +kernel
theorem zd91_31 : decode (zcc 91) 31 = .ok (.aload_n 0, 1) := by
  show decode cX8_init 31 = _
  decide +kernel
theorem zd91_32 : decode (zcc 91) 32 = .ok (.bipush 32, 2) := by
  show decode cX8_init 32 = _
  decide +kernel
theorem zd91_34 : decode (zcc 91) 34 = .ok (.newarray .long, 2) := by
  show decode cX8_init 34 = _
  decide +kernel
theorem zd91_36 : decode (zcc 91) 36 = .ok (.putfield 22, 3) := by
  show decode cX8_init 36 = _
  decide +kernel
theorem zd91_39 : decode (zcc 91) 39 = .ok (.iconst 0, 1) := by
  show decode cX8_init 39 = _
  decide +kernel
theorem zd91_40 : decode (zcc 91) 40 = .ok (.istore_n 1, 1) := by
  show decode cX8_init 40 = _
  decide +kernel
theorem zd91_41 : decode (zcc 91) 41 = .ok (.iconst 0, 1) := by
  show decode cX8_init 41 = _
  decide +kernel
theorem zd91_42 : decode (zcc 91) 42 = .ok (.istore_n 2, 1) := by
  show decode cX8_init 42 = _
  decide +kernel
theorem zd91_43 : decode (zcc 91) 43 = .ok (.iload_n 2, 1) := by
  show decode cX8_init 43 = _
  decide +kernel
theorem zd91_44 : decode (zcc 91) 44 = .ok (.ldc 25, 2) := by
  show decode cX8_init 44 = _
  decide +kernel
theorem zd91_46 : decode (zcc 91) 46 = .ok (.invokevirtual 27, 3) := by
  show decode cX8_init 46 = _
  decide +kernel
theorem zd91_49 : decode (zcc 91) 49 = .ok (.if_icmp .ge 55, 3) := by
  show decode cX8_init 49 = _
  decide +kernel
theorem zd91_52 : decode (zcc 91) 52 = .ok (.ldc 25, 2) := by
  show decode cX8_init 52 = _
  decide +kernel
theorem zd91_54 : decode (zcc 91) 54 = .ok (.iload_n 2, 1) := by
  show decode cX8_init 54 = _
  decide +kernel
theorem zd91_55 : decode (zcc 91) 55 = .ok (.invokevirtual 33, 3) := by
  show decode cX8_init 55 = _
  decide +kernel
theorem zd91_58 : decode (zcc 91) 58 = .ok (.istore_n 3, 1) := by
  show decode cX8_init 58 = _
  decide +kernel
theorem zd91_59 : decode (zcc 91) 59 = .ok (.iload_n 3, 1) := by
  show decode cX8_init 59 = _
  decide +kernel
theorem zd91_60 : decode (zcc 91) 60 = .ok (.bipush 32, 2) := by
  show decode cX8_init 60 = _
  decide +kernel
theorem zd91_62 : decode (zcc 91) 62 = .ok (.if_icmp .ne 9, 3) := by
  show decode cX8_init 62 = _
  decide +kernel
theorem zd91_65 : decode (zcc 91) 65 = .ok (.iinc 1 1, 3) := by
  show decode cX8_init 65 = _
  decide +kernel
theorem zd91_68 : decode (zcc 91) 68 = .ok (.goto 30, 3) := by
  show decode cX8_init 68 = _
  decide +kernel
theorem zd91_71 : decode (zcc 91) 71 = .ok (.iload_n 1, 1) := by
  show decode cX8_init 71 = _
  decide +kernel
theorem zd91_72 : decode (zcc 91) 72 = .ok (.aload_n 0, 1) := by
  show decode cX8_init 72 = _
  decide +kernel
theorem zd91_73 : decode (zcc 91) 73 = .ok (.getfield 22, 3) := by
  show decode cX8_init 73 = _
  decide +kernel
theorem zd91_76 : decode (zcc 91) 76 = .ok (.arraylength, 1) := by
  show decode cX8_init 76 = _
  decide +kernel
theorem zd91_77 : decode (zcc 91) 77 = .ok (.if_icmp .ge 21, 3) := by
  show decode cX8_init 77 = _
  decide +kernel
theorem zd91_80 : decode (zcc 91) 80 = .ok (.aload_n 0, 1) := by
  show decode cX8_init 80 = _
  decide +kernel
theorem zd91_81 : decode (zcc 91) 81 = .ok (.getfield 22, 3) := by
  show decode cX8_init 81 = _
  decide +kernel
theorem zd91_84 : decode (zcc 91) 84 = .ok (.iload_n 1, 1) := by
  show decode cX8_init 84 = _
  decide +kernel
theorem zd91_85 : decode (zcc 91) 85 = .ok (.aload_n 0, 1) := by
  show decode cX8_init 85 = _
  decide +kernel
theorem zd91_86 : decode (zcc 91) 86 = .ok (.getfield 22, 3) := by
  show decode cX8_init 86 = _
  decide +kernel
theorem zd91_89 : decode (zcc 91) 89 = .ok (.iload_n 1, 1) := by
  show decode cX8_init 89 = _
  decide +kernel
theorem zd91_90 : decode (zcc 91) 90 = .ok (.laload, 1) := by
  show decode cX8_init 90 = _
  decide +kernel
theorem zd91_91 : decode (zcc 91) 91 = .ok (.bipush 8, 2) := by
  show decode cX8_init 91 = _
  decide +kernel
theorem zd91_93 : decode (zcc 91) 93 = .ok (.lshl, 1) := by
  show decode cX8_init 93 = _
  decide +kernel
theorem zd91_94 : decode (zcc 91) 94 = .ok (.iload_n 3, 1) := by
  show decode cX8_init 94 = _
  decide +kernel
theorem zd91_95 : decode (zcc 91) 95 = .ok (.i2l, 1) := by
  show decode cX8_init 95 = _
  decide +kernel
theorem zd91_96 : decode (zcc 91) 96 = .ok (.lor, 1) := by
  show decode cX8_init 96 = _
  decide +kernel
theorem zd91_97 : decode (zcc 91) 97 = .ok (.lastore, 1) := by
  show decode cX8_init 97 = _
  decide +kernel
theorem zd91_98 : decode (zcc 91) 98 = .ok (.iinc 2 1, 3) := by
  show decode cX8_init 98 = _
  decide +kernel
theorem zd91_101 : decode (zcc 91) 101 = .ok (.goto (-58), 3) := by
  show decode cX8_init 101 = _
  decide +kernel
theorem zd91_104 : decode (zcc 91) 104 = .ok (.return_, 1) := by
  show decode cX8_init 104 = _
  decide +kernel
section Tk
variable {p : Program} {l : Launch} {e : Env} {R : Room} {s : State} {m : MethodId} {args : Array Value} {below : List Frame} {meth : Method} {c : Code} {Q : State → Prop} {cells slots : Nat}
variable {A : Nat → Prop} {G : va_G} {ad ca : Nat → Nat} {q a1 a2 a3 a4 : Nat}
set_option maxHeartbeats 1000000 in
theorem tk_loop (hC : zC [] p s m args c A G ad ca 91) (hEX : zEX ad zRz zXT2 A s s.heap) (hR : 4 + 11 ≤ R.frames ∧ (4 + 1) * 100 ≤ R.locals) (hc : cells ≤ R.cells) (hs : slots ≤ R.slots)
    (kk : ∀ (H : Heap) (locs : List Loc) (ls : Array Slot), va_P G vwCl (wsT ca q a1 a2 a3 a4 (tkN 148).2) H → va_D A (wsT ca q a1 a2 a3 a4 (tkN 148).2) → va_S A s.heap H locs → W p l e R s m args below meth c H locs cells slots Q (F0 m 104 ls [])) : ∀ (n i : Nat) (H : Heap) (locs : List Loc) (ls : Array Slot), i + n = 148 → va_P G vwCl (wsT ca q a1 a2 a3 a4 (tkN i).2) H → va_D A (wsT ca q a1 a2 a3 a4 (tkN i).2) → va_S A s.heap H locs → lv_has ls 4 [(0, .ref q), (1, .int (zi ((tkN i).1 : Int))), (2, .int (zi (i : Int)))] → W p l e R s m args below meth c H locs cells slots Q (F0 m 43 ls []) := by
  have hC0 := hC
  obtain ⟨hx, hb, hml, hown, hts, hK, hD0, hA⟩ := hC
  have hstr : vk_R "RuleStack$Tokens" 25 (zStx.getD 1 "") (ad (110 + 1)) s := hEX.2.2.1.2.2.2.2.2.2.2.2.1 ("RuleStack$Tokens", 25, 1) (by decide)
  have kept : ∀ {f : Nat → Int64} {H H1 : Heap}, va_P G vwCl (wsT ca q a1 a2 a3 a4 f) H → (∀ x, x < H.size → H1[x]? = H[x]?) → va_P G vwCl (wsT ca q a1 a2 a3 a4 f) H1 := fun hP ho => hP.kept (fun k y hk => ho y.1 (hP k y hk).lt)
  have len : ∀ (i : Nat) (H : Heap) (locs : List Loc) (ls : Array Slot), va_S A s.heap H locs → ls.size = 4 → (∀ (H1 : Heap) (locs1 : List Loc), va_S A s.heap H1 locs1 → (∀ x, x < H.size → H1[x]? = H[x]?) → W p l e R s m args below meth c H1 locs1 cells slots Q (F0 m 49 ls [.int (zi 148), .int (zi (i : Int))])) → ls[2]? = some (.val (.int (zi (i : Int)))) → W p l e R s m args below meth c H locs cells slots Q (F0 m 43 ls []) := by
    intro i H locs ls hS hsz k9 l2
    refine lv_iload_n (i := 2) (x := zi (i : Int)) hx hb zd91_43 rfl l2 ?_
    refine va_ldcS hx hb hown hstr zd91_44 ?_
    exact x_callV (d := 4) (idx := 27) (mj := 243) (j := 1) (v := zi 148) (As := []) (rest := [.int (zi (i : Int))]) (I := fun _ _ => 0) (J := fun _ _ => 0) (D := fun _ _ => 0) (P9 := fun o _ _ _ => o = .inl (some (.int (zi 148)))) hC0 hEX hR hS hsz zd91_46 zk_8_27 zms_243 (by decide +kernel) (by decide) (Nat.le_of_ble_eq_true rfl) (x_243 (d := 2) (by decide) rfl) (fun _ _ _ _ h => h) rfl hc hs k9
  intro n
  induction n with
  | zero =>
    intro i H locs ls hi hP hD hS hll
    have hi : i = 148 := hi
    subst hi
    refine len 148 H locs ls hS hll.1 (fun H1 locs1 hS1 ho => ?_) (lv_at hll 2 rfl)
    refine lv_icmp_ge (tgt := 104) hx hb zd91_49 rfl (fun _ => ?_) (fun z => absurd ((zi_le (by omega) (by omega)).mpr (by omega)) z)
    exact kk H1 locs1 ls (kept hP ho) hD hS1
  | succ n ih =>
    intro i H locs ls hi hP hD hS hll
    have hk := tkN_le i
    refine len i H locs ls hS hll.1 (fun H1 locs1 hS1 ho => ?_) (lv_at hll 2 rfl)
    have hP1 := kept hP ho
    refine lv_icmp_ge (tgt := 104) hx hb zd91_49 rfl (fun z => absurd ((zi_le (by omega) (by omega)).mp z) (by omega)) (fun _ => ?_)
    refine va_ldcS hx hb hown hstr zd91_52 ?_
    refine lv_iload_n (i := 2) (x := zi (i : Int)) hx hb zd91_54 rfl (lv_at hll 2 rfl) ?_
    refine x_callV (d := 4) (idx := 33) (mj := 244) (j := 1) (v := zSb1.getD i 0) (As := [.int (zi (i : Int))]) (rest := []) (I := fun _ _ => 0) (J := fun _ _ => 0) (D := fun _ _ => 0) (P9 := fun o _ _ _ => o = .inl (some (.int (zSb1.getD i 0)))) hC0 hEX hR hS1 hll.1 zd91_55 zk_8_33 zms_244 (by decide +kernel) (by decide) (Nat.le_of_ble_eq_true rfl) (x_244 (d := 0) (k := i) (by decide) (by show i < 148; omega) rfl) (fun _ _ _ _ h => h) rfl hc hs (fun H2 locs2 hS2 ho2 => ?_)
    have hP2 := kept hP1 ho2
    refine lv_istore_n (i := 3) (lv' := [(3, .int (zSb1.getD i 0)), (0, .ref q), (1, .int (zi ((tkN i).1 : Int))), (2, .int (zi (i : Int)))]) hx hb zd91_58 rfl hll (by decide) rfl (fun ls1 h1 => ?_)
    refine lv_iload_n (i := 3) (x := zSb1.getD i 0) hx hb zd91_59 rfl (lv_at h1 0 rfl) ?_
    refine lv_bipush (v := 32) hx hb zd91_60 rfl ?_
    have step : tkN (i + 1) = tkS (zSb1.getD i 0) (tkN i) := rfl
    have up : ∀ (kf : Nat × (Nat → Int64)) (H3 : Heap) (locs3 : List Loc) (ls3 : Array Slot), tkN (i + 1) = kf → va_P G vwCl (wsT ca q a1 a2 a3 a4 kf.2) H3 → va_D A (wsT ca q a1 a2 a3 a4 kf.2) → va_S A s.heap H3 locs3 → lv_has ls3 4 [(1, .int (zi (kf.1 : Int))), (0, .ref q), (2, .int (zi (i : Int)))] → W p l e R s m args below meth c H3 locs3 cells slots Q (F0 m 98 ls3 []) := by
      intro kf H3 locs3 ls3 hkf hP3 hD3 hS3 h3
      refine lv_iinc (k := 2) (v := zi ((i + 1 : Nat) : Int)) (lv' := [(2, .int (zi ((i + 1 : Nat) : Int))), (1, .int (zi (kf.1 : Int))), (0, .ref q)]) hx hb zd91_98 h3 rfl (dg_s i) (by decide) rfl (fun ls4 h4 => ?_)
      refine lv_goto (tgt := 43) hx hb zd91_101 rfl ?_
      rw [← hkf] at hP3 hD3 h4
      refine ih (i + 1) H3 locs3 ls4 (by omega) hP3 hD3 hS3 ⟨h4.1, h4.2.1, fun y hy => h4.2.2 y ?_⟩
      simp only [List.mem_cons, List.not_mem_nil, or_false] at hy ⊢
      rcases hy with h | h | h
      · exact Or.inr (Or.inr h)
      · exact Or.inr (Or.inl h)
      · exact Or.inl h
    refine lv_icmp_ne (tgt := 71) hx hb zd91_62 rfl (fun z => ?_) (fun z => ?_)
    · have hz : ¬ zSb1.getD i 0 = 32 := z
      refine lv_iload_n (i := 1) (x := zi ((tkN i).1 : Int)) hx hb zd91_71 rfl (lv_at h1 2 rfl) ?_
      refine lv_aload_n (i := 0) (x := q) hx hb zd91_72 rfl (lv_at h1 1 rfl) ?_
      obtain ⟨C1, T1, N1, c1, n1, w1⟩ := zf_8_22
      cases c1
      refine va_get hx hb hts zcl_8.2.1 hown hK hP2 0 rfl zcl_8.1 3 n1 (hts _ w1) (fun x h => h) (v := .ref a4) rfl zd91_73 ?_
      refine va_alen hx hb hK hP2 4 1 (x := (32, .inr (.inl (tkN i).2))) rfl (ty := .long) rfl (v := zi 32) rfl zd91_76 ?_
      refine lv_icmp_ge (tgt := 98) hx hb zd91_77 rfl (fun y => ?_) (fun y => ?_)
      · have hy := (zi_le (by omega) (by omega)).mp y
        refine up (tkN i) H2 locs2 ls1 ?_ hP2 hD hS2 ⟨h1.1, h1.2.1, fun y hy => h1.2.2 y ?_⟩
        · rw [step]
          unfold tkS
          rw [if_neg hz, if_neg (by omega)]
        · simp only [List.mem_cons, List.not_mem_nil, or_false] at hy ⊢
          rcases hy with h | h | h
          · exact Or.inr (Or.inr (Or.inl h))
          · exact Or.inr (Or.inl h)
          · exact Or.inr (Or.inr (Or.inr h))
      · have hy : ¬ (32 : Int) ≤ ((tkN i).1 : Int) := fun z9 => y ((zi_le (by omega) (by omega)).mpr z9)
        have hin : vp_in (zi ((tkN i).1 : Int)) 32 := zi_in (by omega) (by omega) (by decide)
        have ec : (zi ((tkN i).1 : Int)).toNatClampNeg = (tkN i).1 := by rw [zi_cl (by omega) (by omega)]; rfl
        refine lv_aload_n (i := 0) (x := q) hx hb zd91_80 rfl (lv_at h1 1 rfl) ?_
        refine va_get hx hb hts zcl_8.2.1 hown hK hP2 0 rfl zcl_8.1 3 n1 (hts _ w1) (fun x h => h) (v := .ref a4) rfl zd91_81 ?_
        refine lv_iload_n (i := 1) (x := zi ((tkN i).1 : Int)) hx hb zd91_84 rfl (lv_at h1 2 rfl) ?_
        refine lv_aload_n (i := 0) (x := q) hx hb zd91_85 rfl (lv_at h1 1 rfl) ?_
        refine va_get hx hb hts zcl_8.2.1 hown hK hP2 0 rfl zcl_8.1 3 n1 (hts _ w1) (fun x h => h) (v := .ref a4) rfl zd91_86 ?_
        refine lv_iload_n (i := 1) (x := zi ((tkN i).1 : Int)) hx hb zd91_89 rfl (lv_at h1 2 rfl) ?_
        refine va_lald hx hb hK hP2 4 1 rfl rfl hin zd91_90 ?_
        rw [ec]
        refine lv_bipush (v := 8) hx hb zd91_91 rfl ?_
        refine lv_lshl hx hb zd91_93 rfl ?_
        refine lv_iload_n (i := 3) (x := zSb1.getD i 0) hx hb zd91_94 rfl (lv_at h1 0 rfl) ?_
        refine lv_i2l hx hb zd91_95 rfl ?_
        refine lv_lor hx hb zd91_96 ?_
        refine va_last hx hb hK hP2 hD hS2 4 1 rfl rfl hin zd91_97 (fun H3 locs3 hP3 hD3 hS3 => ?_)
        rw [ec] at hP3 hD3
        refine up (tkS (zSb1.getD i 0) (tkN i)) H3 locs3 ls1 step ?_ ?_ hS3 ⟨h1.1, h1.2.1, fun y hy => h1.2.2 y ?_⟩
        · unfold tkS
          rw [if_neg hz, if_pos (by omega)]
          exact hP3
        · unfold tkS
          rw [if_neg hz, if_pos (by omega)]
          exact hD3
        · unfold tkS at hy
          rw [if_neg hz, if_pos (by omega)] at hy
          simp only [List.mem_cons, List.not_mem_nil, or_false] at hy ⊢
          rcases hy with h | h | h
          · exact Or.inr (Or.inr (Or.inl h))
          · exact Or.inr (Or.inl h)
          · exact Or.inr (Or.inr (Or.inr h))
    · have hz : zSb1.getD i 0 = 32 := z
      refine lv_iinc (k := 2) (v := zi (((tkN i).1 + 1 : Nat) : Int)) (lv' := [(1, .int (zi (((tkN i).1 + 1 : Nat) : Int))), (3, .int (zSb1.getD i 0)), (0, .ref q), (2, .int (zi (i : Int)))]) hx hb zd91_65 h1 rfl (dg_s _) (by decide) rfl (fun ls4 h4 => ?_)
      refine lv_goto (tgt := 98) hx hb zd91_68 rfl ?_
      refine up ((tkN i).1 + 1, (tkN i).2) H2 locs2 ls4 ?_ hP2 hD hS2 ⟨h4.1, h4.2.1, fun y hy => h4.2.2 y ?_⟩
      · rw [step]
        unfold tkS
        rw [if_pos hz]
      · simp only [List.mem_cons, List.not_mem_nil, or_false] at hy ⊢
        rcases hy with h | h | h
        · exact Or.inl h
        · exact Or.inr (Or.inr (Or.inl h))
        · exact Or.inr (Or.inr (Or.inr h))
end Tk

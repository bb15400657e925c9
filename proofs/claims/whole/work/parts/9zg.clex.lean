/-! ===== the class cuts the tape into tokens ===== -/
/-- a byte as the programs have it: -1 behind the end -/
def lV (c : Nat) : Int32 := if c = 256 then -1 else zi (c : Int)
theorem lV_eq {c n : Nat} {l : Int32} (hl : l = zi (n : Int)) (hc : c ≤ 256) (hn : n ≤ 255) : lV c = l ↔ c = n := by
  unfold lV
  rw [hl]
  by_cases e : c = 256
  · rw [if_pos e, show (-1 : Int32) = zi (-1) from rfl, zi_eq (by omega) (by omega)]
    omega
  · rw [if_neg e, zi_eq (by omega) (by omega)]
    omega
theorem lV_lt {c n : Nat} {l : Int32} (hl : l = zi (n : Int)) (hc : c ≤ 256) (hn : n ≤ 255) : lV c < l ↔ c = 256 ∨ c < n := by
  unfold lV
  rw [hl]
  by_cases e : c = 256
  · rw [if_pos e, show (-1 : Int32) = zi (-1) from rfl, zi_lt (by omega) (by omega)]
    omega
  · rw [if_neg e, zi_lt (by omega) (by omega)]
    omega
theorem lV_gt {c n : Nat} {l : Int32} (hl : l = zi (n : Int)) (hc : c ≤ 256) (hn : n ≤ 255) : l < lV c ↔ ¬ c = 256 ∧ n < c := by
  unfold lV
  rw [hl]
  by_cases e : c = 256
  · rw [if_pos e, show (-1 : Int32) = zi (-1) from rfl, zi_lt (by omega) (by omega)]
    omega
  · rw [if_neg e, zi_lt (by omega) (by omega)]
    omega
theorem lV_ge {c n : Nat} {l : Int32} (hl : l = zi (n : Int)) (hc : c ≤ 256) (hn : n ≤ 255) : l ≤ lV c ↔ ¬ c = 256 ∧ n ≤ c := by
  unfold lV
  rw [hl]
  by_cases e : c = 256
  · rw [if_pos e, show (-1 : Int32) = zi (-1) from rfl, zi_le (by omega) (by omega)]
    omega
  · rw [if_neg e, zi_le (by omega) (by omega)]
    omega
theorem n_104 {I : zI} {J : zJ} {c : Nat} (hc : c ≤ 256) : zv_104 I J (lV c) = 0 ↔ ¬ llt c := by
  unfold zv_104 llt
  by_cases a : lV c < 97
  · rw [if_pos a]
    rw [lV_lt (l := 97) (n := 97) rfl hc (by omega)] at a
    exact ⟨fun _ => by omega, fun _ => rfl⟩
  · rw [if_neg a]
    rw [lV_lt (l := 97) (n := 97) rfl hc (by omega)] at a
    by_cases b : 122 < lV c
    · rw [if_pos b]
      rw [lV_gt (l := 122) (n := 122) rfl hc (by omega)] at b
      exact ⟨fun _ => by omega, fun _ => rfl⟩
    · rw [if_neg b]
      rw [lV_gt (l := 122) (n := 122) rfl hc (by omega)] at b
      exact ⟨fun z => absurd z (by decide), fun z => by omega⟩
theorem n_105 {I : zI} {J : zJ} {c : Nat} (hc : c ≤ 256) : zv_105 I J (lV c) = 0 ↔ ¬ ldg c := by
  unfold zv_105 ldg
  by_cases a : lV c < 48
  · rw [if_pos a]
    rw [lV_lt (l := 48) (n := 48) rfl hc (by omega)] at a
    exact ⟨fun _ => by omega, fun _ => rfl⟩
  · rw [if_neg a]
    rw [lV_lt (l := 48) (n := 48) rfl hc (by omega)] at a
    by_cases b : 57 < lV c
    · rw [if_pos b]
      rw [lV_gt (l := 57) (n := 57) rfl hc (by omega)] at b
      exact ⟨fun _ => by omega, fun _ => rfl⟩
    · rw [if_neg b]
      rw [lV_gt (l := 57) (n := 57) rfl hc (by omega)] at b
      exact ⟨fun z => absurd z (by decide), fun z => by omega⟩
/-- the class's tape, its keywords -/
def tC (S : lTp) (I : zI) : Prop := lTok S ∧ I 1 1 = zi (S.2 : Int) ∧ ∀ a, a < S.2 → I 2 a &&& 255 = zi (S.1 a : Int)
def tKc (J : zJ) : Prop := ∀ i, i < 32 → J 7 i = lKc.getD i 0
theorem tC_fr {S : lTp} {I I' : zI} (h : tC S I) (e1 : I' 1 = I 1) (e2 : I' 2 = I 2) : tC S I' := by
  unfold tC
  rw [e1, e2]
  exact h
/-- a token appended -/
def lA (I : zI) (n o s : Nat) : zI := zu (zu (zu I 4 n (zi (o : Int))) 5 n (zi (s : Int))) 3 4 (zi ((n + 1 : Nat) : Int))
section CLex
variable {RO : zRo} {d : Nat} {P : zP} {I : zI} {J : zJ} {D : zD} {bc bs : Nat} {S : lTp} {a n : Nat}
theorem n_90 (ht : tC S I) (ha : a ≤ 3000) : zv_90 I J (zi (a : Int)) = lV (lB S a) := by
  obtain ⟨⟨h1, h2⟩, h3, h4⟩ := ht
  unfold zv_90
  rw [if_neg (fun z => by rw [zq_l (l := 0) (n := 0) rfl (by omega) (by omega)] at z; omega), h3]
  by_cases c : a < S.2
  · rw [if_neg (fun z => by rw [zi_le (by omega) (by omega)] at z; omega), if_neg (fun z => by rw [zq_p (l := 2000) (n := 2000) rfl (by omega) (by omega)] at z; omega), show (zi (a : Int)).toNatClampNeg = a by rw [zi_cl (by omega) (by omega)]; omega, h4 a c]
    have := h2 a c
    unfold lV lB
    rw [if_pos c, if_neg (by omega)]
  · rw [if_pos (by rw [zi_le (by omega) (by omega)]; omega)]
    unfold lV lB
    rw [if_neg c, if_pos rfl]
theorem c_98_2 (ht : tC S I) {m : Nat} : ∀ {a : Nat}, a ≤ S.2 → S.2 + 1 ≤ a + m → P (.inl (some (.int (zi (lSk S m a : Int))))) I J D → ∀ {l1 : Int32}, zw RO (d + 1) 98 P 2 [(0, .ref 1), (1, .int l1), (2, .int (zi (a : Int)))] [] I J D bc bs := by
  have hN := ht.1.1
  induction m with
  | zero =>
    intro a h1 h2
    omega
  | succ m ih =>
    intro a h1 h2 K l1
    have le := lB_le ht.1 a
    refine wl_98_2 ⟨fun z => ?_, fun z => ?_⟩
    · rw [ht.2.1, zi_le (by omega) (by omega)] at z
      have e := (lB_end ht.1 (a := a)).mpr (by omega)
      unfold lSk at K
      rw [if_neg (by unfold lbk; omega)] at K
      exact K
    · rw [ht.2.1, zi_le (by omega) (by omega)] at z
      rw [n_90 ht (by omega), zi_succ]
      have e32 : lV (lB S a) = 32 ↔ lB S a = 32 := lV_eq (n := 32) rfl le (by omega)
      have e10 : lV (lB S a) = 10 ↔ lB S a = 10 := lV_eq (n := 10) rfl le (by omega)
      unfold lSk at K
      refine ⟨fun y => ?_, fun y => ⟨fun y2 => ?_, fun y2 => ?_⟩⟩
      · rw [if_pos (Or.inl (e32.mp y))] at K
        exact ih (a := a + 1) (by omega) (by omega) K
      · rw [if_neg (fun x => x.elim (fun x => y (e32.mpr x)) (fun x => y2 (e10.mpr x)))] at K
        exact K
      · rw [if_pos (Or.inr (e10.mp (Decidable.not_not.mp y2)))] at K
        exact ih (a := a + 1) (by omega) (by omega) K
theorem c_98 (ht : tC S I) (ha : a ≤ S.2) (K : P (.inl (some (.int (zi (lSk S 2001 a : Int))))) I J D) : zz RO (d + 2) 98 [.ref 1, .int (zi (a : Int))] I J D bc bs P := by
  have hN := ht.1.1
  refine w_98 (d := d) ?_
  exact c_98_2 ht ha (by omega) K
theorem c_97 {o s : Nat} {v : Int64} (hn : I 3 4 = zi (n : Int)) (h9 : n ≤ 450) (K : P (.inl none) (lA I n o s) (zu J 6 n v) D) : zz RO (d + 1) 97 [.ref 3, .int (zi (o : Int)), .int (zi (s : Int)), .long v] I J D bc bs P := by
  refine w_97 (d := d) ?_
  rw [hn, zi_clk (by omega), zi_succ]
  exact ⟨fun z => absurd z (by rw [zq_l (l := 0) (n := 0) rfl (by omega) (by omega)]; omega), fun _ => ⟨fun z => absurd z (by rw [zq_p (l := 451) (n := 451) rfl (by omega) (by omega)]; omega), fun _ => K⟩⟩
theorem c_103_2 {w : Int64} (hk : tKc J) : ∀ {m i : Nat}, i + m = 32 → P (.inl (some (.int (zi ((match lKy lKc w m i with
  | none => 2
  | some i => 4 + i : Nat) : Int))))) I J D → zw RO d 103 P 2 [(0, .ref 3), (1, .long w), (3, .int (zi (i : Int)))] [] I J D bc bs
  | 0, i, hm, K => by
    refine wl_103_2 ⟨fun _ => K, fun z => absurd (by rw [zq_p (l := 32) (n := 32) rfl (by omega) (by omega)]; omega) z⟩
  | m + 1, i, hm, K => by
    refine wl_103_2 ⟨fun z => by rw [zq_p (l := 32) (n := 32) rfl (by omega) (by omega)] at z; omega, fun _ => ⟨zi_in (by omega) (by omega) (by omega), ?_⟩⟩
    rw [zi_clk (by omega), hk i (by omega), zi_succ]
    unfold lKy at K
    refine ⟨fun z => ?_, fun z => ?_⟩
    · rw [if_neg z] at K
      exact c_103_2 hk (m := m) (i := i + 1) (by omega) K
    · rw [if_pos (Decidable.not_not.mp z)] at K
      rw [show (4 : Int32) = zi 4 from rfl, zi_add]
      exact K
theorem c_103 {w : Int64} (hk : tKc J) (K : P (.inl (some (.int (zi (lSw w : Int))))) I J D) : zz RO (d + 1) 103 [.ref 3, .long w] I J D bc bs P := by
  refine w_103 (d := d) ?_
  exact c_103_2 hk (m := 32) (i := 0) rfl K
/-- a word -/
theorem c_100_5 {s : Nat} (ht : tC S I) (hk : tKc J) (hn : I 3 4 = zi (n : Int)) (h9 : n ≤ 450) {m : Nat} : ∀ {a : Nat} {w : Int64}, s ≤ a → a ≤ S.2 → S.2 + 1 ≤ a + m → P (.inl (some (.int (zi ((lWd S m a w).1 : Int))))) (lA I n (if (lWd S m a w).1 - s ≤ 8 then lSw (lWd S m a w).2 else 0) s) (zu J 6 n (lWd S m a w).2) D → zw RO (d + 2) 100 P 5 [(0, .ref 3), (1, .ref 1), (2, .int (zi (s : Int))), (3, .long w), (5, .int (zi (a : Int)))] [] I J D bc bs := by
  have hN := ht.1.1
  induction m with
  | zero =>
    intro a w h0 h1 h2
    omega
  | succ m ih =>
    intro a w h0 h1 h2 K
    have le := lB_le ht.1 a
    have fin : ¬ (llt (lB S a) ∨ ldg (lB S a)) → ((zi (a : Int) - zi (s : Int)) ≤ 8 → (zz RO (d + 2) 103 [.ref 3, .long w] I J D 0 0 (zNi P fun v1 I1 J1 D1 => (zz RO (d + 2) 97 [.ref 3, .int v1, .int (zi (s : Int)), .long w] I1 J1 D1 0 0 (zNv P fun I2 J2 D2 => P (.inl (some (.int (zi (a : Int))))) I2 J2 D2))))) ∧ (¬ ((zi (a : Int) - zi (s : Int)) ≤ 8) → (zz RO (d + 2) 97 [.ref 3, .int 0, .int (zi (s : Int)), .long w] I J D 0 0 (zNv P fun I3 J3 D3 => P (.inl (some (.int (zi (a : Int))))) I3 J3 D3))) := fun c => by
      have es : zi (a : Int) - zi (s : Int) = zi ((a - s : Nat) : Int) := by
        rw [zi_sub]
        congr 1
        omega
      unfold lWd at K
      rw [if_neg c] at K
      have K : P (.inl (some (.int (zi (a : Int))))) (lA I n (if a - s ≤ 8 then lSw w else 0) s) (zu J 6 n w) D := K
      rw [es]
      refine ⟨fun z => ?_, fun z => ?_⟩
      · rw [zq_o (l := 8) (n := 8) rfl (by omega) (by omega)] at z
        rw [if_pos z] at K
        refine c_103 (d := d + 1) hk ?_
        exact c_97 (d := d + 1) hn h9 K
      · rw [zq_o (l := 8) (n := 8) rfl (by omega) (by omega)] at z
        rw [if_neg z] at K
        exact c_97 (d := d + 1) (o := 0) hn h9 K
    have go : (llt (lB S a) ∨ ldg (lB S a)) → zw RO (d + 2) 100 P 5 [(0, .ref 3), (1, .ref 1), (2, .int (zi (s : Int))), (3, .long ((w <<< ((8 : Int32).toInt64 &&& 63)) ||| ((lV (lB S a)).toInt64))), (5, .int (zi (a : Int) + 1))] [] I J D bc bs := fun c => by
      have n256 : ¬ lB S a = 256 := by unfold llt ldg at c; omega
      have l := lB_lt n256
      unfold lWd at K
      rw [if_pos c] at K
      rw [zi_succ, show lV (lB S a) = zi (lB S a : Int) by unfold lV; rw [if_neg n256]]
      exact ih (a := a + 1) (by omega) (by omega) (by omega) K
    have e104 : zv_104 I J (lV (lB S a)) = 0 ↔ ¬ llt (lB S a) := n_104 le
    have e105 : zv_105 I J (lV (lB S a)) = 0 ↔ ¬ ldg (lB S a) := n_105 le
    refine wl_100_5 (d := d + 1) ⟨fun z => ?_, fun z => ?_⟩
    · rw [ht.2.1, zi_le (by omega) (by omega)] at z
      have e := (lB_end ht.1 (a := a)).mpr (by omega)
      exact fin (by unfold llt ldg; omega)
    · rw [n_90 ht (by omega)]
      refine ⟨fun y => ?_, fun y => ⟨fun y2 => ?_, fun y2 => ?_⟩⟩
      · exact go (Or.inl (Decidable.not_not.mp (fun x => y (e104.mpr x))))
      · exact fin (fun x => x.elim (e104.mp (Decidable.not_not.mp y)) (e105.mp y2))
      · exact go (Or.inr (Decidable.not_not.mp (fun x => y2 (e105.mpr x))))
/-- a number -/
theorem c_101_5 {s : Nat} (ht : tC S I) (hn : I 3 4 = zi (n : Int)) (h9 : n ≤ 450) {m : Nat} : ∀ {a : Nat} {w : Int64}, s ≤ a → a ≤ S.2 → S.2 + 1 ≤ a + m → P (.inl (some (.int (zi ((lNm S m a w).1 : Int))))) (lA I n (if (lNm S m a w).1 - s ≤ 4 then 3 else 0) s) (zu J 6 n (lNm S m a w).2) D → zw RO (d + 2) 101 P 5 [(0, .ref 3), (1, .ref 1), (2, .int (zi (s : Int))), (3, .long w), (5, .int (zi (a : Int)))] [] I J D bc bs := by
  have hN := ht.1.1
  induction m with
  | zero =>
    intro a w h0 h1 h2
    omega
  | succ m ih =>
    intro a w h0 h1 h2 K
    have le := lB_le ht.1 a
    have fin : ¬ ldg (lB S a) → ((zi (a : Int) - zi (s : Int)) ≤ 4 → (zz RO (d + 2) 97 [.ref 3, .int 3, .int (zi (s : Int)), .long w] I J D 0 0 (zNv P fun I1 J1 D1 => P (.inl (some (.int (zi (a : Int))))) I1 J1 D1))) ∧ (¬ ((zi (a : Int) - zi (s : Int)) ≤ 4) → (zz RO (d + 2) 97 [.ref 3, .int 0, .int (zi (s : Int)), .long w] I J D 0 0 (zNv P fun I2 J2 D2 => P (.inl (some (.int (zi (a : Int))))) I2 J2 D2))) := fun c => by
      have es : zi (a : Int) - zi (s : Int) = zi ((a - s : Nat) : Int) := by
        rw [zi_sub]
        congr 1
        omega
      unfold lNm at K
      rw [if_neg c] at K
      have K : P (.inl (some (.int (zi (a : Int))))) (lA I n (if a - s ≤ 4 then 3 else 0) s) (zu J 6 n w) D := K
      rw [es]
      refine ⟨fun z => ?_, fun z => ?_⟩
      · rw [zq_o (l := 4) (n := 4) rfl (by omega) (by omega)] at z
        rw [if_pos z] at K
        exact c_97 (d := d + 1) (o := 3) hn h9 K
      · rw [zq_o (l := 4) (n := 4) rfl (by omega) (by omega)] at z
        rw [if_neg z] at K
        exact c_97 (d := d + 1) (o := 0) hn h9 K
    have e105 : zv_105 I J (lV (lB S a)) = 0 ↔ ¬ ldg (lB S a) := n_105 le
    refine wl_101_5 (d := d + 1) ⟨fun z => ?_, fun z => ?_⟩
    · rw [ht.2.1, zi_le (by omega) (by omega)] at z
      have e := (lB_end ht.1 (a := a)).mpr (by omega)
      exact fin (by unfold ldg; omega)
    · rw [n_90 ht (by omega)]
      refine ⟨fun y => fin (e105.mp y), fun y => ?_⟩
      have c : ldg (lB S a) := Decidable.not_not.mp (fun x => y (e105.mpr x))
      have n256 : ¬ lB S a = 256 := by unfold ldg at c; omega
      have l := lB_lt n256
      unfold lNm at K
      rw [if_pos c] at K
      rw [zi_succ, show lV (lB S a) = zi (lB S a : Int) by unfold lV; rw [if_neg n256]]
      exact ih (a := a + 1) (by omega) (by omega) (by omega) K
theorem lSy_of : ∀ c : Nat, c < 256 → ∀ i : Nat, i < 13 → (zSb0.getD i 0 = zi (c : Int) → lSy c = i) := by decide +kernel
theorem lSy_at : ∀ c : Nat, c < 256 → lSy c < 13 → zSb0.getD (lSy c) 0 = zi (c : Int) := by decide +kernel
theorem lCh : ∀ c : Nat, c < 256 → ((zi (c : Int)).toUInt32 % 65536).toInt32 = zi (c : Int) := by decide +kernel
/-- a sign of one byte -/
theorem c_sym {c : Nat} (hc : c < 256) (ha : a ≤ 3000) (hn : I 3 4 = zi (n : Int)) (h9 : n ≤ 450) (K : P (.inl (some (.int (zi ((a + 1 : Nat) : Int))))) (lA I n (if lSy c < 13 then 36 + lSy c else 0) a) (zu J 6 n 0) D) :
    ((0 ≤ lV c → (zz RO (d + 4) 245 [.ref (110 + 0), .int (((lV c).toUInt32 % 65536).toInt32)] I J D 0 0 (zNi P fun v1 I1 J1 D1 => ((0 ≤ v1 → (zz RO (d + 4) 97 [.ref 3, .int (36 + v1), .int (zi (a : Int)), .long 0] I1 J1 D1 0 0 (zNv P fun I2 J2 D2 => P (.inl (some (.int (zi (a : Int) + 1)))) I2 J2 D2))) ∧ (¬ (0 ≤ v1) → (zz RO (d + 4) 97 [.ref 3, .int 0, .int (zi (a : Int)), .long 0] I1 J1 D1 0 0 (zNv P fun I3 J3 D3 => P (.inl (some (.int (zi (a : Int) + 1)))) I3 J3 D3))))))) ∧ (¬ (0 ≤ lV c) → (zz RO (d + 4) 97 [.ref 3, .int 0, .int (zi (a : Int)), .long 0] I J D 0 0 (zNv P fun I4 J4 D4 => P (.inl (some (.int (zi (a : Int) + 1)))) I4 J4 D4)))) := by
  have e : lV c = zi (c : Int) := by
    unfold lV
    rw [if_neg (by omega)]
  rw [e, lCh c hc, zi_succ]
  refine ⟨fun _ => ?_, fun z => absurd (by rw [zq_p (l := 0) (n := 0) rfl (by omega) (by omega)]; omega) z⟩
  refine c_245 (d := d) hc (fun v hv => ?_)
  show _ ∧ _
  rcases hv with ⟨rfl, h2⟩ | ⟨i, h1, rfl, h3⟩
  · have s13 : ¬ lSy c < 13 := fun z => h2 _ z (lSy_at c hc z)
    rw [if_neg s13] at K
    refine ⟨fun z => absurd z (by decide), fun _ => ?_⟩
    exact c_97 (d := d + 3) (o := 0) hn h9 K
  · rw [lSy_of c hc i h1 h3, if_pos h1] at K
    refine ⟨fun _ => ?_, fun z => absurd (by rw [zq_p (l := 0) (n := 0) rfl (by omega) (by omega)]; omega) z⟩
    rw [show (36 : Int32) = zi 36 from rfl, zi_add]
    exact c_97 (d := d + 3) (o := 36 + i) hn h9 K
/-- a sign -/
theorem c_102 (ht : tC S I) (ha : a ≤ S.2) (hb : ¬ lB S a = 256) (hn : I 3 4 = zi (n : Int)) (h9 : n ≤ 450) (K : P (.inl (some (.int (zi ((a + (lSs (lB S a) (lB S (a + 1))).2 : Nat) : Int))))) (lA I n (lSs (lB S a) (lB S (a + 1))).1 a) (zu J 6 n 0) D) : zz RO (d + 5) 102 [.ref 3, .ref 1, .int (zi (a : Int))] I J D bc bs P := by
  have hN := ht.1.1
  have le := lB_le ht.1 a
  have le1 := lB_le ht.1 (a + 1)
  refine w_102 (d := d + 3) ?_
  rw [zi_succ, n_90 ht (by omega), n_90 ht (by omega)]
  generalize lB S a = c at *
  generalize lB S (a + 1) = nx at *
  have e60 : lV c = 60 ↔ c = 60 := lV_eq (n := 60) rfl le (by omega)
  have e62 : lV c = 62 ↔ c = 62 := lV_eq (n := 62) rfl le (by omega)
  have x61 : lV nx = 61 ↔ nx = 61 := lV_eq (n := 61) rfl le1 (by omega)
  have x62 : lV nx = 62 ↔ nx = 62 := lV_eq (n := 62) rfl le1 (by omega)
  have sym : ¬ (c = 60 ∧ nx = 61) → ¬ (c = 60 ∧ nx = 62) → ¬ (c = 62 ∧ nx = 61) → _ := fun q1 q2 q3 => by
    unfold lSs at K
    rw [if_neg q1, if_neg q2, if_neg q3] at K
    exact c_sym (RO := RO) (d := d) (c := c) (by omega) (by omega) hn h9 K
  rw [zi_succ] at sym
  have two : ∀ o : Nat, lSs c nx = (o, 2) → zz RO (d + 4) 97 [.ref 3, .int (zi (o : Int)), .int (zi (a : Int)), .long 0] I J D 0 0 (zNv P fun I9 J9 D9 => P (.inl (some (.int (zi (a : Int) + 2)))) I9 J9 D9) := fun o ho => by
    rw [ho] at K
    refine c_97 (d := d + 3) hn h9 ?_
    show P (.inl (some (.int (zi (a : Int) + 2)))) (lA I n o a) (zu J 6 n 0) D
    rw [show (2 : Int32) = zi 2 from rfl, zi_add]
    exact K
  refine ⟨fun q => ⟨fun p => ?_, fun p => ⟨fun x => ?_, fun x => ?_⟩⟩, fun q => ⟨fun x => ⟨fun y => ⟨fun p => ?_, fun p => ?_⟩, fun y => ?_⟩, fun x => ?_⟩⟩
  · exact sym (fun z => q (e60.mpr z.1)) (fun z => q (e60.mpr z.1)) (fun z => p (e62.mpr z.1))
  · exact sym (fun z => q (e60.mpr z.1)) (fun z => q (e60.mpr z.1)) (fun z => x (x61.mpr z.2))
  · refine two 50 ?_
    unfold lSs
    have c62 := e62.mp (Decidable.not_not.mp p)
    have n61 := x61.mp (Decidable.not_not.mp x)
    rw [if_neg (by omega), if_neg (by omega), if_pos ⟨c62, n61⟩]
  · exact sym (fun z => x (x61.mpr z.2)) (fun z => y (x62.mpr z.2)) (fun z => x (x61.mpr z.2))
  · exact sym (fun z => x (x61.mpr z.2)) (fun z => y (x62.mpr z.2)) (fun z => x (x61.mpr z.2))
  · refine two 51 ?_
    unfold lSs
    have c60 := e60.mp (Decidable.not_not.mp q)
    have n62 := x62.mp (Decidable.not_not.mp y)
    rw [if_neg (by omega), if_pos ⟨c60, n62⟩]
  · refine two 49 ?_
    unfold lSs
    have c60 := e60.mp (Decidable.not_not.mp q)
    have n61 := x61.mp (Decidable.not_not.mp x)
    rw [if_pos ⟨c60, n61⟩]
/-- one token -/
theorem c_99 (ht : tC S I) (hk : tKc J) (ha : a ≤ S.2) (hn : I 3 4 = zi (n : Int)) (h9 : n ≤ 450) (K : P (.inl (some (.int (zi ((lTk S a).2.2 : Int))))) (lA I n (lTk S a).1 a) (zu J 6 n (lTk S a).2.1) D) : zz RO (d + 6) 99 [.ref 3, .ref 1, .int (zi (a : Int))] I J D bc bs P := by
  have hN := ht.1.1
  have le := lB_le ht.1 a
  unfold lTk at K
  refine w_99 (d := d + 4) ?_
  rw [n_90 ht (by omega), ht.2.1]
  have e104 : zv_104 I J (lV (lB S a)) = 0 ↔ ¬ llt (lB S a) := n_104 le
  have e105 : zv_105 I J (lV (lB S a)) = 0 ↔ ¬ ldg (lB S a) := n_105 le
  refine ⟨fun z => ⟨fun y => ⟨fun x => ?_, fun x => ?_⟩, fun y => ?_⟩, fun z => ?_⟩
  · rw [zi_lt (by omega) (by omega)] at z
    have nb : ¬ lB S a = 256 := fun w => by
      have := (lB_end ht.1).mp w
      omega
    rw [if_neg nb, if_neg (e104.mp y), if_neg (e105.mp x)] at K
    exact c_102 (d := d) ht ha nb hn h9 K
  · have dg : ldg (lB S a) := Decidable.not_not.mp (fun w => x (e105.mpr w))
    rw [if_neg (by unfold ldg at dg; omega), if_neg (e104.mp y), if_pos dg] at K
    refine w_101 (d := d + 3) ?_
    exact c_101_5 (d := d + 2) ht hn h9 (Nat.le_refl _) ha (by omega) K
  · have lt : llt (lB S a) := Decidable.not_not.mp (fun w => y (e104.mpr w))
    rw [if_neg (by unfold llt at lt; omega), if_pos lt] at K
    refine w_100 (d := d + 3) ?_
    exact c_100_5 (d := d + 2) ht hk hn h9 (Nat.le_refl _) ha (by omega) K
  · rw [zi_lt (by omega) (by omega)] at z
    rw [if_pos ((lB_end ht.1).mpr (by omega))] at K
    exact c_97 (d := d + 4) (o := 1) hn h9 K
/-- n tokens are there -/
def tT (S : lTp) (n : Nat) (I : zI) (J : zJ) : Prop := I 3 4 = zi (n : Int) ∧ ∀ k, k < n → I 4 k = zi ((lT S).1 k : Int) ∧ I 5 k = zi ((lT S).2.1 k : Int) ∧ J 6 k = (lT S).2.2.1 k
theorem tT_app {o : Nat} {v : Int64} (h : tT S n I J) (ho : o = (lT S).1 n) (hv : v = (lT S).2.2.1 n) : tT S (n + 1) (lA I n o (lSt S n)) (zu J 6 n v) := by
  have r4 : lA I n o (lSt S n) 4 = zu I 4 n (zi (o : Int)) 4 := by
    unfold lA
    rw [zu_row _ _ (by decide : (4 : Nat) ≠ 3), zu_row _ _ (by decide : (4 : Nat) ≠ 5)]
  have r5 : ∀ j, lA I n o (lSt S n) 5 j = if j = n then zi (lSt S n : Int) else I 5 j := fun j => by
    unfold lA
    rw [zu_row _ _ (by decide : (5 : Nat) ≠ 3)]
    by_cases e : j = n
    · rw [if_pos e, e, zu_s]
    · rw [if_neg e, zu_n _ _ (fun z => e z.2), zu_row _ _ (by decide : (5 : Nat) ≠ 4)]
  refine ⟨zu_s _ _ _ _, fun k hk => ?_⟩
  rw [r4, r5]
  by_cases e : k = n
  · rw [e, zu_s, zu_s, if_pos rfl, ho, hv]
    exact ⟨rfl, rfl, rfl⟩
  · rw [zu_n _ _ (fun z => e z.2), if_neg e, zu_n _ _ (fun z => e z.2)]
    exact h.2 k (by omega)
theorem lA_fr {o s : Nat} : zfr [3, 4, 5] I (lA I n o s) := zfr_zu (zfr_zu (zfr_zu (zfr_refl I) _ _ (by simp)) _ _ (by simp)) _ _ (by simp)
theorem c_92_9 {I0 : zI} {J0 : zJ} (hs : lTok S) (ht : tC S I0) (hk : tKc J0) (K : ∀ I' J', zfr [3, 4, 5] I0 I' → zfr [6] J0 J' → tT S (lTn S) I' J' → P (.inl none) I' J' D) : ∀ {m n : Nat} {I : zI} {J : zJ}, n + m = 450 → lCt (lSo S) m n = lTn S → zfr [3, 4, 5] I0 I → zfr [6] J0 J → tT S n I J → zw RO (d + 6) 92 P 9 [(0, .ref 3), (1, .ref 1), (2, .int (zi (lAt S n : Int))), (3, .int (zi (n : Int)))] [] I J D bc bs
  | 0, n, I, J, hm, hc, f, g, hT => by
    have hN := hs.1
    have e450 : n = 450 := by omega
    have hc : n + 1 = lTn S := hc
    have t1 := tC_fr ht (f 1 (by decide)) (f 2 (by decide))
    have st := lSt_in hs n
    refine wl_92_9 (d := d + 5) ⟨fun _ => ?_, fun z => absurd (by rw [zq_p (l := 450) (n := 450) rfl (by omega) (by omega)]; omega) z⟩
    refine c_98 (d := d + 4) t1 (lAt_in hs n) ?_
    show _ ∧ _
    rw [t1.2.1]
    have e1 : lSk S 2001 (lAt S n) = lSt S n := rfl
    rw [e1]
    have vz : (lT S).2.2.1 n = 0 := by
      show (if n = 450 then (0 : Int64) else (lTk S (lSt S n)).2.1) = 0
      rw [if_pos e450]
    have so : (lT S).1 n = if lSt S n < S.2 then 0 else 1 := by
      show (if n < lTn S then (if n = 450 then (if lSt S 450 < S.2 then 0 else 1) else lSo S n) else 0) = _
      rw [if_pos (by omega), if_pos e450, e450]
    refine ⟨fun z => ?_, fun z => ?_⟩
    · rw [zi_le (by omega) (by omega)] at z
      rw [if_neg (by omega)] at so
      refine c_97 (d := d + 5) (o := 1) hT.1 (by omega) ?_
      refine K _ _ (zfr_trans f lA_fr) (zfr_zu g _ _ (by simp)) ?_
      rw [← hc]
      exact tT_app hT so.symm vz.symm
    · rw [zi_le (by omega) (by omega)] at z
      rw [if_pos (by omega)] at so
      refine c_97 (d := d + 5) (o := 0) hT.1 (by omega) ?_
      refine K _ _ (zfr_trans f lA_fr) (zfr_zu g _ _ (by simp)) ?_
      rw [← hc]
      exact tT_app hT so.symm vz.symm
  | m + 1, n, I, J, hm, hc, f, g, hT => by
    have hN := hs.1
    have t1 := tC_fr ht (f 1 (by decide)) (f 2 (by decide))
    have k1 : tKc J := by
      unfold tKc
      rw [g 7 (by decide)]
      exact hk
    have st := lSt_in hs n
    have tk := lTk_in hs st.1.2
    have lnN : n + 1 ≤ lTn S := by
      rw [← hc]
      exact (lCt_in (s := lSo S) (m := m + 1) (n := n)).1.1
    have so : (lTk S (lSt S n)).1 = (lT S).1 n := by
      show _ = (if n < lTn S then (if n = 450 then (if lSt S 450 < S.2 then 0 else 1) else lSo S n) else 0)
      rw [if_pos (by omega), if_neg (by omega)]
      rfl
    have vz : (lTk S (lSt S n)).2.1 = (lT S).2.2.1 n := by
      show _ = (if n = 450 then (0 : Int64) else (lTk S (lSt S n)).2.1)
      rw [if_neg (by omega)]
    refine wl_92_9 (d := d + 5) ⟨fun z => by rw [zq_p (l := 450) (n := 450) rfl (by omega) (by omega)] at z; omega, fun _ => ?_⟩
    refine c_98 (d := d + 4) t1 (lAt_in hs n) ?_
    have e1 : lSk S 2001 (lAt S n) = lSt S n := rfl
    rw [e1]
    refine c_99 (d := d) t1 k1 st.1.2 hT.1 (by omega) ?_
    have hT2 := tT_app hT so vz
    have v93 : zv_93 (lA I n (lTk S (lSt S n)).1 (lSt S n)) (zu J 6 n (lTk S (lSt S n)).2.1) (zi (n : Int)) = zi (lSo S n : Int) := by
      unfold zv_93
      rw [hT2.1, if_neg (fun z => by rw [zq_l (l := 0) (n := 0) rfl (by omega) (by omega)] at z; omega), if_neg (fun z => by rw [zi_le (by omega) (by omega)] at z; omega), if_neg (fun z => by rw [zq_p (l := 451) (n := 451) rfl (by omega) (by omega)] at z; omega), zi_clk (by omega), (hT2.2 n (by omega)).1, ← so]
      rfl
    have lo : lSo S n ≤ 51 := by
      have := tk.1
      show (lTk S (lSt S n)).1 ≤ 51
      omega
    show _ ∧ _
    rw [v93, zi_succ]
    have fr2 := zfr_trans f (lA_fr (I := I) (n := n) (o := (lTk S (lSt S n)).1) (s := lSt S n))
    have gr2 : zfr [6] J0 (zu J 6 n (lTk S (lSt S n)).2.1) := zfr_zu g _ _ (by simp)
    unfold lCt at hc
    refine ⟨fun z => ?_, fun z => ?_⟩
    · rw [zq_g (l := 1) (n := 1) rfl (by omega) (by omega)] at z
      rw [if_neg (by omega)] at hc
      exact c_92_9 hs ht hk K (m := m) (n := n + 1) (by omega) hc fr2 gr2 hT2
    · rw [zq_g (l := 1) (n := 1) rfl (by omega) (by omega)] at z
      rw [if_pos (by omega)] at hc
      rw [hc] at hT2
      exact K _ _ fr2 gr2 hT2
/-- all tokens of the tape -/
theorem c_92 (ht : tC S I) (hk : tKc J) (K : ∀ I' J', zfr [3, 4, 5] I I' → zfr [6] J J' → qTc (lT S) I' → (∀ k, k < (lT S).2.2.2 → J' 6 k = (lT S).2.2.1 k) → P (.inl none) I' J' D) : zz RO (d + 7) 92 [.ref 3, .ref 1] I J D bc bs P := by
  refine w_92 (d := d + 5) ?_
  have f : zfr [3, 4, 5] I (zu I 3 4 0) := zfr_zu (zfr_refl I) _ _ (by simp)
  refine c_92_9 (d := d) (S := S) (I0 := I) (J0 := J) ht.1 ht hk (fun I' J' f1 g1 h => ?_) (m := 450) (n := 0) rfl rfl f (zfr_refl _) ⟨zu_s _ _ _ _, fun k hk => by omega⟩
  exact K I' J' f1 g1 ⟨h.1, fun k hk => ⟨(h.2 k hk).1, (h.2 k hk).2.1⟩⟩ (fun k hk => (h.2 k hk).2.2)
end CLex

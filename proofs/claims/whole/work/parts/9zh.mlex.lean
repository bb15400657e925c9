/-! ===== the reference cuts the tape into tokens ===== -/
def tM (S : lTp) (I : zI) : Prop := lTok S ∧ I 28 3 = zi (S.2 : Int) ∧ ∀ a, a < S.2 → I 30 a = zi (S.1 a : Int)
def tKm (J : zJ) : Prop := ∀ i, i < 32 → J 29 i = lKm.getD i 0
/-- a token noted -/
def mNt (I : zI) (n k s : Nat) : zI := zu (zu (zu I 31 n (zi (k : Int))) 32 n (zi (s : Int))) 28 4 (zi ((n + 1 : Nat) : Int))
/-- the kind that is noted -/
def mKd (n k : Nat) : Nat := if n = 450 ∧ ¬ k = 202 then 203 else k
theorem n_142 {I : zI} {J : zJ} {c : Nat} (hc : c ≤ 256) : zv_142 I J (lV c) = 0 ↔ ¬ llt c := by
  have h : ∀ x : Int, (-1 ≤ x ∧ x ≤ 256) → zv_142 I J (zi x) = if 97 ≤ x ∧ x ≤ 122 then 1 else 0 := fun x hx => n_136 (a := x) (lo := 97) (hi := 122) (by omega) (by omega) (by omega)
  unfold lV llt
  by_cases e : c = 256
  · rw [if_pos e, show (-1 : Int32) = zi (-1) from rfl, h _ (by omega), if_neg (by omega)]
    exact ⟨fun _ => by omega, fun _ => rfl⟩
  · rw [if_neg e, h _ (by omega)]
    by_cases y : (97 : Int) ≤ (c : Int) ∧ (c : Int) ≤ 122
    · rw [if_pos y]
      exact ⟨fun z => absurd z (by decide), fun z => by omega⟩
    · rw [if_neg y]
      exact ⟨fun _ => by omega, fun _ => rfl⟩
theorem n_143 {I : zI} {J : zJ} {c : Nat} (hc : c ≤ 256) : zv_143 I J (lV c) = 0 ↔ ¬ ldg c := by
  have h : ∀ x : Int, (-1 ≤ x ∧ x ≤ 256) → zv_143 I J (zi x) = if 48 ≤ x ∧ x ≤ 57 then 1 else 0 := fun x hx => n_136 (a := x) (lo := 48) (hi := 57) (by omega) (by omega) (by omega)
  unfold lV ldg
  by_cases e : c = 256
  · rw [if_pos e, show (-1 : Int32) = zi (-1) from rfl, h _ (by omega), if_neg (by omega)]
    exact ⟨fun _ => by omega, fun _ => rfl⟩
  · rw [if_neg e, h _ (by omega)]
    by_cases y : (48 : Int) ≤ (c : Int) ∧ (c : Int) ≤ 57
    · rw [if_pos y]
      exact ⟨fun z => absurd z (by decide), fun z => by omega⟩
    · rw [if_neg y]
      exact ⟨fun _ => by omega, fun _ => rfl⟩
section MLex
variable {RO : zRo} {d : Nat} {P : zP} {I : zI} {J : zJ} {D : zD} {bc bs : Nat} {S : lTp} {a n : Nat}
theorem n_141 (ht : tM S I) (ha : a ≤ 3000) : zv_141 I J (zi (a : Int)) = lV (lB S a) ∧ zo_141 I J (zi (a : Int)) := by
  obtain ⟨⟨h1, h2⟩, h3, h4⟩ := ht
  unfold zv_141 zo_141
  rw [h3]
  by_cases c : a < S.2
  · have lt : ¬ zi (S.2 : Int) ≤ zi (a : Int) := by
      rw [zi_le (by omega) (by omega)]
      omega
    refine ⟨?_, fun z => absurd z lt, fun _ => ⟨zi_in (by omega) (by omega) (by omega), trivial⟩⟩
    rw [if_neg lt, show (zi (a : Int)).toNatClampNeg = a by rw [zi_cl (by omega) (by omega)]; omega, h4 a c]
    have := h2 a c
    unfold lV lB
    rw [if_pos c, if_neg (by omega)]
  · have le : zi (S.2 : Int) ≤ zi (a : Int) := by
      rw [zi_le (by omega) (by omega)]
      omega
    refine ⟨?_, fun _ => trivial, fun z => absurd le z⟩
    rw [if_pos le]
    unfold lV lB
    rw [if_neg c, if_pos rfl]
theorem m_144 {k s : Nat} {v : Int64} (hn : I 28 4 = zi (n : Int)) (h9 : n ≤ 450) (hk : k ≤ 1000) (K : P (.inl none) (mNt I n (mKd n k) s) (zu J 33 n v) D) : zz RO (d + 1) 144 [.ref 28, .int (zi (k : Int)), .int (zi (s : Int)), .long v] I J D bc bs P := by
  have vi : vp_in (zi (n : Int)) 452 := zi_in (by omega) (by omega) (by omega)
  have e450 : zi (n : Int) = 450 ↔ n = 450 := zq_e (l := 450) (n := 450) rfl (by omega) (by omega)
  have e202 : zi (k : Int) = 202 ↔ k = 202 := zq_e (l := 202) (n := 202) rfl (by omega) (by omega)
  unfold mKd at K
  refine w_144 (d := d) ?_
  rw [hn, zi_clk (by omega), zi_succ]
  refine ⟨fun z => ⟨vi, vi, vi, ?_⟩, fun z => ⟨fun y => ⟨vi, vi, vi, ?_⟩, fun y => ⟨vi, vi, vi, ?_⟩⟩⟩
  · rw [if_neg (fun x => z (e450.mpr x.1))] at K
    exact K
  · rw [if_neg (fun x => x.2 (e202.mp y))] at K
    exact K
  · rw [if_pos ⟨e450.mp (Decidable.not_not.mp z), fun x => y (e202.mpr x)⟩] at K
    exact K
theorem m_137_3 {w : Int64} (hk : tKm J) : ∀ {m i : Nat}, i + m = 32 → P (.inl (some (.int (oInt (lKy lKm w m i))))) I J D → zw RO d 137 P 3 [(0, .ref 29), (1, .int 32), (2, .long w), (4, .int (zi (i : Int)))] [] I J D bc bs
  | 0, i, hm, K => by
    refine wl_137a_3 ⟨fun _ => K, fun z => absurd (by rw [zq_p (l := 32) (n := 32) rfl (by omega) (by omega)]; omega) z⟩
  | m + 1, i, hm, K => by
    refine wl_137a_3 ⟨fun z => by rw [zq_p (l := 32) (n := 32) rfl (by omega) (by omega)] at z; omega, fun _ => ⟨zi_in (by omega) (by omega) (by omega), ?_⟩⟩
    rw [zi_clk (by omega), hk i (by omega), zi_succ]
    unfold lKy at K
    refine ⟨fun z => ?_, fun z => ?_⟩
    · rw [if_neg z] at K
      exact m_137_3 hk (m := m) (i := i + 1) (by omega) K
    · rw [if_pos (Decidable.not_not.mp z)] at K
      exact K
theorem m_137 {w : Int64} (hk : tKm J) (K : P (.inl (some (.int (oInt (lKy lKm w 32 0))))) I J D) : zz RO (d + 1) 137 [.ref 29, .int 32, .long w] I J D bc bs P := by
  refine w_137a (d := d) ?_
  exact m_137_3 hk (m := 32) (i := 0) rfl K
/-- what a token at s owes: kind and value are noted, reading goes on behind it -/
def mTk (RO : zRo) (d : Nat) (P : zP) (D : zD) (bc bs : Nat) (I : zI) (J : zJ) (n s o e : Nat) (w : Int64) : Prop := ∀ v : Int64, (o = 2 ∨ o = 3 → v = w) → zw RO d 145 P 7 [(0, .ref 28), (1, .int (zi (e : Int)))] [] (mNt I n (mKd n (qkm o)) s) (zu J 33 n v) D bc bs
theorem m_95 {s : Nat} (ht : tM S I) (hk : tKm J) (hn : I 28 4 = zi (n : Int)) (h9 : n ≤ 450) {m : Nat} : ∀ {a : Nat} {w : Int64}, s ≤ a → a ≤ S.2 → S.2 + 1 ≤ a + m → mTk RO (d + 3) P D bc bs I J n s (if (lWd S m a w).1 - s ≤ 8 then lSw (lWd S m a w).2 else 0) (lWd S m a w).1 (lWd S m a w).2 → ∀ {l2 : Int32}, zw RO (d + 3) 145 P 95 [(0, .ref 28), (1, .int (zi (a : Int))), (2, .int l2), (3, .int (zi (s : Int))), (4, .long w)] [] I J D bc bs := by
  have hN := ht.1.1
  induction m with
  | zero =>
    intro a w h0 h1 h2
    omega
  | succ m ih =>
    intro a w h0 h1 h2 K l2
    have le := lB_le ht.1 a
    obtain ⟨v141, o141⟩ := n_141 (J := J) ht (a := a) (by omega)
    have e142 : zv_142 I J (lV (lB S a)) = 0 ↔ ¬ llt (lB S a) := n_142 le
    have e143 : zv_143 I J (lV (lB S a)) = 0 ↔ ¬ ldg (lB S a) := n_143 le
    have go : (llt (lB S a) ∨ ldg (lB S a)) → zw RO (d + 3) 145 P 95 [(0, .ref 28), (1, .int (zi (a : Int) + 1)), (2, .int l2), (3, .int (zi (s : Int))), (4, .long ((w <<< ((8 : Int32).toInt64 &&& 63)) ||| ((lV (lB S a)).toInt64)))] [] I J D bc bs := fun c => by
      have n256 : ¬ lB S a = 256 := by unfold llt ldg at c; omega
      have l := lB_lt n256
      unfold lWd at K
      rw [if_pos c] at K
      rw [zi_succ, show lV (lB S a) = zi (lB S a : Int) by unfold lV; rw [if_neg n256]]
      exact ih (a := a + 1) (by omega) (by omega) (by omega) K
    refine wl_145_95 (d := d + 1) ?_
    rw [v141]
    refine ⟨o141, fun y => ⟨o141, go (Or.inl (Decidable.not_not.mp (fun x => y (e142.mpr x))))⟩, fun y => ⟨o141, fun y2 => ?_, fun y2 => ⟨o141, go (Or.inr (Decidable.not_not.mp (fun x => y2 (e143.mpr x))))⟩⟩⟩
    have c : ¬ (llt (lB S a) ∨ ldg (lB S a)) := fun x => x.elim (e142.mp (Decidable.not_not.mp y)) (e143.mp y2)
    unfold lWd at K
    rw [if_neg c] at K
    have K : mTk RO (d + 3) P D bc bs I J n s (if a - s ≤ 8 then lSw w else 0) a w := K
    have es : zi (a : Int) - zi (s : Int) = zi ((a - s : Nat) : Int) := by
      rw [zi_sub]
      congr 1
      omega
    refine m_137 (d := d + 2) hk ?_
    show _ ∧ _
    rw [es]
    refine ⟨fun z => ?_, fun z => ?_⟩
    · rw [zq_o (l := 8) (n := 8) rfl (by omega) (by omega)] at z
      rw [if_pos z] at K
      have sw := lSw_m w
      cases hq : lKy lKm w 32 0 with
      | none =>
        rw [hq] at sw
        have sw : 200 = qkm (lSw w) := sw
        refine ⟨fun x => absurd rfl x, fun _ => ?_⟩
        refine m_144 (d := d + 2) (k := 200) hn h9 (by omega) ?_
        rw [sw]
        exact K w (fun _ => rfl)
      | some j =>
        rw [hq] at sw
        have sw : j = qkm (lSw w) := sw
        have j32 := (lKy_some hq).1
        show (¬ zi (j : Int) = -1 → zz RO (d + 3) 144 [.ref 28, .int (zi (j : Int)), .int (zi (s : Int)), .long w] I J D 0 0 _) ∧ (¬ ¬ zi (j : Int) = -1 → _)
        refine ⟨fun _ => ?_, fun x => absurd (fun y => ?_) x⟩
        · refine m_144 (d := d + 2) (k := j) hn h9 (by omega) ?_
          rw [sw]
          exact K w (fun _ => rfl)
        · rw [show (-1 : Int32) = zi (-1) from rfl, zi_eq (by omega) (by omega)] at y
          omega
    · rw [zq_o (l := 8) (n := 8) rfl (by omega) (by omega)] at z
      rw [if_neg z] at K
      refine m_144 (d := d + 2) (k := 203) hn h9 (by omega) ?_
      exact K w (fun _ => rfl)
theorem lNm_st (w : Int64) {c : Nat} (hc : ldg c) : ((10 * w) + (zi (c : Int)).toInt64) - 48 = w * 10 + (zi (c : Int) - 48).toInt64 := by
  unfold ldg at hc
  rw [show (48 : Int32) = zi 48 from rfl, zi_sub, zi_L (by omega) (by omega), zi_L (by omega) (by omega), Int64.ofInt_sub, Int64.mul_comm, show (48 : Int64) = Int64.ofInt 48 from rfl, Int64.sub_eq_add_neg, Int64.sub_eq_add_neg, Int64.add_assoc]
theorem m_195 {s : Nat} (ht : tM S I) (hn : I 28 4 = zi (n : Int)) (h9 : n ≤ 450) {m : Nat} : ∀ {a : Nat} {w w9 : Int64}, s ≤ a → a ≤ S.2 → S.2 + 1 ≤ a + m → (a - s ≤ 4 → w9 = w) → mTk RO (d + 3) P D bc bs I J n s (if (lNm S m a w).1 - s ≤ 4 then 3 else 0) (lNm S m a w).1 (lNm S m a w).2 → ∀ {l2 : Int32}, zw RO (d + 3) 145 P 195 [(0, .ref 28), (1, .int (zi (a : Int))), (2, .int l2), (3, .int (zi (s : Int))), (4, .long w9)] [] I J D bc bs := by
  have hN := ht.1.1
  induction m with
  | zero =>
    intro a w w9 h0 h1 h2
    omega
  | succ m ih =>
    intro a w w9 h0 h1 h2 hw K l2
    have le := lB_le ht.1 a
    obtain ⟨v141, o141⟩ := n_141 (J := J) ht (a := a) (by omega)
    have e143 : zv_143 I J (lV (lB S a)) = 0 ↔ ¬ ldg (lB S a) := n_143 le
    have es : zi (a : Int) - zi (s : Int) = zi ((a - s : Nat) : Int) := by
      rw [zi_sub]
      congr 1
      omega
    refine wl_145_195 (d := d + 1) ?_
    rw [v141, es, zi_succ]
    refine ⟨o141, fun y => ?_, fun y => ?_⟩
    · have c := e143.mp y
      unfold lNm at K
      rw [if_neg c] at K
      have K : mTk RO (d + 3) P D bc bs I J n s (if a - s ≤ 4 then 3 else 0) a w := K
      refine ⟨fun z => ?_, fun z => ?_⟩
      · rw [zq_o (l := 4) (n := 4) rfl (by omega) (by omega)] at z
        rw [if_pos z] at K
        refine m_144 (d := d + 2) (k := 201) hn h9 (by omega) ?_
        exact K w9 (fun _ => hw z)
      · rw [zq_o (l := 4) (n := 4) rfl (by omega) (by omega)] at z
        rw [if_neg z] at K
        refine m_144 (d := d + 2) (k := 203) hn h9 (by omega) ?_
        exact K w9 (fun x => by omega)
    · have c : ldg (lB S a) := Decidable.not_not.mp (fun x => y (e143.mpr x))
      have n256 : ¬ lB S a = 256 := by unfold ldg at c; omega
      have l := lB_lt n256
      unfold lNm at K
      rw [if_pos c] at K
      refine ⟨fun z => ?_, fun z => ⟨o141, ?_⟩⟩
      · rw [zq_p (l := 4) (n := 4) rfl (by omega) (by omega)] at z
        exact ih (a := a + 1) (by omega) (by omega) (by omega) (fun x => by omega) K
      · rw [zq_p (l := 4) (n := 4) rfl (by omega) (by omega)] at z
        refine ih (a := a + 1) (by omega) (by omega) (by omega) (fun x => ?_) K
        rw [hw (by omega), show lV (lB S a) = zi (lB S a : Int) by unfold lV; rw [if_neg n256], lNm_st w c]
theorem m_sym {c : Nat} (hc : c < 256) (ha : a ≤ 3000) (hn : I 28 4 = zi (n : Int)) (h9 : n ≤ 450) (K : P (.inl (some (.int (zi ((a + 1 : Nat) : Int))))) (mNt I n (mKd n (qkm (if lSy c < 13 then 36 + lSy c else 0))) a) (zu J 33 n 0) D) :
    zz RO (d + 4) 245 [.ref (110 + 0), .int (lV c)] I J D 0 0 (zNi P fun v1 I1 J1 D1 => ((0 ≤ v1 → (zz RO (d + 4) 144 [.ref 28, .int (100 + v1), .int (zi (a : Int)), .long 0] I1 J1 D1 0 0 (zNv P fun I2 J2 D2 => P (.inl (some (.int (zi (a : Int) + 1)))) I2 J2 D2))) ∧ (¬ (0 ≤ v1) → (zz RO (d + 4) 144 [.ref 28, .int 203, .int (zi (a : Int)), .long 0] I1 J1 D1 0 0 (zNv P fun I3 J3 D3 => P (.inl (some (.int (zi (a : Int) + 1)))) I3 J3 D3))))) := by
  have e : lV c = zi (c : Int) := by
    unfold lV
    rw [if_neg (by omega)]
  rw [e, zi_succ]
  refine c_245 (d := d) hc (fun v hv => ?_)
  show _ ∧ _
  rcases hv with ⟨rfl, h2⟩ | ⟨i, h1, rfl, h3⟩
  · have s13 : ¬ lSy c < 13 := fun z => h2 _ z (lSy_at c hc z)
    rw [if_neg s13] at K
    refine ⟨fun z => absurd z (by decide), fun _ => ?_⟩
    exact m_144 (d := d + 3) (k := 203) hn h9 (by omega) K
  · rw [lSy_of c hc i h1 h3, if_pos h1] at K
    refine ⟨fun _ => ?_, fun z => absurd (by rw [zq_p (l := 0) (n := 0) rfl (by omega) (by omega)]; omega) z⟩
    have ek : qkm (36 + i) = 100 + i := by
      unfold qkm
      rw [if_neg (by omega), if_neg (by omega), if_neg (by omega), if_neg (by omega), if_neg (by omega), if_neg (by omega), if_neg (by omega), if_neg (by omega), if_neg (by omega), if_neg (by omega)]
      omega
    rw [ek] at K
    rw [show (100 : Int32) = zi 100 from rfl, zi_add]
    exact m_144 (d := d + 3) (k := 100 + i) hn h9 (by omega) K
theorem m_146 (ht : tM S I) (ha : a ≤ S.2) (hb : ¬ lB S a = 256) (hn : I 28 4 = zi (n : Int)) (h9 : n ≤ 450) (K : P (.inl (some (.int (zi ((a + (lSs (lB S a) (lB S (a + 1))).2 : Nat) : Int))))) (mNt I n (mKd n (qkm (lSs (lB S a) (lB S (a + 1))).1)) a) (zu J 33 n 0) D) : zz RO (d + 5) 146 [.ref 28, .int (zi (a : Int))] I J D bc bs P := by
  have hN := ht.1.1
  have le := lB_le ht.1 a
  have le1 := lB_le ht.1 (a + 1)
  obtain ⟨v0, o0⟩ := n_141 (J := J) ht (a := a) (by omega)
  obtain ⟨v1, o1⟩ := n_141 (J := J) ht (a := a + 1) (by omega)
  refine w_146 (d := d + 3) ?_
  rw [zi_succ, v0, v1]
  refine ⟨o0, o1, ?_⟩
  clear o0 o1 v0 v1
  generalize lB S a = c at *
  generalize lB S (a + 1) = nx at *
  have e60 : lV c = 60 ↔ c = 60 := lV_eq (n := 60) rfl le (by omega)
  have e62 : lV c = 62 ↔ c = 62 := lV_eq (n := 62) rfl le (by omega)
  have x61 : lV nx = 61 ↔ nx = 61 := lV_eq (n := 61) rfl le1 (by omega)
  have x62 : lV nx = 62 ↔ nx = 62 := lV_eq (n := 62) rfl le1 (by omega)
  have sym : ¬ (c = 60 ∧ nx = 61) → ¬ (c = 60 ∧ nx = 62) → ¬ (c = 62 ∧ nx = 61) → _ := fun q1 q2 q3 => by
    unfold lSs at K
    rw [if_neg q1, if_neg q2, if_neg q3] at K
    exact m_sym (RO := RO) (d := d) (c := c) (by omega) (by omega) hn h9 K
  rw [zi_succ] at sym
  have two : ∀ o : Nat, o ≤ 51 → lSs c nx = (o, 2) → zz RO (d + 4) 245 [.ref (110 + 0), .int (lV c)] I J D 0 0 (zNi P fun v7 I7 J7 D7 => (zz RO (d + 4) 144 [.ref 28, .int (zi (qkm o : Int)), .int (zi (a : Int)), .long 0] I7 J7 D7 0 0 (zNv P fun I9 J9 D9 => P (.inl (some (.int (zi (a : Int) + 2)))) I9 J9 D9))) := fun o ho9 ho => by
    rw [ho] at K
    rw [show lV c = zi (c : Int) by unfold lV; rw [if_neg hb]]
    refine c_245 (d := d) (by omega) (fun v _ => ?_)
    refine m_144 (d := d + 3) hn h9 (by have := qkm_le ho9; omega) ?_
    show P (.inl (some (.int (zi (a : Int) + 2)))) (mNt I n (mKd n (qkm o)) a) (zu J 33 n 0) D
    rw [show (2 : Int32) = zi 2 from rfl, zi_add]
    exact K
  have t51 : c = 60 → nx = 62 → _ := fun c60 n62 => two 51 (by omega) (by
    unfold lSs
    rw [if_neg (by omega), if_pos ⟨c60, n62⟩])
  refine ⟨fun q => ⟨fun p => ?_, fun p => ⟨fun x => ?_, fun x => ?_⟩⟩, fun q => ⟨fun x => ⟨fun p => ⟨fun y => ?_, fun y => ?_⟩, fun p => ⟨fun y => ?_, fun y => ?_⟩⟩, fun x => ?_⟩⟩
  · exact sym (fun z => q (e60.mpr z.1)) (fun z => q (e60.mpr z.1)) (fun z => p (e62.mpr z.1))
  · exact sym (fun z => q (e60.mpr z.1)) (fun z => q (e60.mpr z.1)) (fun z => x (x61.mpr z.2))
  · refine two 50 (by omega) ?_
    unfold lSs
    have c62 := e62.mp (Decidable.not_not.mp p)
    have n61 := x61.mp (Decidable.not_not.mp x)
    rw [if_neg (by omega), if_neg (by omega), if_pos ⟨c62, n61⟩]
  · exact sym (fun z => x (x61.mpr z.2)) (fun z => y (x62.mpr z.2)) (fun z => x (x61.mpr z.2))
  · exact t51 (e60.mp (Decidable.not_not.mp q)) (x62.mp (Decidable.not_not.mp y))
  · exact sym (fun z => x (x61.mpr z.2)) (fun z => y (x62.mpr z.2)) (fun z => x (x61.mpr z.2))
  · exact t51 (e60.mp (Decidable.not_not.mp q)) (x62.mp (Decidable.not_not.mp y))
  · refine two 49 (by omega) ?_
    unfold lSs
    have c60 := e60.mp (Decidable.not_not.mp q)
    have n61 := x61.mp (Decidable.not_not.mp x)
    rw [if_pos ⟨c60, n61⟩]
/-- blanks, then a token -/
theorem m_31 (ht : tM S I) (hk : tKm J) (hn : I 28 4 = zi (n : Int)) (h9 : n ≤ 450) {m : Nat} : ∀ {a : Nat}, a ≤ S.2 → S.2 + 1 ≤ a + m → mTk RO (d + 6) P D bc bs I J n (lSk S m a) (lTk S (lSk S m a)).1 (lTk S (lSk S m a)).2.2 (lTk S (lSk S m a)).2.1 → zw RO (d + 6) 145 P 31 [(0, .ref 28), (1, .int (zi (a : Int)))] [] I J D bc bs := by
  have hN := ht.1.1
  induction m with
  | zero =>
    intro a h1 h2
    omega
  | succ m ih =>
    intro a h1 h2 K
    have le := lB_le ht.1 a
    obtain ⟨v141, o141⟩ := n_141 (J := J) ht (a := a) (by omega)
    have e142 : zv_142 I J (lV (lB S a)) = 0 ↔ ¬ llt (lB S a) := n_142 le
    have e143 : zv_143 I J (lV (lB S a)) = 0 ↔ ¬ ldg (lB S a) := n_143 le
    have e32 : lV (lB S a) = 32 ↔ lB S a = 32 := lV_eq (n := 32) rfl le (by omega)
    have e10 : lV (lB S a) = 10 ↔ lB S a = 10 := lV_eq (n := 10) rfl le (by omega)
    have em : lV (lB S a) = -1 ↔ lB S a = 256 := by
      unfold lV
      by_cases e : lB S a = 256
      · rw [if_pos e]
        exact ⟨fun _ => e, fun _ => rfl⟩
      · rw [if_neg e, show (-1 : Int32) = zi (-1) from rfl, zi_eq (by omega) (by omega)]
        omega
    unfold lSk at K
    refine wl_145_31 (d := d + 4) ?_
    rw [v141, zi_succ]
    have skip : lbk (lB S a) → zw RO (d + 6) 145 P 31 [(0, .ref 28), (1, .int (zi ((a + 1 : Nat) : Int)))] [] I J D bc bs := fun c => by
      have l := lB_lt (S := S) (a := a) (by unfold lbk at c; omega)
      rw [if_pos c] at K
      exact ih (a := a + 1) (by omega) (by omega) K
    refine ⟨o141, fun y => skip (Or.inl (e32.mp y)), fun y => ⟨o141, fun y2 => ⟨o141, fun y3 => ?_, fun y3 => ?_⟩, fun y2 => skip (Or.inr (e10.mp (Decidable.not_not.mp y2)))⟩⟩
    · have nb : ¬ lbk (lB S a) := fun x => x.elim (fun x => y (e32.mpr x)) (fun x => y2 (e10.mpr x))
      have n256 : ¬ lB S a = 256 := fun x => y3 (em.mpr x)
      rw [if_neg nb] at K
      unfold lTk at K
      rw [if_neg n256] at K
      refine ⟨fun x => ⟨fun x2 => ?_, fun x2 => ?_⟩, fun x => ?_⟩
      · rw [if_neg (e142.mp x), if_neg (e143.mp x2)] at K
        refine m_146 (d := d + 1) ht h1 n256 hn h9 ?_
        exact K 0 (fun _ => rfl)
      · have dg : ldg (lB S a) := Decidable.not_not.mp (fun w => x2 (e143.mpr w))
        rw [if_neg (e142.mp x), if_pos dg] at K
        exact m_195 (d := d + 3) ht hn h9 (m := 2001) (Nat.le_refl _) h1 (by omega) (fun _ => rfl) K
      · have lt : llt (lB S a) := Decidable.not_not.mp (fun w => x (e142.mpr w))
        rw [if_pos lt] at K
        exact m_95 (d := d + 3) ht hk hn h9 (m := 2001) (Nat.le_refl _) h1 (by omega) K
    · have c256 : lB S a = 256 := em.mp (Decidable.not_not.mp y3)
      have es := (lB_end ht.1).mp c256
      rw [if_neg (by unfold lbk; omega)] at K
      unfold lTk at K
      rw [if_pos c256] at K
      rw [ht.2.1, show S.2 = a by omega]
      refine m_144 (d := d + 5) (k := 202) hn h9 (by omega) ?_
      exact K 0 (fun _ => rfl)
/-- n tokens are noted -/
def tR (S : lTp) (n : Nat) (I : zI) (J : zJ) : Prop := I 28 4 = zi (n : Int) ∧ ∀ k, k < n → I 31 k = zi (qkm ((lT S).1 k) : Int) ∧ I 32 k = zi ((lT S).2.1 k : Int) ∧ ((lT S).1 k = 2 ∨ (lT S).1 k = 3 → J 33 k = (lT S).2.2.1 k)
theorem mNt_fr {k s : Nat} : zfm [4] [31, 32] I (mNt I n k s) := zfm_z (zfm_zu (zfm_zu (zfm_refl I) _ _ (by simp) (by decide)) _ _ (by simp) (by decide)) _ _ (by simp)
theorem tR_app {k : Nat} {v : Int64} (h : tR S n I J) (hk : k = qkm ((lT S).1 n)) (hv : (lT S).1 n = 2 ∨ (lT S).1 n = 3 → v = (lT S).2.2.1 n) : tR S (n + 1) (mNt I n k (lSt S n)) (zu J 33 n v) := by
  have r4 : mNt I n k (lSt S n) 31 = zu I 31 n (zi (k : Int)) 31 := by
    unfold mNt
    rw [zu_row _ _ (by decide : (31 : Nat) ≠ 28), zu_row _ _ (by decide : (31 : Nat) ≠ 32)]
  have r5 : ∀ j, mNt I n k (lSt S n) 32 j = if j = n then zi (lSt S n : Int) else I 32 j := fun j => by
    unfold mNt
    rw [zu_row _ _ (by decide : (32 : Nat) ≠ 28)]
    by_cases e : j = n
    · rw [if_pos e, e, zu_s]
    · rw [if_neg e, zu_n _ _ (fun z => e z.2), zu_row _ _ (by decide : (32 : Nat) ≠ 31)]
  refine ⟨zu_s _ _ _ _, fun j hj => ?_⟩
  rw [r4, r5]
  by_cases e : j = n
  · rw [e, zu_s, zu_s, if_pos rfl, hk]
    exact ⟨rfl, rfl, hv⟩
  · rw [zu_n _ _ (fun z => e z.2), if_neg e, zu_n _ _ (fun z => e z.2)]
    exact h.2 j (by omega)
theorem m_145_7 {I0 : zI} {J0 : zJ} (ht : tM S I0) (hk : tKm J0) (K : ∀ I' J', zfm [4] [31, 32] I0 I' → zfr [33] J0 J' → tR S (lTn S) I' J' → P (.inl none) I' J' D) : ∀ {m n : Nat} {I : zI} {J : zJ}, n + m = 450 → lCt (lSo S) m n = lTn S → (1 ≤ n → 2 ≤ lSo S (n - 1)) → zfm [4] [31, 32] I0 I → zfr [33] J0 J → tR S n I J → zw RO (d + 6) 145 P 7 [(0, .ref 28), (1, .int (zi (lAt S n : Int)))] [] I J D bc bs
  | m, n, I, J, hm, hc, hp, f, g, hT => by
    have hs := ht.1
    have hN := hs.1
    have t1 : tM S I := by
      unfold tM
      rw [f.2 3 (by decide), f.1 30 (by decide) (by decide)]
      exact ht
    have k1 : tKm J := by
      unfold tKm
      rw [g 29 (by decide)]
      exact hk
    have st := lSt_in hs n
    have tk := lTk_in hs st.1.2
    have ct := lCt_in (s := lSo S) (m := m) (n := n)
    rw [hc] at ct
    have lnN := ct.1.1
    -- the token that comes
    have nxt : mTk RO (d + 6) P D bc bs I J n (lSt S n) (lTk S (lSt S n)).1 (lTk S (lSt S n)).2.2 (lTk S (lSt S n)).2.1 := fun v hv => by
      have lo : (lT S).1 n = if n = 450 then (if lSt S 450 < S.2 then 0 else 1) else (lTk S (lSt S n)).1 := by
        show (if n < lTn S then (if n = 450 then (if lSt S 450 < S.2 then 0 else 1) else lSo S n) else 0) = _
        rw [if_pos (by omega)]
        rfl
      have vl : (lT S).2.2.1 n = if n = 450 then 0 else (lTk S (lSt S n)).2.1 := rfl
      have l51 : (lTk S (lSt S n)).1 ≤ 51 := by have := tk.1; omega
      have kd : mKd n (qkm (lTk S (lSt S n)).1) = qkm ((lT S).1 n) := by
        rw [lo]
        unfold mKd
        by_cases e : n = 450
        · rw [if_pos e]
          have q202 : qkm (lTk S (lSt S n)).1 = 202 ↔ (lTk S (lSt S n)).1 = 1 := qkm_eq (b := 1) l51 (by omega)
          by_cases z : (lTk S (lSt S n)).1 = 1
          · have zs : lSt S n = S.2 := by
              by_cases y : lSt S n = S.2
              · exact y
              · exact absurd z (tk.2.2.1 y)
            rw [if_neg (fun x => x.2 (q202.mpr z)), z, ← e, if_neg (by omega)]
          · have zs : ¬ lSt S n = S.2 := fun y => by
              have e2 := (lB_end hs (a := lSt S n)).mpr (by omega)
              unfold lTk at z
              rw [if_pos e2] at z
              exact z rfl
            rw [if_pos ⟨e, fun x => z (q202.mp x)⟩, ← e, if_pos (by omega)]
            rfl
        · rw [if_neg e, if_neg (fun x => e x.1)]
      have hT2 := tR_app (k := mKd n (qkm (lTk S (lSt S n)).1)) (v := v) hT kd (fun z => by
        rw [lo] at z
        rw [vl]
        by_cases e : n = 450
        · rw [if_pos e] at z
          split at z <;> omega
        · rw [if_neg e] at z ⊢
          exact hv z)
      have fr2 : zfm [4] [31, 32] I0 (mNt I n (mKd n (qkm (lTk S (lSt S n)).1)) (lSt S n)) := zfm_trans f mNt_fr
      have gr2 : zfr [33] J0 (zu J 33 n v) := zfr_zu g _ _ (by simp)
      by_cases stop : (lT S).1 n ≤ 1
      · -- the last one
        have eN : n + 1 = lTn S := by
          by_cases e : n + 1 < lTn S
          · have := (lT_w hs).1.2.2.1 n e
            omega
          · omega
        rw [eN] at hT2
        generalize hI2 : mNt I n (mKd n (qkm (lTk S (lSt S n)).1)) (lSt S n) = I2 at hT2 fr2 ⊢
        have e4 : I2 28 4 - 1 = zi (n : Int) := by
          rw [hT2.1, ← eN, show (1 : Int32) = zi 1 from rfl, zi_sub]
          congr 1
          omega
        have q0 : ¬ I2 28 4 = 0 := by
          rw [hT2.1, zq_e (l := 0) (n := 0) rfl (by omega) (by omega)]
          omega
        refine wl_145_7 (d := d + 4) ⟨fun z => absurd z q0, fun _ => ?_⟩
        rw [e4, zi_clk (by omega), (hT2.2 n (by omega)).1]
        have kl := qkm_le (c := (lT S).1 n) (by omega)
        have k202 : 202 ≤ qkm ((lT S).1 n) := by
          have : (lT S).1 n = 0 ∨ (lT S).1 n = 1 := by omega
          rcases this with z | z <;> rw [z] <;> decide
        refine ⟨zi_in (by omega) (by omega) (by omega), fun _ => K _ _ fr2 gr2 hT2, fun z => absurd (by rw [zq_p (l := 202) (n := 202) rfl (by omega) (by omega)]; exact k202) z⟩
      · have n450 : ¬ n = 450 := fun e => by
          rw [lo, if_pos e] at stop
          split at stop <;> omega
        rw [lo, if_neg n450] at stop
        cases m with
        | zero => omega
        | succ m =>
          unfold lCt at hc
          rw [if_neg (show ¬ lSo S n ≤ 1 from stop)] at hc
          exact m_145_7 ht hk K (m := m) (n := n + 1) (by omega) hc (fun _ => by
            rw [Nat.add_sub_cancel]
            show 2 ≤ (lTk S (lSt S n)).1
            omega) fr2 gr2 hT2
    have body : zw RO (d + 6) 145 P 31 [(0, .ref 28), (1, .int (zi (lAt S n : Int)))] [] I J D bc bs := by
      have la := lAt_in hs n
      exact m_31 t1 k1 hT.1 (by omega) (m := 2001) la (by omega) nxt
    have e0 : zi (n : Int) = 0 ↔ n = 0 := zq_e (l := 0) (n := 0) rfl (by omega) (by omega)
    refine wl_145_7 (d := d + 4) ?_
    rw [hT.1]
    refine ⟨fun _ => body, fun z => ?_⟩
    have n1 : 1 ≤ n := by
      have : ¬ n = 0 := fun x => z (e0.mpr x)
      omega
    rw [show zi (n : Int) - 1 = zi ((n - 1 : Nat) : Int) by rw [show (1 : Int32) = zi 1 from rfl, zi_sub]; congr 1; omega, zi_clk (by omega), (hT.2 (n - 1) (by omega)).1]
    have p1 := hp n1
    have s1 : (lT S).1 (n - 1) = lSo S (n - 1) := by
      show (if n - 1 < lTn S then (if n - 1 = 450 then (if lSt S 450 < S.2 then 0 else 1) else lSo S (n - 1)) else 0) = _
      rw [if_pos (by omega), if_neg (by omega)]
    have l51 : lSo S (n - 1) ≤ 51 := by
      have := (lTk_in hs (lSt_in hs (n - 1)).1.2).1
      show (lTk S (lSt S (n - 1))).1 ≤ 51
      omega
    have kl : qkm ((lT S).1 (n - 1)) ≤ 201 := by
      rw [s1]
      unfold qkm
      (repeat' split) <;> omega
    exact ⟨zi_in (by omega) (by omega) (by omega), fun y => by rw [zq_p (l := 202) (n := 202) rfl (by omega) (by omega)] at y; omega, fun _ => body⟩
/-- all tokens of the tape -/
theorem m_145 (ht : tM S I) (hk : tKm J) (K : ∀ I' J', zfm [4] [31, 32] I I' → zfr [33] J J' → qTm (lT S) I' J' → P (.inl none) I' J' D) : zz RO (d + 7) 145 [.ref 28] I J D bc bs P := by
  refine w_145 (d := d + 4) ?_
  have f : zfm [4] [31, 32] I (zu I 28 4 0) := zfm_z (zfm_refl I) _ _ (by simp)
  refine m_145_7 (d := d) (S := S) (I0 := I) (J0 := J) ht hk (fun I' J' f1 g1 h => K I' J' f1 g1 h) (m := 450) (n := 0) rfl rfl (fun z => by omega) f (zfr_refl _) ⟨zu_s _ _ _ _, fun k hk => by omega⟩
end MLex

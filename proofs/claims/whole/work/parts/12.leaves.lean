set_option maxRecDepth 20000 in
theorem c_X6_behind {RO : zRo} {SP : zSp} (hSP : zSPmono SP) {d : Nat} {P : zP} {I : zI} {J : zJ} {D : zD} {bc bs : Nat} {p : Int32} (h1 : (I 20 2) ≤ (p + 1) → P (.inl (some (.int 0))) I J D) (h2 : ¬ ((I 20 2) ≤ (p + 1)) → P (.inl (some (.int (p + 1)))) I J D) : zT zSH RO SP (d + 1) 83 [.ref 20, .int p] I J D bc bs P := by
  refine zT_of (Nat.le_of_ble_eq_true rfl) rfl ?_
  show zV1 zSH RO SP d 83 P 0 [(0, .ref 20), (1, .int p)] [] I J D bc bs
  refine zr_iload_n hSP 0 rfl rfl ?_
  refine zr_s hSP 1 rfl rfl ?_
  refine zr_s hSP 2 rfl rfl ?_
  refine zr_aload_n hSP 3 rfl rfl ?_
  refine zr_getI hSP 4 rfl zf_6_18 rfl rfl (by decide) ?_
  refine zr_ic hSP 5 16 rfl rfl (fun q1 => ?_) (fun q1 => ?_)
  · refine zr_s hSP 10 rfl rfl ?_
    refine zr_iret hSP 11 rfl rfl rfl ?_
    exact h1 q1
  · refine zr_iload_n hSP 6 rfl rfl ?_
    refine zr_s hSP 7 rfl rfl ?_
    refine zr_s hSP 8 rfl rfl ?_
    refine zr_goto hSP 9 17 rfl rfl ?_
    refine zr_iret hSP 11 rfl rfl rfl ?_
    exact h2 q1
set_option maxRecDepth 20000 in
theorem c_X6_valueOf {RO : zRo} {SP : zSp} (hSP : zSPmono SP) {d : Nat} {P : zP} {I : zI} {J : zJ} {D : zD} {bc bs : Nat} {p : Int32} (h1 : p < 0 → P (.inl (some (.int 0))) I J D) (h2 : ¬ (p < 0) → 30 ≤ p → P (.inl (some (.int 0))) I J D) (h3 : ¬ (p < 0) → ¬ (30 ≤ p) → P (.inl (some (.int (I 21 p.toNatClampNeg)))) I J D) : zT zSH RO SP (d + 1) 84 [.ref 20, .int p] I J D bc bs P := by
  refine zT_of (Nat.le_of_ble_eq_true rfl) rfl ?_
  show zV1 zSH RO SP d 84 P 0 [(0, .ref 20), (1, .int p)] [] I J D bc bs
  refine zr_iload_n hSP 0 rfl rfl ?_
  refine zr_if hSP 1 22 rfl rfl (fun q1 => ?_) (fun q1 => ?_)
  · refine zr_s hSP 12 rfl rfl ?_
    refine zr_iret hSP 13 rfl rfl rfl ?_
    exact h1 q1
  · refine zr_iload_n hSP 2 rfl rfl ?_
    refine zr_aload_n hSP 3 rfl rfl ?_
    refine zr_getR hSP 4 rfl zf_6_11 rfl rfl (by decide) ?_
    refine zr_alen hSP 5 30 rfl rfl rfl ?_
    refine zr_ic hSP 6 22 rfl rfl (fun q2 => ?_) (fun q2 => ?_)
    · refine zr_s hSP 12 rfl rfl ?_
      refine zr_iret hSP 13 rfl rfl rfl ?_
      exact h2 q1 q2
    · refine zr_aload_n hSP 7 rfl rfl ?_
      refine zr_getR hSP 8 rfl zf_6_11 rfl rfl (by decide) ?_
      refine zr_iload_n hSP 9 rfl rfl ?_
      refine zr_iald hSP 10 rfl rfl (zin (zlo1 q1) (zhi1 q2) (by decide)) ?_
      refine zr_goto hSP 11 23 rfl rfl ?_
      refine zr_iret hSP 13 rfl rfl rfl ?_
      exact h3 q1 q2
set_option maxRecDepth 20000 in
theorem c_X6_setValue {RO : zRo} {SP : zSp} (hSP : zSPmono SP) {d : Nat} {P : zP} {I : zI} {J : zJ} {D : zD} {bc bs : Nat} {p v : Int32} (h1 : p < 0 → P (.inl none) I J D) (h2 : ¬ (p < 0) → 30 ≤ p → P (.inl none) I J D) (h3 : ¬ (p < 0) → ¬ (30 ≤ p) → P (.inl none) (zu I 21 p.toNatClampNeg v) J D) : zT zSH RO SP (d + 1) 85 [.ref 20, .int p, .int v] I J D bc bs P := by
  refine zT_of (Nat.le_of_ble_eq_true rfl) rfl ?_
  show zV1 zSH RO SP d 85 P 0 [(0, .ref 20), (1, .int p), (2, .int v)] [] I J D bc bs
  refine zr_iload_n hSP 0 rfl rfl ?_
  refine zr_if hSP 1 20 rfl rfl (fun q1 => ?_) (fun q1 => ?_)
  · refine zr_vret hSP 12 rfl rfl ?_
    exact h1 q1
  · refine zr_iload_n hSP 2 rfl rfl ?_
    refine zr_aload_n hSP 3 rfl rfl ?_
    refine zr_getR hSP 4 rfl zf_6_11 rfl rfl (by decide) ?_
    refine zr_alen hSP 5 30 rfl rfl rfl ?_
    refine zr_ic hSP 6 20 rfl rfl (fun q2 => ?_) (fun q2 => ?_)
    · refine zr_vret hSP 12 rfl rfl ?_
      exact h2 q1 q2
    · refine zr_aload_n hSP 7 rfl rfl ?_
      refine zr_getR hSP 8 rfl zf_6_11 rfl rfl (by decide) ?_
      refine zr_iload_n hSP 9 rfl rfl ?_
      refine zr_iload_n hSP 10 rfl rfl ?_
      refine zr_iast hSP 11 rfl rfl (zin (zlo1 q1) (zhi1 q2) (by decide)) ?_
      refine zr_vret hSP 12 rfl rfl ?_
      exact h3 q1 q2
set_option maxRecDepth 20000 in
theorem c_X6_onStack {RO : zRo} {SP : zSp} (hSP : zSPmono SP) {d : Nat} {P : zP} {I : zI} {J : zJ} {D : zD} {bc bs : Nat} {p w : Int32} (h1 : ((p * 4) + w) < 0 → P (.inl (some (.int 0))) I J D) (h2 : ¬ (((p * 4) + w) < 0) → 40 ≤ ((p * 4) + w) → P (.inl (some (.int 0))) I J D) (h3 : ¬ (((p * 4) + w) < 0) → ¬ (40 ≤ ((p * 4) + w)) → P (.inl (some (.int (I 22 (((p * 4) + w).toNatClampNeg))))) I J D) : zT zSH RO SP (d + 1) 86 [.ref 20, .int p, .int w] I J D bc bs P := by
  refine zT_of (Nat.le_of_ble_eq_true rfl) rfl ?_
  show zV1 zSH RO SP d 86 P 0 [(0, .ref 20), (1, .int p), (2, .int w)] [] I J D bc bs
  refine zr_iload_n hSP 0 rfl rfl ?_
  refine zr_s hSP 1 rfl rfl ?_
  refine zr_s hSP 2 rfl rfl ?_
  refine zr_iload_n hSP 3 rfl rfl ?_
  refine zr_s hSP 4 rfl rfl ?_
  refine zr_istore_n hSP 5 (ll' := [(3, .int ((p * 4) + w)), (0, .ref 20), (1, .int p), (2, .int w)]) rfl (by decide) rfl ?_
  refine zr_iload_n hSP 6 rfl rfl ?_
  refine zr_if hSP 7 28 rfl rfl (fun q1 => ?_) (fun q1 => ?_)
  · refine zr_s hSP 18 rfl rfl ?_
    refine zr_iret hSP 19 rfl rfl rfl ?_
    exact h1 q1
  · refine zr_iload_n hSP 8 rfl rfl ?_
    refine zr_aload_n hSP 9 rfl rfl ?_
    refine zr_getR hSP 10 rfl zf_6_15 rfl rfl (by decide) ?_
    refine zr_alen hSP 11 40 rfl rfl rfl ?_
    refine zr_ic hSP 12 28 rfl rfl (fun q2 => ?_) (fun q2 => ?_)
    · refine zr_s hSP 18 rfl rfl ?_
      refine zr_iret hSP 19 rfl rfl rfl ?_
      exact h2 q1 q2
    · refine zr_aload_n hSP 13 rfl rfl ?_
      refine zr_getR hSP 14 rfl zf_6_15 rfl rfl (by decide) ?_
      refine zr_iload_n hSP 15 rfl rfl ?_
      refine zr_iald hSP 16 rfl rfl (zin (zlo1 q1) (zhi1 q2) (by decide)) ?_
      refine zr_goto hSP 17 29 rfl rfl ?_
      refine zr_iret hSP 19 rfl rfl rfl ?_
      exact h3 q1 q2
set_option maxRecDepth 20000 in
theorem c_X5_countOf {RO : zRo} {SP : zSp} (hSP : zSPmono SP) {d : Nat} {P : zP} {I : zI} {J : zJ} {D : zD} {bc bs : Nat} {p0 : Int32} (h1 : p0 < 0 → P (.inl (some (.int 0))) I J D) (h2 : ¬ (p0 < 0) → 7 ≤ p0 → P (.inl (some (.int 0))) I J D) (h3 : ¬ (p0 < 0) → ¬ (7 ≤ p0) → P (.inl (some (.int (I 13 p0.toNatClampNeg)))) I J D) : zT zSH RO SP (d + 1) 75 [.ref 12, .int p0] I J D bc bs P := by
  refine zT_of (Nat.le_of_ble_eq_true rfl) rfl ?_
  show zV1 zSH RO SP d 75 P 0 [(0, .ref 12), (1, .int p0)] [] I J D bc bs
  refine zr_iload_n hSP 0 rfl rfl ?_
  refine zr_if hSP 1 22 rfl rfl (fun q1 => ?_) (fun q1 => ?_)
  · refine zr_s hSP 12 rfl rfl ?_
    refine zr_iret hSP 13 rfl rfl rfl ?_
    exact h1 q1
  · refine zr_iload_n hSP 2 rfl rfl ?_
    refine zr_aload_n hSP 3 rfl rfl ?_
    refine zr_getR hSP 4 rfl zf_5_9 rfl rfl (by decide) ?_
    refine zr_alen hSP 5 7 rfl rfl rfl ?_
    refine zr_ic hSP 6 22 rfl rfl (fun q2 => ?_) (fun q2 => ?_)
    · refine zr_s hSP 12 rfl rfl ?_
      refine zr_iret hSP 13 rfl rfl rfl ?_
      exact h2 q1 q2
    · refine zr_aload_n hSP 7 rfl rfl ?_
      refine zr_getR hSP 8 rfl zf_5_9 rfl rfl (by decide) ?_
      refine zr_iload_n hSP 9 rfl rfl ?_
      refine zr_iald hSP 10 rfl rfl (zin (zlo1 q1) (zhi1 q2) (by decide)) ?_
      refine zr_goto hSP 11 23 rfl rfl ?_
      refine zr_iret hSP 13 rfl rfl rfl ?_
      exact h3 q1 q2
set_option maxRecDepth 20000 in
theorem c_X5_wholeOf {RO : zRo} {SP : zSp} (hSP : zSPmono SP) {d : Nat} {P : zP} {I : zI} {J : zJ} {D : zD} {bc bs : Nat} {p0 p1 : Int32} (h1 : ((p0 * 3) + p1) < 0 → P (.inl (some (.int 0))) I J D) (h2 : ¬ (((p0 * 3) + p1) < 0) → 36 ≤ ((p0 * 3) + p1) → P (.inl (some (.int 0))) I J D) (h3 : ¬ (((p0 * 3) + p1) < 0) → ¬ (36 ≤ ((p0 * 3) + p1)) → P (.inl (some (.int (I 14 (((p0 * 3) + p1).toNatClampNeg))))) I J D) : zT zSH RO SP (d + 1) 76 [.ref 12, .int p0, .int p1] I J D bc bs P := by
  refine zT_of (Nat.le_of_ble_eq_true rfl) rfl ?_
  show zV1 zSH RO SP d 76 P 0 [(0, .ref 12), (1, .int p0), (2, .int p1)] [] I J D bc bs
  refine zr_iload_n hSP 0 rfl rfl ?_
  refine zr_s hSP 1 rfl rfl ?_
  refine zr_s hSP 2 rfl rfl ?_
  refine zr_iload_n hSP 3 rfl rfl ?_
  refine zr_s hSP 4 rfl rfl ?_
  refine zr_istore_n hSP 5 (ll' := [(3, .int ((p0 * 3) + p1)), (0, .ref 12), (1, .int p0), (2, .int p1)]) rfl (by decide) rfl ?_
  refine zr_iload_n hSP 6 rfl rfl ?_
  refine zr_if hSP 7 28 rfl rfl (fun q1 => ?_) (fun q1 => ?_)
  · refine zr_s hSP 18 rfl rfl ?_
    refine zr_iret hSP 19 rfl rfl rfl ?_
    exact h1 q1
  · refine zr_iload_n hSP 8 rfl rfl ?_
    refine zr_aload_n hSP 9 rfl rfl ?_
    refine zr_getR hSP 10 rfl zf_5_15 rfl rfl (by decide) ?_
    refine zr_alen hSP 11 36 rfl rfl rfl ?_
    refine zr_ic hSP 12 28 rfl rfl (fun q2 => ?_) (fun q2 => ?_)
    · refine zr_s hSP 18 rfl rfl ?_
      refine zr_iret hSP 19 rfl rfl rfl ?_
      exact h2 q1 q2
    · refine zr_aload_n hSP 13 rfl rfl ?_
      refine zr_getR hSP 14 rfl zf_5_15 rfl rfl (by decide) ?_
      refine zr_iload_n hSP 15 rfl rfl ?_
      refine zr_iald hSP 16 rfl rfl (zin (zlo1 q1) (zhi1 q2) (by decide)) ?_
      refine zr_goto hSP 17 29 rfl rfl ?_
      refine zr_iret hSP 19 rfl rfl rfl ?_
      exact h3 q1 q2
set_option maxRecDepth 20000 in
theorem c_X5_setWhole {RO : zRo} {SP : zSp} (hSP : zSPmono SP) {d : Nat} {P : zP} {I : zI} {J : zJ} {D : zD} {bc bs : Nat} {p0 p1 p2 : Int32} (h1 : ((p0 * 3) + p1) < 0 → P (.inl none) I J D) (h2 : ¬ (((p0 * 3) + p1) < 0) → 36 ≤ ((p0 * 3) + p1) → P (.inl none) I J D) (h3 : ¬ (((p0 * 3) + p1) < 0) → ¬ (36 ≤ ((p0 * 3) + p1)) → P (.inl none) (zu I 14 (((p0 * 3) + p1).toNatClampNeg) p2) J D) : zT zSH RO SP (d + 1) 77 [.ref 12, .int p0, .int p1, .int p2] I J D bc bs P := by
  refine zT_of (Nat.le_of_ble_eq_true rfl) rfl ?_
  show zV1 zSH RO SP d 77 P 0 [(0, .ref 12), (1, .int p0), (2, .int p1), (3, .int p2)] [] I J D bc bs
  refine zr_iload_n hSP 0 rfl rfl ?_
  refine zr_s hSP 1 rfl rfl ?_
  refine zr_s hSP 2 rfl rfl ?_
  refine zr_iload_n hSP 3 rfl rfl ?_
  refine zr_s hSP 4 rfl rfl ?_
  refine zr_istore hSP 5 (ll' := [(4, .int ((p0 * 3) + p1)), (0, .ref 12), (1, .int p0), (2, .int p1), (3, .int p2)]) rfl (by decide) rfl ?_
  refine zr_iload hSP 6 rfl rfl ?_
  refine zr_if hSP 7 30 rfl rfl (fun q1 => ?_) (fun q1 => ?_)
  · refine zr_vret hSP 18 rfl rfl ?_
    exact h1 q1
  · refine zr_iload hSP 8 rfl rfl ?_
    refine zr_aload_n hSP 9 rfl rfl ?_
    refine zr_getR hSP 10 rfl zf_5_15 rfl rfl (by decide) ?_
    refine zr_alen hSP 11 36 rfl rfl rfl ?_
    refine zr_ic hSP 12 30 rfl rfl (fun q2 => ?_) (fun q2 => ?_)
    · refine zr_vret hSP 18 rfl rfl ?_
      exact h2 q1 q2
    · refine zr_aload_n hSP 13 rfl rfl ?_
      refine zr_getR hSP 14 rfl zf_5_15 rfl rfl (by decide) ?_
      refine zr_iload hSP 15 rfl rfl ?_
      refine zr_iload_n hSP 16 rfl rfl ?_
      refine zr_iast hSP 17 rfl rfl (zin (zlo1 q1) (zhi1 q2) (by decide)) ?_
      refine zr_vret hSP 18 rfl rfl ?_
      exact h3 q1 q2
set_option maxRecDepth 20000 in
theorem c_X5_hasAct {RO : zRo} {SP : zSp} (hSP : zSPmono SP) {d : Nat} {P : zP} {I : zI} {J : zJ} {D : zD} {bc bs : Nat} {p0 p1 : Int32} (h1 : p0 < 0 → P (.inl (some (.int 0))) I J D) (h2 : ¬ (p0 < 0) → 6 ≤ p0 → P (.inl (some (.int 0))) I J D) (h3 : ¬ (p0 < 0) → ¬ (6 ≤ p0) → ¬ (((I 15 p0.toNatClampNeg) >>> (p1 &&& 31)) &&& 1) = 1 → P (.inl (some (.int 0))) I J D) (h4 : ¬ (p0 < 0) → ¬ (6 ≤ p0) → ¬ (¬ (((I 15 p0.toNatClampNeg) >>> (p1 &&& 31)) &&& 1) = 1) → P (.inl (some (.int 1))) I J D) : zT zSH RO SP (d + 1) 78 [.ref 12, .int p0, .int p1] I J D bc bs P := by
  refine zT_of (Nat.le_of_ble_eq_true rfl) rfl ?_
  show zV1 zSH RO SP d 78 P 0 [(0, .ref 12), (1, .int p0), (2, .int p1)] [] I J D bc bs
  refine zr_iload_n hSP 0 rfl rfl ?_
  refine zr_if hSP 1 31 rfl rfl (fun q1 => ?_) (fun q1 => ?_)
  · refine zr_s hSP 19 rfl rfl ?_
    refine zr_iret hSP 20 rfl rfl rfl ?_
    exact h1 q1
  · refine zr_iload_n hSP 2 rfl rfl ?_
    refine zr_aload_n hSP 3 rfl rfl ?_
    refine zr_getR hSP 4 rfl zf_5_18 rfl rfl (by decide) ?_
    refine zr_alen hSP 5 6 rfl rfl rfl ?_
    refine zr_ic hSP 6 31 rfl rfl (fun q2 => ?_) (fun q2 => ?_)
    · refine zr_s hSP 19 rfl rfl ?_
      refine zr_iret hSP 20 rfl rfl rfl ?_
      exact h2 q1 q2
    · refine zr_aload_n hSP 7 rfl rfl ?_
      refine zr_getR hSP 8 rfl zf_5_18 rfl rfl (by decide) ?_
      refine zr_iload_n hSP 9 rfl rfl ?_
      refine zr_iald hSP 10 rfl rfl (zin (zlo1 q1) (zhi1 q2) (by decide)) ?_
      refine zr_iload_n hSP 11 rfl rfl ?_
      refine zr_s hSP 12 rfl rfl ?_
      refine zr_s hSP 13 rfl rfl ?_
      refine zr_s hSP 14 rfl rfl ?_
      refine zr_s hSP 15 rfl rfl ?_
      refine zr_ic hSP 16 31 rfl rfl (fun q3 => ?_) (fun q3 => ?_)
      · refine zr_s hSP 19 rfl rfl ?_
        refine zr_iret hSP 20 rfl rfl rfl ?_
        exact h3 q1 q2 q3
      · refine zr_s hSP 17 rfl rfl ?_
        refine zr_goto hSP 18 32 rfl rfl ?_
        refine zr_iret hSP 20 rfl rfl rfl ?_
        exact h4 q1 q2 q3
set_option maxRecDepth 20000 in
theorem c_X5_isRuleAt {RO : zRo} {SP : zSp} (hSP : zSPmono SP) {d : Nat} {P : zP} {I : zI} {J : zJ} {D : zD} {bc bs : Nat} {p0 p1 : Int32} (h1 : p0 < 0 → P (.inl (some (.int 0))) I J D) (h2 : ¬ (p0 < 0) → 8 ≤ p0 → P (.inl (some (.int 0))) I J D) (h3 : ¬ (p0 < 0) → ¬ (8 ≤ p0) → ¬ (I 16 p0.toNatClampNeg) = p1 → P (.inl (some (.int 0))) I J D) (h4 : ¬ (p0 < 0) → ¬ (8 ≤ p0) → ¬ (¬ (I 16 p0.toNatClampNeg) = p1) → P (.inl (some (.int 1))) I J D) : zT zSH RO SP (d + 1) 79 [.ref 12, .int p0, .int p1] I J D bc bs P := by
  refine zT_of (Nat.le_of_ble_eq_true rfl) rfl ?_
  show zV1 zSH RO SP d 79 P 0 [(0, .ref 12), (1, .int p0), (2, .int p1)] [] I J D bc bs
  refine zr_iload_n hSP 0 rfl rfl ?_
  refine zr_if hSP 1 27 rfl rfl (fun q1 => ?_) (fun q1 => ?_)
  · refine zr_s hSP 15 rfl rfl ?_
    refine zr_iret hSP 16 rfl rfl rfl ?_
    exact h1 q1
  · refine zr_iload_n hSP 2 rfl rfl ?_
    refine zr_aload_n hSP 3 rfl rfl ?_
    refine zr_getR hSP 4 rfl zf_5_21 rfl rfl (by decide) ?_
    refine zr_alen hSP 5 8 rfl rfl rfl ?_
    refine zr_ic hSP 6 27 rfl rfl (fun q2 => ?_) (fun q2 => ?_)
    · refine zr_s hSP 15 rfl rfl ?_
      refine zr_iret hSP 16 rfl rfl rfl ?_
      exact h2 q1 q2
    · refine zr_aload_n hSP 7 rfl rfl ?_
      refine zr_getR hSP 8 rfl zf_5_21 rfl rfl (by decide) ?_
      refine zr_iload_n hSP 9 rfl rfl ?_
      refine zr_iald hSP 10 rfl rfl (zin (zlo1 q1) (zhi1 q2) (by decide)) ?_
      refine zr_iload_n hSP 11 rfl rfl ?_
      refine zr_ic hSP 12 27 rfl rfl (fun q3 => ?_) (fun q3 => ?_)
      · refine zr_s hSP 15 rfl rfl ?_
        refine zr_iret hSP 16 rfl rfl rfl ?_
        exact h3 q1 q2 q3
      · refine zr_s hSP 13 rfl rfl ?_
        refine zr_goto hSP 14 28 rfl rfl ?_
        refine zr_iret hSP 16 rfl rfl rfl ?_
        exact h4 q1 q2 q3
set_option maxRecDepth 20000 in
theorem c_X5_whenOf {RO : zRo} {SP : zSp} (hSP : zSPmono SP) {d : Nat} {P : zP} {I : zI} {J : zJ} {D : zD} {bc bs : Nat} {p0 : Int32} (h1 : p0 < 0 → P (.inl (some (.int (-1)))) I J D) (h2 : ¬ (p0 < 0) → 28 ≤ p0 → P (.inl (some (.int (-1)))) I J D) (h3 : ¬ (p0 < 0) → ¬ (28 ≤ p0) → P (.inl (some (.int (I 17 p0.toNatClampNeg)))) I J D) : zT zSH RO SP (d + 1) 80 [.ref 12, .int p0] I J D bc bs P := by
  refine zT_of (Nat.le_of_ble_eq_true rfl) rfl ?_
  show zV1 zSH RO SP d 80 P 0 [(0, .ref 12), (1, .int p0)] [] I J D bc bs
  refine zr_iload_n hSP 0 rfl rfl ?_
  refine zr_if hSP 1 22 rfl rfl (fun q1 => ?_) (fun q1 => ?_)
  · refine zr_s hSP 12 rfl rfl ?_
    refine zr_iret hSP 13 rfl rfl rfl ?_
    exact h1 q1
  · refine zr_iload_n hSP 2 rfl rfl ?_
    refine zr_aload_n hSP 3 rfl rfl ?_
    refine zr_getR hSP 4 rfl zf_5_24 rfl rfl (by decide) ?_
    refine zr_alen hSP 5 28 rfl rfl rfl ?_
    refine zr_ic hSP 6 22 rfl rfl (fun q2 => ?_) (fun q2 => ?_)
    · refine zr_s hSP 12 rfl rfl ?_
      refine zr_iret hSP 13 rfl rfl rfl ?_
      exact h2 q1 q2
    · refine zr_aload_n hSP 7 rfl rfl ?_
      refine zr_getR hSP 8 rfl zf_5_24 rfl rfl (by decide) ?_
      refine zr_iload_n hSP 9 rfl rfl ?_
      refine zr_iald hSP 10 rfl rfl (zin (zlo1 q1) (zhi1 q2) (by decide)) ?_
      refine zr_goto hSP 11 23 rfl rfl ?_
      refine zr_iret hSP 13 rfl rfl rfl ?_
      exact h3 q1 q2
set_option maxRecDepth 20000 in
theorem c_X5_deedOf {RO : zRo} {SP : zSp} (hSP : zSPmono SP) {d : Nat} {P : zP} {I : zI} {J : zJ} {D : zD} {bc bs : Nat} {p0 : Int32} (h1 : p0 < 0 → P (.inl (some (.int (-1)))) I J D) (h2 : ¬ (p0 < 0) → 28 ≤ p0 → P (.inl (some (.int (-1)))) I J D) (h3 : ¬ (p0 < 0) → ¬ (28 ≤ p0) → P (.inl (some (.int (I 18 p0.toNatClampNeg)))) I J D) : zT zSH RO SP (d + 1) 81 [.ref 12, .int p0] I J D bc bs P := by
  refine zT_of (Nat.le_of_ble_eq_true rfl) rfl ?_
  show zV1 zSH RO SP d 81 P 0 [(0, .ref 12), (1, .int p0)] [] I J D bc bs
  refine zr_iload_n hSP 0 rfl rfl ?_
  refine zr_if hSP 1 22 rfl rfl (fun q1 => ?_) (fun q1 => ?_)
  · refine zr_s hSP 12 rfl rfl ?_
    refine zr_iret hSP 13 rfl rfl rfl ?_
    exact h1 q1
  · refine zr_iload_n hSP 2 rfl rfl ?_
    refine zr_aload_n hSP 3 rfl rfl ?_
    refine zr_getR hSP 4 rfl zf_5_27 rfl rfl (by decide) ?_
    refine zr_alen hSP 5 28 rfl rfl rfl ?_
    refine zr_ic hSP 6 22 rfl rfl (fun q2 => ?_) (fun q2 => ?_)
    · refine zr_s hSP 12 rfl rfl ?_
      refine zr_iret hSP 13 rfl rfl rfl ?_
      exact h2 q1 q2
    · refine zr_aload_n hSP 7 rfl rfl ?_
      refine zr_getR hSP 8 rfl zf_5_27 rfl rfl (by decide) ?_
      refine zr_iload_n hSP 9 rfl rfl ?_
      refine zr_iald hSP 10 rfl rfl (zin (zlo1 q1) (zhi1 q2) (by decide)) ?_
      refine zr_goto hSP 11 23 rfl rfl ?_
      refine zr_iret hSP 13 rfl rfl rfl ?_
      exact h3 q1 q2
set_option maxRecDepth 20000 in
theorem c_X7_byteAt {RO : zRo} {SP : zSp} (hSP : zSPmono SP) {d : Nat} {P : zP} {I : zI} {J : zJ} {D : zD} {bc bs : Nat} {p : Int32} (h1 : p < 0 → P (.inl (some (.int (-1)))) I J D) (h2 : ¬ (p < 0) → (I 1 1) ≤ p → P (.inl (some (.int (-1)))) I J D) (h3 : ¬ (p < 0) → ¬ ((I 1 1) ≤ p) → 2000 ≤ p → P (.inl (some (.int (-1)))) I J D) (h4 : ¬ (p < 0) → ¬ ((I 1 1) ≤ p) → ¬ (2000 ≤ p) → P (.inl (some (.int ((I 2 p.toNatClampNeg) &&& 255)))) I J D) : zT zSH RO SP (d + 1) 90 [.ref 1, .int p] I J D bc bs P := by
  refine zT_of (Nat.le_of_ble_eq_true rfl) rfl ?_
  show zV1 zSH RO SP d 90 P 0 [(0, .ref 1), (1, .int p)] [] I J D bc bs
  refine zr_iload_n hSP 0 rfl rfl ?_
  refine zr_if hSP 1 34 rfl rfl (fun q1 => ?_) (fun q1 => ?_)
  · refine zr_s hSP 18 rfl rfl ?_
    refine zr_iret hSP 19 rfl rfl rfl ?_
    exact h1 q1
  · refine zr_iload_n hSP 2 rfl rfl ?_
    refine zr_aload_n hSP 3 rfl rfl ?_
    refine zr_getI hSP 4 rfl zf_7_15 rfl rfl (by decide) ?_
    refine zr_ic hSP 5 34 rfl rfl (fun q2 => ?_) (fun q2 => ?_)
    · refine zr_s hSP 18 rfl rfl ?_
      refine zr_iret hSP 19 rfl rfl rfl ?_
      exact h2 q1 q2
    · refine zr_iload_n hSP 6 rfl rfl ?_
      refine zr_aload_n hSP 7 rfl rfl ?_
      refine zr_getR hSP 8 rfl zf_7_9 rfl rfl (by decide) ?_
      refine zr_alen hSP 9 2000 rfl rfl rfl ?_
      refine zr_ic hSP 10 34 rfl rfl (fun q3 => ?_) (fun q3 => ?_)
      · refine zr_s hSP 18 rfl rfl ?_
        refine zr_iret hSP 19 rfl rfl rfl ?_
        exact h3 q1 q2 q3
      · refine zr_aload_n hSP 11 rfl rfl ?_
        refine zr_getR hSP 12 rfl zf_7_9 rfl rfl (by decide) ?_
        refine zr_iload_n hSP 13 rfl rfl ?_
        refine zr_bald hSP 14 rfl rfl (zin (zlo1 q1) (zhi1 q3) (by decide)) ?_
        refine zr_sipush hSP 15 255 rfl rfl ?_
        refine zr_s hSP 16 rfl rfl ?_
        refine zr_goto hSP 17 35 rfl rfl ?_
        refine zr_iret hSP 19 rfl rfl rfl ?_
        exact h4 q1 q2 q3
set_option maxRecDepth 20000 in
theorem c_X0_land {RO : zRo} {SP : zSp} (hSP : zSPmono SP) {d : Nat} {P : zP} {I : zI} {J : zJ} {D : zD} {bc bs : Nat} {p : Int32} (h1 : p < 0 → P (.inl none) I J D) (h2 : ¬ (p < 0) → (I 8 2) ≤ p → P (.inl none) I J D) (h3 : ¬ (p < 0) → ¬ ((I 8 2) ≤ p) → 450 ≤ p → P (.inl none) I J D) (h4 : ¬ (p < 0) → ¬ ((I 8 2) ≤ p) → ¬ (450 ≤ p) → P (.inl none) (zu I 10 p.toNatClampNeg (I 8 2)) J D) : zT zSH RO SP (d + 1) 2 [.ref 8, .int p] I J D bc bs P := by
  refine zT_of (Nat.le_of_ble_eq_true rfl) rfl ?_
  show zV1 zSH RO SP d 2 P 0 [(0, .ref 8), (1, .int p)] [] I J D bc bs
  refine zr_iload_n hSP 0 rfl rfl ?_
  refine zr_if hSP 1 31 rfl rfl (fun q1 => ?_) (fun q1 => ?_)
  · refine zr_vret hSP 17 rfl rfl ?_
    exact h1 q1
  · refine zr_iload_n hSP 2 rfl rfl ?_
    refine zr_aload_n hSP 3 rfl rfl ?_
    refine zr_getI hSP 4 rfl zf_0_18 rfl rfl (by decide) ?_
    refine zr_ic hSP 5 31 rfl rfl (fun q2 => ?_) (fun q2 => ?_)
    · refine zr_vret hSP 17 rfl rfl ?_
      exact h2 q1 q2
    · refine zr_iload_n hSP 6 rfl rfl ?_
      refine zr_aload_n hSP 7 rfl rfl ?_
      refine zr_getR hSP 8 rfl zf_0_15 rfl rfl (by decide) ?_
      refine zr_alen hSP 9 450 rfl rfl rfl ?_
      refine zr_ic hSP 10 31 rfl rfl (fun q3 => ?_) (fun q3 => ?_)
      · refine zr_vret hSP 17 rfl rfl ?_
        exact h3 q1 q2 q3
      · refine zr_aload_n hSP 11 rfl rfl ?_
        refine zr_getR hSP 12 rfl zf_0_15 rfl rfl (by decide) ?_
        refine zr_iload_n hSP 13 rfl rfl ?_
        refine zr_aload_n hSP 14 rfl rfl ?_
        refine zr_getI hSP 15 rfl zf_0_18 rfl rfl (by decide) ?_
        refine zr_iast hSP 16 rfl rfl (zin (zlo1 q1) (zhi1 q3) (by decide)) ?_
        refine zr_vret hSP 17 rfl rfl ?_
        exact h4 q1 q2 q3
set_option maxRecDepth 20000 in
theorem c_X0_operationAt {RO : zRo} {SP : zSp} (hSP : zSPmono SP) {d : Nat} {P : zP} {I : zI} {J : zJ} {D : zD} {bc bs : Nat} {p : Int32} (h1 : p < 0 → P (.inl (some (.int 54))) I J D) (h2 : ¬ (p < 0) → (I 8 2) ≤ p → P (.inl (some (.int 54))) I J D) (h3 : ¬ (p < 0) → ¬ ((I 8 2) ≤ p) → 450 ≤ p → P (.inl (some (.int 54))) I J D) (h4 : ¬ (p < 0) → ¬ ((I 8 2) ≤ p) → ¬ (450 ≤ p) → P (.inl (some (.int (I 9 p.toNatClampNeg)))) I J D) : zT zSH RO SP (d + 1) 3 [.ref 8, .int p] I J D bc bs P := by
  refine zT_of (Nat.le_of_ble_eq_true rfl) rfl ?_
  show zV1 zSH RO SP d 3 P 0 [(0, .ref 8), (1, .int p)] [] I J D bc bs
  refine zr_iload_n hSP 0 rfl rfl ?_
  refine zr_if hSP 1 30 rfl rfl (fun q1 => ?_) (fun q1 => ?_)
  · refine zr_bipush hSP 16 54 rfl rfl ?_
    refine zr_iret hSP 17 rfl rfl rfl ?_
    exact h1 q1
  · refine zr_iload_n hSP 2 rfl rfl ?_
    refine zr_aload_n hSP 3 rfl rfl ?_
    refine zr_getI hSP 4 rfl zf_0_18 rfl rfl (by decide) ?_
    refine zr_ic hSP 5 30 rfl rfl (fun q2 => ?_) (fun q2 => ?_)
    · refine zr_bipush hSP 16 54 rfl rfl ?_
      refine zr_iret hSP 17 rfl rfl rfl ?_
      exact h2 q1 q2
    · refine zr_iload_n hSP 6 rfl rfl ?_
      refine zr_aload_n hSP 7 rfl rfl ?_
      refine zr_getR hSP 8 rfl zf_0_9 rfl rfl (by decide) ?_
      refine zr_alen hSP 9 450 rfl rfl rfl ?_
      refine zr_ic hSP 10 30 rfl rfl (fun q3 => ?_) (fun q3 => ?_)
      · refine zr_bipush hSP 16 54 rfl rfl ?_
        refine zr_iret hSP 17 rfl rfl rfl ?_
        exact h3 q1 q2 q3
      · refine zr_aload_n hSP 11 rfl rfl ?_
        refine zr_getR hSP 12 rfl zf_0_9 rfl rfl (by decide) ?_
        refine zr_iload_n hSP 13 rfl rfl ?_
        refine zr_iald hSP 14 rfl rfl (zin (zlo1 q1) (zhi1 q3) (by decide)) ?_
        refine zr_goto hSP 15 32 rfl rfl ?_
        refine zr_iret hSP 17 rfl rfl rfl ?_
        exact h4 q1 q2 q3
set_option maxRecDepth 20000 in
theorem c_X0_argumentAt {RO : zRo} {SP : zSp} (hSP : zSPmono SP) {d : Nat} {P : zP} {I : zI} {J : zJ} {D : zD} {bc bs : Nat} {p : Int32} (h1 : p < 0 → P (.inl (some (.int 0))) I J D) (h2 : ¬ (p < 0) → (I 8 2) ≤ p → P (.inl (some (.int 0))) I J D) (h3 : ¬ (p < 0) → ¬ ((I 8 2) ≤ p) → 450 ≤ p → P (.inl (some (.int 0))) I J D) (h4 : ¬ (p < 0) → ¬ ((I 8 2) ≤ p) → ¬ (450 ≤ p) → P (.inl (some (.int (I 10 p.toNatClampNeg)))) I J D) : zT zSH RO SP (d + 1) 4 [.ref 8, .int p] I J D bc bs P := by
  refine zT_of (Nat.le_of_ble_eq_true rfl) rfl ?_
  show zV1 zSH RO SP d 4 P 0 [(0, .ref 8), (1, .int p)] [] I J D bc bs
  refine zr_iload_n hSP 0 rfl rfl ?_
  refine zr_if hSP 1 30 rfl rfl (fun q1 => ?_) (fun q1 => ?_)
  · refine zr_s hSP 16 rfl rfl ?_
    refine zr_iret hSP 17 rfl rfl rfl ?_
    exact h1 q1
  · refine zr_iload_n hSP 2 rfl rfl ?_
    refine zr_aload_n hSP 3 rfl rfl ?_
    refine zr_getI hSP 4 rfl zf_0_18 rfl rfl (by decide) ?_
    refine zr_ic hSP 5 30 rfl rfl (fun q2 => ?_) (fun q2 => ?_)
    · refine zr_s hSP 16 rfl rfl ?_
      refine zr_iret hSP 17 rfl rfl rfl ?_
      exact h2 q1 q2
    · refine zr_iload_n hSP 6 rfl rfl ?_
      refine zr_aload_n hSP 7 rfl rfl ?_
      refine zr_getR hSP 8 rfl zf_0_15 rfl rfl (by decide) ?_
      refine zr_alen hSP 9 450 rfl rfl rfl ?_
      refine zr_ic hSP 10 30 rfl rfl (fun q3 => ?_) (fun q3 => ?_)
      · refine zr_s hSP 16 rfl rfl ?_
        refine zr_iret hSP 17 rfl rfl rfl ?_
        exact h3 q1 q2 q3
      · refine zr_aload_n hSP 11 rfl rfl ?_
        refine zr_getR hSP 12 rfl zf_0_15 rfl rfl (by decide) ?_
        refine zr_iload_n hSP 13 rfl rfl ?_
        refine zr_iald hSP 14 rfl rfl (zin (zlo1 q1) (zhi1 q3) (by decide)) ?_
        refine zr_goto hSP 15 31 rfl rfl ?_
        refine zr_iret hSP 17 rfl rfl rfl ?_
        exact h4 q1 q2 q3
set_option maxRecDepth 20000 in
theorem c_X0_append {RO : zRo} {SP : zSp} (hSP : zSPmono SP) {d : Nat} {P : zP} {I : zI} {J : zJ} {D : zD} {bc bs : Nat} {p w : Int32} (h1 : (I 8 2) < 0 → P (.inl (some (.int (I 8 2)))) I J D) (h2 : ¬ ((I 8 2) < 0) → 450 ≤ (I 8 2) → P (.inl (some (.int (I 8 2)))) I J D) (h3 : ¬ ((I 8 2) < 0) → ¬ (450 ≤ (I 8 2)) → 450 ≤ (I 8 2) → P (.inl (some (.int (I 8 2)))) I J D) (h4 : ¬ ((I 8 2) < 0) → ¬ (450 ≤ (I 8 2)) → ¬ (450 ≤ (I 8 2)) → P (.inl (some (.int (I 8 2)))) (zu (zu (zu I 9 ((I 8 2).toNatClampNeg) p) 10 ((I 8 2).toNatClampNeg) w) 8 2 ((I 8 2) + 1)) J D) : zT zSH RO SP (d + 1) 1 [.ref 8, .int p, .int w] I J D bc bs P := by
  refine zT_of (Nat.le_of_ble_eq_true rfl) rfl ?_
  show zV1 zSH RO SP d 1 P 0 [(0, .ref 8), (1, .int p), (2, .int w)] [] I J D bc bs
  refine zr_aload_n hSP 0 rfl rfl ?_
  refine zr_getI hSP 1 rfl zf_0_18 rfl rfl (by decide) ?_
  refine zr_istore_n hSP 2 (ll' := [(3, .int (I 8 2)), (0, .ref 8), (1, .int p), (2, .int w)]) rfl (by decide) rfl ?_
  refine zr_iload_n hSP 3 rfl rfl ?_
  refine zr_if hSP 4 48 rfl rfl (fun q1 => ?_) (fun q1 => ?_)
  · refine zr_iload_n hSP 30 rfl rfl ?_
    refine zr_iret hSP 31 rfl rfl rfl ?_
    exact h1 q1
  · refine zr_iload_n hSP 5 rfl rfl ?_
    refine zr_aload_n hSP 6 rfl rfl ?_
    refine zr_getR hSP 7 rfl zf_0_9 rfl rfl (by decide) ?_
    refine zr_alen hSP 8 450 rfl rfl rfl ?_
    refine zr_ic hSP 9 48 rfl rfl (fun q2 => ?_) (fun q2 => ?_)
    · refine zr_iload_n hSP 30 rfl rfl ?_
      refine zr_iret hSP 31 rfl rfl rfl ?_
      exact h2 q1 q2
    · refine zr_iload_n hSP 10 rfl rfl ?_
      refine zr_aload_n hSP 11 rfl rfl ?_
      refine zr_getR hSP 12 rfl zf_0_15 rfl rfl (by decide) ?_
      refine zr_alen hSP 13 450 rfl rfl rfl ?_
      refine zr_ic hSP 14 48 rfl rfl (fun q3 => ?_) (fun q3 => ?_)
      · refine zr_iload_n hSP 30 rfl rfl ?_
        refine zr_iret hSP 31 rfl rfl rfl ?_
        exact h3 q1 q2 q3
      · refine zr_aload_n hSP 15 rfl rfl ?_
        refine zr_getR hSP 16 rfl zf_0_9 rfl rfl (by decide) ?_
        refine zr_iload_n hSP 17 rfl rfl ?_
        refine zr_iload_n hSP 18 rfl rfl ?_
        refine zr_iast hSP 19 rfl rfl (zin (zlo1 q1) (zhi1 q3) (by decide)) ?_
        refine zr_aload_n hSP 20 rfl rfl ?_
        refine zr_getR hSP 21 rfl zf_0_15 rfl rfl (by decide) ?_
        refine zr_iload_n hSP 22 rfl rfl ?_
        refine zr_iload_n hSP 23 rfl rfl ?_
        refine zr_iast hSP 24 rfl rfl (zin (zlo1 q1) (zhi1 q3) (by decide)) ?_
        refine zr_aload_n hSP 25 rfl rfl ?_
        refine zr_iload_n hSP 26 rfl rfl ?_
        refine zr_s hSP 27 rfl rfl ?_
        refine zr_s hSP 28 rfl rfl ?_
        refine zr_putI hSP 29 rfl zf_0_18 rfl rfl (by decide) zp_0_2 ?_
        refine zr_iload_n hSP 30 rfl rfl ?_
        refine zr_iret hSP 31 rfl rfl rfl ?_
        exact h4 q1 q2 q3
set_option maxRecDepth 20000 in
theorem c_X8_sortOf {RO : zRo} {SP : zSp} (hSP : zSPmono SP) {d : Nat} {P : zP} {I : zI} {J : zJ} {D : zD} {bc bs : Nat} {p : Int32} (h1 : p < 0 → P (.inl (some (.int 0))) I J D) (h2 : ¬ (p < 0) → (I 3 4) ≤ p → P (.inl (some (.int 0))) I J D) (h3 : ¬ (p < 0) → ¬ ((I 3 4) ≤ p) → 451 ≤ p → P (.inl (some (.int 0))) I J D) (h4 : ¬ (p < 0) → ¬ ((I 3 4) ≤ p) → ¬ (451 ≤ p) → P (.inl (some (.int (I 4 p.toNatClampNeg)))) I J D) : zT zSH RO SP (d + 1) 93 [.ref 3, .int p] I J D bc bs P := by
  refine zT_of (Nat.le_of_ble_eq_true rfl) rfl ?_
  show zV1 zSH RO SP d 93 P 0 [(0, .ref 3), (1, .int p)] [] I J D bc bs
  refine zr_iload_n hSP 0 rfl rfl ?_
  refine zr_if hSP 1 30 rfl rfl (fun q1 => ?_) (fun q1 => ?_)
  · refine zr_s hSP 16 rfl rfl ?_
    refine zr_iret hSP 17 rfl rfl rfl ?_
    exact h1 q1
  · refine zr_iload_n hSP 2 rfl rfl ?_
    refine zr_aload_n hSP 3 rfl rfl ?_
    refine zr_getI hSP 4 rfl zf_8_37 rfl rfl (by decide) ?_
    refine zr_ic hSP 5 30 rfl rfl (fun q2 => ?_) (fun q2 => ?_)
    · refine zr_s hSP 16 rfl rfl ?_
      refine zr_iret hSP 17 rfl rfl rfl ?_
      exact h2 q1 q2
    · refine zr_iload_n hSP 6 rfl rfl ?_
      refine zr_aload_n hSP 7 rfl rfl ?_
      refine zr_getR hSP 8 rfl zf_8_9 rfl rfl (by decide) ?_
      refine zr_alen hSP 9 451 rfl rfl rfl ?_
      refine zr_ic hSP 10 30 rfl rfl (fun q3 => ?_) (fun q3 => ?_)
      · refine zr_s hSP 16 rfl rfl ?_
        refine zr_iret hSP 17 rfl rfl rfl ?_
        exact h3 q1 q2 q3
      · refine zr_aload_n hSP 11 rfl rfl ?_
        refine zr_getR hSP 12 rfl zf_8_9 rfl rfl (by decide) ?_
        refine zr_iload_n hSP 13 rfl rfl ?_
        refine zr_iald hSP 14 rfl rfl (zin (zlo1 q1) (zhi1 q3) (by decide)) ?_
        refine zr_goto hSP 15 31 rfl rfl ?_
        refine zr_iret hSP 17 rfl rfl rfl ?_
        exact h4 q1 q2 q3
set_option maxRecDepth 20000 in
theorem c_X8_startOf {RO : zRo} {SP : zSp} (hSP : zSPmono SP) {d : Nat} {P : zP} {I : zI} {J : zJ} {D : zD} {bc bs : Nat} {p : Int32} (h1 : p < 0 → P (.inl (some (.int 0))) I J D) (h2 : ¬ (p < 0) → (I 3 4) ≤ p → P (.inl (some (.int 0))) I J D) (h3 : ¬ (p < 0) → ¬ ((I 3 4) ≤ p) → 451 ≤ p → P (.inl (some (.int 0))) I J D) (h4 : ¬ (p < 0) → ¬ ((I 3 4) ≤ p) → ¬ (451 ≤ p) → P (.inl (some (.int (I 5 p.toNatClampNeg)))) I J D) : zT zSH RO SP (d + 1) 94 [.ref 3, .int p] I J D bc bs P := by
  refine zT_of (Nat.le_of_ble_eq_true rfl) rfl ?_
  show zV1 zSH RO SP d 94 P 0 [(0, .ref 3), (1, .int p)] [] I J D bc bs
  refine zr_iload_n hSP 0 rfl rfl ?_
  refine zr_if hSP 1 30 rfl rfl (fun q1 => ?_) (fun q1 => ?_)
  · refine zr_s hSP 16 rfl rfl ?_
    refine zr_iret hSP 17 rfl rfl rfl ?_
    exact h1 q1
  · refine zr_iload_n hSP 2 rfl rfl ?_
    refine zr_aload_n hSP 3 rfl rfl ?_
    refine zr_getI hSP 4 rfl zf_8_37 rfl rfl (by decide) ?_
    refine zr_ic hSP 5 30 rfl rfl (fun q2 => ?_) (fun q2 => ?_)
    · refine zr_s hSP 16 rfl rfl ?_
      refine zr_iret hSP 17 rfl rfl rfl ?_
      exact h2 q1 q2
    · refine zr_iload_n hSP 6 rfl rfl ?_
      refine zr_aload_n hSP 7 rfl rfl ?_
      refine zr_getR hSP 8 rfl zf_8_15 rfl rfl (by decide) ?_
      refine zr_alen hSP 9 451 rfl rfl rfl ?_
      refine zr_ic hSP 10 30 rfl rfl (fun q3 => ?_) (fun q3 => ?_)
      · refine zr_s hSP 16 rfl rfl ?_
        refine zr_iret hSP 17 rfl rfl rfl ?_
        exact h3 q1 q2 q3
      · refine zr_aload_n hSP 11 rfl rfl ?_
        refine zr_getR hSP 12 rfl zf_8_15 rfl rfl (by decide) ?_
        refine zr_iload_n hSP 13 rfl rfl ?_
        refine zr_iald hSP 14 rfl rfl (zin (zlo1 q1) (zhi1 q3) (by decide)) ?_
        refine zr_goto hSP 15 31 rfl rfl ?_
        refine zr_iret hSP 17 rfl rfl rfl ?_
        exact h4 q1 q2 q3
set_option maxRecDepth 20000 in
theorem c_X8_valueOf {RO : zRo} {SP : zSp} (hSP : zSPmono SP) {d : Nat} {P : zP} {I : zI} {J : zJ} {D : zD} {bc bs : Nat} {p : Int32} (h1 : p < 0 → P (.inl (some (.long 0))) I J D) (h2 : ¬ (p < 0) → (I 3 4) ≤ p → P (.inl (some (.long 0))) I J D) (h3 : ¬ (p < 0) → ¬ ((I 3 4) ≤ p) → 451 ≤ p → P (.inl (some (.long 0))) I J D) (h4 : ¬ (p < 0) → ¬ ((I 3 4) ≤ p) → ¬ (451 ≤ p) → P (.inl (some (.long (J 6 p.toNatClampNeg)))) I J D) : zT zSH RO SP (d + 1) 95 [.ref 3, .int p] I J D bc bs P := by
  refine zT_of (Nat.le_of_ble_eq_true rfl) rfl ?_
  show zV1 zSH RO SP d 95 P 0 [(0, .ref 3), (1, .int p)] [] I J D bc bs
  refine zr_iload_n hSP 0 rfl rfl ?_
  refine zr_if hSP 1 30 rfl rfl (fun q1 => ?_) (fun q1 => ?_)
  · refine zr_s hSP 16 rfl rfl ?_
    refine zr_lret hSP 17 rfl rfl ?_
    exact h1 q1
  · refine zr_iload_n hSP 2 rfl rfl ?_
    refine zr_aload_n hSP 3 rfl rfl ?_
    refine zr_getI hSP 4 rfl zf_8_37 rfl rfl (by decide) ?_
    refine zr_ic hSP 5 30 rfl rfl (fun q2 => ?_) (fun q2 => ?_)
    · refine zr_s hSP 16 rfl rfl ?_
      refine zr_lret hSP 17 rfl rfl ?_
      exact h2 q1 q2
    · refine zr_iload_n hSP 6 rfl rfl ?_
      refine zr_aload_n hSP 7 rfl rfl ?_
      refine zr_getR hSP 8 rfl zf_8_18 rfl rfl (by decide) ?_
      refine zr_alen hSP 9 451 rfl rfl rfl ?_
      refine zr_ic hSP 10 30 rfl rfl (fun q3 => ?_) (fun q3 => ?_)
      · refine zr_s hSP 16 rfl rfl ?_
        refine zr_lret hSP 17 rfl rfl ?_
        exact h3 q1 q2 q3
      · refine zr_aload_n hSP 11 rfl rfl ?_
        refine zr_getR hSP 12 rfl zf_8_18 rfl rfl (by decide) ?_
        refine zr_iload_n hSP 13 rfl rfl ?_
        refine zr_lald hSP 14 rfl rfl (zin (zlo1 q1) (zhi1 q3) (by decide)) ?_
        refine zr_goto hSP 15 31 rfl rfl ?_
        refine zr_lret hSP 17 rfl rfl ?_
        exact h4 q1 q2 q3
set_option maxRecDepth 20000 in
theorem c_X8_setValue {RO : zRo} {SP : zSp} (hSP : zSPmono SP) {d : Nat} {P : zP} {I : zI} {J : zJ} {D : zD} {bc bs : Nat} {p : Int32} {v : Int64} (h1 : p < 0 → P (.inl none) I J D) (h2 : ¬ (p < 0) → (I 3 4) ≤ p → P (.inl none) I J D) (h3 : ¬ (p < 0) → ¬ ((I 3 4) ≤ p) → 451 ≤ p → P (.inl none) I J D) (h4 : ¬ (p < 0) → ¬ ((I 3 4) ≤ p) → ¬ (451 ≤ p) → P (.inl none) I (zu J 6 p.toNatClampNeg v) D) : zT zSH RO SP (d + 1) 96 [.ref 3, .int p, .long v] I J D bc bs P := by
  refine zT_of (Nat.le_of_ble_eq_true rfl) rfl ?_
  show zV1 zSH RO SP d 96 P 0 [(0, .ref 3), (1, .int p), (2, .long v)] [] I J D bc bs
  refine zr_iload_n hSP 0 rfl rfl ?_
  refine zr_if hSP 1 28 rfl rfl (fun q1 => ?_) (fun q1 => ?_)
  · refine zr_vret hSP 16 rfl rfl ?_
    exact h1 q1
  · refine zr_iload_n hSP 2 rfl rfl ?_
    refine zr_aload_n hSP 3 rfl rfl ?_
    refine zr_getI hSP 4 rfl zf_8_37 rfl rfl (by decide) ?_
    refine zr_ic hSP 5 28 rfl rfl (fun q2 => ?_) (fun q2 => ?_)
    · refine zr_vret hSP 16 rfl rfl ?_
      exact h2 q1 q2
    · refine zr_iload_n hSP 6 rfl rfl ?_
      refine zr_aload_n hSP 7 rfl rfl ?_
      refine zr_getR hSP 8 rfl zf_8_18 rfl rfl (by decide) ?_
      refine zr_alen hSP 9 451 rfl rfl rfl ?_
      refine zr_ic hSP 10 28 rfl rfl (fun q3 => ?_) (fun q3 => ?_)
      · refine zr_vret hSP 16 rfl rfl ?_
        exact h3 q1 q2 q3
      · refine zr_aload_n hSP 11 rfl rfl ?_
        refine zr_getR hSP 12 rfl zf_8_18 rfl rfl (by decide) ?_
        refine zr_iload_n hSP 13 rfl rfl ?_
        refine zr_lload_n hSP 14 rfl rfl ?_
        refine zr_last hSP 15 rfl rfl (zin (zlo1 q1) (zhi1 q3) (by decide)) ?_
        refine zr_vret hSP 16 rfl rfl ?_
        exact h4 q1 q2 q3
set_option maxRecDepth 20000 in
theorem c_X8_append {RO : zRo} {SP : zSp} (hSP : zSPmono SP) {d : Nat} {P : zP} {I : zI} {J : zJ} {D : zD} {bc bs : Nat} {p w : Int32} {v : Int64} (h1 : (I 3 4) < 0 → P (.inl none) I J D) (h2 : ¬ ((I 3 4) < 0) → 451 ≤ (I 3 4) → P (.inl none) I J D) (h3 : ¬ ((I 3 4) < 0) → ¬ (451 ≤ (I 3 4)) → 451 ≤ (I 3 4) → P (.inl none) I J D) (h4 : ¬ ((I 3 4) < 0) → ¬ (451 ≤ (I 3 4)) → ¬ (451 ≤ (I 3 4)) → 451 ≤ (I 3 4) → P (.inl none) I J D) (h5 : ¬ ((I 3 4) < 0) → ¬ (451 ≤ (I 3 4)) → ¬ (451 ≤ (I 3 4)) → ¬ (451 ≤ (I 3 4)) → P (.inl none) (zu (zu (zu I 4 ((I 3 4).toNatClampNeg) p) 5 ((I 3 4).toNatClampNeg) w) 3 4 ((I 3 4) + 1)) (zu J 6 ((I 3 4).toNatClampNeg) v) D) : zT zSH RO SP (d + 1) 97 [.ref 3, .int p, .int w, .long v] I J D bc bs P := by
  refine zT_of (Nat.le_of_ble_eq_true rfl) rfl ?_
  show zV1 zSH RO SP d 97 P 0 [(0, .ref 3), (1, .int p), (2, .int w), (3, .long v)] [] I J D bc bs
  refine zr_aload_n hSP 0 rfl rfl ?_
  refine zr_getI hSP 1 rfl zf_8_37 rfl rfl (by decide) ?_
  refine zr_if hSP 2 83 rfl rfl (fun q1 => ?_) (fun q1 => ?_)
  · refine zr_vret hSP 45 rfl rfl ?_
    exact h1 q1
  · refine zr_aload_n hSP 3 rfl rfl ?_
    refine zr_getI hSP 4 rfl zf_8_37 rfl rfl (by decide) ?_
    refine zr_aload_n hSP 5 rfl rfl ?_
    refine zr_getR hSP 6 rfl zf_8_9 rfl rfl (by decide) ?_
    refine zr_alen hSP 7 451 rfl rfl rfl ?_
    refine zr_ic hSP 8 83 rfl rfl (fun q2 => ?_) (fun q2 => ?_)
    · refine zr_vret hSP 45 rfl rfl ?_
      exact h2 q1 q2
    · refine zr_aload_n hSP 9 rfl rfl ?_
      refine zr_getI hSP 10 rfl zf_8_37 rfl rfl (by decide) ?_
      refine zr_aload_n hSP 11 rfl rfl ?_
      refine zr_getR hSP 12 rfl zf_8_15 rfl rfl (by decide) ?_
      refine zr_alen hSP 13 451 rfl rfl rfl ?_
      refine zr_ic hSP 14 83 rfl rfl (fun q3 => ?_) (fun q3 => ?_)
      · refine zr_vret hSP 45 rfl rfl ?_
        exact h3 q1 q2 q3
      · refine zr_aload_n hSP 15 rfl rfl ?_
        refine zr_getI hSP 16 rfl zf_8_37 rfl rfl (by decide) ?_
        refine zr_aload_n hSP 17 rfl rfl ?_
        refine zr_getR hSP 18 rfl zf_8_18 rfl rfl (by decide) ?_
        refine zr_alen hSP 19 451 rfl rfl rfl ?_
        refine zr_ic hSP 20 83 rfl rfl (fun q4 => ?_) (fun q4 => ?_)
        · refine zr_vret hSP 45 rfl rfl ?_
          exact h4 q1 q2 q3 q4
        · refine zr_aload_n hSP 21 rfl rfl ?_
          refine zr_getR hSP 22 rfl zf_8_9 rfl rfl (by decide) ?_
          refine zr_aload_n hSP 23 rfl rfl ?_
          refine zr_getI hSP 24 rfl zf_8_37 rfl rfl (by decide) ?_
          refine zr_iload_n hSP 25 rfl rfl ?_
          refine zr_iast hSP 26 rfl rfl (zin (zlo1 q1) (zhi1 q4) (by decide)) ?_
          refine zr_aload_n hSP 27 rfl rfl ?_
          refine zr_getR hSP 28 rfl zf_8_15 rfl rfl (by decide) ?_
          refine zr_aload_n hSP 29 rfl rfl ?_
          refine zr_getI hSP 30 rfl zf_8_37 rfl rfl (by decide) ?_
          refine zr_iload_n hSP 31 rfl rfl ?_
          refine zr_iast hSP 32 rfl rfl (zin (zlo1 q1) (zhi1 q4) (by decide)) ?_
          refine zr_aload_n hSP 33 rfl rfl ?_
          refine zr_getR hSP 34 rfl zf_8_18 rfl rfl (by decide) ?_
          refine zr_aload_n hSP 35 rfl rfl ?_
          refine zr_getI hSP 36 rfl zf_8_37 rfl rfl (by decide) ?_
          refine zr_lload_n hSP 37 rfl rfl ?_
          refine zr_last hSP 38 rfl rfl (zin (zlo1 q1) (zhi1 q4) (by decide)) ?_
          refine zr_aload_n hSP 39 rfl rfl ?_
          refine zr_s hSP 40 rfl rfl ?_
          refine zr_getI hSP 41 rfl zf_8_37 rfl rfl (by decide) ?_
          refine zr_s hSP 42 rfl rfl ?_
          refine zr_s hSP 43 rfl rfl ?_
          refine zr_putI hSP 44 rfl zf_8_37 rfl rfl (by decide) zp_8_4 ?_
          refine zr_vret hSP 45 rfl rfl ?_
          exact h5 q1 q2 q3 q4
set_option maxRecDepth 20000 in
theorem c_X8_isLetter {RO : zRo} {SP : zSp} (hSP : zSPmono SP) {d : Nat} {P : zP} {I : zI} {J : zJ} {D : zD} {bc bs : Nat} {p : Int32} (h1 : p < 97 → P (.inl (some (.int 0))) I J D) (h2 : ¬ (p < 97) → 122 < p → P (.inl (some (.int 0))) I J D) (h3 : ¬ (p < 97) → ¬ (122 < p) → P (.inl (some (.int 1))) I J D) : zT zSH RO SP (d + 1) 104 [.int p] I J D bc bs P := by
  refine zT_of (Nat.le_of_ble_eq_true rfl) rfl ?_
  show zV1 zSH RO SP d 104 P 0 [(0, .int p)] [] I J D bc bs
  refine zr_iload_n hSP 0 rfl rfl ?_
  refine zr_bipush hSP 1 97 rfl rfl ?_
  refine zr_ic hSP 2 16 rfl rfl (fun q1 => ?_) (fun q1 => ?_)
  · refine zr_s hSP 8 rfl rfl ?_
    refine zr_iret hSP 9 rfl rfl rfl ?_
    exact h1 q1
  · refine zr_iload_n hSP 3 rfl rfl ?_
    refine zr_bipush hSP 4 122 rfl rfl ?_
    refine zr_ic hSP 5 16 rfl rfl (fun q2 => ?_) (fun q2 => ?_)
    · refine zr_s hSP 8 rfl rfl ?_
      refine zr_iret hSP 9 rfl rfl rfl ?_
      exact h2 q1 q2
    · refine zr_s hSP 6 rfl rfl ?_
      refine zr_goto hSP 7 17 rfl rfl ?_
      refine zr_iret hSP 9 rfl rfl rfl ?_
      exact h3 q1 q2
set_option maxRecDepth 20000 in
theorem c_X8_isDigit {RO : zRo} {SP : zSp} (hSP : zSPmono SP) {d : Nat} {P : zP} {I : zI} {J : zJ} {D : zD} {bc bs : Nat} {p : Int32} (h1 : p < 48 → P (.inl (some (.int 0))) I J D) (h2 : ¬ (p < 48) → 57 < p → P (.inl (some (.int 0))) I J D) (h3 : ¬ (p < 48) → ¬ (57 < p) → P (.inl (some (.int 1))) I J D) : zT zSH RO SP (d + 1) 105 [.int p] I J D bc bs P := by
  refine zT_of (Nat.le_of_ble_eq_true rfl) rfl ?_
  show zV1 zSH RO SP d 105 P 0 [(0, .int p)] [] I J D bc bs
  refine zr_iload_n hSP 0 rfl rfl ?_
  refine zr_bipush hSP 1 48 rfl rfl ?_
  refine zr_ic hSP 2 16 rfl rfl (fun q1 => ?_) (fun q1 => ?_)
  · refine zr_s hSP 8 rfl rfl ?_
    refine zr_iret hSP 9 rfl rfl rfl ?_
    exact h1 q1
  · refine zr_iload_n hSP 3 rfl rfl ?_
    refine zr_bipush hSP 4 57 rfl rfl ?_
    refine zr_ic hSP 5 16 rfl rfl (fun q2 => ?_) (fun q2 => ?_)
    · refine zr_s hSP 8 rfl rfl ?_
      refine zr_iret hSP 9 rfl rfl rfl ?_
      exact h2 q1 q2
    · refine zr_s hSP 6 rfl rfl ?_
      refine zr_goto hSP 7 17 rfl rfl ?_
      refine zr_iret hSP 9 rfl rfl rfl ?_
      exact h3 q1 q2

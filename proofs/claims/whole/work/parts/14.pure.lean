/-! ===== written by wip/whole/lay14.py: Math, copies; pure methods as values ===== -/
def zM0 : Nat → Int32 := fun k => [6, 6, 6, 12, 8, 8, 1].getD k 0
def zM1 : Nat → Int32 := fun k => [6, 6, 0, 0, 6, 12, 8, 8, 1].getD k 0
def zROk (RO : zRo) : Prop := RO 100 = some (7, zM0) ∧ RO 101 = some (9, zM1)
theorem zmt_J1_92 : zMth "java/lang/StringLatin1" 92 Lib.Math.max.name Lib.Math.max.code 2 .int := ⟨zmem2 218 (by decide +kernel) (by decide +kernel), zmem2 219 (by decide +kernel) (by decide +kernel), zmem1 16 (by decide +kernel) (by decide +kernel), zmem2 220 (by decide +kernel) (by decide +kernel)⟩
theorem zmt_J1_38 : zMth "java/lang/StringLatin1" 38 Lib.Math.min.name Lib.Math.min.code 2 .int := ⟨zmem2 221 (by decide +kernel) (by decide +kernel), zmem2 222 (by decide +kernel) (by decide +kernel), zmem1 16 (by decide +kernel) (by decide +kernel), zmem2 223 (by decide +kernel) (by decide +kernel)⟩
theorem zmt_J2_224 : zMth "java/lang/StringUTF16" 224 Lib.Math.max.name Lib.Math.max.code 2 .int := ⟨zmem2 230 (by decide +kernel) (by decide +kernel), zmem2 219 (by decide +kernel) (by decide +kernel), zmem1 16 (by decide +kernel) (by decide +kernel), zmem2 220 (by decide +kernel) (by decide +kernel)⟩
theorem zmt_J2_183 : zMth "java/lang/StringUTF16" 183 Lib.Math.min.name Lib.Math.min.code 2 .int := ⟨zmem2 231 (by decide +kernel) (by decide +kernel), zmem2 222 (by decide +kernel) (by decide +kernel), zmem1 16 (by decide +kernel) (by decide +kernel), zmem2 223 (by decide +kernel) (by decide +kernel)⟩
theorem zmt_9_183 : zMth "RuleStack" 183 Lib.Math.min.name Lib.Math.min.code 2 .int := ⟨zmem3 207 (by decide +kernel) (by decide +kernel), zmem2 222 (by decide +kernel) (by decide +kernel), zmem1 16 (by decide +kernel) (by decide +kernel), zmem2 223 (by decide +kernel) (by decide +kernel)⟩
theorem zmt_11_339 : zMth "RuleStackModel" 339 Lib.MathLoose.min_long.x Lib.MathLoose.min_long.code 4 .long := ⟨zmem7 95 (by decide +kernel) (by decide +kernel), zmem7 96 (by decide +kernel) (by decide +kernel), zmem1 16 (by decide +kernel) (by decide +kernel), zmem7 97 (by decide +kernel) (by decide +kernel)⟩
theorem zmt_11_345 : zMth "RuleStackModel" 345 Lib.MathLoose.max_long.x Lib.MathLoose.max_long.code 4 .long := ⟨zmem7 98 (by decide +kernel) (by decide +kernel), zmem7 99 (by decide +kernel) (by decide +kernel), zmem1 16 (by decide +kernel) (by decide +kernel), zmem7 100 (by decide +kernel) (by decide +kernel)⟩
theorem zmt_11_356 : zMth "RuleStackModel" 356 Lib.Math.max.name Lib.Math.max.code 2 .int := ⟨zmem7 108 (by decide +kernel) (by decide +kernel), zmem2 219 (by decide +kernel) (by decide +kernel), zmem1 16 (by decide +kernel) (by decide +kernel), zmem2 220 (by decide +kernel) (by decide +kernel)⟩
theorem zac_11 : zAcp "RuleStackModel" 397 := ⟨zmem7 153 (by decide +kernel) (by decide +kernel), zmem7 155 (by decide +kernel) (by decide +kernel), zmem7 154 (by decide +kernel) (by decide +kernel), zmem1 25 (by decide +kernel) (by decide +kernel)⟩
def zv_3 (I : zI) (J : zJ) (p0 : Int32) : Int32 := if p0 < 0 then 54 else (if (I 8 2) ≤ p0 then 54 else (if 450 ≤ p0 then 54 else (I 9 p0.toNatClampNeg)))
theorem ze_3 {RO : zRo} {d : Nat} {P : zP} {I : zI} {J : zJ} {D : zD} {bc bs : Nat} {p0 : Int32} (h : P (.inl (some (.int (zv_3 I J p0)))) I J D) : zz RO (d + 1) 3 [.ref 8, .int p0] I J D bc bs P := by
  refine zT_of (Nat.le_of_ble_eq_true rfl) rfl ?_
  show zw RO d 3 P 0 [(0, .ref 8), (1, .int p0)] [] I J D bc bs
  unfold zv_3 at h
  refine zr_iload_n zSm 0 rfl rfl ?_
  refine zr_if zSm 1 30 rfl rfl (fun q1 => ?_) (fun q1 => ?_)
  · rw [if_pos (show (p0 < 0) from q1)] at h
    refine zr_bipush zSm 16 54 rfl rfl ?_
    refine zr_iret zSm 17 rfl rfl rfl ?_
    exact h
  · rw [if_neg (show ¬ (p0 < 0) from q1)] at h
    refine zr_iload_n zSm 2 rfl rfl ?_
    refine zr_aload_n zSm 3 rfl rfl ?_
    refine zr_getI zSm 4 rfl zf_0_18 rfl rfl (by decide) ?_
    refine zr_ic zSm 5 30 rfl rfl (fun q2 => ?_) (fun q2 => ?_)
    · rw [if_pos (show ((I 8 2) ≤ p0) from q2)] at h
      refine zr_bipush zSm 16 54 rfl rfl ?_
      refine zr_iret zSm 17 rfl rfl rfl ?_
      exact h
    · rw [if_neg (show ¬ ((I 8 2) ≤ p0) from q2)] at h
      refine zr_iload_n zSm 6 rfl rfl ?_
      refine zr_aload_n zSm 7 rfl rfl ?_
      refine zr_getR zSm 8 rfl zf_0_9 rfl rfl (by decide) ?_
      refine zr_alen zSm 9 450 rfl rfl rfl ?_
      refine zr_ic zSm 10 30 rfl rfl (fun q3 => ?_) (fun q3 => ?_)
      · rw [if_pos (show (450 ≤ p0) from q3)] at h
        refine zr_bipush zSm 16 54 rfl rfl ?_
        refine zr_iret zSm 17 rfl rfl rfl ?_
        exact h
      · rw [if_neg (show ¬ (450 ≤ p0) from q3)] at h
        refine zr_aload_n zSm 11 rfl rfl ?_
        refine zr_getR zSm 12 rfl zf_0_9 rfl rfl (by decide) ?_
        refine zr_iload_n zSm 13 rfl rfl ?_
        refine zr_iald zSm 14 rfl rfl (zin (zlo1 q1) (zhi1 q3) (by decide)) ?_
        refine zr_goto zSm 15 32 rfl rfl ?_
        refine zr_iret zSm 17 rfl rfl rfl ?_
        exact h
def zv_4 (I : zI) (J : zJ) (p0 : Int32) : Int32 := if p0 < 0 then 0 else (if (I 8 2) ≤ p0 then 0 else (if 450 ≤ p0 then 0 else (I 10 p0.toNatClampNeg)))
theorem ze_4 {RO : zRo} {d : Nat} {P : zP} {I : zI} {J : zJ} {D : zD} {bc bs : Nat} {p0 : Int32} (h : P (.inl (some (.int (zv_4 I J p0)))) I J D) : zz RO (d + 1) 4 [.ref 8, .int p0] I J D bc bs P := by
  refine zT_of (Nat.le_of_ble_eq_true rfl) rfl ?_
  show zw RO d 4 P 0 [(0, .ref 8), (1, .int p0)] [] I J D bc bs
  unfold zv_4 at h
  refine zr_iload_n zSm 0 rfl rfl ?_
  refine zr_if zSm 1 30 rfl rfl (fun q1 => ?_) (fun q1 => ?_)
  · rw [if_pos (show (p0 < 0) from q1)] at h
    refine zr_s zSm 16 rfl rfl ?_
    refine zr_iret zSm 17 rfl rfl rfl ?_
    exact h
  · rw [if_neg (show ¬ (p0 < 0) from q1)] at h
    refine zr_iload_n zSm 2 rfl rfl ?_
    refine zr_aload_n zSm 3 rfl rfl ?_
    refine zr_getI zSm 4 rfl zf_0_18 rfl rfl (by decide) ?_
    refine zr_ic zSm 5 30 rfl rfl (fun q2 => ?_) (fun q2 => ?_)
    · rw [if_pos (show ((I 8 2) ≤ p0) from q2)] at h
      refine zr_s zSm 16 rfl rfl ?_
      refine zr_iret zSm 17 rfl rfl rfl ?_
      exact h
    · rw [if_neg (show ¬ ((I 8 2) ≤ p0) from q2)] at h
      refine zr_iload_n zSm 6 rfl rfl ?_
      refine zr_aload_n zSm 7 rfl rfl ?_
      refine zr_getR zSm 8 rfl zf_0_15 rfl rfl (by decide) ?_
      refine zr_alen zSm 9 450 rfl rfl rfl ?_
      refine zr_ic zSm 10 30 rfl rfl (fun q3 => ?_) (fun q3 => ?_)
      · rw [if_pos (show (450 ≤ p0) from q3)] at h
        refine zr_s zSm 16 rfl rfl ?_
        refine zr_iret zSm 17 rfl rfl rfl ?_
        exact h
      · rw [if_neg (show ¬ (450 ≤ p0) from q3)] at h
        refine zr_aload_n zSm 11 rfl rfl ?_
        refine zr_getR zSm 12 rfl zf_0_15 rfl rfl (by decide) ?_
        refine zr_iload_n zSm 13 rfl rfl ?_
        refine zr_iald zSm 14 rfl rfl (zin (zlo1 q1) (zhi1 q3) (by decide)) ?_
        refine zr_goto zSm 15 31 rfl rfl ?_
        refine zr_iret zSm 17 rfl rfl rfl ?_
        exact h
def zv_17 (I : zI) (J : zJ) (p0 : Int32) : Int32 := if p0 = 16 then 1 else (if p0 = 17 then 1 else (if p0 = 18 then 1 else (if p0 = 24 then 1 else (if p0 = 21 then 1 else (if p0 = 22 then 1 else (if ¬ p0 = 23 then 0 else 1))))))
theorem zvb_17 {I : zI} {J : zJ} {p0 : Int32} : zv_17 I J p0 = 0 ∨ zv_17 I J p0 = 1 := by
  unfold zv_17
  (repeat' split) <;> first | exact Or.inl rfl | exact Or.inr rfl
theorem ze_17 {RO : zRo} {d : Nat} {P : zP} {I : zI} {J : zJ} {D : zD} {bc bs : Nat} {p0 : Int32} (h : P (.inl (some (.int (zv_17 I J p0)))) I J D) : zz RO (d + 1) 17 [.int p0] I J D bc bs P := by
  refine zT_of (Nat.le_of_ble_eq_true rfl) rfl ?_
  show zw RO d 17 P 0 [(0, .int p0)] [] I J D bc bs
  unfold zv_17 at h
  refine zr_iload_n zSm 0 rfl rfl ?_
  refine zr_bipush zSm 1 16 rfl rfl ?_
  refine zr_ic zSm 2 42 rfl rfl (fun q1 => ?_) (fun q1 => ?_)
  · rw [if_pos (show (p0 = 16) from q1)] at h
    refine zr_s zSm 21 rfl rfl ?_
    refine zr_goto zSm 22 47 rfl rfl ?_
    refine zr_iret zSm 24 rfl rfl (zn_b (Or.inr rfl)) ?_
    exact h
  · rw [if_neg (show ¬ (p0 = 16) from q1)] at h
    refine zr_iload_n zSm 3 rfl rfl ?_
    refine zr_bipush zSm 4 17 rfl rfl ?_
    refine zr_ic zSm 5 42 rfl rfl (fun q2 => ?_) (fun q2 => ?_)
    · rw [if_pos (show (p0 = 17) from q2)] at h
      refine zr_s zSm 21 rfl rfl ?_
      refine zr_goto zSm 22 47 rfl rfl ?_
      refine zr_iret zSm 24 rfl rfl (zn_b (Or.inr rfl)) ?_
      exact h
    · rw [if_neg (show ¬ (p0 = 17) from q2)] at h
      refine zr_iload_n zSm 6 rfl rfl ?_
      refine zr_bipush zSm 7 18 rfl rfl ?_
      refine zr_ic zSm 8 42 rfl rfl (fun q3 => ?_) (fun q3 => ?_)
      · rw [if_pos (show (p0 = 18) from q3)] at h
        refine zr_s zSm 21 rfl rfl ?_
        refine zr_goto zSm 22 47 rfl rfl ?_
        refine zr_iret zSm 24 rfl rfl (zn_b (Or.inr rfl)) ?_
        exact h
      · rw [if_neg (show ¬ (p0 = 18) from q3)] at h
        refine zr_iload_n zSm 9 rfl rfl ?_
        refine zr_bipush zSm 10 24 rfl rfl ?_
        refine zr_ic zSm 11 42 rfl rfl (fun q4 => ?_) (fun q4 => ?_)
        · rw [if_pos (show (p0 = 24) from q4)] at h
          refine zr_s zSm 21 rfl rfl ?_
          refine zr_goto zSm 22 47 rfl rfl ?_
          refine zr_iret zSm 24 rfl rfl (zn_b (Or.inr rfl)) ?_
          exact h
        · rw [if_neg (show ¬ (p0 = 24) from q4)] at h
          refine zr_iload_n zSm 12 rfl rfl ?_
          refine zr_bipush zSm 13 21 rfl rfl ?_
          refine zr_ic zSm 14 42 rfl rfl (fun q5 => ?_) (fun q5 => ?_)
          · rw [if_pos (show (p0 = 21) from q5)] at h
            refine zr_s zSm 21 rfl rfl ?_
            refine zr_goto zSm 22 47 rfl rfl ?_
            refine zr_iret zSm 24 rfl rfl (zn_b (Or.inr rfl)) ?_
            exact h
          · rw [if_neg (show ¬ (p0 = 21) from q5)] at h
            refine zr_iload_n zSm 15 rfl rfl ?_
            refine zr_bipush zSm 16 22 rfl rfl ?_
            refine zr_ic zSm 17 42 rfl rfl (fun q6 => ?_) (fun q6 => ?_)
            · rw [if_pos (show (p0 = 22) from q6)] at h
              refine zr_s zSm 21 rfl rfl ?_
              refine zr_goto zSm 22 47 rfl rfl ?_
              refine zr_iret zSm 24 rfl rfl (zn_b (Or.inr rfl)) ?_
              exact h
            · rw [if_neg (show ¬ (p0 = 22) from q6)] at h
              refine zr_iload_n zSm 18 rfl rfl ?_
              refine zr_bipush zSm 19 23 rfl rfl ?_
              refine zr_ic zSm 20 46 rfl rfl (fun q7 => ?_) (fun q7 => ?_)
              · rw [if_pos (show (¬ p0 = 23) from q7)] at h
                refine zr_s zSm 23 rfl rfl ?_
                refine zr_iret zSm 24 rfl rfl (zn_b (Or.inl rfl)) ?_
                exact h
              · rw [if_neg (show ¬ (¬ p0 = 23) from q7)] at h
                refine zr_s zSm 21 rfl rfl ?_
                refine zr_goto zSm 22 47 rfl rfl ?_
                refine zr_iret zSm 24 rfl rfl (zn_b (Or.inr rfl)) ?_
                exact h
def zv_23 (I : zI) (J : zJ) (p0 : Int32) : Int32 := if p0 = 33 then 1 else (if p0 = 34 then 0 else (if (p0 = 41 ∨ p0 = 47 ∨ p0 = 48 ∨ p0 = 49 ∨ p0 = 50 ∨ p0 = 51) then 2 else (if (p0 = 42 ∨ p0 = 43) then 3 else (if (p0 = 44 ∨ p0 = 45 ∨ p0 = 46) then 4 else (-1)))))
theorem ze_23 {RO : zRo} {d : Nat} {P : zP} {I : zI} {J : zJ} {D : zD} {bc bs : Nat} {p0 : Int32} (h : P (.inl (some (.int (zv_23 I J p0)))) I J D) : zz RO (d + 1) 23 [.int p0] I J D bc bs P := by
  refine zT_of (Nat.le_of_ble_eq_true rfl) rfl ?_
  show zw RO d 23 P 0 [(0, .int p0)] [] I J D bc bs
  unfold zv_23 at h
  refine zr_iload_n zSm 0 rfl rfl ?_
  by_cases q1 : p0 = 33
  · rw [if_pos (show (p0 = 33) from q1)] at h
    refine zr_tsG 1 94 [33] rfl (by simp only [List.mem_cons, List.not_mem_nil, or_false]; exact q1) (by decide) ?_
    refine zr_s zSm 4 rfl rfl ?_
    refine zr_iret zSm 5 rfl rfl rfl ?_
    exact h
  · rw [if_neg (show ¬ (p0 = 33) from q1)] at h
    by_cases q2 : p0 = 34
    · rw [if_pos (show (p0 = 34) from q2)] at h
      refine zr_tsG 1 92 [34] rfl (by simp only [List.mem_cons, List.not_mem_nil, or_false]; exact q2) (by decide) ?_
      refine zr_s zSm 2 rfl rfl ?_
      refine zr_iret zSm 3 rfl rfl rfl ?_
      exact h
    · rw [if_neg (show ¬ (p0 = 34) from q2)] at h
      by_cases q3 : (p0 = 41 ∨ p0 = 47 ∨ p0 = 48 ∨ p0 = 49 ∨ p0 = 50 ∨ p0 = 51)
      · rw [if_pos (show (p0 = 41 ∨ p0 = 47 ∨ p0 = 48 ∨ p0 = 49 ∨ p0 = 50 ∨ p0 = 51) from q3)] at h
        refine zr_tsG 1 96 [41, 47, 48, 49, 50, 51] rfl (by simp only [List.mem_cons, List.not_mem_nil, or_false]; exact q3) (by decide) ?_
        refine zr_s zSm 6 rfl rfl ?_
        refine zr_iret zSm 7 rfl rfl rfl ?_
        exact h
      · rw [if_neg (show ¬ (p0 = 41 ∨ p0 = 47 ∨ p0 = 48 ∨ p0 = 49 ∨ p0 = 50 ∨ p0 = 51) from q3)] at h
        by_cases q4 : (p0 = 42 ∨ p0 = 43)
        · rw [if_pos (show (p0 = 42 ∨ p0 = 43) from q4)] at h
          refine zr_tsG 1 98 [42, 43] rfl (by simp only [List.mem_cons, List.not_mem_nil, or_false]; exact q4) (by decide) ?_
          refine zr_s zSm 8 rfl rfl ?_
          refine zr_iret zSm 9 rfl rfl rfl ?_
          exact h
        · rw [if_neg (show ¬ (p0 = 42 ∨ p0 = 43) from q4)] at h
          by_cases q5 : (p0 = 44 ∨ p0 = 45 ∨ p0 = 46)
          · rw [if_pos (show (p0 = 44 ∨ p0 = 45 ∨ p0 = 46) from q5)] at h
            refine zr_tsG 1 100 [44, 45, 46] rfl (by simp only [List.mem_cons, List.not_mem_nil, or_false]; exact q5) (by decide) ?_
            refine zr_s zSm 10 rfl rfl ?_
            refine zr_iret zSm 11 rfl rfl rfl ?_
            exact h
          · rw [if_neg (show ¬ (p0 = 44 ∨ p0 = 45 ∨ p0 = 46) from q5)] at h
            refine zr_tsD 1 102 [33, 34, 41, 42, 43, 44, 45, 46, 47, 48, 49, 50, 51] rfl ?_ (by decide) rfl ?_
            · intro hx
              simp only [List.mem_cons, List.not_mem_nil, or_false] at hx
              rcases hx with e | e | e | e | e | e | e | e | e | e | e | e | e
              · exact q1 e
              · exact q2 e
              · exact q3 (Or.inl e)
              · exact q4 (Or.inl e)
              · exact q4 (Or.inr (e))
              · exact q5 (Or.inl e)
              · exact q5 (Or.inr (Or.inl e))
              · exact q5 (Or.inr (Or.inr (e)))
              · exact q3 (Or.inr (Or.inl e))
              · exact q3 (Or.inr (Or.inr (Or.inl e)))
              · exact q3 (Or.inr (Or.inr (Or.inr (Or.inl e))))
              · exact q3 (Or.inr (Or.inr (Or.inr (Or.inr (Or.inl e)))))
              · exact q3 (Or.inr (Or.inr (Or.inr (Or.inr (Or.inr (e))))))
            · refine zr_s zSm 12 rfl rfl ?_
              refine zr_iret zSm 13 rfl rfl rfl ?_
              exact h
def zv_31 (I : zI) (J : zJ) (p0 p1 : Int32) : Int32 := if ((p0 * 4) + p1) < 0 then 0 else (if 1000 ≤ ((p0 * 4) + p1) then 0 else (I 27 (((p0 * 4) + p1).toNatClampNeg)))
theorem ze_31 {RO : zRo} {d : Nat} {P : zP} {I : zI} {J : zJ} {D : zD} {bc bs : Nat} {p0 p1 : Int32} (h : P (.inl (some (.int (zv_31 I J p0 p1)))) I J D) : zz RO (d + 1) 31 [.ref 23, .int p0, .int p1] I J D bc bs P := by
  refine zT_of (Nat.le_of_ble_eq_true rfl) rfl ?_
  show zw RO d 31 P 0 [(0, .ref 23), (1, .int p0), (2, .int p1)] [] I J D bc bs
  unfold zv_31 at h
  refine zr_iload_n zSm 0 rfl rfl ?_
  refine zr_s zSm 1 rfl rfl ?_
  refine zr_s zSm 2 rfl rfl ?_
  refine zr_iload_n zSm 3 rfl rfl ?_
  refine zr_s zSm 4 rfl rfl ?_
  refine zr_istore_n zSm 5 (ll' := [(3, .int ((p0 * 4) + p1)), (0, .ref 23), (1, .int p0), (2, .int p1)]) rfl (by decide) rfl ?_
  refine zr_iload_n zSm 6 rfl rfl ?_
  refine zr_if zSm 7 28 rfl rfl (fun q1 => ?_) (fun q1 => ?_)
  · rw [if_pos (show (((p0 * 4) + p1) < 0) from q1)] at h
    refine zr_s zSm 18 rfl rfl ?_
    refine zr_iret zSm 19 rfl rfl rfl ?_
    exact h
  · rw [if_neg (show ¬ (((p0 * 4) + p1) < 0) from q1)] at h
    refine zr_iload_n zSm 8 rfl rfl ?_
    refine zr_aload_n zSm 9 rfl rfl ?_
    refine zr_getR zSm 10 rfl zf_2_23 rfl rfl (by decide) ?_
    refine zr_alen zSm 11 1000 rfl rfl rfl ?_
    refine zr_ic zSm 12 28 rfl rfl (fun q2 => ?_) (fun q2 => ?_)
    · rw [if_pos (show (1000 ≤ ((p0 * 4) + p1)) from q2)] at h
      refine zr_s zSm 18 rfl rfl ?_
      refine zr_iret zSm 19 rfl rfl rfl ?_
      exact h
    · rw [if_neg (show ¬ (1000 ≤ ((p0 * 4) + p1)) from q2)] at h
      refine zr_aload_n zSm 13 rfl rfl ?_
      refine zr_getR zSm 14 rfl zf_2_23 rfl rfl (by decide) ?_
      refine zr_iload_n zSm 15 rfl rfl ?_
      refine zr_iald zSm 16 rfl rfl (zin (zlo1 q1) (zhi1 q2) (by decide)) ?_
      refine zr_goto zSm 17 29 rfl rfl ?_
      refine zr_iret zSm 19 rfl rfl rfl ?_
      exact h
def zv_44 (I : zI) (J : zJ) (p0 : Int32) : Int32 := if p0 = 2 then 1 else (if p0 = 3 then 1 else (if p0 < 28 then 0 else (if 32 < p0 then 0 else 1)))
theorem zvb_44 {I : zI} {J : zJ} {p0 : Int32} : zv_44 I J p0 = 0 ∨ zv_44 I J p0 = 1 := by
  unfold zv_44
  (repeat' split) <;> first | exact Or.inl rfl | exact Or.inr rfl | exact zvb_17
theorem ze_44 {RO : zRo} {d : Nat} {P : zP} {I : zI} {J : zJ} {D : zD} {bc bs : Nat} {p0 : Int32} (h : P (.inl (some (.int (zv_44 I J p0)))) I J D) : zz RO (d + 1) 44 [.int p0] I J D bc bs P := by
  refine zT_of (Nat.le_of_ble_eq_true rfl) rfl ?_
  show zw RO d 44 P 0 [(0, .int p0)] [] I J D bc bs
  unfold zv_44 at h
  refine zr_iload_n zSm 0 rfl rfl ?_
  refine zr_s zSm 1 rfl rfl ?_
  refine zr_ic zSm 2 22 rfl rfl (fun q1 => ?_) (fun q1 => ?_)
  · rw [if_pos (show (p0 = 2) from q1)] at h
    refine zr_s zSm 12 rfl rfl ?_
    refine zr_goto zSm 13 27 rfl rfl ?_
    refine zr_iret zSm 15 rfl rfl (zn_b (Or.inr rfl)) ?_
    exact h
  · rw [if_neg (show ¬ (p0 = 2) from q1)] at h
    refine zr_iload_n zSm 3 rfl rfl ?_
    refine zr_s zSm 4 rfl rfl ?_
    refine zr_ic zSm 5 22 rfl rfl (fun q2 => ?_) (fun q2 => ?_)
    · rw [if_pos (show (p0 = 3) from q2)] at h
      refine zr_s zSm 12 rfl rfl ?_
      refine zr_goto zSm 13 27 rfl rfl ?_
      refine zr_iret zSm 15 rfl rfl (zn_b (Or.inr rfl)) ?_
      exact h
    · rw [if_neg (show ¬ (p0 = 3) from q2)] at h
      refine zr_iload_n zSm 6 rfl rfl ?_
      refine zr_bipush zSm 7 28 rfl rfl ?_
      refine zr_ic zSm 8 26 rfl rfl (fun q3 => ?_) (fun q3 => ?_)
      · rw [if_pos (show (p0 < 28) from q3)] at h
        refine zr_s zSm 14 rfl rfl ?_
        refine zr_iret zSm 15 rfl rfl (zn_b (Or.inl rfl)) ?_
        exact h
      · rw [if_neg (show ¬ (p0 < 28) from q3)] at h
        refine zr_iload_n zSm 9 rfl rfl ?_
        refine zr_bipush zSm 10 32 rfl rfl ?_
        refine zr_ic zSm 11 26 rfl rfl (fun q4 => ?_) (fun q4 => ?_)
        · rw [if_pos (show (32 < p0) from q4)] at h
          refine zr_s zSm 14 rfl rfl ?_
          refine zr_iret zSm 15 rfl rfl (zn_b (Or.inl rfl)) ?_
          exact h
        · rw [if_neg (show ¬ (32 < p0) from q4)] at h
          refine zr_s zSm 12 rfl rfl ?_
          refine zr_goto zSm 13 27 rfl rfl ?_
          refine zr_iret zSm 15 rfl rfl (zn_b (Or.inr rfl)) ?_
          exact h
def zv_45 (I : zI) (J : zJ) (p0 : Int32) : Int32 := if p0 = 52 then 1 else (if p0 = 35 then 1 else (if ¬ p0 = 27 then 0 else 1))
theorem zvb_45 {I : zI} {J : zJ} {p0 : Int32} : zv_45 I J p0 = 0 ∨ zv_45 I J p0 = 1 := by
  unfold zv_45
  (repeat' split) <;> first | exact Or.inl rfl | exact Or.inr rfl | exact zvb_17 | exact zvb_44
theorem ze_45 {RO : zRo} {d : Nat} {P : zP} {I : zI} {J : zJ} {D : zD} {bc bs : Nat} {p0 : Int32} (h : P (.inl (some (.int (zv_45 I J p0)))) I J D) : zz RO (d + 1) 45 [.int p0] I J D bc bs P := by
  refine zT_of (Nat.le_of_ble_eq_true rfl) rfl ?_
  show zw RO d 45 P 0 [(0, .int p0)] [] I J D bc bs
  unfold zv_45 at h
  refine zr_iload_n zSm 0 rfl rfl ?_
  refine zr_bipush zSm 1 52 rfl rfl ?_
  refine zr_ic zSm 2 18 rfl rfl (fun q1 => ?_) (fun q1 => ?_)
  · rw [if_pos (show (p0 = 52) from q1)] at h
    refine zr_s zSm 9 rfl rfl ?_
    refine zr_goto zSm 10 23 rfl rfl ?_
    refine zr_iret zSm 12 rfl rfl (zn_b (Or.inr rfl)) ?_
    exact h
  · rw [if_neg (show ¬ (p0 = 52) from q1)] at h
    refine zr_iload_n zSm 3 rfl rfl ?_
    refine zr_bipush zSm 4 35 rfl rfl ?_
    refine zr_ic zSm 5 18 rfl rfl (fun q2 => ?_) (fun q2 => ?_)
    · rw [if_pos (show (p0 = 35) from q2)] at h
      refine zr_s zSm 9 rfl rfl ?_
      refine zr_goto zSm 10 23 rfl rfl ?_
      refine zr_iret zSm 12 rfl rfl (zn_b (Or.inr rfl)) ?_
      exact h
    · rw [if_neg (show ¬ (p0 = 35) from q2)] at h
      refine zr_iload_n zSm 6 rfl rfl ?_
      refine zr_bipush zSm 7 27 rfl rfl ?_
      refine zr_ic zSm 8 22 rfl rfl (fun q3 => ?_) (fun q3 => ?_)
      · rw [if_pos (show (¬ p0 = 27) from q3)] at h
        refine zr_s zSm 11 rfl rfl ?_
        refine zr_iret zSm 12 rfl rfl (zn_b (Or.inl rfl)) ?_
        exact h
      · rw [if_neg (show ¬ (¬ p0 = 27) from q3)] at h
        refine zr_s zSm 9 rfl rfl ?_
        refine zr_goto zSm 10 23 rfl rfl ?_
        refine zr_iret zSm 12 rfl rfl (zn_b (Or.inr rfl)) ?_
        exact h
def zv_46 (I : zI) (J : zJ) (p0 : Int32) : Int32 := if p0 = 33 then 1 else (if p0 = 34 then 1 else (if p0 < 41 then 0 else (if 51 < p0 then 0 else 1)))
theorem zvb_46 {I : zI} {J : zJ} {p0 : Int32} : zv_46 I J p0 = 0 ∨ zv_46 I J p0 = 1 := by
  unfold zv_46
  (repeat' split) <;> first | exact Or.inl rfl | exact Or.inr rfl | exact zvb_17 | exact zvb_44 | exact zvb_45
theorem ze_46 {RO : zRo} {d : Nat} {P : zP} {I : zI} {J : zJ} {D : zD} {bc bs : Nat} {p0 : Int32} (h : P (.inl (some (.int (zv_46 I J p0)))) I J D) : zz RO (d + 1) 46 [.int p0] I J D bc bs P := by
  refine zT_of (Nat.le_of_ble_eq_true rfl) rfl ?_
  show zw RO d 46 P 0 [(0, .int p0)] [] I J D bc bs
  unfold zv_46 at h
  refine zr_iload_n zSm 0 rfl rfl ?_
  refine zr_bipush zSm 1 33 rfl rfl ?_
  refine zr_ic zSm 2 24 rfl rfl (fun q1 => ?_) (fun q1 => ?_)
  · rw [if_pos (show (p0 = 33) from q1)] at h
    refine zr_s zSm 12 rfl rfl ?_
    refine zr_goto zSm 13 29 rfl rfl ?_
    refine zr_iret zSm 15 rfl rfl (zn_b (Or.inr rfl)) ?_
    exact h
  · rw [if_neg (show ¬ (p0 = 33) from q1)] at h
    refine zr_iload_n zSm 3 rfl rfl ?_
    refine zr_bipush zSm 4 34 rfl rfl ?_
    refine zr_ic zSm 5 24 rfl rfl (fun q2 => ?_) (fun q2 => ?_)
    · rw [if_pos (show (p0 = 34) from q2)] at h
      refine zr_s zSm 12 rfl rfl ?_
      refine zr_goto zSm 13 29 rfl rfl ?_
      refine zr_iret zSm 15 rfl rfl (zn_b (Or.inr rfl)) ?_
      exact h
    · rw [if_neg (show ¬ (p0 = 34) from q2)] at h
      refine zr_iload_n zSm 6 rfl rfl ?_
      refine zr_bipush zSm 7 41 rfl rfl ?_
      refine zr_ic zSm 8 28 rfl rfl (fun q3 => ?_) (fun q3 => ?_)
      · rw [if_pos (show (p0 < 41) from q3)] at h
        refine zr_s zSm 14 rfl rfl ?_
        refine zr_iret zSm 15 rfl rfl (zn_b (Or.inl rfl)) ?_
        exact h
      · rw [if_neg (show ¬ (p0 < 41) from q3)] at h
        refine zr_iload_n zSm 9 rfl rfl ?_
        refine zr_bipush zSm 10 51 rfl rfl ?_
        refine zr_ic zSm 11 28 rfl rfl (fun q4 => ?_) (fun q4 => ?_)
        · rw [if_pos (show (51 < p0) from q4)] at h
          refine zr_s zSm 14 rfl rfl ?_
          refine zr_iret zSm 15 rfl rfl (zn_b (Or.inl rfl)) ?_
          exact h
        · rw [if_neg (show ¬ (51 < p0) from q4)] at h
          refine zr_s zSm 12 rfl rfl ?_
          refine zr_goto zSm 13 29 rfl rfl ?_
          refine zr_iret zSm 15 rfl rfl (zn_b (Or.inr rfl)) ?_
          exact h
def zv_50 (I : zI) (J : zJ) (p0 : Int32) : Int32 := if 6 ≤ p0 then (if 12 ≤ p0 then ((24 + p0) - 12) else ((((I 24 8) * 6) + p0) - 6)) else (((I 24 7) * 6) + p0)
theorem ze_50 {RO : zRo} {d : Nat} {P : zP} {I : zI} {J : zJ} {D : zD} {bc bs : Nat} {p0 : Int32} (h : P (.inl (some (.int (zv_50 I J p0)))) I J D) : zz RO (d + 1) 50 [.ref 24, .int p0] I J D bc bs P := by
  refine zT_of (Nat.le_of_ble_eq_true rfl) rfl ?_
  show zw RO d 50 P 0 [(0, .ref 24), (1, .int p0)] [] I J D bc bs
  unfold zv_50 at h
  refine zr_iload_n zSm 0 rfl rfl ?_
  refine zr_bipush zSm 1 6 rfl rfl ?_
  refine zr_ic zSm 2 16 rfl rfl (fun q1 => ?_) (fun q1 => ?_)
  · rw [if_pos (show (6 ≤ p0) from q1)] at h
    refine zr_iload_n zSm 10 rfl rfl ?_
    refine zr_bipush zSm 11 12 rfl rfl ?_
    refine zr_ic zSm 12 35 rfl rfl (fun q2 => ?_) (fun q2 => ?_)
    · rw [if_pos (show (12 ≤ p0) from q2)] at h
      refine zr_bipush zSm 22 24 rfl rfl ?_
      refine zr_iload_n zSm 23 rfl rfl ?_
      refine zr_s zSm 24 rfl rfl ?_
      refine zr_bipush zSm 25 12 rfl rfl ?_
      refine zr_s zSm 26 rfl rfl ?_
      refine zr_iret zSm 27 rfl rfl rfl ?_
      exact h
    · rw [if_neg (show ¬ (12 ≤ p0) from q2)] at h
      refine zr_aload_n zSm 13 rfl rfl ?_
      refine zr_getI zSm 14 rfl zf_3_35 rfl rfl (by decide) ?_
      refine zr_bipush zSm 15 6 rfl rfl ?_
      refine zr_s zSm 16 rfl rfl ?_
      refine zr_iload_n zSm 17 rfl rfl ?_
      refine zr_s zSm 18 rfl rfl ?_
      refine zr_bipush zSm 19 6 rfl rfl ?_
      refine zr_s zSm 20 rfl rfl ?_
      refine zr_iret zSm 21 rfl rfl rfl ?_
      exact h
  · rw [if_neg (show ¬ (6 ≤ p0) from q1)] at h
    refine zr_aload_n zSm 3 rfl rfl ?_
    refine zr_getI zSm 4 rfl zf_3_31 rfl rfl (by decide) ?_
    refine zr_bipush zSm 5 6 rfl rfl ?_
    refine zr_s zSm 6 rfl rfl ?_
    refine zr_iload_n zSm 7 rfl rfl ?_
    refine zr_s zSm 8 rfl rfl ?_
    refine zr_iret zSm 9 rfl rfl rfl ?_
    exact h
def zv_54 (I : zI) (J : zJ) (p0 : Int32) (p1 p2 : Int64) : Int32 := if p0 = 33 then (if p1 = 0 then 0 else (if p2 = 0 then 0 else 1)) else (if p0 = 34 then (if ¬ p1 = 0 then 1 else (if p2 = 0 then 0 else 1)) else (if p0 = 41 then (if ¬ p1 = p2 then 0 else 1) else (if p0 = 47 then (if p2 ≤ p1 then 0 else 1) else (if p0 = 48 then (if p1 ≤ p2 then 0 else 1) else (if p0 = 49 then (if p2 < p1 then 0 else 1) else (if p0 = 51 then (if p1 = p2 then 0 else 1) else (if p1 < p2 then 0 else 1)))))))
theorem zvb_54 {I : zI} {J : zJ} {p0 : Int32} {p1 p2 : Int64} : zv_54 I J p0 p1 p2 = 0 ∨ zv_54 I J p0 p1 p2 = 1 := by
  unfold zv_54
  (repeat' split) <;> first | exact Or.inl rfl | exact Or.inr rfl | exact zvb_17 | exact zvb_44 | exact zvb_45 | exact zvb_46
theorem ze_54 {RO : zRo} {d : Nat} {P : zP} {I : zI} {J : zJ} {D : zD} {bc bs : Nat} {p0 : Int32} {p1 p2 : Int64} (h : P (.inl (some (.int (zv_54 I J p0 p1 p2)))) I J D) : zz RO (d + 1) 54 [.int p0, .long p1, .long p2] I J D bc bs P := by
  refine zT_of (Nat.le_of_ble_eq_true rfl) rfl ?_
  show zw RO d 54 P 0 [(0, .int p0), (1, .long p1), (3, .long p2)] [] I J D bc bs
  unfold zv_54 at h
  refine zr_iload_n zSm 0 rfl rfl ?_
  by_cases q1 : p0 = 33
  · rw [if_pos (show (p0 = 33) from q1)] at h
    refine zr_tsG 1 110 [33] rfl (by simp only [List.mem_cons, List.not_mem_nil, or_false]; exact q1) (by decide) ?_
    refine zr_lload_n zSm 14 rfl rfl ?_
    refine zr_s zSm 15 rfl rfl ?_
    refine zr_s zSm 16 rfl rfl ?_
    refine zr_if zSm 17 126 rfl rfl (fun q2 => ?_) (fun q2 => ?_)
    · have q2 := zq_eq.mp q2
      rw [if_pos (show (p1 = 0) from q2)] at h
      refine zr_s zSm 24 rfl rfl ?_
      refine zr_iret zSm 25 rfl rfl (zn_b (Or.inl rfl)) ?_
      exact h
    · have q2 := (fun z => q2 (zq_eq.mpr z))
      rw [if_neg (show ¬ (p1 = 0) from q2)] at h
      refine zr_lload_n zSm 18 rfl rfl ?_
      refine zr_s zSm 19 rfl rfl ?_
      refine zr_s zSm 20 rfl rfl ?_
      refine zr_if zSm 21 126 rfl rfl (fun q3 => ?_) (fun q3 => ?_)
      · have q3 := zq_eq.mp q3
        rw [if_pos (show (p2 = 0) from q3)] at h
        refine zr_s zSm 24 rfl rfl ?_
        refine zr_iret zSm 25 rfl rfl (zn_b (Or.inl rfl)) ?_
        exact h
      · have q3 := (fun z => q3 (zq_eq.mpr z))
        rw [if_neg (show ¬ (p2 = 0) from q3)] at h
        refine zr_s zSm 22 rfl rfl ?_
        refine zr_goto zSm 23 127 rfl rfl ?_
        refine zr_iret zSm 25 rfl rfl (zn_b (Or.inr rfl)) ?_
        exact h
  · rw [if_neg (show ¬ (p0 = 33) from q1)] at h
    by_cases q4 : p0 = 34
    · rw [if_pos (show (p0 = 34) from q4)] at h
      refine zr_tsG 1 92 [34] rfl (by simp only [List.mem_cons, List.not_mem_nil, or_false]; exact q4) (by decide) ?_
      refine zr_lload_n zSm 2 rfl rfl ?_
      refine zr_s zSm 3 rfl rfl ?_
      refine zr_s zSm 4 rfl rfl ?_
      refine zr_if zSm 5 104 rfl rfl (fun q5 => ?_) (fun q5 => ?_)
      · have q5 := zq_ne.mp q5
        rw [if_pos (show (¬ p1 = 0) from q5)] at h
        refine zr_s zSm 10 rfl rfl ?_
        refine zr_goto zSm 11 109 rfl rfl ?_
        refine zr_iret zSm 13 rfl rfl (zn_b (Or.inr rfl)) ?_
        exact h
      · have q5 := (fun z => q5 (zq_ne.mpr z))
        rw [if_neg (show ¬ (¬ p1 = 0) from q5)] at h
        refine zr_lload_n zSm 6 rfl rfl ?_
        refine zr_s zSm 7 rfl rfl ?_
        refine zr_s zSm 8 rfl rfl ?_
        refine zr_if zSm 9 108 rfl rfl (fun q6 => ?_) (fun q6 => ?_)
        · have q6 := zq_eq.mp q6
          rw [if_pos (show (p2 = 0) from q6)] at h
          refine zr_s zSm 12 rfl rfl ?_
          refine zr_iret zSm 13 rfl rfl (zn_b (Or.inl rfl)) ?_
          exact h
        · have q6 := (fun z => q6 (zq_eq.mpr z))
          rw [if_neg (show ¬ (p2 = 0) from q6)] at h
          refine zr_s zSm 10 rfl rfl ?_
          refine zr_goto zSm 11 109 rfl rfl ?_
          refine zr_iret zSm 13 rfl rfl (zn_b (Or.inr rfl)) ?_
          exact h
    · rw [if_neg (show ¬ (p0 = 34) from q4)] at h
      by_cases q7 : p0 = 41
      · rw [if_pos (show (p0 = 41) from q7)] at h
        refine zr_tsG 1 128 [41] rfl (by simp only [List.mem_cons, List.not_mem_nil, or_false]; exact q7) (by decide) ?_
        refine zr_lload_n zSm 26 rfl rfl ?_
        refine zr_lload_n zSm 27 rfl rfl ?_
        refine zr_s zSm 28 rfl rfl ?_
        refine zr_if zSm 29 138 rfl rfl (fun q8 => ?_) (fun q8 => ?_)
        · have q8 := zq_ne.mp q8
          rw [if_pos (show (¬ p1 = p2) from q8)] at h
          refine zr_s zSm 32 rfl rfl ?_
          refine zr_iret zSm 33 rfl rfl (zn_b (Or.inl rfl)) ?_
          exact h
        · have q8 := (fun z => q8 (zq_ne.mpr z))
          rw [if_neg (show ¬ (¬ p1 = p2) from q8)] at h
          refine zr_s zSm 30 rfl rfl ?_
          refine zr_goto zSm 31 139 rfl rfl ?_
          refine zr_iret zSm 33 rfl rfl (zn_b (Or.inr rfl)) ?_
          exact h
      · rw [if_neg (show ¬ (p0 = 41) from q7)] at h
        by_cases q9 : p0 = 47
        · rw [if_pos (show (p0 = 47) from q9)] at h
          refine zr_tsG 1 152 [47] rfl (by simp only [List.mem_cons, List.not_mem_nil, or_false]; exact q9) (by decide) ?_
          refine zr_lload_n zSm 42 rfl rfl ?_
          refine zr_lload_n zSm 43 rfl rfl ?_
          refine zr_s zSm 44 rfl rfl ?_
          refine zr_if zSm 45 162 rfl rfl (fun q10 => ?_) (fun q10 => ?_)
          · have q10 := zq_ge.mp q10
            rw [if_pos (show (p2 ≤ p1) from q10)] at h
            refine zr_s zSm 48 rfl rfl ?_
            refine zr_iret zSm 49 rfl rfl (zn_b (Or.inl rfl)) ?_
            exact h
          · have q10 := (fun z => q10 (zq_ge.mpr z))
            rw [if_neg (show ¬ (p2 ≤ p1) from q10)] at h
            refine zr_s zSm 46 rfl rfl ?_
            refine zr_goto zSm 47 163 rfl rfl ?_
            refine zr_iret zSm 49 rfl rfl (zn_b (Or.inr rfl)) ?_
            exact h
        · rw [if_neg (show ¬ (p0 = 47) from q9)] at h
          by_cases q11 : p0 = 48
          · rw [if_pos (show (p0 = 48) from q11)] at h
            refine zr_tsG 1 164 [48] rfl (by simp only [List.mem_cons, List.not_mem_nil, or_false]; exact q11) (by decide) ?_
            refine zr_lload_n zSm 50 rfl rfl ?_
            refine zr_lload_n zSm 51 rfl rfl ?_
            refine zr_s zSm 52 rfl rfl ?_
            refine zr_if zSm 53 174 rfl rfl (fun q12 => ?_) (fun q12 => ?_)
            · have q12 := zq_le.mp q12
              rw [if_pos (show (p1 ≤ p2) from q12)] at h
              refine zr_s zSm 56 rfl rfl ?_
              refine zr_iret zSm 57 rfl rfl (zn_b (Or.inl rfl)) ?_
              exact h
            · have q12 := (fun z => q12 (zq_le.mpr z))
              rw [if_neg (show ¬ (p1 ≤ p2) from q12)] at h
              refine zr_s zSm 54 rfl rfl ?_
              refine zr_goto zSm 55 175 rfl rfl ?_
              refine zr_iret zSm 57 rfl rfl (zn_b (Or.inr rfl)) ?_
              exact h
          · rw [if_neg (show ¬ (p0 = 48) from q11)] at h
            by_cases q13 : p0 = 49
            · rw [if_pos (show (p0 = 49) from q13)] at h
              refine zr_tsG 1 176 [49] rfl (by simp only [List.mem_cons, List.not_mem_nil, or_false]; exact q13) (by decide) ?_
              refine zr_lload_n zSm 58 rfl rfl ?_
              refine zr_lload_n zSm 59 rfl rfl ?_
              refine zr_s zSm 60 rfl rfl ?_
              refine zr_if zSm 61 186 rfl rfl (fun q14 => ?_) (fun q14 => ?_)
              · have q14 := zq_gt.mp q14
                rw [if_pos (show (p2 < p1) from q14)] at h
                refine zr_s zSm 64 rfl rfl ?_
                refine zr_iret zSm 65 rfl rfl (zn_b (Or.inl rfl)) ?_
                exact h
              · have q14 := (fun z => q14 (zq_gt.mpr z))
                rw [if_neg (show ¬ (p2 < p1) from q14)] at h
                refine zr_s zSm 62 rfl rfl ?_
                refine zr_goto zSm 63 187 rfl rfl ?_
                refine zr_iret zSm 65 rfl rfl (zn_b (Or.inr rfl)) ?_
                exact h
            · rw [if_neg (show ¬ (p0 = 49) from q13)] at h
              by_cases q15 : p0 = 51
              · rw [if_pos (show (p0 = 51) from q15)] at h
                refine zr_tsG 1 140 [51] rfl (by simp only [List.mem_cons, List.not_mem_nil, or_false]; exact q15) (by decide) ?_
                refine zr_lload_n zSm 34 rfl rfl ?_
                refine zr_lload_n zSm 35 rfl rfl ?_
                refine zr_s zSm 36 rfl rfl ?_
                refine zr_if zSm 37 150 rfl rfl (fun q16 => ?_) (fun q16 => ?_)
                · have q16 := zq_eq.mp q16
                  rw [if_pos (show (p1 = p2) from q16)] at h
                  refine zr_s zSm 40 rfl rfl ?_
                  refine zr_iret zSm 41 rfl rfl (zn_b (Or.inl rfl)) ?_
                  exact h
                · have q16 := (fun z => q16 (zq_eq.mpr z))
                  rw [if_neg (show ¬ (p1 = p2) from q16)] at h
                  refine zr_s zSm 38 rfl rfl ?_
                  refine zr_goto zSm 39 151 rfl rfl ?_
                  refine zr_iret zSm 41 rfl rfl (zn_b (Or.inr rfl)) ?_
                  exact h
              · rw [if_neg (show ¬ (p0 = 51) from q15)] at h
                refine zr_tsD 1 188 [33, 34, 41, 47, 48, 49, 51] rfl ?_ (by decide) rfl ?_
                · intro hx
                  simp only [List.mem_cons, List.not_mem_nil, or_false] at hx
                  rcases hx with e | e | e | e | e | e | e
                  · exact q1 e
                  · exact q4 e
                  · exact q7 e
                  · exact q9 e
                  · exact q11 e
                  · exact q13 e
                  · exact q15 e
                · refine zr_lload_n zSm 66 rfl rfl ?_
                  refine zr_lload_n zSm 67 rfl rfl ?_
                  refine zr_s zSm 68 rfl rfl ?_
                  refine zr_if zSm 69 198 rfl rfl (fun q17 => ?_) (fun q17 => ?_)
                  · have q17 := zq_lt.mp q17
                    rw [if_pos (show (p1 < p2) from q17)] at h
                    refine zr_s zSm 72 rfl rfl ?_
                    refine zr_iret zSm 73 rfl rfl (zn_b (Or.inl rfl)) ?_
                    exact h
                  · have q17 := (fun z => q17 (zq_lt.mpr z))
                    rw [if_neg (show ¬ (p1 < p2) from q17)] at h
                    refine zr_s zSm 70 rfl rfl ?_
                    refine zr_goto zSm 71 199 rfl rfl ?_
                    refine zr_iret zSm 73 rfl rfl (zn_b (Or.inr rfl)) ?_
                    exact h
def zv_64 (I : zI) (J : zJ)  : Int32 := if (I 19 4) = 7 then (I 19 5) else (if (I 19 4) = 8 then (12 + (I 19 5)) else (if (I 19 4) = 9 then (20 + (I 19 5)) else (-1)))
theorem ze_64 {RO : zRo} {d : Nat} {P : zP} {I : zI} {J : zJ} {D : zD} {bc bs : Nat}  (h : P (.inl (some (.int (zv_64 I J )))) I J D) : zz RO (d + 1) 64 [.ref 19] I J D bc bs P := by
  refine zT_of (Nat.le_of_ble_eq_true rfl) rfl ?_
  show zw RO d 64 P 0 [(0, .ref 19)] [] I J D bc bs
  unfold zv_64 at h
  refine zr_aload_n zSm 0 rfl rfl ?_
  refine zr_getI zSm 1 rfl zf_4_53 rfl rfl (by decide) ?_
  by_cases q1 : (I 19 4) = 7
  · rw [if_pos (show ((I 19 4) = 7) from q1)] at h
    refine zr_tsG 2 32 [7] rfl (by simp only [List.mem_cons, List.not_mem_nil, or_false]; exact q1) (by decide) ?_
    refine zr_aload_n zSm 3 rfl rfl ?_
    refine zr_getI zSm 4 rfl zf_4_81 rfl rfl (by decide) ?_
    refine zr_iret zSm 5 rfl rfl rfl ?_
    exact h
  · rw [if_neg (show ¬ ((I 19 4) = 7) from q1)] at h
    by_cases q2 : (I 19 4) = 8
    · rw [if_pos (show ((I 19 4) = 8) from q2)] at h
      refine zr_tsG 2 37 [8] rfl (by simp only [List.mem_cons, List.not_mem_nil, or_false]; exact q2) (by decide) ?_
      refine zr_bipush zSm 6 12 rfl rfl ?_
      refine zr_aload_n zSm 7 rfl rfl ?_
      refine zr_getI zSm 8 rfl zf_4_81 rfl rfl (by decide) ?_
      refine zr_s zSm 9 rfl rfl ?_
      refine zr_iret zSm 10 rfl rfl rfl ?_
      exact h
    · rw [if_neg (show ¬ ((I 19 4) = 8) from q2)] at h
      by_cases q3 : (I 19 4) = 9
      · rw [if_pos (show ((I 19 4) = 9) from q3)] at h
        refine zr_tsG 2 45 [9] rfl (by simp only [List.mem_cons, List.not_mem_nil, or_false]; exact q3) (by decide) ?_
        refine zr_bipush zSm 11 20 rfl rfl ?_
        refine zr_aload_n zSm 12 rfl rfl ?_
        refine zr_getI zSm 13 rfl zf_4_81 rfl rfl (by decide) ?_
        refine zr_s zSm 14 rfl rfl ?_
        refine zr_iret zSm 15 rfl rfl rfl ?_
        exact h
      · rw [if_neg (show ¬ ((I 19 4) = 9) from q3)] at h
        refine zr_tsD 2 53 [7, 8, 9] rfl ?_ (by decide) rfl ?_
        · intro hx
          simp only [List.mem_cons, List.not_mem_nil, or_false] at hx
          rcases hx with e | e | e
          · exact q1 e
          · exact q2 e
          · exact q3 e
        · refine zr_s zSm 16 rfl rfl ?_
          refine zr_iret zSm 17 rfl rfl rfl ?_
          exact h
def zv_75 (I : zI) (J : zJ) (p0 : Int32) : Int32 := if p0 < 0 then 0 else (if 7 ≤ p0 then 0 else (I 13 p0.toNatClampNeg))
theorem ze_75 {RO : zRo} {d : Nat} {P : zP} {I : zI} {J : zJ} {D : zD} {bc bs : Nat} {p0 : Int32} (h : P (.inl (some (.int (zv_75 I J p0)))) I J D) : zz RO (d + 1) 75 [.ref 12, .int p0] I J D bc bs P := by
  refine zT_of (Nat.le_of_ble_eq_true rfl) rfl ?_
  show zw RO d 75 P 0 [(0, .ref 12), (1, .int p0)] [] I J D bc bs
  unfold zv_75 at h
  refine zr_iload_n zSm 0 rfl rfl ?_
  refine zr_if zSm 1 22 rfl rfl (fun q1 => ?_) (fun q1 => ?_)
  · rw [if_pos (show (p0 < 0) from q1)] at h
    refine zr_s zSm 12 rfl rfl ?_
    refine zr_iret zSm 13 rfl rfl rfl ?_
    exact h
  · rw [if_neg (show ¬ (p0 < 0) from q1)] at h
    refine zr_iload_n zSm 2 rfl rfl ?_
    refine zr_aload_n zSm 3 rfl rfl ?_
    refine zr_getR zSm 4 rfl zf_5_9 rfl rfl (by decide) ?_
    refine zr_alen zSm 5 7 rfl rfl rfl ?_
    refine zr_ic zSm 6 22 rfl rfl (fun q2 => ?_) (fun q2 => ?_)
    · rw [if_pos (show (7 ≤ p0) from q2)] at h
      refine zr_s zSm 12 rfl rfl ?_
      refine zr_iret zSm 13 rfl rfl rfl ?_
      exact h
    · rw [if_neg (show ¬ (7 ≤ p0) from q2)] at h
      refine zr_aload_n zSm 7 rfl rfl ?_
      refine zr_getR zSm 8 rfl zf_5_9 rfl rfl (by decide) ?_
      refine zr_iload_n zSm 9 rfl rfl ?_
      refine zr_iald zSm 10 rfl rfl (zin (zlo1 q1) (zhi1 q2) (by decide)) ?_
      refine zr_goto zSm 11 23 rfl rfl ?_
      refine zr_iret zSm 13 rfl rfl rfl ?_
      exact h
def zv_76 (I : zI) (J : zJ) (p0 p1 : Int32) : Int32 := if ((p0 * 3) + p1) < 0 then 0 else (if 36 ≤ ((p0 * 3) + p1) then 0 else (I 14 (((p0 * 3) + p1).toNatClampNeg)))
theorem ze_76 {RO : zRo} {d : Nat} {P : zP} {I : zI} {J : zJ} {D : zD} {bc bs : Nat} {p0 p1 : Int32} (h : P (.inl (some (.int (zv_76 I J p0 p1)))) I J D) : zz RO (d + 1) 76 [.ref 12, .int p0, .int p1] I J D bc bs P := by
  refine zT_of (Nat.le_of_ble_eq_true rfl) rfl ?_
  show zw RO d 76 P 0 [(0, .ref 12), (1, .int p0), (2, .int p1)] [] I J D bc bs
  unfold zv_76 at h
  refine zr_iload_n zSm 0 rfl rfl ?_
  refine zr_s zSm 1 rfl rfl ?_
  refine zr_s zSm 2 rfl rfl ?_
  refine zr_iload_n zSm 3 rfl rfl ?_
  refine zr_s zSm 4 rfl rfl ?_
  refine zr_istore_n zSm 5 (ll' := [(3, .int ((p0 * 3) + p1)), (0, .ref 12), (1, .int p0), (2, .int p1)]) rfl (by decide) rfl ?_
  refine zr_iload_n zSm 6 rfl rfl ?_
  refine zr_if zSm 7 28 rfl rfl (fun q1 => ?_) (fun q1 => ?_)
  · rw [if_pos (show (((p0 * 3) + p1) < 0) from q1)] at h
    refine zr_s zSm 18 rfl rfl ?_
    refine zr_iret zSm 19 rfl rfl rfl ?_
    exact h
  · rw [if_neg (show ¬ (((p0 * 3) + p1) < 0) from q1)] at h
    refine zr_iload_n zSm 8 rfl rfl ?_
    refine zr_aload_n zSm 9 rfl rfl ?_
    refine zr_getR zSm 10 rfl zf_5_15 rfl rfl (by decide) ?_
    refine zr_alen zSm 11 36 rfl rfl rfl ?_
    refine zr_ic zSm 12 28 rfl rfl (fun q2 => ?_) (fun q2 => ?_)
    · rw [if_pos (show (36 ≤ ((p0 * 3) + p1)) from q2)] at h
      refine zr_s zSm 18 rfl rfl ?_
      refine zr_iret zSm 19 rfl rfl rfl ?_
      exact h
    · rw [if_neg (show ¬ (36 ≤ ((p0 * 3) + p1)) from q2)] at h
      refine zr_aload_n zSm 13 rfl rfl ?_
      refine zr_getR zSm 14 rfl zf_5_15 rfl rfl (by decide) ?_
      refine zr_iload_n zSm 15 rfl rfl ?_
      refine zr_iald zSm 16 rfl rfl (zin (zlo1 q1) (zhi1 q2) (by decide)) ?_
      refine zr_goto zSm 17 29 rfl rfl ?_
      refine zr_iret zSm 19 rfl rfl rfl ?_
      exact h
def zv_78 (I : zI) (J : zJ) (p0 p1 : Int32) : Int32 := if p0 < 0 then 0 else (if 6 ≤ p0 then 0 else (if ¬ (((I 15 p0.toNatClampNeg) >>> (p1 &&& 31)) &&& 1) = 1 then 0 else 1))
theorem zvb_78 {I : zI} {J : zJ} {p0 p1 : Int32} : zv_78 I J p0 p1 = 0 ∨ zv_78 I J p0 p1 = 1 := by
  unfold zv_78
  (repeat' split) <;> first | exact Or.inl rfl | exact Or.inr rfl | exact zvb_17 | exact zvb_44 | exact zvb_45 | exact zvb_46 | exact zvb_54
theorem ze_78 {RO : zRo} {d : Nat} {P : zP} {I : zI} {J : zJ} {D : zD} {bc bs : Nat} {p0 p1 : Int32} (h : P (.inl (some (.int (zv_78 I J p0 p1)))) I J D) : zz RO (d + 1) 78 [.ref 12, .int p0, .int p1] I J D bc bs P := by
  refine zT_of (Nat.le_of_ble_eq_true rfl) rfl ?_
  show zw RO d 78 P 0 [(0, .ref 12), (1, .int p0), (2, .int p1)] [] I J D bc bs
  unfold zv_78 at h
  refine zr_iload_n zSm 0 rfl rfl ?_
  refine zr_if zSm 1 31 rfl rfl (fun q1 => ?_) (fun q1 => ?_)
  · rw [if_pos (show (p0 < 0) from q1)] at h
    refine zr_s zSm 19 rfl rfl ?_
    refine zr_iret zSm 20 rfl rfl (zn_b (Or.inl rfl)) ?_
    exact h
  · rw [if_neg (show ¬ (p0 < 0) from q1)] at h
    refine zr_iload_n zSm 2 rfl rfl ?_
    refine zr_aload_n zSm 3 rfl rfl ?_
    refine zr_getR zSm 4 rfl zf_5_18 rfl rfl (by decide) ?_
    refine zr_alen zSm 5 6 rfl rfl rfl ?_
    refine zr_ic zSm 6 31 rfl rfl (fun q2 => ?_) (fun q2 => ?_)
    · rw [if_pos (show (6 ≤ p0) from q2)] at h
      refine zr_s zSm 19 rfl rfl ?_
      refine zr_iret zSm 20 rfl rfl (zn_b (Or.inl rfl)) ?_
      exact h
    · rw [if_neg (show ¬ (6 ≤ p0) from q2)] at h
      refine zr_aload_n zSm 7 rfl rfl ?_
      refine zr_getR zSm 8 rfl zf_5_18 rfl rfl (by decide) ?_
      refine zr_iload_n zSm 9 rfl rfl ?_
      refine zr_iald zSm 10 rfl rfl (zin (zlo1 q1) (zhi1 q2) (by decide)) ?_
      refine zr_iload_n zSm 11 rfl rfl ?_
      refine zr_s zSm 12 rfl rfl ?_
      refine zr_s zSm 13 rfl rfl ?_
      refine zr_s zSm 14 rfl rfl ?_
      refine zr_s zSm 15 rfl rfl ?_
      refine zr_ic zSm 16 31 rfl rfl (fun q3 => ?_) (fun q3 => ?_)
      · rw [if_pos (show (¬ (((I 15 p0.toNatClampNeg) >>> (p1 &&& 31)) &&& 1) = 1) from q3)] at h
        refine zr_s zSm 19 rfl rfl ?_
        refine zr_iret zSm 20 rfl rfl (zn_b (Or.inl rfl)) ?_
        exact h
      · rw [if_neg (show ¬ (¬ (((I 15 p0.toNatClampNeg) >>> (p1 &&& 31)) &&& 1) = 1) from q3)] at h
        refine zr_s zSm 17 rfl rfl ?_
        refine zr_goto zSm 18 32 rfl rfl ?_
        refine zr_iret zSm 20 rfl rfl (zn_b (Or.inr rfl)) ?_
        exact h
def zv_79 (I : zI) (J : zJ) (p0 p1 : Int32) : Int32 := if p0 < 0 then 0 else (if 8 ≤ p0 then 0 else (if ¬ (I 16 p0.toNatClampNeg) = p1 then 0 else 1))
theorem zvb_79 {I : zI} {J : zJ} {p0 p1 : Int32} : zv_79 I J p0 p1 = 0 ∨ zv_79 I J p0 p1 = 1 := by
  unfold zv_79
  (repeat' split) <;> first | exact Or.inl rfl | exact Or.inr rfl | exact zvb_17 | exact zvb_44 | exact zvb_45 | exact zvb_46 | exact zvb_54 | exact zvb_78
theorem ze_79 {RO : zRo} {d : Nat} {P : zP} {I : zI} {J : zJ} {D : zD} {bc bs : Nat} {p0 p1 : Int32} (h : P (.inl (some (.int (zv_79 I J p0 p1)))) I J D) : zz RO (d + 1) 79 [.ref 12, .int p0, .int p1] I J D bc bs P := by
  refine zT_of (Nat.le_of_ble_eq_true rfl) rfl ?_
  show zw RO d 79 P 0 [(0, .ref 12), (1, .int p0), (2, .int p1)] [] I J D bc bs
  unfold zv_79 at h
  refine zr_iload_n zSm 0 rfl rfl ?_
  refine zr_if zSm 1 27 rfl rfl (fun q1 => ?_) (fun q1 => ?_)
  · rw [if_pos (show (p0 < 0) from q1)] at h
    refine zr_s zSm 15 rfl rfl ?_
    refine zr_iret zSm 16 rfl rfl (zn_b (Or.inl rfl)) ?_
    exact h
  · rw [if_neg (show ¬ (p0 < 0) from q1)] at h
    refine zr_iload_n zSm 2 rfl rfl ?_
    refine zr_aload_n zSm 3 rfl rfl ?_
    refine zr_getR zSm 4 rfl zf_5_21 rfl rfl (by decide) ?_
    refine zr_alen zSm 5 8 rfl rfl rfl ?_
    refine zr_ic zSm 6 27 rfl rfl (fun q2 => ?_) (fun q2 => ?_)
    · rw [if_pos (show (8 ≤ p0) from q2)] at h
      refine zr_s zSm 15 rfl rfl ?_
      refine zr_iret zSm 16 rfl rfl (zn_b (Or.inl rfl)) ?_
      exact h
    · rw [if_neg (show ¬ (8 ≤ p0) from q2)] at h
      refine zr_aload_n zSm 7 rfl rfl ?_
      refine zr_getR zSm 8 rfl zf_5_21 rfl rfl (by decide) ?_
      refine zr_iload_n zSm 9 rfl rfl ?_
      refine zr_iald zSm 10 rfl rfl (zin (zlo1 q1) (zhi1 q2) (by decide)) ?_
      refine zr_iload_n zSm 11 rfl rfl ?_
      refine zr_ic zSm 12 27 rfl rfl (fun q3 => ?_) (fun q3 => ?_)
      · rw [if_pos (show (¬ (I 16 p0.toNatClampNeg) = p1) from q3)] at h
        refine zr_s zSm 15 rfl rfl ?_
        refine zr_iret zSm 16 rfl rfl (zn_b (Or.inl rfl)) ?_
        exact h
      · rw [if_neg (show ¬ (¬ (I 16 p0.toNatClampNeg) = p1) from q3)] at h
        refine zr_s zSm 13 rfl rfl ?_
        refine zr_goto zSm 14 28 rfl rfl ?_
        refine zr_iret zSm 16 rfl rfl (zn_b (Or.inr rfl)) ?_
        exact h
def zv_80 (I : zI) (J : zJ) (p0 : Int32) : Int32 := if p0 < 0 then (-1) else (if 28 ≤ p0 then (-1) else (I 17 p0.toNatClampNeg))
theorem ze_80 {RO : zRo} {d : Nat} {P : zP} {I : zI} {J : zJ} {D : zD} {bc bs : Nat} {p0 : Int32} (h : P (.inl (some (.int (zv_80 I J p0)))) I J D) : zz RO (d + 1) 80 [.ref 12, .int p0] I J D bc bs P := by
  refine zT_of (Nat.le_of_ble_eq_true rfl) rfl ?_
  show zw RO d 80 P 0 [(0, .ref 12), (1, .int p0)] [] I J D bc bs
  unfold zv_80 at h
  refine zr_iload_n zSm 0 rfl rfl ?_
  refine zr_if zSm 1 22 rfl rfl (fun q1 => ?_) (fun q1 => ?_)
  · rw [if_pos (show (p0 < 0) from q1)] at h
    refine zr_s zSm 12 rfl rfl ?_
    refine zr_iret zSm 13 rfl rfl rfl ?_
    exact h
  · rw [if_neg (show ¬ (p0 < 0) from q1)] at h
    refine zr_iload_n zSm 2 rfl rfl ?_
    refine zr_aload_n zSm 3 rfl rfl ?_
    refine zr_getR zSm 4 rfl zf_5_24 rfl rfl (by decide) ?_
    refine zr_alen zSm 5 28 rfl rfl rfl ?_
    refine zr_ic zSm 6 22 rfl rfl (fun q2 => ?_) (fun q2 => ?_)
    · rw [if_pos (show (28 ≤ p0) from q2)] at h
      refine zr_s zSm 12 rfl rfl ?_
      refine zr_iret zSm 13 rfl rfl rfl ?_
      exact h
    · rw [if_neg (show ¬ (28 ≤ p0) from q2)] at h
      refine zr_aload_n zSm 7 rfl rfl ?_
      refine zr_getR zSm 8 rfl zf_5_24 rfl rfl (by decide) ?_
      refine zr_iload_n zSm 9 rfl rfl ?_
      refine zr_iald zSm 10 rfl rfl (zin (zlo1 q1) (zhi1 q2) (by decide)) ?_
      refine zr_goto zSm 11 23 rfl rfl ?_
      refine zr_iret zSm 13 rfl rfl rfl ?_
      exact h
def zv_81 (I : zI) (J : zJ) (p0 : Int32) : Int32 := if p0 < 0 then (-1) else (if 28 ≤ p0 then (-1) else (I 18 p0.toNatClampNeg))
theorem ze_81 {RO : zRo} {d : Nat} {P : zP} {I : zI} {J : zJ} {D : zD} {bc bs : Nat} {p0 : Int32} (h : P (.inl (some (.int (zv_81 I J p0)))) I J D) : zz RO (d + 1) 81 [.ref 12, .int p0] I J D bc bs P := by
  refine zT_of (Nat.le_of_ble_eq_true rfl) rfl ?_
  show zw RO d 81 P 0 [(0, .ref 12), (1, .int p0)] [] I J D bc bs
  unfold zv_81 at h
  refine zr_iload_n zSm 0 rfl rfl ?_
  refine zr_if zSm 1 22 rfl rfl (fun q1 => ?_) (fun q1 => ?_)
  · rw [if_pos (show (p0 < 0) from q1)] at h
    refine zr_s zSm 12 rfl rfl ?_
    refine zr_iret zSm 13 rfl rfl rfl ?_
    exact h
  · rw [if_neg (show ¬ (p0 < 0) from q1)] at h
    refine zr_iload_n zSm 2 rfl rfl ?_
    refine zr_aload_n zSm 3 rfl rfl ?_
    refine zr_getR zSm 4 rfl zf_5_27 rfl rfl (by decide) ?_
    refine zr_alen zSm 5 28 rfl rfl rfl ?_
    refine zr_ic zSm 6 22 rfl rfl (fun q2 => ?_) (fun q2 => ?_)
    · rw [if_pos (show (28 ≤ p0) from q2)] at h
      refine zr_s zSm 12 rfl rfl ?_
      refine zr_iret zSm 13 rfl rfl rfl ?_
      exact h
    · rw [if_neg (show ¬ (28 ≤ p0) from q2)] at h
      refine zr_aload_n zSm 7 rfl rfl ?_
      refine zr_getR zSm 8 rfl zf_5_27 rfl rfl (by decide) ?_
      refine zr_iload_n zSm 9 rfl rfl ?_
      refine zr_iald zSm 10 rfl rfl (zin (zlo1 q1) (zhi1 q2) (by decide)) ?_
      refine zr_goto zSm 11 23 rfl rfl ?_
      refine zr_iret zSm 13 rfl rfl rfl ?_
      exact h
def zv_83 (I : zI) (J : zJ) (p0 : Int32) : Int32 := if (I 20 2) ≤ (p0 + 1) then 0 else (p0 + 1)
theorem ze_83 {RO : zRo} {d : Nat} {P : zP} {I : zI} {J : zJ} {D : zD} {bc bs : Nat} {p0 : Int32} (h : P (.inl (some (.int (zv_83 I J p0)))) I J D) : zz RO (d + 1) 83 [.ref 20, .int p0] I J D bc bs P := by
  refine zT_of (Nat.le_of_ble_eq_true rfl) rfl ?_
  show zw RO d 83 P 0 [(0, .ref 20), (1, .int p0)] [] I J D bc bs
  unfold zv_83 at h
  refine zr_iload_n zSm 0 rfl rfl ?_
  refine zr_s zSm 1 rfl rfl ?_
  refine zr_s zSm 2 rfl rfl ?_
  refine zr_aload_n zSm 3 rfl rfl ?_
  refine zr_getI zSm 4 rfl zf_6_18 rfl rfl (by decide) ?_
  refine zr_ic zSm 5 16 rfl rfl (fun q1 => ?_) (fun q1 => ?_)
  · rw [if_pos (show ((I 20 2) ≤ (p0 + 1)) from q1)] at h
    refine zr_s zSm 10 rfl rfl ?_
    refine zr_iret zSm 11 rfl rfl rfl ?_
    exact h
  · rw [if_neg (show ¬ ((I 20 2) ≤ (p0 + 1)) from q1)] at h
    refine zr_iload_n zSm 6 rfl rfl ?_
    refine zr_s zSm 7 rfl rfl ?_
    refine zr_s zSm 8 rfl rfl ?_
    refine zr_goto zSm 9 17 rfl rfl ?_
    refine zr_iret zSm 11 rfl rfl rfl ?_
    exact h
def zv_84 (I : zI) (J : zJ) (p0 : Int32) : Int32 := if p0 < 0 then 0 else (if 30 ≤ p0 then 0 else (I 21 p0.toNatClampNeg))
theorem ze_84 {RO : zRo} {d : Nat} {P : zP} {I : zI} {J : zJ} {D : zD} {bc bs : Nat} {p0 : Int32} (h : P (.inl (some (.int (zv_84 I J p0)))) I J D) : zz RO (d + 1) 84 [.ref 20, .int p0] I J D bc bs P := by
  refine zT_of (Nat.le_of_ble_eq_true rfl) rfl ?_
  show zw RO d 84 P 0 [(0, .ref 20), (1, .int p0)] [] I J D bc bs
  unfold zv_84 at h
  refine zr_iload_n zSm 0 rfl rfl ?_
  refine zr_if zSm 1 22 rfl rfl (fun q1 => ?_) (fun q1 => ?_)
  · rw [if_pos (show (p0 < 0) from q1)] at h
    refine zr_s zSm 12 rfl rfl ?_
    refine zr_iret zSm 13 rfl rfl rfl ?_
    exact h
  · rw [if_neg (show ¬ (p0 < 0) from q1)] at h
    refine zr_iload_n zSm 2 rfl rfl ?_
    refine zr_aload_n zSm 3 rfl rfl ?_
    refine zr_getR zSm 4 rfl zf_6_11 rfl rfl (by decide) ?_
    refine zr_alen zSm 5 30 rfl rfl rfl ?_
    refine zr_ic zSm 6 22 rfl rfl (fun q2 => ?_) (fun q2 => ?_)
    · rw [if_pos (show (30 ≤ p0) from q2)] at h
      refine zr_s zSm 12 rfl rfl ?_
      refine zr_iret zSm 13 rfl rfl rfl ?_
      exact h
    · rw [if_neg (show ¬ (30 ≤ p0) from q2)] at h
      refine zr_aload_n zSm 7 rfl rfl ?_
      refine zr_getR zSm 8 rfl zf_6_11 rfl rfl (by decide) ?_
      refine zr_iload_n zSm 9 rfl rfl ?_
      refine zr_iald zSm 10 rfl rfl (zin (zlo1 q1) (zhi1 q2) (by decide)) ?_
      refine zr_goto zSm 11 23 rfl rfl ?_
      refine zr_iret zSm 13 rfl rfl rfl ?_
      exact h
def zv_86 (I : zI) (J : zJ) (p0 p1 : Int32) : Int32 := if ((p0 * 4) + p1) < 0 then 0 else (if 40 ≤ ((p0 * 4) + p1) then 0 else (I 22 (((p0 * 4) + p1).toNatClampNeg)))
theorem ze_86 {RO : zRo} {d : Nat} {P : zP} {I : zI} {J : zJ} {D : zD} {bc bs : Nat} {p0 p1 : Int32} (h : P (.inl (some (.int (zv_86 I J p0 p1)))) I J D) : zz RO (d + 1) 86 [.ref 20, .int p0, .int p1] I J D bc bs P := by
  refine zT_of (Nat.le_of_ble_eq_true rfl) rfl ?_
  show zw RO d 86 P 0 [(0, .ref 20), (1, .int p0), (2, .int p1)] [] I J D bc bs
  unfold zv_86 at h
  refine zr_iload_n zSm 0 rfl rfl ?_
  refine zr_s zSm 1 rfl rfl ?_
  refine zr_s zSm 2 rfl rfl ?_
  refine zr_iload_n zSm 3 rfl rfl ?_
  refine zr_s zSm 4 rfl rfl ?_
  refine zr_istore_n zSm 5 (ll' := [(3, .int ((p0 * 4) + p1)), (0, .ref 20), (1, .int p0), (2, .int p1)]) rfl (by decide) rfl ?_
  refine zr_iload_n zSm 6 rfl rfl ?_
  refine zr_if zSm 7 28 rfl rfl (fun q1 => ?_) (fun q1 => ?_)
  · rw [if_pos (show (((p0 * 4) + p1) < 0) from q1)] at h
    refine zr_s zSm 18 rfl rfl ?_
    refine zr_iret zSm 19 rfl rfl rfl ?_
    exact h
  · rw [if_neg (show ¬ (((p0 * 4) + p1) < 0) from q1)] at h
    refine zr_iload_n zSm 8 rfl rfl ?_
    refine zr_aload_n zSm 9 rfl rfl ?_
    refine zr_getR zSm 10 rfl zf_6_15 rfl rfl (by decide) ?_
    refine zr_alen zSm 11 40 rfl rfl rfl ?_
    refine zr_ic zSm 12 28 rfl rfl (fun q2 => ?_) (fun q2 => ?_)
    · rw [if_pos (show (40 ≤ ((p0 * 4) + p1)) from q2)] at h
      refine zr_s zSm 18 rfl rfl ?_
      refine zr_iret zSm 19 rfl rfl rfl ?_
      exact h
    · rw [if_neg (show ¬ (40 ≤ ((p0 * 4) + p1)) from q2)] at h
      refine zr_aload_n zSm 13 rfl rfl ?_
      refine zr_getR zSm 14 rfl zf_6_15 rfl rfl (by decide) ?_
      refine zr_iload_n zSm 15 rfl rfl ?_
      refine zr_iald zSm 16 rfl rfl (zin (zlo1 q1) (zhi1 q2) (by decide)) ?_
      refine zr_goto zSm 17 29 rfl rfl ?_
      refine zr_iret zSm 19 rfl rfl rfl ?_
      exact h
def zv_90 (I : zI) (J : zJ) (p0 : Int32) : Int32 := if p0 < 0 then (-1) else (if (I 1 1) ≤ p0 then (-1) else (if 2000 ≤ p0 then (-1) else ((I 2 p0.toNatClampNeg) &&& 255)))
theorem ze_90 {RO : zRo} {d : Nat} {P : zP} {I : zI} {J : zJ} {D : zD} {bc bs : Nat} {p0 : Int32} (h : P (.inl (some (.int (zv_90 I J p0)))) I J D) : zz RO (d + 1) 90 [.ref 1, .int p0] I J D bc bs P := by
  refine zT_of (Nat.le_of_ble_eq_true rfl) rfl ?_
  show zw RO d 90 P 0 [(0, .ref 1), (1, .int p0)] [] I J D bc bs
  unfold zv_90 at h
  refine zr_iload_n zSm 0 rfl rfl ?_
  refine zr_if zSm 1 34 rfl rfl (fun q1 => ?_) (fun q1 => ?_)
  · rw [if_pos (show (p0 < 0) from q1)] at h
    refine zr_s zSm 18 rfl rfl ?_
    refine zr_iret zSm 19 rfl rfl rfl ?_
    exact h
  · rw [if_neg (show ¬ (p0 < 0) from q1)] at h
    refine zr_iload_n zSm 2 rfl rfl ?_
    refine zr_aload_n zSm 3 rfl rfl ?_
    refine zr_getI zSm 4 rfl zf_7_15 rfl rfl (by decide) ?_
    refine zr_ic zSm 5 34 rfl rfl (fun q2 => ?_) (fun q2 => ?_)
    · rw [if_pos (show ((I 1 1) ≤ p0) from q2)] at h
      refine zr_s zSm 18 rfl rfl ?_
      refine zr_iret zSm 19 rfl rfl rfl ?_
      exact h
    · rw [if_neg (show ¬ ((I 1 1) ≤ p0) from q2)] at h
      refine zr_iload_n zSm 6 rfl rfl ?_
      refine zr_aload_n zSm 7 rfl rfl ?_
      refine zr_getR zSm 8 rfl zf_7_9 rfl rfl (by decide) ?_
      refine zr_alen zSm 9 2000 rfl rfl rfl ?_
      refine zr_ic zSm 10 34 rfl rfl (fun q3 => ?_) (fun q3 => ?_)
      · rw [if_pos (show (2000 ≤ p0) from q3)] at h
        refine zr_s zSm 18 rfl rfl ?_
        refine zr_iret zSm 19 rfl rfl rfl ?_
        exact h
      · rw [if_neg (show ¬ (2000 ≤ p0) from q3)] at h
        refine zr_aload_n zSm 11 rfl rfl ?_
        refine zr_getR zSm 12 rfl zf_7_9 rfl rfl (by decide) ?_
        refine zr_iload_n zSm 13 rfl rfl ?_
        refine zr_bald zSm 14 rfl rfl (zin (zlo1 q1) (zhi1 q3) (by decide)) ?_
        refine zr_sipush zSm 15 255 rfl rfl ?_
        refine zr_s zSm 16 rfl rfl ?_
        refine zr_goto zSm 17 35 rfl rfl ?_
        refine zr_iret zSm 19 rfl rfl rfl ?_
        exact h
def zv_93 (I : zI) (J : zJ) (p0 : Int32) : Int32 := if p0 < 0 then 0 else (if (I 3 4) ≤ p0 then 0 else (if 451 ≤ p0 then 0 else (I 4 p0.toNatClampNeg)))
theorem ze_93 {RO : zRo} {d : Nat} {P : zP} {I : zI} {J : zJ} {D : zD} {bc bs : Nat} {p0 : Int32} (h : P (.inl (some (.int (zv_93 I J p0)))) I J D) : zz RO (d + 1) 93 [.ref 3, .int p0] I J D bc bs P := by
  refine zT_of (Nat.le_of_ble_eq_true rfl) rfl ?_
  show zw RO d 93 P 0 [(0, .ref 3), (1, .int p0)] [] I J D bc bs
  unfold zv_93 at h
  refine zr_iload_n zSm 0 rfl rfl ?_
  refine zr_if zSm 1 30 rfl rfl (fun q1 => ?_) (fun q1 => ?_)
  · rw [if_pos (show (p0 < 0) from q1)] at h
    refine zr_s zSm 16 rfl rfl ?_
    refine zr_iret zSm 17 rfl rfl rfl ?_
    exact h
  · rw [if_neg (show ¬ (p0 < 0) from q1)] at h
    refine zr_iload_n zSm 2 rfl rfl ?_
    refine zr_aload_n zSm 3 rfl rfl ?_
    refine zr_getI zSm 4 rfl zf_8_37 rfl rfl (by decide) ?_
    refine zr_ic zSm 5 30 rfl rfl (fun q2 => ?_) (fun q2 => ?_)
    · rw [if_pos (show ((I 3 4) ≤ p0) from q2)] at h
      refine zr_s zSm 16 rfl rfl ?_
      refine zr_iret zSm 17 rfl rfl rfl ?_
      exact h
    · rw [if_neg (show ¬ ((I 3 4) ≤ p0) from q2)] at h
      refine zr_iload_n zSm 6 rfl rfl ?_
      refine zr_aload_n zSm 7 rfl rfl ?_
      refine zr_getR zSm 8 rfl zf_8_9 rfl rfl (by decide) ?_
      refine zr_alen zSm 9 451 rfl rfl rfl ?_
      refine zr_ic zSm 10 30 rfl rfl (fun q3 => ?_) (fun q3 => ?_)
      · rw [if_pos (show (451 ≤ p0) from q3)] at h
        refine zr_s zSm 16 rfl rfl ?_
        refine zr_iret zSm 17 rfl rfl rfl ?_
        exact h
      · rw [if_neg (show ¬ (451 ≤ p0) from q3)] at h
        refine zr_aload_n zSm 11 rfl rfl ?_
        refine zr_getR zSm 12 rfl zf_8_9 rfl rfl (by decide) ?_
        refine zr_iload_n zSm 13 rfl rfl ?_
        refine zr_iald zSm 14 rfl rfl (zin (zlo1 q1) (zhi1 q3) (by decide)) ?_
        refine zr_goto zSm 15 31 rfl rfl ?_
        refine zr_iret zSm 17 rfl rfl rfl ?_
        exact h
def zv_94 (I : zI) (J : zJ) (p0 : Int32) : Int32 := if p0 < 0 then 0 else (if (I 3 4) ≤ p0 then 0 else (if 451 ≤ p0 then 0 else (I 5 p0.toNatClampNeg)))
theorem ze_94 {RO : zRo} {d : Nat} {P : zP} {I : zI} {J : zJ} {D : zD} {bc bs : Nat} {p0 : Int32} (h : P (.inl (some (.int (zv_94 I J p0)))) I J D) : zz RO (d + 1) 94 [.ref 3, .int p0] I J D bc bs P := by
  refine zT_of (Nat.le_of_ble_eq_true rfl) rfl ?_
  show zw RO d 94 P 0 [(0, .ref 3), (1, .int p0)] [] I J D bc bs
  unfold zv_94 at h
  refine zr_iload_n zSm 0 rfl rfl ?_
  refine zr_if zSm 1 30 rfl rfl (fun q1 => ?_) (fun q1 => ?_)
  · rw [if_pos (show (p0 < 0) from q1)] at h
    refine zr_s zSm 16 rfl rfl ?_
    refine zr_iret zSm 17 rfl rfl rfl ?_
    exact h
  · rw [if_neg (show ¬ (p0 < 0) from q1)] at h
    refine zr_iload_n zSm 2 rfl rfl ?_
    refine zr_aload_n zSm 3 rfl rfl ?_
    refine zr_getI zSm 4 rfl zf_8_37 rfl rfl (by decide) ?_
    refine zr_ic zSm 5 30 rfl rfl (fun q2 => ?_) (fun q2 => ?_)
    · rw [if_pos (show ((I 3 4) ≤ p0) from q2)] at h
      refine zr_s zSm 16 rfl rfl ?_
      refine zr_iret zSm 17 rfl rfl rfl ?_
      exact h
    · rw [if_neg (show ¬ ((I 3 4) ≤ p0) from q2)] at h
      refine zr_iload_n zSm 6 rfl rfl ?_
      refine zr_aload_n zSm 7 rfl rfl ?_
      refine zr_getR zSm 8 rfl zf_8_15 rfl rfl (by decide) ?_
      refine zr_alen zSm 9 451 rfl rfl rfl ?_
      refine zr_ic zSm 10 30 rfl rfl (fun q3 => ?_) (fun q3 => ?_)
      · rw [if_pos (show (451 ≤ p0) from q3)] at h
        refine zr_s zSm 16 rfl rfl ?_
        refine zr_iret zSm 17 rfl rfl rfl ?_
        exact h
      · rw [if_neg (show ¬ (451 ≤ p0) from q3)] at h
        refine zr_aload_n zSm 11 rfl rfl ?_
        refine zr_getR zSm 12 rfl zf_8_15 rfl rfl (by decide) ?_
        refine zr_iload_n zSm 13 rfl rfl ?_
        refine zr_iald zSm 14 rfl rfl (zin (zlo1 q1) (zhi1 q3) (by decide)) ?_
        refine zr_goto zSm 15 31 rfl rfl ?_
        refine zr_iret zSm 17 rfl rfl rfl ?_
        exact h
def zv_95 (I : zI) (J : zJ) (p0 : Int32) : Int64 := if p0 < 0 then 0 else (if (I 3 4) ≤ p0 then 0 else (if 451 ≤ p0 then 0 else (J 6 p0.toNatClampNeg)))
theorem ze_95 {RO : zRo} {d : Nat} {P : zP} {I : zI} {J : zJ} {D : zD} {bc bs : Nat} {p0 : Int32} (h : P (.inl (some (.long (zv_95 I J p0)))) I J D) : zz RO (d + 1) 95 [.ref 3, .int p0] I J D bc bs P := by
  refine zT_of (Nat.le_of_ble_eq_true rfl) rfl ?_
  show zw RO d 95 P 0 [(0, .ref 3), (1, .int p0)] [] I J D bc bs
  unfold zv_95 at h
  refine zr_iload_n zSm 0 rfl rfl ?_
  refine zr_if zSm 1 30 rfl rfl (fun q1 => ?_) (fun q1 => ?_)
  · rw [if_pos (show (p0 < 0) from q1)] at h
    refine zr_s zSm 16 rfl rfl ?_
    refine zr_lret zSm 17 rfl rfl ?_
    exact h
  · rw [if_neg (show ¬ (p0 < 0) from q1)] at h
    refine zr_iload_n zSm 2 rfl rfl ?_
    refine zr_aload_n zSm 3 rfl rfl ?_
    refine zr_getI zSm 4 rfl zf_8_37 rfl rfl (by decide) ?_
    refine zr_ic zSm 5 30 rfl rfl (fun q2 => ?_) (fun q2 => ?_)
    · rw [if_pos (show ((I 3 4) ≤ p0) from q2)] at h
      refine zr_s zSm 16 rfl rfl ?_
      refine zr_lret zSm 17 rfl rfl ?_
      exact h
    · rw [if_neg (show ¬ ((I 3 4) ≤ p0) from q2)] at h
      refine zr_iload_n zSm 6 rfl rfl ?_
      refine zr_aload_n zSm 7 rfl rfl ?_
      refine zr_getR zSm 8 rfl zf_8_18 rfl rfl (by decide) ?_
      refine zr_alen zSm 9 451 rfl rfl rfl ?_
      refine zr_ic zSm 10 30 rfl rfl (fun q3 => ?_) (fun q3 => ?_)
      · rw [if_pos (show (451 ≤ p0) from q3)] at h
        refine zr_s zSm 16 rfl rfl ?_
        refine zr_lret zSm 17 rfl rfl ?_
        exact h
      · rw [if_neg (show ¬ (451 ≤ p0) from q3)] at h
        refine zr_aload_n zSm 11 rfl rfl ?_
        refine zr_getR zSm 12 rfl zf_8_18 rfl rfl (by decide) ?_
        refine zr_iload_n zSm 13 rfl rfl ?_
        refine zr_lald zSm 14 rfl rfl (zin (zlo1 q1) (zhi1 q3) (by decide)) ?_
        refine zr_goto zSm 15 31 rfl rfl ?_
        refine zr_lret zSm 17 rfl rfl ?_
        exact h
def zv_104 (I : zI) (J : zJ) (p0 : Int32) : Int32 := if p0 < 97 then 0 else (if 122 < p0 then 0 else 1)
theorem zvb_104 {I : zI} {J : zJ} {p0 : Int32} : zv_104 I J p0 = 0 ∨ zv_104 I J p0 = 1 := by
  unfold zv_104
  (repeat' split) <;> first | exact Or.inl rfl | exact Or.inr rfl | exact zvb_17 | exact zvb_44 | exact zvb_45 | exact zvb_46 | exact zvb_54 | exact zvb_78 | exact zvb_79
theorem ze_104 {RO : zRo} {d : Nat} {P : zP} {I : zI} {J : zJ} {D : zD} {bc bs : Nat} {p0 : Int32} (h : P (.inl (some (.int (zv_104 I J p0)))) I J D) : zz RO (d + 1) 104 [.int p0] I J D bc bs P := by
  refine zT_of (Nat.le_of_ble_eq_true rfl) rfl ?_
  show zw RO d 104 P 0 [(0, .int p0)] [] I J D bc bs
  unfold zv_104 at h
  refine zr_iload_n zSm 0 rfl rfl ?_
  refine zr_bipush zSm 1 97 rfl rfl ?_
  refine zr_ic zSm 2 16 rfl rfl (fun q1 => ?_) (fun q1 => ?_)
  · rw [if_pos (show (p0 < 97) from q1)] at h
    refine zr_s zSm 8 rfl rfl ?_
    refine zr_iret zSm 9 rfl rfl (zn_b (Or.inl rfl)) ?_
    exact h
  · rw [if_neg (show ¬ (p0 < 97) from q1)] at h
    refine zr_iload_n zSm 3 rfl rfl ?_
    refine zr_bipush zSm 4 122 rfl rfl ?_
    refine zr_ic zSm 5 16 rfl rfl (fun q2 => ?_) (fun q2 => ?_)
    · rw [if_pos (show (122 < p0) from q2)] at h
      refine zr_s zSm 8 rfl rfl ?_
      refine zr_iret zSm 9 rfl rfl (zn_b (Or.inl rfl)) ?_
      exact h
    · rw [if_neg (show ¬ (122 < p0) from q2)] at h
      refine zr_s zSm 6 rfl rfl ?_
      refine zr_goto zSm 7 17 rfl rfl ?_
      refine zr_iret zSm 9 rfl rfl (zn_b (Or.inr rfl)) ?_
      exact h
def zv_105 (I : zI) (J : zJ) (p0 : Int32) : Int32 := if p0 < 48 then 0 else (if 57 < p0 then 0 else 1)
theorem zvb_105 {I : zI} {J : zJ} {p0 : Int32} : zv_105 I J p0 = 0 ∨ zv_105 I J p0 = 1 := by
  unfold zv_105
  (repeat' split) <;> first | exact Or.inl rfl | exact Or.inr rfl | exact zvb_104 | exact zvb_17 | exact zvb_44 | exact zvb_45 | exact zvb_46 | exact zvb_54 | exact zvb_78 | exact zvb_79
theorem ze_105 {RO : zRo} {d : Nat} {P : zP} {I : zI} {J : zJ} {D : zD} {bc bs : Nat} {p0 : Int32} (h : P (.inl (some (.int (zv_105 I J p0)))) I J D) : zz RO (d + 1) 105 [.int p0] I J D bc bs P := by
  refine zT_of (Nat.le_of_ble_eq_true rfl) rfl ?_
  show zw RO d 105 P 0 [(0, .int p0)] [] I J D bc bs
  unfold zv_105 at h
  refine zr_iload_n zSm 0 rfl rfl ?_
  refine zr_bipush zSm 1 48 rfl rfl ?_
  refine zr_ic zSm 2 16 rfl rfl (fun q1 => ?_) (fun q1 => ?_)
  · rw [if_pos (show (p0 < 48) from q1)] at h
    refine zr_s zSm 8 rfl rfl ?_
    refine zr_iret zSm 9 rfl rfl (zn_b (Or.inl rfl)) ?_
    exact h
  · rw [if_neg (show ¬ (p0 < 48) from q1)] at h
    refine zr_iload_n zSm 3 rfl rfl ?_
    refine zr_bipush zSm 4 57 rfl rfl ?_
    refine zr_ic zSm 5 16 rfl rfl (fun q2 => ?_) (fun q2 => ?_)
    · rw [if_pos (show (57 < p0) from q2)] at h
      refine zr_s zSm 8 rfl rfl ?_
      refine zr_iret zSm 9 rfl rfl (zn_b (Or.inl rfl)) ?_
      exact h
    · rw [if_neg (show ¬ (57 < p0) from q2)] at h
      refine zr_s zSm 6 rfl rfl ?_
      refine zr_goto zSm 7 17 rfl rfl ?_
      refine zr_iret zSm 9 rfl rfl (zn_b (Or.inr rfl)) ?_
      exact h
def zv_110 (I : zI) (J : zJ)  : Int32 := I 0 8
theorem ze_110 {RO : zRo} {d : Nat} {P : zP} {I : zI} {J : zJ} {D : zD} {bc bs : Nat}  (h : P (.inl (some (.int (zv_110 I J )))) I J D) : zz RO (d + 1) 110 [.ref 0] I J D bc bs P := by
  refine zT_of (Nat.le_of_ble_eq_true rfl) rfl ?_
  show zw RO d 110 P 0 [(0, .ref 0)] [] I J D bc bs
  unfold zv_110 at h
  refine zr_aload_n zSm 0 rfl rfl ?_
  refine zr_getI zSm 1 rfl zf_9_76 rfl rfl (by decide) ?_
  refine zr_iret zSm 2 rfl rfl rfl ?_
  exact h
def zv_112 (I : zI) (J : zJ) (p0 : Int32) : Int32 := if p0 = 6 then (I 1 1) else (if p0 = 7 then (I 20 2) else (if p0 = 8 then (I 23 4) else (if p0 = 9 then (I 20 3) else (zv_75 I J p0))))
theorem ze_112 {RO : zRo} {d : Nat} {P : zP} {I : zI} {J : zJ} {D : zD} {bc bs : Nat} {p0 : Int32} (h : P (.inl (some (.int (zv_112 I J p0)))) I J D) : zz RO (d + 2) 112 [.ref 0, .int p0] I J D bc bs P := by
  refine zT_of (Nat.le_of_ble_eq_true rfl) rfl ?_
  show zw RO (d + 1) 112 P 0 [(0, .ref 0), (1, .int p0)] [] I J D bc bs
  unfold zv_112 at h
  refine zr_iload_n zSm 0 rfl rfl ?_
  by_cases q1 : p0 = 6
  · rw [if_pos (show (p0 = 6) from q1)] at h
    refine zr_tsG 1 32 [6] rfl (by simp only [List.mem_cons, List.not_mem_nil, or_false]; exact q1) (by decide) ?_
    refine zr_aload_n zSm 2 rfl rfl ?_
    refine zr_getR zSm 3 rfl zf_9_10 rfl rfl (by decide) ?_
    refine zr_getI zSm 4 rfl zf_9_80 rfl rfl (by decide) ?_
    refine zr_iret zSm 5 rfl rfl rfl ?_
    exact h
  · rw [if_neg (show ¬ (p0 = 6) from q1)] at h
    by_cases q2 : p0 = 7
    · rw [if_pos (show (p0 = 7) from q2)] at h
      refine zr_tsG 1 40 [7] rfl (by simp only [List.mem_cons, List.not_mem_nil, or_false]; exact q2) (by decide) ?_
      refine zr_aload_n zSm 6 rfl rfl ?_
      refine zr_getR zSm 7 rfl zf_9_58 rfl rfl (by decide) ?_
      refine zr_getI zSm 8 rfl zf_9_137 rfl rfl (by decide) ?_
      refine zr_iret zSm 9 rfl rfl rfl ?_
      exact h
    · rw [if_neg (show ¬ (p0 = 7) from q2)] at h
      by_cases q3 : p0 = 8
      · rw [if_pos (show (p0 = 8) from q3)] at h
        refine zr_tsG 1 48 [8] rfl (by simp only [List.mem_cons, List.not_mem_nil, or_false]; exact q3) (by decide) ?_
        refine zr_aload_n zSm 10 rfl rfl ?_
        refine zr_getR zSm 11 rfl zf_9_72 rfl rfl (by decide) ?_
        refine zr_getI zSm 12 rfl zf_9_140 rfl rfl (by decide) ?_
        refine zr_iret zSm 13 rfl rfl rfl ?_
        exact h
      · rw [if_neg (show ¬ (p0 = 8) from q3)] at h
        by_cases q4 : p0 = 9
        · rw [if_pos (show (p0 = 9) from q4)] at h
          refine zr_tsG 1 56 [9] rfl (by simp only [List.mem_cons, List.not_mem_nil, or_false]; exact q4) (by decide) ?_
          refine zr_aload_n zSm 14 rfl rfl ?_
          refine zr_getR zSm 15 rfl zf_9_58 rfl rfl (by decide) ?_
          refine zr_getI zSm 16 rfl zf_9_143 rfl rfl (by decide) ?_
          refine zr_iret zSm 17 rfl rfl rfl ?_
          exact h
        · rw [if_neg (show ¬ (p0 = 9) from q4)] at h
          refine zr_tsD 1 64 [6, 7, 8, 9] rfl ?_ (by decide) rfl ?_
          · intro hx
            simp only [List.mem_cons, List.not_mem_nil, or_false] at hx
            rcases hx with e | e | e | e
            · exact q1 e
            · exact q2 e
            · exact q3 e
            · exact q4 e
          · refine zr_aload_n zSm 18 rfl rfl ?_
            refine zr_getR zSm 19 rfl zf_9_42 rfl rfl (by decide) ?_
            refine zr_iload_n zSm 20 rfl rfl ?_
            refine zr_inv0 21 75 1 [.int p0] rfl rfl zk_9_146 zms_75 rfl ⟨_, _, _, _, rfl, rfl⟩ (Nat.le_of_ble_eq_true rfl) ?_
            refine ze_75 ?_
            refine zNx_i ?_
            refine zr_iret zSm 22 rfl rfl rfl ?_
            exact h
def zv_119 (I : zI) (J : zJ)  : Int32 := I 23 5
theorem ze_119 {RO : zRo} {d : Nat} {P : zP} {I : zI} {J : zJ} {D : zD} {bc bs : Nat}  (h : P (.inl (some (.int (zv_119 I J )))) I J D) : zz RO (d + 1) 119 [.ref 0] I J D bc bs P := by
  refine zT_of (Nat.le_of_ble_eq_true rfl) rfl ?_
  show zw RO d 119 P 0 [(0, .ref 0)] [] I J D bc bs
  unfold zv_119 at h
  refine zr_aload_n zSm 0 rfl rfl ?_
  refine zr_getR zSm 1 rfl zf_9_72 rfl rfl (by decide) ?_
  refine zr_getI zSm 2 rfl zf_9_157 rfl rfl (by decide) ?_
  refine zr_iret zSm 3 rfl rfl rfl ?_
  exact h
def zv_126 (I : zI) (J : zJ)  : Int64 := J 20 9
theorem ze_126 {RO : zRo} {d : Nat} {P : zP} {I : zI} {J : zJ} {D : zD} {bc bs : Nat}  (h : P (.inl (some (.long (zv_126 I J )))) I J D) : zz RO (d + 1) 126 [.ref 0] I J D bc bs P := by
  refine zT_of (Nat.le_of_ble_eq_true rfl) rfl ?_
  show zw RO d 126 P 0 [(0, .ref 0)] [] I J D bc bs
  unfold zv_126 at h
  refine zr_aload_n zSm 0 rfl rfl ?_
  refine zr_getR zSm 1 rfl zf_9_58 rfl rfl (by decide) ?_
  refine zr_getJ zSm 2 rfl zf_9_222 rfl rfl (by decide) ?_
  refine zr_lret zSm 3 rfl rfl ?_
  exact h
def zv_130 (I : zI) (J : zJ) (p0 p1 p2 : Int32) : Int32 := if p1 < 0 then 0 else (if (zv_75 I J (3 + p0)) ≤ p1 then 0 else (if p2 < 0 then 0 else (if (I 20 2) ≤ p2 then 0 else 1)))
theorem zvb_130 {I : zI} {J : zJ} {p0 p1 p2 : Int32} : zv_130 I J p0 p1 p2 = 0 ∨ zv_130 I J p0 p1 p2 = 1 := by
  unfold zv_130
  (repeat' split) <;> first | exact Or.inl rfl | exact Or.inr rfl | exact zvb_104 | exact zvb_105 | exact zvb_17 | exact zvb_44 | exact zvb_45 | exact zvb_46 | exact zvb_54 | exact zvb_78 | exact zvb_79
theorem ze_130 {RO : zRo} {d : Nat} {P : zP} {I : zI} {J : zJ} {D : zD} {bc bs : Nat} {p0 p1 p2 : Int32} (h : P (.inl (some (.int (zv_130 I J p0 p1 p2)))) I J D) : zz RO (d + 2) 130 [.ref 0, .int p0, .int p1, .int p2] I J D bc bs P := by
  refine zT_of (Nat.le_of_ble_eq_true rfl) rfl ?_
  show zw RO (d + 1) 130 P 0 [(0, .ref 0), (1, .int p0), (2, .int p1), (3, .int p2)] [] I J D bc bs
  unfold zv_130 at h
  refine zr_iload_n zSm 0 rfl rfl ?_
  refine zr_if zSm 1 37 rfl rfl (fun q1 => ?_) (fun q1 => ?_)
  · rw [if_pos (show (p1 < 0) from q1)] at h
    refine zr_s zSm 19 rfl rfl ?_
    refine zr_iret zSm 20 rfl rfl (zn_b (Or.inl rfl)) ?_
    exact h
  · rw [if_neg (show ¬ (p1 < 0) from q1)] at h
    refine zr_iload_n zSm 2 rfl rfl ?_
    refine zr_aload_n zSm 3 rfl rfl ?_
    refine zr_getR zSm 4 rfl zf_9_42 rfl rfl (by decide) ?_
    refine zr_s zSm 5 rfl rfl ?_
    refine zr_iload_n zSm 6 rfl rfl ?_
    refine zr_s zSm 7 rfl rfl ?_
    refine zr_inv0 8 75 1 [.int (3 + p0)] rfl rfl zk_9_146 zms_75 rfl ⟨_, _, _, _, rfl, rfl⟩ (Nat.le_of_ble_eq_true rfl) ?_
    refine ze_75 ?_
    refine zNx_i ?_
    refine zr_ic zSm 9 37 rfl rfl (fun q2 => ?_) (fun q2 => ?_)
    · rw [if_pos (show ((zv_75 I J (3 + p0)) ≤ p1) from q2)] at h
      refine zr_s zSm 19 rfl rfl ?_
      refine zr_iret zSm 20 rfl rfl (zn_b (Or.inl rfl)) ?_
      exact h
    · rw [if_neg (show ¬ ((zv_75 I J (3 + p0)) ≤ p1) from q2)] at h
      refine zr_iload_n zSm 10 rfl rfl ?_
      refine zr_if zSm 11 37 rfl rfl (fun q3 => ?_) (fun q3 => ?_)
      · rw [if_pos (show (p2 < 0) from q3)] at h
        refine zr_s zSm 19 rfl rfl ?_
        refine zr_iret zSm 20 rfl rfl (zn_b (Or.inl rfl)) ?_
        exact h
      · rw [if_neg (show ¬ (p2 < 0) from q3)] at h
        refine zr_iload_n zSm 12 rfl rfl ?_
        refine zr_aload_n zSm 13 rfl rfl ?_
        refine zr_getR zSm 14 rfl zf_9_58 rfl rfl (by decide) ?_
        refine zr_getI zSm 15 rfl zf_9_137 rfl rfl (by decide) ?_
        refine zr_ic zSm 16 37 rfl rfl (fun q4 => ?_) (fun q4 => ?_)
        · rw [if_pos (show ((I 20 2) ≤ p2) from q4)] at h
          refine zr_s zSm 19 rfl rfl ?_
          refine zr_iret zSm 20 rfl rfl (zn_b (Or.inl rfl)) ?_
          exact h
        · rw [if_neg (show ¬ ((I 20 2) ≤ p2) from q4)] at h
          refine zr_s zSm 17 rfl rfl ?_
          refine zr_goto zSm 18 38 rfl rfl ?_
          refine zr_iret zSm 20 rfl rfl (zn_b (Or.inr rfl)) ?_
          exact h
def zv_131 (I : zI) (J : zJ) (p0 : Int32) : Int32 := if ¬ (I 23 5) = (-1) then (if p0 = 0 then (I 20 4) else (if p0 = 1 then (I 20 5) else (if p0 = 2 then (I 20 6) else (if p0 = 3 then (I 23 7) else (if p0 = 4 then (I 23 6) else (if p0 = 5 then (if (I 20 7) = 0 then 0 else 1) else (if p0 = 6 then (if (I 20 8) = 0 then 0 else 1) else (I 23 8)))))))) else (-1)
theorem ze_131 {RO : zRo} {d : Nat} {P : zP} {I : zI} {J : zJ} {D : zD} {bc bs : Nat} {p0 : Int32} (h : P (.inl (some (.int (zv_131 I J p0)))) I J D) : zz RO (d + 1) 131 [.ref 0, .int p0] I J D bc bs P := by
  refine zT_of (Nat.le_of_ble_eq_true rfl) rfl ?_
  show zw RO d 131 P 0 [(0, .ref 0), (1, .int p0)] [] I J D bc bs
  unfold zv_131 at h
  refine zr_aload_n zSm 0 rfl rfl ?_
  refine zr_getR zSm 1 rfl zf_9_72 rfl rfl (by decide) ?_
  refine zr_getI zSm 2 rfl zf_9_157 rfl rfl (by decide) ?_
  refine zr_s zSm 3 rfl rfl ?_
  refine zr_ic zSm 4 13 rfl rfl (fun q1 => ?_) (fun q1 => ?_)
  · rw [if_pos (show (¬ (I 23 5) = (-1)) from q1)] at h
    refine zr_iload_n zSm 7 rfl rfl ?_
    by_cases q2 : p0 = 0
    · rw [if_pos (show (p0 = 0) from q2)] at h
      refine zr_tsG 8 56 [0] rfl (by simp only [List.mem_cons, List.not_mem_nil, or_false]; exact q2) (by decide) ?_
      refine zr_aload_n zSm 9 rfl rfl ?_
      refine zr_getR zSm 10 rfl zf_9_58 rfl rfl (by decide) ?_
      refine zr_getI zSm 11 rfl zf_9_235 rfl rfl (by decide) ?_
      refine zr_iret zSm 12 rfl rfl rfl ?_
      exact h
    · rw [if_neg (show ¬ (p0 = 0) from q2)] at h
      by_cases q3 : p0 = 1
      · rw [if_pos (show (p0 = 1) from q3)] at h
        refine zr_tsG 8 64 [1] rfl (by simp only [List.mem_cons, List.not_mem_nil, or_false]; exact q3) (by decide) ?_
        refine zr_aload_n zSm 13 rfl rfl ?_
        refine zr_getR zSm 14 rfl zf_9_58 rfl rfl (by decide) ?_
        refine zr_getI zSm 15 rfl zf_9_238 rfl rfl (by decide) ?_
        refine zr_iret zSm 16 rfl rfl rfl ?_
        exact h
      · rw [if_neg (show ¬ (p0 = 1) from q3)] at h
        by_cases q4 : p0 = 2
        · rw [if_pos (show (p0 = 2) from q4)] at h
          refine zr_tsG 8 72 [2] rfl (by simp only [List.mem_cons, List.not_mem_nil, or_false]; exact q4) (by decide) ?_
          refine zr_aload_n zSm 17 rfl rfl ?_
          refine zr_getR zSm 18 rfl zf_9_58 rfl rfl (by decide) ?_
          refine zr_getI zSm 19 rfl zf_9_241 rfl rfl (by decide) ?_
          refine zr_iret zSm 20 rfl rfl rfl ?_
          exact h
        · rw [if_neg (show ¬ (p0 = 2) from q4)] at h
          by_cases q5 : p0 = 3
          · rw [if_pos (show (p0 = 3) from q5)] at h
            refine zr_tsG 8 80 [3] rfl (by simp only [List.mem_cons, List.not_mem_nil, or_false]; exact q5) (by decide) ?_
            refine zr_aload_n zSm 21 rfl rfl ?_
            refine zr_getR zSm 22 rfl zf_9_72 rfl rfl (by decide) ?_
            refine zr_getI zSm 23 rfl zf_9_244 rfl rfl (by decide) ?_
            refine zr_iret zSm 24 rfl rfl rfl ?_
            exact h
          · rw [if_neg (show ¬ (p0 = 3) from q5)] at h
            by_cases q6 : p0 = 4
            · rw [if_pos (show (p0 = 4) from q6)] at h
              refine zr_tsG 8 88 [4] rfl (by simp only [List.mem_cons, List.not_mem_nil, or_false]; exact q6) (by decide) ?_
              refine zr_aload_n zSm 25 rfl rfl ?_
              refine zr_getR zSm 26 rfl zf_9_72 rfl rfl (by decide) ?_
              refine zr_getI zSm 27 rfl zf_9_247 rfl rfl (by decide) ?_
              refine zr_iret zSm 28 rfl rfl rfl ?_
              exact h
            · rw [if_neg (show ¬ (p0 = 4) from q6)] at h
              by_cases q7 : p0 = 5
              · rw [if_pos (show (p0 = 5) from q7)] at h
                refine zr_tsG 8 96 [5] rfl (by simp only [List.mem_cons, List.not_mem_nil, or_false]; exact q7) (by decide) ?_
                refine zr_aload_n zSm 29 rfl rfl ?_
                refine zr_getR zSm 30 rfl zf_9_58 rfl rfl (by decide) ?_
                refine zr_getZ zSm 31 rfl zf_9_250 rfl rfl (by decide) ?_
                refine zr_if zSm 32 110 rfl rfl (fun q8 => ?_) (fun q8 => ?_)
                · rw [if_pos (show ((I 20 7) = 0) from q8)] at h
                  refine zr_s zSm 35 rfl rfl ?_
                  refine zr_iret zSm 36 rfl rfl rfl ?_
                  exact h
                · rw [if_neg (show ¬ ((I 20 7) = 0) from q8)] at h
                  refine zr_s zSm 33 rfl rfl ?_
                  refine zr_goto zSm 34 111 rfl rfl ?_
                  refine zr_iret zSm 36 rfl rfl rfl ?_
                  exact h
              · rw [if_neg (show ¬ (p0 = 5) from q7)] at h
                by_cases q9 : p0 = 6
                · rw [if_pos (show (p0 = 6) from q9)] at h
                  refine zr_tsG 8 112 [6] rfl (by simp only [List.mem_cons, List.not_mem_nil, or_false]; exact q9) (by decide) ?_
                  refine zr_aload_n zSm 37 rfl rfl ?_
                  refine zr_getR zSm 38 rfl zf_9_58 rfl rfl (by decide) ?_
                  refine zr_getZ zSm 39 rfl zf_9_253 rfl rfl (by decide) ?_
                  refine zr_if zSm 40 126 rfl rfl (fun q10 => ?_) (fun q10 => ?_)
                  · rw [if_pos (show ((I 20 8) = 0) from q10)] at h
                    refine zr_s zSm 43 rfl rfl ?_
                    refine zr_iret zSm 44 rfl rfl rfl ?_
                    exact h
                  · rw [if_neg (show ¬ ((I 20 8) = 0) from q10)] at h
                    refine zr_s zSm 41 rfl rfl ?_
                    refine zr_goto zSm 42 127 rfl rfl ?_
                    refine zr_iret zSm 44 rfl rfl rfl ?_
                    exact h
                · rw [if_neg (show ¬ (p0 = 6) from q9)] at h
                  refine zr_tsD 8 128 [0, 1, 2, 3, 4, 5, 6] rfl ?_ (by decide) rfl ?_
                  · intro hx
                    simp only [List.mem_cons, List.not_mem_nil, or_false] at hx
                    rcases hx with e | e | e | e | e | e | e
                    · exact q2 e
                    · exact q3 e
                    · exact q4 e
                    · exact q5 e
                    · exact q6 e
                    · exact q7 e
                    · exact q9 e
                  · refine zr_aload_n zSm 45 rfl rfl ?_
                    refine zr_getR zSm 46 rfl zf_9_72 rfl rfl (by decide) ?_
                    refine zr_getI zSm 47 rfl zf_9_256 rfl rfl (by decide) ?_
                    refine zr_iret zSm 48 rfl rfl rfl ?_
                    exact h
  · rw [if_neg (show ¬ (¬ (I 23 5) = (-1)) from q1)] at h
    refine zr_s zSm 5 rfl rfl ?_
    refine zr_iret zSm 6 rfl rfl rfl ?_
    exact h
def zv_134 (I : zI) (J : zJ)  : Int32 := I 28 0
theorem ze_134 {RO : zRo} {d : Nat} {P : zP} {I : zI} {J : zJ} {D : zD} {bc bs : Nat}  (h : P (.inl (some (.int (zv_134 I J )))) I J D) : zz RO (d + 1) 134 [.ref 28] I J D bc bs P := by
  refine zT_of (Nat.le_of_ble_eq_true rfl) rfl ?_
  show zw RO d 134 P 0 [(0, .ref 28)] [] I J D bc bs
  unfold zv_134 at h
  refine zr_aload_n zSm 0 rfl rfl ?_
  refine zr_getI zSm 1 rfl zf_11_96 rfl rfl (by decide) ?_
  refine zr_iret zSm 2 rfl rfl rfl ?_
  exact h
def zv_136 (I : zI) (J : zJ) (p0 p1 p2 : Int64) : Int32 := if p0 < p1 then 0 else (if p2 < p0 then 0 else 1)
theorem zvb_136 {I : zI} {J : zJ} {p0 p1 p2 : Int64} : zv_136 I J p0 p1 p2 = 0 ∨ zv_136 I J p0 p1 p2 = 1 := by
  unfold zv_136
  (repeat' split) <;> first | exact Or.inl rfl | exact Or.inr rfl | exact zvb_104 | exact zvb_105 | exact zvb_130 | exact zvb_17 | exact zvb_44 | exact zvb_45 | exact zvb_46 | exact zvb_54 | exact zvb_78 | exact zvb_79
theorem ze_136 {RO : zRo} {d : Nat} {P : zP} {I : zI} {J : zJ} {D : zD} {bc bs : Nat} {p0 p1 p2 : Int64} (h : P (.inl (some (.int (zv_136 I J p0 p1 p2)))) I J D) : zz RO (d + 1) 136 [.long p0, .long p1, .long p2] I J D bc bs P := by
  refine zT_of (Nat.le_of_ble_eq_true rfl) rfl ?_
  show zw RO d 136 P 0 [(0, .long p0), (2, .long p1), (4, .long p2)] [] I J D bc bs
  unfold zv_136 at h
  refine zr_lload_n zSm 0 rfl rfl ?_
  refine zr_lload_n zSm 1 rfl rfl ?_
  refine zr_s zSm 2 rfl rfl ?_
  refine zr_if zSm 3 17 rfl rfl (fun q1 => ?_) (fun q1 => ?_)
  · have q1 := zq_lt.mp q1
    rw [if_pos (show (p0 < p1) from q1)] at h
    refine zr_s zSm 10 rfl rfl ?_
    refine zr_iret zSm 11 rfl rfl (zn_b (Or.inl rfl)) ?_
    exact h
  · have q1 := (fun z => q1 (zq_lt.mpr z))
    rw [if_neg (show ¬ (p0 < p1) from q1)] at h
    refine zr_lload_n zSm 4 rfl rfl ?_
    refine zr_lload zSm 5 rfl rfl ?_
    refine zr_s zSm 6 rfl rfl ?_
    refine zr_if zSm 7 17 rfl rfl (fun q2 => ?_) (fun q2 => ?_)
    · have q2 := zq_gt.mp q2
      rw [if_pos (show (p2 < p0) from q2)] at h
      refine zr_s zSm 10 rfl rfl ?_
      refine zr_iret zSm 11 rfl rfl (zn_b (Or.inl rfl)) ?_
      exact h
    · have q2 := (fun z => q2 (zq_gt.mpr z))
      rw [if_neg (show ¬ (p2 < p0) from q2)] at h
      refine zr_s zSm 8 rfl rfl ?_
      refine zr_goto zSm 9 18 rfl rfl ?_
      refine zr_iret zSm 11 rfl rfl (zn_b (Or.inr rfl)) ?_
      exact h
def zv_141 (I : zI) (J : zJ) (p0 : Int32) : Int32 := if (I 28 3) ≤ p0 then (-1) else (I 30 p0.toNatClampNeg)
def zo_141 (I : zI) (J : zJ) (p0 : Int32) : Prop := (((I 28 3) ≤ p0 → True) ∧ (¬ ((I 28 3) ≤ p0) → (vp_in p0 2000 ∧ True)))
theorem ze_141 {RO : zRo} {d : Nat} {P : zP} {I : zI} {J : zJ} {D : zD} {bc bs : Nat} {p0 : Int32} (o : zo_141 I J p0) (h : P (.inl (some (.int (zv_141 I J p0)))) I J D) : zz RO (d + 1) 141 [.ref 28, .int p0] I J D bc bs P := by
  refine zT_of (Nat.le_of_ble_eq_true rfl) rfl ?_
  show zw RO d 141 P 0 [(0, .ref 28), (1, .int p0)] [] I J D bc bs
  unfold zv_141 at h
  unfold zo_141 at o
  refine zr_iload_n zSm 0 rfl rfl ?_
  refine zr_aload_n zSm 1 rfl rfl ?_
  refine zr_getI zSm 2 rfl zf_11_99 rfl rfl (by decide) ?_
  refine zr_ic zSm 3 17 rfl rfl (fun q1 => ?_) (fun q1 => ?_)
  · rw [if_pos (show ((I 28 3) ≤ p0) from q1)] at h
    try have o := o.1 q1
    refine zr_s zSm 9 rfl rfl ?_
    refine zr_iret zSm 10 rfl rfl rfl ?_
    exact h
  · rw [if_neg (show ¬ ((I 28 3) ≤ p0) from q1)] at h
    try have o := o.2 q1
    refine zr_aload_n zSm 4 rfl rfl ?_
    refine zr_getR zSm 5 rfl zf_11_13 rfl rfl (by decide) ?_
    refine zr_iload_n zSm 6 rfl rfl ?_
    obtain ⟨b7, o⟩ := o
    refine zr_iald zSm 7 rfl rfl b7 ?_
    refine zr_goto zSm 8 18 rfl rfl ?_
    refine zr_iret zSm 10 rfl rfl rfl ?_
    exact h
def zv_142 (I : zI) (J : zJ) (p0 : Int32) : Int32 := zv_136 I J p0.toInt64 97 122
theorem zvb_142 {I : zI} {J : zJ} {p0 : Int32} : zv_142 I J p0 = 0 ∨ zv_142 I J p0 = 1 := by
  unfold zv_142
  (repeat' split) <;> first | exact Or.inl rfl | exact Or.inr rfl | exact zvb_104 | exact zvb_105 | exact zvb_130 | exact zvb_136 | exact zvb_17 | exact zvb_44 | exact zvb_45 | exact zvb_46 | exact zvb_54 | exact zvb_78 | exact zvb_79
theorem ze_142 {RO : zRo} {d : Nat} {P : zP} {I : zI} {J : zJ} {D : zD} {bc bs : Nat} {p0 : Int32} (h : P (.inl (some (.int (zv_142 I J p0)))) I J D) : zz RO (d + 2) 142 [.int p0] I J D bc bs P := by
  refine zT_of (Nat.le_of_ble_eq_true rfl) rfl ?_
  show zw RO (d + 1) 142 P 0 [(0, .int p0)] [] I J D bc bs
  unfold zv_142 at h
  refine zr_iload_n zSm 0 rfl rfl ?_
  refine zr_s zSm 1 rfl rfl ?_
  refine zr_ldc2 zSm 2 rfl zc_11_114 ?_
  refine zr_ldc2 zSm 3 rfl zc_11_116 ?_
  refine zr_ins0 4 136 3 [.long p0.toInt64, .long 97, .long 122] rfl rfl zk_11_110 zms_136 rfl (Nat.le_of_ble_eq_true rfl) ?_
  refine ze_136 ?_
  refine zNx_i ?_
  refine zr_iret zSm 5 rfl rfl (zn_b zvb_136) ?_
  exact h
def zv_143 (I : zI) (J : zJ) (p0 : Int32) : Int32 := zv_136 I J p0.toInt64 48 57
theorem zvb_143 {I : zI} {J : zJ} {p0 : Int32} : zv_143 I J p0 = 0 ∨ zv_143 I J p0 = 1 := by
  unfold zv_143
  (repeat' split) <;> first | exact Or.inl rfl | exact Or.inr rfl | exact zvb_104 | exact zvb_105 | exact zvb_130 | exact zvb_136 | exact zvb_142 | exact zvb_17 | exact zvb_44 | exact zvb_45 | exact zvb_46 | exact zvb_54 | exact zvb_78 | exact zvb_79
theorem ze_143 {RO : zRo} {d : Nat} {P : zP} {I : zI} {J : zJ} {D : zD} {bc bs : Nat} {p0 : Int32} (h : P (.inl (some (.int (zv_143 I J p0)))) I J D) : zz RO (d + 2) 143 [.int p0] I J D bc bs P := by
  refine zT_of (Nat.le_of_ble_eq_true rfl) rfl ?_
  show zw RO (d + 1) 143 P 0 [(0, .int p0)] [] I J D bc bs
  unfold zv_143 at h
  refine zr_iload_n zSm 0 rfl rfl ?_
  refine zr_s zSm 1 rfl rfl ?_
  refine zr_ldc2 zSm 2 rfl zc_11_118 ?_
  refine zr_ldc2 zSm 3 rfl zc_11_120 ?_
  refine zr_ins0 4 136 3 [.long p0.toInt64, .long 48, .long 57] rfl rfl zk_11_110 zms_136 rfl (Nat.le_of_ble_eq_true rfl) ?_
  refine ze_136 ?_
  refine zNx_i ?_
  refine zr_iret zSm 5 rfl rfl (zn_b zvb_136) ?_
  exact h
def zv_148 (I : zI) (J : zJ) (p0 : Int32) : Int32 := if ¬ (I 31 ((I 28 24).toNatClampNeg)) = p0 then 0 else 1
def zo_148 (I : zI) (J : zJ) (p0 : Int32) : Prop := (vp_in (I 28 24) 452 ∧ True)
theorem zvb_148 {I : zI} {J : zJ} {p0 : Int32} : zv_148 I J p0 = 0 ∨ zv_148 I J p0 = 1 := by
  unfold zv_148
  (repeat' split) <;> first | exact Or.inl rfl | exact Or.inr rfl | exact zvb_104 | exact zvb_105 | exact zvb_130 | exact zvb_136 | exact zvb_142 | exact zvb_143 | exact zvb_17 | exact zvb_44 | exact zvb_45 | exact zvb_46 | exact zvb_54 | exact zvb_78 | exact zvb_79
theorem ze_148 {RO : zRo} {d : Nat} {P : zP} {I : zI} {J : zJ} {D : zD} {bc bs : Nat} {p0 : Int32} (o : zo_148 I J p0) (h : P (.inl (some (.int (zv_148 I J p0)))) I J D) : zz RO (d + 1) 148 [.ref 28, .int p0] I J D bc bs P := by
  refine zT_of (Nat.le_of_ble_eq_true rfl) rfl ?_
  show zw RO d 148 P 0 [(0, .ref 28), (1, .int p0)] [] I J D bc bs
  unfold zv_148 at h
  unfold zo_148 at o
  refine zr_aload_n zSm 0 rfl rfl ?_
  refine zr_getR zSm 1 rfl zf_11_17 rfl rfl (by decide) ?_
  refine zr_aload_n zSm 2 rfl rfl ?_
  refine zr_getI zSm 3 rfl zf_11_170 rfl rfl (by decide) ?_
  obtain ⟨b4, o⟩ := o
  refine zr_iald zSm 4 rfl rfl b4 ?_
  refine zr_iload_n zSm 5 rfl rfl ?_
  refine zr_ic zSm 6 17 rfl rfl (fun q1 => ?_) (fun q1 => ?_)
  · rw [if_pos (show (¬ (I 31 ((I 28 24).toNatClampNeg)) = p0) from q1)] at h
    try have o := o.1 q1
    refine zr_s zSm 9 rfl rfl ?_
    refine zr_iret zSm 10 rfl rfl (zn_b (Or.inl rfl)) ?_
    exact h
  · rw [if_neg (show ¬ (¬ (I 31 ((I 28 24).toNatClampNeg)) = p0) from q1)] at h
    try have o := o.2 q1
    refine zr_s zSm 7 rfl rfl ?_
    refine zr_goto zSm 8 18 rfl rfl ?_
    refine zr_iret zSm 10 rfl rfl (zn_b (Or.inr rfl)) ?_
    exact h
def zv_179 (I : zI) (J : zJ) (p0 : Int32) : Int32 := (p0 + 1) - (p0 + 1) / (I 28 30) * (I 28 30)
def zo_179 (I : zI) (J : zJ) (p0 : Int32) : Prop := (¬ (I 28 30) = 0 ∧ True)
theorem ze_179 {RO : zRo} {d : Nat} {P : zP} {I : zI} {J : zJ} {D : zD} {bc bs : Nat} {p0 : Int32} (o : zo_179 I J p0) (h : P (.inl (some (.int (zv_179 I J p0)))) I J D) : zz RO (d + 1) 179 [.ref 28, .int p0] I J D bc bs P := by
  refine zT_of (Nat.le_of_ble_eq_true rfl) rfl ?_
  show zw RO d 179 P 0 [(0, .ref 28), (1, .int p0)] [] I J D bc bs
  unfold zv_179 at h
  unfold zo_179 at o
  refine zr_iload_n zSm 0 rfl rfl ?_
  refine zr_s zSm 1 rfl rfl ?_
  refine zr_s zSm 2 rfl rfl ?_
  refine zr_aload_n zSm 3 rfl rfl ?_
  refine zr_getI zSm 4 rfl zf_11_161 rfl rfl (by decide) ?_
  obtain ⟨b5, o⟩ := o
  refine zr_irem zSm 5 rfl b5 ?_
  refine zr_iret zSm 6 rfl rfl rfl ?_
  exact h
def zv_181 (I : zI) (J : zJ) (p0 p1 p2 p3 : Int32) : Int64 := if p0 = 400 then p1.toInt64 else (if p0 = 401 then ((I 46 (((6 * p2) + p1).toNatClampNeg)).toInt64) else (if p0 = 402 then ((I 46 (((6 * p3) + p1).toNatClampNeg)).toInt64) else (if p0 = 403 then ((I 47 p1.toNatClampNeg).toInt64) else (if ¬ p1 = 0 then (if ¬ p1 = 1 then (if ¬ p1 = 2 then (if ¬ p1 = 3 then ((I 28 30).toInt64) else p3.toInt64) else p2.toInt64) else ((I 28 45).toInt64)) else ((I 28 34).toInt64)))))
def zo_181 (I : zI) (J : zJ) (p0 p1 p2 p3 : Int32) : Prop := ((p0 = 400 → True) ∧ (¬ (p0 = 400) → ((p0 = 401 → (vp_in ((6 * p2) + p1) 24 ∧ True)) ∧ (¬ (p0 = 401) → ((p0 = 402 → (vp_in ((6 * p3) + p1) 24 ∧ True)) ∧ (¬ (p0 = 402) → ((p0 = 403 → (vp_in p1 6 ∧ True)) ∧ (¬ (p0 = 403) → True))))))))
theorem ze_181 {RO : zRo} {d : Nat} {P : zP} {I : zI} {J : zJ} {D : zD} {bc bs : Nat} {p0 p1 p2 p3 : Int32} (o : zo_181 I J p0 p1 p2 p3) (h : P (.inl (some (.long (zv_181 I J p0 p1 p2 p3)))) I J D) : zz RO (d + 1) 181 [.ref 28, .int p0, .int p1, .int p2, .int p3] I J D bc bs P := by
  refine zT_of (Nat.le_of_ble_eq_true rfl) rfl ?_
  show zw RO d 181 P 0 [(0, .ref 28), (1, .int p0), (2, .int p1), (3, .int p2), (4, .int p3)] [] I J D bc bs
  unfold zv_181 at h
  unfold zo_181 at o
  refine zr_iload_n zSm 0 rfl rfl ?_
  by_cases q1 : p0 = 400
  · rw [if_pos (show (p0 = 400) from q1)] at h
    try have o := o.1 q1
    refine zr_tsG 1 32 [400] rfl (by simp only [List.mem_cons, List.not_mem_nil, or_false]; exact q1) (by decide) ?_
    refine zr_iload_n zSm 2 rfl rfl ?_
    refine zr_s zSm 3 rfl rfl ?_
    refine zr_lret zSm 4 rfl rfl ?_
    exact h
  · rw [if_neg (show ¬ (p0 = 400) from q1)] at h
    try have o := o.2 q1
    by_cases q2 : p0 = 401
    · rw [if_pos (show (p0 = 401) from q2)] at h
      try have o := o.1 q2
      refine zr_tsG 1 35 [401] rfl (by simp only [List.mem_cons, List.not_mem_nil, or_false]; exact q2) (by decide) ?_
      refine zr_aload_n zSm 5 rfl rfl ?_
      refine zr_getR zSm 6 rfl zf_11_66 rfl rfl (by decide) ?_
      refine zr_bipush zSm 7 6 rfl rfl ?_
      refine zr_iload_n zSm 8 rfl rfl ?_
      refine zr_s zSm 9 rfl rfl ?_
      refine zr_iload_n zSm 10 rfl rfl ?_
      refine zr_s zSm 11 rfl rfl ?_
      obtain ⟨b12, o⟩ := o
      refine zr_iald zSm 12 rfl rfl b12 ?_
      refine zr_s zSm 13 rfl rfl ?_
      refine zr_lret zSm 14 rfl rfl ?_
      exact h
    · rw [if_neg (show ¬ (p0 = 401) from q2)] at h
      try have o := o.2 q2
      by_cases q3 : p0 = 402
      · rw [if_pos (show (p0 = 402) from q3)] at h
        try have o := o.1 q3
        refine zr_tsG 1 48 [402] rfl (by simp only [List.mem_cons, List.not_mem_nil, or_false]; exact q3) (by decide) ?_
        refine zr_aload_n zSm 15 rfl rfl ?_
        refine zr_getR zSm 16 rfl zf_11_66 rfl rfl (by decide) ?_
        refine zr_bipush zSm 17 6 rfl rfl ?_
        refine zr_iload zSm 18 rfl rfl ?_
        refine zr_s zSm 19 rfl rfl ?_
        refine zr_iload_n zSm 20 rfl rfl ?_
        refine zr_s zSm 21 rfl rfl ?_
        obtain ⟨b22, o⟩ := o
        refine zr_iald zSm 22 rfl rfl b22 ?_
        refine zr_s zSm 23 rfl rfl ?_
        refine zr_lret zSm 24 rfl rfl ?_
        exact h
      · rw [if_neg (show ¬ (p0 = 402) from q3)] at h
        try have o := o.2 q3
        by_cases q4 : p0 = 403
        · rw [if_pos (show (p0 = 403) from q4)] at h
          try have o := o.1 q4
          refine zr_tsG 1 62 [403] rfl (by simp only [List.mem_cons, List.not_mem_nil, or_false]; exact q4) (by decide) ?_
          refine zr_aload_n zSm 25 rfl rfl ?_
          refine zr_getR zSm 26 rfl zf_11_69 rfl rfl (by decide) ?_
          refine zr_iload_n zSm 27 rfl rfl ?_
          obtain ⟨b28, o⟩ := o
          refine zr_iald zSm 28 rfl rfl b28 ?_
          refine zr_s zSm 29 rfl rfl ?_
          refine zr_lret zSm 30 rfl rfl ?_
          exact h
        · rw [if_neg (show ¬ (p0 = 403) from q4)] at h
          try have o := o.2 q4
          refine zr_tsD 1 70 [400, 401, 402, 403] rfl ?_ (by decide) rfl ?_
          · intro hx
            simp only [List.mem_cons, List.not_mem_nil, or_false] at hx
            rcases hx with e | e | e | e
            · exact q1 e
            · exact q2 e
            · exact q3 e
            · exact q4 e
          · refine zr_iload_n zSm 31 rfl rfl ?_
            refine zr_if zSm 32 82 rfl rfl (fun q5 => ?_) (fun q5 => ?_)
            · rw [if_pos (show (¬ p1 = 0) from q5)] at h
              try have o := o.1 q5
              refine zr_iload_n zSm 37 rfl rfl ?_
              refine zr_s zSm 38 rfl rfl ?_
              refine zr_ic zSm 39 95 rfl rfl (fun q6 => ?_) (fun q6 => ?_)
              · rw [if_pos (show (¬ p1 = 1) from q6)] at h
                try have o := o.1 q6
                refine zr_iload_n zSm 44 rfl rfl ?_
                refine zr_s zSm 45 rfl rfl ?_
                refine zr_ic zSm 46 105 rfl rfl (fun q7 => ?_) (fun q7 => ?_)
                · rw [if_pos (show (¬ p1 = 2) from q7)] at h
                  try have o := o.1 q7
                  refine zr_iload_n zSm 50 rfl rfl ?_
                  refine zr_s zSm 51 rfl rfl ?_
                  refine zr_ic zSm 52 116 rfl rfl (fun q8 => ?_) (fun q8 => ?_)
                  · rw [if_pos (show (¬ p1 = 3) from q8)] at h
                    try have o := o.1 q8
                    refine zr_aload_n zSm 56 rfl rfl ?_
                    refine zr_getI zSm 57 rfl zf_11_161 rfl rfl (by decide) ?_
                    refine zr_s zSm 58 rfl rfl ?_
                    refine zr_lret zSm 59 rfl rfl ?_
                    exact h
                  · rw [if_neg (show ¬ (¬ p1 = 3) from q8)] at h
                    try have o := o.2 q8
                    refine zr_iload zSm 53 rfl rfl ?_
                    refine zr_s zSm 54 rfl rfl ?_
                    refine zr_goto zSm 55 121 rfl rfl ?_
                    refine zr_lret zSm 59 rfl rfl ?_
                    exact h
                · rw [if_neg (show ¬ (¬ p1 = 2) from q7)] at h
                  try have o := o.2 q7
                  refine zr_iload_n zSm 47 rfl rfl ?_
                  refine zr_s zSm 48 rfl rfl ?_
                  refine zr_goto zSm 49 121 rfl rfl ?_
                  refine zr_lret zSm 59 rfl rfl ?_
                  exact h
              · rw [if_neg (show ¬ (¬ p1 = 1) from q6)] at h
                try have o := o.2 q6
                refine zr_aload_n zSm 40 rfl rfl ?_
                refine zr_getI zSm 41 rfl zf_11_167 rfl rfl (by decide) ?_
                refine zr_s zSm 42 rfl rfl ?_
                refine zr_goto zSm 43 121 rfl rfl ?_
                refine zr_lret zSm 59 rfl rfl ?_
                exact h
            · rw [if_neg (show ¬ (¬ p1 = 0) from q5)] at h
              try have o := o.2 q5
              refine zr_aload_n zSm 33 rfl rfl ?_
              refine zr_getI zSm 34 rfl zf_11_326 rfl rfl (by decide) ?_
              refine zr_s zSm 35 rfl rfl ?_
              refine zr_goto zSm 36 121 rfl rfl ?_
              refine zr_lret zSm 59 rfl rfl ?_
              exact h
def zv_183 (I : zI) (J : zJ) (p0 : Int32) (p1 p2 : Int64) : Int64 := if p0 = 410 then (p1 + p2) else (if p0 = 411 then (p1 - p2) else (if p0 = 412 then (p1 * p2) else (if p0 = 413 then (if ¬ p2 = 0 then (p1 / p2) else 0) else (if p0 = 414 then (if ¬ p2 = 0 then (p1 - p1 / p2 * p2) else 0) else (if p0 = 420 then (if ¬ p1 = p2 then 0 else 1) else (if p0 = 421 then (if p1 = p2 then 0 else 1) else (if p0 = 422 then (if p2 ≤ p1 then 0 else 1) else (if p0 = 423 then (if p1 ≤ p2 then 0 else 1) else (if p0 = 424 then (if p2 < p1 then 0 else 1) else (if p0 = 425 then (if p1 < p2 then 0 else 1) else (if p0 = 430 then (if p1 = 0 then 0 else (if p2 = 0 then 0 else 1)) else (if ¬ p1 = 0 then 1 else (if p2 = 0 then 0 else 1)))))))))))))
theorem ze_183 {RO : zRo} {d : Nat} {P : zP} {I : zI} {J : zJ} {D : zD} {bc bs : Nat} {p0 : Int32} {p1 p2 : Int64} (h : P (.inl (some (.long (zv_183 I J p0 p1 p2)))) I J D) : zz RO (d + 1) 183 [.int p0, .long p1, .long p2] I J D bc bs P := by
  refine zT_of (Nat.le_of_ble_eq_true rfl) rfl ?_
  show zw RO d 183 P 0 [(0, .int p0), (1, .long p1), (3, .long p2)] [] I J D bc bs
  unfold zv_183 at h
  refine zr_iload_n zSm 0 rfl rfl ?_
  by_cases q1 : p0 = 410
  · rw [if_pos (show (p0 = 410) from q1)] at h
    refine zr_tsG 1 100 [410] rfl (by simp only [List.mem_cons, List.not_mem_nil, or_false]; exact q1) (by decide) ?_
    refine zr_lload_n zSm 2 rfl rfl ?_
    refine zr_lload_n zSm 3 rfl rfl ?_
    refine zr_s zSm 4 rfl rfl ?_
    refine zr_lret zSm 5 rfl rfl ?_
    exact h
  · rw [if_neg (show ¬ (p0 = 410) from q1)] at h
    by_cases q2 : p0 = 411
    · rw [if_pos (show (p0 = 411) from q2)] at h
      refine zr_tsG 1 104 [411] rfl (by simp only [List.mem_cons, List.not_mem_nil, or_false]; exact q2) (by decide) ?_
      refine zr_lload_n zSm 6 rfl rfl ?_
      refine zr_lload_n zSm 7 rfl rfl ?_
      refine zr_s zSm 8 rfl rfl ?_
      refine zr_lret zSm 9 rfl rfl ?_
      exact h
    · rw [if_neg (show ¬ (p0 = 411) from q2)] at h
      by_cases q3 : p0 = 412
      · rw [if_pos (show (p0 = 412) from q3)] at h
        refine zr_tsG 1 108 [412] rfl (by simp only [List.mem_cons, List.not_mem_nil, or_false]; exact q3) (by decide) ?_
        refine zr_lload_n zSm 10 rfl rfl ?_
        refine zr_lload_n zSm 11 rfl rfl ?_
        refine zr_s zSm 12 rfl rfl ?_
        refine zr_lret zSm 13 rfl rfl ?_
        exact h
      · rw [if_neg (show ¬ (p0 = 412) from q3)] at h
        by_cases q4 : p0 = 413
        · rw [if_pos (show (p0 = 413) from q4)] at h
          refine zr_tsG 1 112 [413] rfl (by simp only [List.mem_cons, List.not_mem_nil, or_false]; exact q4) (by decide) ?_
          refine zr_lload_n zSm 14 rfl rfl ?_
          refine zr_s zSm 15 rfl rfl ?_
          refine zr_s zSm 16 rfl rfl ?_
          refine zr_if zSm 17 122 rfl rfl (fun q5 => ?_) (fun q5 => ?_)
          · have q5 := zq_ne.mp q5
            rw [if_pos (show (¬ p2 = 0) from q5)] at h
            refine zr_lload_n zSm 20 rfl rfl ?_
            refine zr_lload_n zSm 21 rfl rfl ?_
            refine zr_ldiv zSm 22 rfl q5 ?_
            refine zr_lret zSm 23 rfl rfl ?_
            exact h
          · have q5 := (fun z => q5 (zq_ne.mpr z))
            rw [if_neg (show ¬ (¬ p2 = 0) from q5)] at h
            refine zr_s zSm 18 rfl rfl ?_
            refine zr_goto zSm 19 125 rfl rfl ?_
            refine zr_lret zSm 23 rfl rfl ?_
            exact h
        · rw [if_neg (show ¬ (p0 = 413) from q4)] at h
          by_cases q6 : p0 = 414
          · rw [if_pos (show (p0 = 414) from q6)] at h
            refine zr_tsG 1 126 [414] rfl (by simp only [List.mem_cons, List.not_mem_nil, or_false]; exact q6) (by decide) ?_
            refine zr_lload_n zSm 24 rfl rfl ?_
            refine zr_s zSm 25 rfl rfl ?_
            refine zr_s zSm 26 rfl rfl ?_
            refine zr_if zSm 27 136 rfl rfl (fun q7 => ?_) (fun q7 => ?_)
            · have q7 := zq_ne.mp q7
              rw [if_pos (show (¬ p2 = 0) from q7)] at h
              refine zr_lload_n zSm 30 rfl rfl ?_
              refine zr_lload_n zSm 31 rfl rfl ?_
              refine zr_lrem zSm 32 rfl q7 ?_
              refine zr_lret zSm 33 rfl rfl ?_
              exact h
            · have q7 := (fun z => q7 (zq_ne.mpr z))
              rw [if_neg (show ¬ (¬ p2 = 0) from q7)] at h
              refine zr_s zSm 28 rfl rfl ?_
              refine zr_goto zSm 29 139 rfl rfl ?_
              refine zr_lret zSm 33 rfl rfl ?_
              exact h
          · rw [if_neg (show ¬ (p0 = 414) from q6)] at h
            by_cases q8 : p0 = 420
            · rw [if_pos (show (p0 = 420) from q8)] at h
              refine zr_tsG 1 140 [420] rfl (by simp only [List.mem_cons, List.not_mem_nil, or_false]; exact q8) (by decide) ?_
              refine zr_lload_n zSm 34 rfl rfl ?_
              refine zr_lload_n zSm 35 rfl rfl ?_
              refine zr_s zSm 36 rfl rfl ?_
              refine zr_if zSm 37 150 rfl rfl (fun q9 => ?_) (fun q9 => ?_)
              · have q9 := zq_ne.mp q9
                rw [if_pos (show (¬ p1 = p2) from q9)] at h
                refine zr_s zSm 40 rfl rfl ?_
                refine zr_lret zSm 41 rfl rfl ?_
                exact h
              · have q9 := (fun z => q9 (zq_ne.mpr z))
                rw [if_neg (show ¬ (¬ p1 = p2) from q9)] at h
                refine zr_s zSm 38 rfl rfl ?_
                refine zr_goto zSm 39 151 rfl rfl ?_
                refine zr_lret zSm 41 rfl rfl ?_
                exact h
            · rw [if_neg (show ¬ (p0 = 420) from q8)] at h
              by_cases q10 : p0 = 421
              · rw [if_pos (show (p0 = 421) from q10)] at h
                refine zr_tsG 1 152 [421] rfl (by simp only [List.mem_cons, List.not_mem_nil, or_false]; exact q10) (by decide) ?_
                refine zr_lload_n zSm 42 rfl rfl ?_
                refine zr_lload_n zSm 43 rfl rfl ?_
                refine zr_s zSm 44 rfl rfl ?_
                refine zr_if zSm 45 162 rfl rfl (fun q11 => ?_) (fun q11 => ?_)
                · have q11 := zq_eq.mp q11
                  rw [if_pos (show (p1 = p2) from q11)] at h
                  refine zr_s zSm 48 rfl rfl ?_
                  refine zr_lret zSm 49 rfl rfl ?_
                  exact h
                · have q11 := (fun z => q11 (zq_eq.mpr z))
                  rw [if_neg (show ¬ (p1 = p2) from q11)] at h
                  refine zr_s zSm 46 rfl rfl ?_
                  refine zr_goto zSm 47 163 rfl rfl ?_
                  refine zr_lret zSm 49 rfl rfl ?_
                  exact h
              · rw [if_neg (show ¬ (p0 = 421) from q10)] at h
                by_cases q12 : p0 = 422
                · rw [if_pos (show (p0 = 422) from q12)] at h
                  refine zr_tsG 1 164 [422] rfl (by simp only [List.mem_cons, List.not_mem_nil, or_false]; exact q12) (by decide) ?_
                  refine zr_lload_n zSm 50 rfl rfl ?_
                  refine zr_lload_n zSm 51 rfl rfl ?_
                  refine zr_s zSm 52 rfl rfl ?_
                  refine zr_if zSm 53 174 rfl rfl (fun q13 => ?_) (fun q13 => ?_)
                  · have q13 := zq_ge.mp q13
                    rw [if_pos (show (p2 ≤ p1) from q13)] at h
                    refine zr_s zSm 56 rfl rfl ?_
                    refine zr_lret zSm 57 rfl rfl ?_
                    exact h
                  · have q13 := (fun z => q13 (zq_ge.mpr z))
                    rw [if_neg (show ¬ (p2 ≤ p1) from q13)] at h
                    refine zr_s zSm 54 rfl rfl ?_
                    refine zr_goto zSm 55 175 rfl rfl ?_
                    refine zr_lret zSm 57 rfl rfl ?_
                    exact h
                · rw [if_neg (show ¬ (p0 = 422) from q12)] at h
                  by_cases q14 : p0 = 423
                  · rw [if_pos (show (p0 = 423) from q14)] at h
                    refine zr_tsG 1 176 [423] rfl (by simp only [List.mem_cons, List.not_mem_nil, or_false]; exact q14) (by decide) ?_
                    refine zr_lload_n zSm 58 rfl rfl ?_
                    refine zr_lload_n zSm 59 rfl rfl ?_
                    refine zr_s zSm 60 rfl rfl ?_
                    refine zr_if zSm 61 186 rfl rfl (fun q15 => ?_) (fun q15 => ?_)
                    · have q15 := zq_le.mp q15
                      rw [if_pos (show (p1 ≤ p2) from q15)] at h
                      refine zr_s zSm 64 rfl rfl ?_
                      refine zr_lret zSm 65 rfl rfl ?_
                      exact h
                    · have q15 := (fun z => q15 (zq_le.mpr z))
                      rw [if_neg (show ¬ (p1 ≤ p2) from q15)] at h
                      refine zr_s zSm 62 rfl rfl ?_
                      refine zr_goto zSm 63 187 rfl rfl ?_
                      refine zr_lret zSm 65 rfl rfl ?_
                      exact h
                  · rw [if_neg (show ¬ (p0 = 423) from q14)] at h
                    by_cases q16 : p0 = 424
                    · rw [if_pos (show (p0 = 424) from q16)] at h
                      refine zr_tsG 1 188 [424] rfl (by simp only [List.mem_cons, List.not_mem_nil, or_false]; exact q16) (by decide) ?_
                      refine zr_lload_n zSm 66 rfl rfl ?_
                      refine zr_lload_n zSm 67 rfl rfl ?_
                      refine zr_s zSm 68 rfl rfl ?_
                      refine zr_if zSm 69 198 rfl rfl (fun q17 => ?_) (fun q17 => ?_)
                      · have q17 := zq_gt.mp q17
                        rw [if_pos (show (p2 < p1) from q17)] at h
                        refine zr_s zSm 72 rfl rfl ?_
                        refine zr_lret zSm 73 rfl rfl ?_
                        exact h
                      · have q17 := (fun z => q17 (zq_gt.mpr z))
                        rw [if_neg (show ¬ (p2 < p1) from q17)] at h
                        refine zr_s zSm 70 rfl rfl ?_
                        refine zr_goto zSm 71 199 rfl rfl ?_
                        refine zr_lret zSm 73 rfl rfl ?_
                        exact h
                    · rw [if_neg (show ¬ (p0 = 424) from q16)] at h
                      by_cases q18 : p0 = 425
                      · rw [if_pos (show (p0 = 425) from q18)] at h
                        refine zr_tsG 1 200 [425] rfl (by simp only [List.mem_cons, List.not_mem_nil, or_false]; exact q18) (by decide) ?_
                        refine zr_lload_n zSm 74 rfl rfl ?_
                        refine zr_lload_n zSm 75 rfl rfl ?_
                        refine zr_s zSm 76 rfl rfl ?_
                        refine zr_if zSm 77 210 rfl rfl (fun q19 => ?_) (fun q19 => ?_)
                        · have q19 := zq_lt.mp q19
                          rw [if_pos (show (p1 < p2) from q19)] at h
                          refine zr_s zSm 80 rfl rfl ?_
                          refine zr_lret zSm 81 rfl rfl ?_
                          exact h
                        · have q19 := (fun z => q19 (zq_lt.mpr z))
                          rw [if_neg (show ¬ (p1 < p2) from q19)] at h
                          refine zr_s zSm 78 rfl rfl ?_
                          refine zr_goto zSm 79 211 rfl rfl ?_
                          refine zr_lret zSm 81 rfl rfl ?_
                          exact h
                      · rw [if_neg (show ¬ (p0 = 425) from q18)] at h
                        by_cases q20 : p0 = 430
                        · rw [if_pos (show (p0 = 430) from q20)] at h
                          refine zr_tsG 1 212 [430] rfl (by simp only [List.mem_cons, List.not_mem_nil, or_false]; exact q20) (by decide) ?_
                          refine zr_lload_n zSm 82 rfl rfl ?_
                          refine zr_s zSm 83 rfl rfl ?_
                          refine zr_s zSm 84 rfl rfl ?_
                          refine zr_if zSm 85 228 rfl rfl (fun q21 => ?_) (fun q21 => ?_)
                          · have q21 := zq_eq.mp q21
                            rw [if_pos (show (p1 = 0) from q21)] at h
                            refine zr_s zSm 92 rfl rfl ?_
                            refine zr_lret zSm 93 rfl rfl ?_
                            exact h
                          · have q21 := (fun z => q21 (zq_eq.mpr z))
                            rw [if_neg (show ¬ (p1 = 0) from q21)] at h
                            refine zr_lload_n zSm 86 rfl rfl ?_
                            refine zr_s zSm 87 rfl rfl ?_
                            refine zr_s zSm 88 rfl rfl ?_
                            refine zr_if zSm 89 228 rfl rfl (fun q22 => ?_) (fun q22 => ?_)
                            · have q22 := zq_eq.mp q22
                              rw [if_pos (show (p2 = 0) from q22)] at h
                              refine zr_s zSm 92 rfl rfl ?_
                              refine zr_lret zSm 93 rfl rfl ?_
                              exact h
                            · have q22 := (fun z => q22 (zq_eq.mpr z))
                              rw [if_neg (show ¬ (p2 = 0) from q22)] at h
                              refine zr_s zSm 90 rfl rfl ?_
                              refine zr_goto zSm 91 229 rfl rfl ?_
                              refine zr_lret zSm 93 rfl rfl ?_
                              exact h
                        · rw [if_neg (show ¬ (p0 = 430) from q20)] at h
                          refine zr_tsD 1 230 [410, 411, 412, 413, 414, 420, 421, 422, 423, 424, 425, 430] rfl ?_ (by decide) rfl ?_
                          · intro hx
                            simp only [List.mem_cons, List.not_mem_nil, or_false] at hx
                            rcases hx with e | e | e | e | e | e | e | e | e | e | e | e
                            · exact q1 e
                            · exact q2 e
                            · exact q3 e
                            · exact q4 e
                            · exact q6 e
                            · exact q8 e
                            · exact q10 e
                            · exact q12 e
                            · exact q14 e
                            · exact q16 e
                            · exact q18 e
                            · exact q20 e
                          · refine zr_lload_n zSm 94 rfl rfl ?_
                            refine zr_s zSm 95 rfl rfl ?_
                            refine zr_s zSm 96 rfl rfl ?_
                            refine zr_if zSm 97 242 rfl rfl (fun q23 => ?_) (fun q23 => ?_)
                            · have q23 := zq_ne.mp q23
                              rw [if_pos (show (¬ p1 = 0) from q23)] at h
                              refine zr_s zSm 102 rfl rfl ?_
                              refine zr_goto zSm 103 247 rfl rfl ?_
                              refine zr_lret zSm 105 rfl rfl ?_
                              exact h
                            · have q23 := (fun z => q23 (zq_ne.mpr z))
                              rw [if_neg (show ¬ (¬ p1 = 0) from q23)] at h
                              refine zr_lload_n zSm 98 rfl rfl ?_
                              refine zr_s zSm 99 rfl rfl ?_
                              refine zr_s zSm 100 rfl rfl ?_
                              refine zr_if zSm 101 246 rfl rfl (fun q24 => ?_) (fun q24 => ?_)
                              · have q24 := zq_eq.mp q24
                                rw [if_pos (show (p2 = 0) from q24)] at h
                                refine zr_s zSm 104 rfl rfl ?_
                                refine zr_lret zSm 105 rfl rfl ?_
                                exact h
                              · have q24 := (fun z => q24 (zq_eq.mpr z))
                                rw [if_neg (show ¬ (p2 = 0) from q24)] at h
                                refine zr_s zSm 102 rfl rfl ?_
                                refine zr_goto zSm 103 247 rfl rfl ?_
                                refine zr_lret zSm 105 rfl rfl ?_
                                exact h
def zv_195 (I : zI) (J : zJ)  : Int32 := if (I 28 30) ≤ 0 then 0 else 1
theorem zvb_195 {I : zI} {J : zJ}  : zv_195 I J  = 0 ∨ zv_195 I J  = 1 := by
  unfold zv_195
  (repeat' split) <;> first | exact Or.inl rfl | exact Or.inr rfl | exact zvb_104 | exact zvb_105 | exact zvb_130 | exact zvb_136 | exact zvb_142 | exact zvb_143 | exact zvb_148 | exact zvb_17 | exact zvb_44 | exact zvb_45 | exact zvb_46 | exact zvb_54 | exact zvb_78 | exact zvb_79
theorem ze_195 {RO : zRo} {d : Nat} {P : zP} {I : zI} {J : zJ} {D : zD} {bc bs : Nat}  (h : P (.inl (some (.int (zv_195 I J )))) I J D) : zz RO (d + 1) 195 [.ref 28] I J D bc bs P := by
  refine zT_of (Nat.le_of_ble_eq_true rfl) rfl ?_
  show zw RO d 195 P 0 [(0, .ref 28)] [] I J D bc bs
  unfold zv_195 at h
  refine zr_aload_n zSm 0 rfl rfl ?_
  refine zr_getI zSm 1 rfl zf_11_161 rfl rfl (by decide) ?_
  refine zr_if zSm 2 11 rfl rfl (fun q1 => ?_) (fun q1 => ?_)
  · rw [if_pos (show ((I 28 30) ≤ 0) from q1)] at h
    refine zr_s zSm 5 rfl rfl ?_
    refine zr_iret zSm 6 rfl rfl (zn_b (Or.inl rfl)) ?_
    exact h
  · rw [if_neg (show ¬ ((I 28 30) ≤ 0) from q1)] at h
    refine zr_s zSm 3 rfl rfl ?_
    refine zr_goto zSm 4 12 rfl rfl ?_
    refine zr_iret zSm 6 rfl rfl (zn_b (Or.inr rfl)) ?_
    exact h
def zv_196 (I : zI) (J : zJ)  : Int32 := if (zv_195 I J) = 0 then 0 else (if ¬ (I 28 33) = 0 then 0 else 1)
theorem zvb_196 {I : zI} {J : zJ}  : zv_196 I J  = 0 ∨ zv_196 I J  = 1 := by
  unfold zv_196
  (repeat' split) <;> first | exact Or.inl rfl | exact Or.inr rfl | exact zvb_104 | exact zvb_105 | exact zvb_130 | exact zvb_136 | exact zvb_142 | exact zvb_143 | exact zvb_148 | exact zvb_17 | exact zvb_195 | exact zvb_44 | exact zvb_45 | exact zvb_46 | exact zvb_54 | exact zvb_78 | exact zvb_79
theorem ze_196 {RO : zRo} {d : Nat} {P : zP} {I : zI} {J : zJ} {D : zD} {bc bs : Nat}  (h : P (.inl (some (.int (zv_196 I J )))) I J D) : zz RO (d + 2) 196 [.ref 28] I J D bc bs P := by
  refine zT_of (Nat.le_of_ble_eq_true rfl) rfl ?_
  show zw RO (d + 1) 196 P 0 [(0, .ref 28)] [] I J D bc bs
  unfold zv_196 at h
  refine zr_aload_n zSm 0 rfl rfl ?_
  refine zr_inv0 1 195 0 [] rfl rfl zk_11_422 zms_195 rfl ⟨_, _, _, _, rfl, rfl⟩ (Nat.le_of_ble_eq_true rfl) ?_
  refine ze_195 ?_
  refine zNx_i ?_
  refine zr_if zSm 2 18 rfl rfl (fun q1 => ?_) (fun q1 => ?_)
  · rw [if_pos (show ((zv_195 I J) = 0) from q1)] at h
    refine zr_s zSm 8 rfl rfl ?_
    refine zr_iret zSm 9 rfl rfl (zn_b (Or.inl rfl)) ?_
    exact h
  · rw [if_neg (show ¬ ((zv_195 I J) = 0) from q1)] at h
    refine zr_aload_n zSm 3 rfl rfl ?_
    refine zr_getI zSm 4 rfl zf_11_375 rfl rfl (by decide) ?_
    refine zr_if zSm 5 18 rfl rfl (fun q2 => ?_) (fun q2 => ?_)
    · rw [if_pos (show (¬ (I 28 33) = 0) from q2)] at h
      refine zr_s zSm 8 rfl rfl ?_
      refine zr_iret zSm 9 rfl rfl (zn_b (Or.inl rfl)) ?_
      exact h
    · rw [if_neg (show ¬ (¬ (I 28 33) = 0) from q2)] at h
      refine zr_s zSm 6 rfl rfl ?_
      refine zr_goto zSm 7 19 rfl rfl ?_
      refine zr_iret zSm 9 rfl rfl (zn_b (Or.inr rfl)) ?_
      exact h
def zv_199 (I : zI) (J : zJ) (p0 : Int32) : Int32 := zv_136 I J p0.toInt64 0 (((I 28 30) - 1).toInt64)
theorem zvb_199 {I : zI} {J : zJ} {p0 : Int32} : zv_199 I J p0 = 0 ∨ zv_199 I J p0 = 1 := by
  unfold zv_199
  (repeat' split) <;> first | exact Or.inl rfl | exact Or.inr rfl | exact zvb_104 | exact zvb_105 | exact zvb_130 | exact zvb_136 | exact zvb_142 | exact zvb_143 | exact zvb_148 | exact zvb_17 | exact zvb_195 | exact zvb_196 | exact zvb_44 | exact zvb_45 | exact zvb_46 | exact zvb_54 | exact zvb_78 | exact zvb_79
theorem ze_199 {RO : zRo} {d : Nat} {P : zP} {I : zI} {J : zJ} {D : zD} {bc bs : Nat} {p0 : Int32} (h : P (.inl (some (.int (zv_199 I J p0)))) I J D) : zz RO (d + 2) 199 [.ref 28, .int p0] I J D bc bs P := by
  refine zT_of (Nat.le_of_ble_eq_true rfl) rfl ?_
  show zw RO (d + 1) 199 P 0 [(0, .ref 28), (1, .int p0)] [] I J D bc bs
  unfold zv_199 at h
  refine zr_iload_n zSm 0 rfl rfl ?_
  refine zr_s zSm 1 rfl rfl ?_
  refine zr_s zSm 2 rfl rfl ?_
  refine zr_aload_n zSm 3 rfl rfl ?_
  refine zr_getI zSm 4 rfl zf_11_161 rfl rfl (by decide) ?_
  refine zr_s zSm 5 rfl rfl ?_
  refine zr_s zSm 6 rfl rfl ?_
  refine zr_s zSm 7 rfl rfl ?_
  refine zr_ins0 8 136 3 [.long p0.toInt64, .long 0, .long (((I 28 30) - 1).toInt64)] rfl rfl zk_11_110 zms_136 rfl (Nat.le_of_ble_eq_true rfl) ?_
  refine ze_136 ?_
  refine zNx_i ?_
  refine zr_iret zSm 9 rfl rfl (zn_b zvb_136) ?_
  exact h
def zv_206 (I : zI) (J : zJ) (p0 : Int32) : Int32 := if p0 = 0 then (I 37 0) else (if p0 = 1 then (I 37 1) else (if p0 = 2 then (I 37 4) else (if p0 = 3 then (I 37 5) else (if p0 = 4 then (I 37 6) else (if p0 = 5 then (I 37 7) else (if p0 = 6 then (I 28 3) else (if p0 = 7 then (I 28 30) else (if p0 = 8 then (I 28 47) else (I 28 45)))))))))
theorem ze_206 {RO : zRo} {d : Nat} {P : zP} {I : zI} {J : zJ} {D : zD} {bc bs : Nat} {p0 : Int32} (h : P (.inl (some (.int (zv_206 I J p0)))) I J D) : zz RO (d + 1) 206 [.ref 28, .int p0] I J D bc bs P := by
  refine zT_of (Nat.le_of_ble_eq_true rfl) rfl ?_
  show zw RO d 206 P 0 [(0, .ref 28), (1, .int p0)] [] I J D bc bs
  unfold zv_206 at h
  refine zr_iload_n zSm 0 rfl rfl ?_
  by_cases q1 : p0 = 0
  · rw [if_pos (show (p0 = 0) from q1)] at h
    refine zr_tsG 1 52 [0] rfl (by simp only [List.mem_cons, List.not_mem_nil, or_false]; exact q1) (by decide) ?_
    refine zr_aload_n zSm 2 rfl rfl ?_
    refine zr_getR zSm 3 rfl zf_11_35 rfl rfl (by decide) ?_
    refine zr_s zSm 4 rfl rfl ?_
    refine zr_iald zSm 5 rfl rfl (zin_lit (by decide) (by decide)) ?_
    refine zr_iret zSm 6 rfl rfl rfl ?_
    exact h
  · rw [if_neg (show ¬ (p0 = 0) from q1)] at h
    by_cases q2 : p0 = 1
    · rw [if_pos (show (p0 = 1) from q2)] at h
      refine zr_tsG 1 59 [1] rfl (by simp only [List.mem_cons, List.not_mem_nil, or_false]; exact q2) (by decide) ?_
      refine zr_aload_n zSm 7 rfl rfl ?_
      refine zr_getR zSm 8 rfl zf_11_35 rfl rfl (by decide) ?_
      refine zr_s zSm 9 rfl rfl ?_
      refine zr_iald zSm 10 rfl rfl (zin_lit (by decide) (by decide)) ?_
      refine zr_iret zSm 11 rfl rfl rfl ?_
      exact h
    · rw [if_neg (show ¬ (p0 = 1) from q2)] at h
      by_cases q3 : p0 = 2
      · rw [if_pos (show (p0 = 2) from q3)] at h
        refine zr_tsG 1 66 [2] rfl (by simp only [List.mem_cons, List.not_mem_nil, or_false]; exact q3) (by decide) ?_
        refine zr_aload_n zSm 12 rfl rfl ?_
        refine zr_getR zSm 13 rfl zf_11_35 rfl rfl (by decide) ?_
        refine zr_s zSm 14 rfl rfl ?_
        refine zr_iald zSm 15 rfl rfl (zin_lit (by decide) (by decide)) ?_
        refine zr_iret zSm 16 rfl rfl rfl ?_
        exact h
      · rw [if_neg (show ¬ (p0 = 2) from q3)] at h
        by_cases q4 : p0 = 3
        · rw [if_pos (show (p0 = 3) from q4)] at h
          refine zr_tsG 1 73 [3] rfl (by simp only [List.mem_cons, List.not_mem_nil, or_false]; exact q4) (by decide) ?_
          refine zr_aload_n zSm 17 rfl rfl ?_
          refine zr_getR zSm 18 rfl zf_11_35 rfl rfl (by decide) ?_
          refine zr_s zSm 19 rfl rfl ?_
          refine zr_iald zSm 20 rfl rfl (zin_lit (by decide) (by decide)) ?_
          refine zr_iret zSm 21 rfl rfl rfl ?_
          exact h
        · rw [if_neg (show ¬ (p0 = 3) from q4)] at h
          by_cases q5 : p0 = 4
          · rw [if_pos (show (p0 = 4) from q5)] at h
            refine zr_tsG 1 80 [4] rfl (by simp only [List.mem_cons, List.not_mem_nil, or_false]; exact q5) (by decide) ?_
            refine zr_aload_n zSm 22 rfl rfl ?_
            refine zr_getR zSm 23 rfl zf_11_35 rfl rfl (by decide) ?_
            refine zr_bipush zSm 24 6 rfl rfl ?_
            refine zr_iald zSm 25 rfl rfl (zin_lit (by decide) (by decide)) ?_
            refine zr_iret zSm 26 rfl rfl rfl ?_
            exact h
          · rw [if_neg (show ¬ (p0 = 4) from q5)] at h
            by_cases q6 : p0 = 5
            · rw [if_pos (show (p0 = 5) from q6)] at h
              refine zr_tsG 1 88 [5] rfl (by simp only [List.mem_cons, List.not_mem_nil, or_false]; exact q6) (by decide) ?_
              refine zr_aload_n zSm 27 rfl rfl ?_
              refine zr_getR zSm 28 rfl zf_11_35 rfl rfl (by decide) ?_
              refine zr_bipush zSm 29 7 rfl rfl ?_
              refine zr_iald zSm 30 rfl rfl (zin_lit (by decide) (by decide)) ?_
              refine zr_iret zSm 31 rfl rfl rfl ?_
              exact h
            · rw [if_neg (show ¬ (p0 = 5) from q6)] at h
              by_cases q7 : p0 = 6
              · rw [if_pos (show (p0 = 6) from q7)] at h
                refine zr_tsG 1 96 [6] rfl (by simp only [List.mem_cons, List.not_mem_nil, or_false]; exact q7) (by decide) ?_
                refine zr_aload_n zSm 32 rfl rfl ?_
                refine zr_getI zSm 33 rfl zf_11_99 rfl rfl (by decide) ?_
                refine zr_iret zSm 34 rfl rfl rfl ?_
                exact h
              · rw [if_neg (show ¬ (p0 = 6) from q7)] at h
                by_cases q8 : p0 = 7
                · rw [if_pos (show (p0 = 7) from q8)] at h
                  refine zr_tsG 1 101 [7] rfl (by simp only [List.mem_cons, List.not_mem_nil, or_false]; exact q8) (by decide) ?_
                  refine zr_aload_n zSm 35 rfl rfl ?_
                  refine zr_getI zSm 36 rfl zf_11_161 rfl rfl (by decide) ?_
                  refine zr_iret zSm 37 rfl rfl rfl ?_
                  exact h
                · rw [if_neg (show ¬ (p0 = 7) from q8)] at h
                  by_cases q9 : p0 = 8
                  · rw [if_pos (show (p0 = 8) from q9)] at h
                    refine zr_tsG 1 106 [8] rfl (by simp only [List.mem_cons, List.not_mem_nil, or_false]; exact q9) (by decide) ?_
                    refine zr_aload_n zSm 38 rfl rfl ?_
                    refine zr_getI zSm 39 rfl zf_11_164 rfl rfl (by decide) ?_
                    refine zr_iret zSm 40 rfl rfl rfl ?_
                    exact h
                  · rw [if_neg (show ¬ (p0 = 8) from q9)] at h
                    refine zr_tsD 1 111 [0, 1, 2, 3, 4, 5, 6, 7, 8] rfl ?_ (by decide) rfl ?_
                    · intro hx
                      simp only [List.mem_cons, List.not_mem_nil, or_false] at hx
                      rcases hx with e | e | e | e | e | e | e | e | e
                      · exact q1 e
                      · exact q2 e
                      · exact q3 e
                      · exact q4 e
                      · exact q5 e
                      · exact q6 e
                      · exact q7 e
                      · exact q8 e
                      · exact q9 e
                    · refine zr_aload_n zSm 41 rfl rfl ?_
                      refine zr_getI zSm 42 rfl zf_11_167 rfl rfl (by decide) ?_
                      refine zr_iret zSm 43 rfl rfl rfl ?_
                      exact h
def zv_208 (I : zI) (J : zJ)  : Int32 := if (zv_195 I J) = 0 then (-1) else (I 28 33)
theorem ze_208 {RO : zRo} {d : Nat} {P : zP} {I : zI} {J : zJ} {D : zD} {bc bs : Nat}  (h : P (.inl (some (.int (zv_208 I J )))) I J D) : zz RO (d + 2) 208 [.ref 28] I J D bc bs P := by
  refine zT_of (Nat.le_of_ble_eq_true rfl) rfl ?_
  show zw RO (d + 1) 208 P 0 [(0, .ref 28)] [] I J D bc bs
  unfold zv_208 at h
  refine zr_aload_n zSm 0 rfl rfl ?_
  refine zr_inv0 1 195 0 [] rfl rfl zk_11_422 zms_195 rfl ⟨_, _, _, _, rfl, rfl⟩ (Nat.le_of_ble_eq_true rfl) ?_
  refine ze_195 ?_
  refine zNx_i ?_
  refine zr_if zSm 2 14 rfl rfl (fun q1 => ?_) (fun q1 => ?_)
  · rw [if_pos (show ((zv_195 I J) = 0) from q1)] at h
    refine zr_s zSm 6 rfl rfl ?_
    refine zr_iret zSm 7 rfl rfl rfl ?_
    exact h
  · rw [if_neg (show ¬ ((zv_195 I J) = 0) from q1)] at h
    refine zr_aload_n zSm 3 rfl rfl ?_
    refine zr_getI zSm 4 rfl zf_11_375 rfl rfl (by decide) ?_
    refine zr_goto zSm 5 15 rfl rfl ?_
    refine zr_iret zSm 7 rfl rfl rfl ?_
    exact h
def zv_210 (I : zI) (J : zJ) (p0 : Int32) : Int32 := if ¬ (zv_195 I J) = 0 then (if p0 = 0 then (I 28 34) else (if p0 = 1 then (I 28 35) else (if p0 = 2 then (I 28 36) else (if p0 = 3 then (I 28 37) else (if p0 = 4 then (I 28 39) else (if p0 = 5 then (if (I 28 40) = 0 then 0 else 1) else (if p0 = 6 then (if (I 28 41) = 0 then 0 else 1) else (I 28 38)))))))) else (-1)
theorem ze_210 {RO : zRo} {d : Nat} {P : zP} {I : zI} {J : zJ} {D : zD} {bc bs : Nat} {p0 : Int32} (h : P (.inl (some (.int (zv_210 I J p0)))) I J D) : zz RO (d + 2) 210 [.ref 28, .int p0] I J D bc bs P := by
  refine zT_of (Nat.le_of_ble_eq_true rfl) rfl ?_
  show zw RO (d + 1) 210 P 0 [(0, .ref 28), (1, .int p0)] [] I J D bc bs
  unfold zv_210 at h
  refine zr_aload_n zSm 0 rfl rfl ?_
  refine zr_inv0 1 195 0 [] rfl rfl zk_11_422 zms_195 rfl ⟨_, _, _, _, rfl, rfl⟩ (Nat.le_of_ble_eq_true rfl) ?_
  refine ze_195 ?_
  refine zNx_i ?_
  refine zr_if zSm 2 9 rfl rfl (fun q1 => ?_) (fun q1 => ?_)
  · rw [if_pos (show (¬ (zv_195 I J) = 0) from q1)] at h
    refine zr_iload_n zSm 5 rfl rfl ?_
    by_cases q2 : p0 = 0
    · rw [if_pos (show (p0 = 0) from q2)] at h
      refine zr_tsG 6 52 [0] rfl (by simp only [List.mem_cons, List.not_mem_nil, or_false]; exact q2) (by decide) ?_
      refine zr_aload_n zSm 7 rfl rfl ?_
      refine zr_getI zSm 8 rfl zf_11_326 rfl rfl (by decide) ?_
      refine zr_iret zSm 9 rfl rfl rfl ?_
      exact h
    · rw [if_neg (show ¬ (p0 = 0) from q2)] at h
      by_cases q3 : p0 = 1
      · rw [if_pos (show (p0 = 1) from q3)] at h
        refine zr_tsG 6 57 [1] rfl (by simp only [List.mem_cons, List.not_mem_nil, or_false]; exact q3) (by decide) ?_
        refine zr_aload_n zSm 10 rfl rfl ?_
        refine zr_getI zSm 11 rfl zf_11_366 rfl rfl (by decide) ?_
        refine zr_iret zSm 12 rfl rfl rfl ?_
        exact h
      · rw [if_neg (show ¬ (p0 = 1) from q3)] at h
        by_cases q4 : p0 = 2
        · rw [if_pos (show (p0 = 2) from q4)] at h
          refine zr_tsG 6 62 [2] rfl (by simp only [List.mem_cons, List.not_mem_nil, or_false]; exact q4) (by decide) ?_
          refine zr_aload_n zSm 13 rfl rfl ?_
          refine zr_getI zSm 14 rfl zf_11_378 rfl rfl (by decide) ?_
          refine zr_iret zSm 15 rfl rfl rfl ?_
          exact h
        · rw [if_neg (show ¬ (p0 = 2) from q4)] at h
          by_cases q5 : p0 = 3
          · rw [if_pos (show (p0 = 3) from q5)] at h
            refine zr_tsG 6 67 [3] rfl (by simp only [List.mem_cons, List.not_mem_nil, or_false]; exact q5) (by decide) ?_
            refine zr_aload_n zSm 16 rfl rfl ?_
            refine zr_getI zSm 17 rfl zf_11_403 rfl rfl (by decide) ?_
            refine zr_iret zSm 18 rfl rfl rfl ?_
            exact h
          · rw [if_neg (show ¬ (p0 = 3) from q5)] at h
            by_cases q6 : p0 = 4
            · rw [if_pos (show (p0 = 4) from q6)] at h
              refine zr_tsG 6 72 [4] rfl (by simp only [List.mem_cons, List.not_mem_nil, or_false]; exact q6) (by decide) ?_
              refine zr_aload_n zSm 19 rfl rfl ?_
              refine zr_getI zSm 20 rfl zf_11_372 rfl rfl (by decide) ?_
              refine zr_iret zSm 21 rfl rfl rfl ?_
              exact h
            · rw [if_neg (show ¬ (p0 = 4) from q6)] at h
              by_cases q7 : p0 = 5
              · rw [if_pos (show (p0 = 5) from q7)] at h
                refine zr_tsG 6 77 [5] rfl (by simp only [List.mem_cons, List.not_mem_nil, or_false]; exact q7) (by decide) ?_
                refine zr_aload_n zSm 22 rfl rfl ?_
                refine zr_getZ zSm 23 rfl zf_11_361 rfl rfl (by decide) ?_
                refine zr_if zSm 24 88 rfl rfl (fun q8 => ?_) (fun q8 => ?_)
                · rw [if_pos (show ((I 28 40) = 0) from q8)] at h
                  refine zr_s zSm 27 rfl rfl ?_
                  refine zr_iret zSm 28 rfl rfl rfl ?_
                  exact h
                · rw [if_neg (show ¬ ((I 28 40) = 0) from q8)] at h
                  refine zr_s zSm 25 rfl rfl ?_
                  refine zr_goto zSm 26 89 rfl rfl ?_
                  refine zr_iret zSm 28 rfl rfl rfl ?_
                  exact h
              · rw [if_neg (show ¬ (p0 = 5) from q7)] at h
                by_cases q9 : p0 = 6
                · rw [if_pos (show (p0 = 6) from q9)] at h
                  refine zr_tsG 6 90 [6] rfl (by simp only [List.mem_cons, List.not_mem_nil, or_false]; exact q9) (by decide) ?_
                  refine zr_aload_n zSm 29 rfl rfl ?_
                  refine zr_getZ zSm 30 rfl zf_11_358 rfl rfl (by decide) ?_
                  refine zr_if zSm 31 101 rfl rfl (fun q10 => ?_) (fun q10 => ?_)
                  · rw [if_pos (show ((I 28 41) = 0) from q10)] at h
                    refine zr_s zSm 34 rfl rfl ?_
                    refine zr_iret zSm 35 rfl rfl rfl ?_
                    exact h
                  · rw [if_neg (show ¬ ((I 28 41) = 0) from q10)] at h
                    refine zr_s zSm 32 rfl rfl ?_
                    refine zr_goto zSm 33 102 rfl rfl ?_
                    refine zr_iret zSm 35 rfl rfl rfl ?_
                    exact h
                · rw [if_neg (show ¬ (p0 = 6) from q9)] at h
                  refine zr_tsD 6 103 [0, 1, 2, 3, 4, 5, 6] rfl ?_ (by decide) rfl ?_
                  · intro hx
                    simp only [List.mem_cons, List.not_mem_nil, or_false] at hx
                    rcases hx with e | e | e | e | e | e | e
                    · exact q2 e
                    · exact q3 e
                    · exact q4 e
                    · exact q5 e
                    · exact q6 e
                    · exact q7 e
                    · exact q9 e
                  · refine zr_aload_n zSm 36 rfl rfl ?_
                    refine zr_getI zSm 37 rfl zf_11_406 rfl rfl (by decide) ?_
                    refine zr_iret zSm 38 rfl rfl rfl ?_
                    exact h
  · rw [if_neg (show ¬ (¬ (zv_195 I J) = 0) from q1)] at h
    refine zr_s zSm 3 rfl rfl ?_
    refine zr_iret zSm 4 rfl rfl rfl ?_
    exact h
def zv_49 (I : zI) (J : zJ) (p0 p1 : Int32) : Int64 := if p0 = 2 then ((zv_84 I J (zv_50 I J p1)).toInt64) else (if p0 = 28 then ((I 20 4).toInt64) else (if p0 = 29 then ((I 20 3).toInt64) else (if p0 = 30 then ((I 24 7).toInt64) else (if p0 = 31 then ((I 24 8).toInt64) else (if p0 = 32 then ((I 20 2).toInt64) else p1.toInt64)))))
theorem ze_49 {RO : zRo} {d : Nat} {P : zP} {I : zI} {J : zJ} {D : zD} {bc bs : Nat} {p0 p1 : Int32} (h : P (.inl (some (.long (zv_49 I J p0 p1)))) I J D) : zz RO (d + 2) 49 [.ref 24, .int p0, .int p1] I J D bc bs P := by
  refine zT_of (Nat.le_of_ble_eq_true rfl) rfl ?_
  show zw RO (d + 1) 49 P 0 [(0, .ref 24), (1, .int p0), (2, .int p1)] [] I J D bc bs
  unfold zv_49 at h
  refine zr_iload_n zSm 0 rfl rfl ?_
  by_cases q1 : p0 = 2
  · rw [if_pos (show (p0 = 2) from q1)] at h
    refine zr_lsG 1 60 [2] rfl (by simp only [List.mem_cons, List.not_mem_nil, or_false]; exact q1) (by decide) (by decide) ?_
    refine zr_aload_n zSm 2 rfl rfl ?_
    refine zr_getR zSm 3 rfl zf_3_19 rfl rfl (by decide) ?_
    refine zr_aload_n zSm 4 rfl rfl ?_
    refine zr_iload_n zSm 5 rfl rfl ?_
    refine zr_inv0 6 50 1 [.int p1] rfl rfl zk_3_84 zms_50 rfl ⟨_, _, _, _, rfl, rfl⟩ (Nat.le_of_ble_eq_true rfl) ?_
    refine ze_50 ?_
    refine zNx_i ?_
    refine zr_inv0 7 84 1 [.int (zv_50 I J p1)] rfl rfl zk_3_99 zms_84 rfl ⟨_, _, _, _, rfl, rfl⟩ (Nat.le_of_ble_eq_true rfl) ?_
    refine ze_84 ?_
    refine zNx_i ?_
    refine zr_s zSm 8 rfl rfl ?_
    refine zr_lret zSm 9 rfl rfl ?_
    exact h
  · rw [if_neg (show ¬ (p0 = 2) from q1)] at h
    by_cases q2 : p0 = 28
    · rw [if_pos (show (p0 = 28) from q2)] at h
      refine zr_lsG 1 74 [28] rfl (by simp only [List.mem_cons, List.not_mem_nil, or_false]; exact q2) (by decide) (by decide) ?_
      refine zr_aload_n zSm 10 rfl rfl ?_
      refine zr_getR zSm 11 rfl zf_3_19 rfl rfl (by decide) ?_
      refine zr_getI zSm 12 rfl zf_3_104 rfl rfl (by decide) ?_
      refine zr_s zSm 13 rfl rfl ?_
      refine zr_lret zSm 14 rfl rfl ?_
      exact h
    · rw [if_neg (show ¬ (p0 = 28) from q2)] at h
      by_cases q3 : p0 = 29
      · rw [if_pos (show (p0 = 29) from q3)] at h
        refine zr_lsG 1 83 [29] rfl (by simp only [List.mem_cons, List.not_mem_nil, or_false]; exact q3) (by decide) (by decide) ?_
        refine zr_aload_n zSm 15 rfl rfl ?_
        refine zr_getR zSm 16 rfl zf_3_19 rfl rfl (by decide) ?_
        refine zr_getI zSm 17 rfl zf_3_107 rfl rfl (by decide) ?_
        refine zr_s zSm 18 rfl rfl ?_
        refine zr_lret zSm 19 rfl rfl ?_
        exact h
      · rw [if_neg (show ¬ (p0 = 29) from q3)] at h
        by_cases q4 : p0 = 30
        · rw [if_pos (show (p0 = 30) from q4)] at h
          refine zr_lsG 1 92 [30] rfl (by simp only [List.mem_cons, List.not_mem_nil, or_false]; exact q4) (by decide) (by decide) ?_
          refine zr_aload_n zSm 20 rfl rfl ?_
          refine zr_getI zSm 21 rfl zf_3_31 rfl rfl (by decide) ?_
          refine zr_s zSm 22 rfl rfl ?_
          refine zr_lret zSm 23 rfl rfl ?_
          exact h
        · rw [if_neg (show ¬ (p0 = 30) from q4)] at h
          by_cases q5 : p0 = 31
          · rw [if_pos (show (p0 = 31) from q5)] at h
            refine zr_lsG 1 98 [31] rfl (by simp only [List.mem_cons, List.not_mem_nil, or_false]; exact q5) (by decide) (by decide) ?_
            refine zr_aload_n zSm 24 rfl rfl ?_
            refine zr_getI zSm 25 rfl zf_3_35 rfl rfl (by decide) ?_
            refine zr_s zSm 26 rfl rfl ?_
            refine zr_lret zSm 27 rfl rfl ?_
            exact h
          · rw [if_neg (show ¬ (p0 = 31) from q5)] at h
            by_cases q6 : p0 = 32
            · rw [if_pos (show (p0 = 32) from q6)] at h
              refine zr_lsG 1 104 [32] rfl (by simp only [List.mem_cons, List.not_mem_nil, or_false]; exact q6) (by decide) (by decide) ?_
              refine zr_aload_n zSm 28 rfl rfl ?_
              refine zr_getR zSm 29 rfl zf_3_19 rfl rfl (by decide) ?_
              refine zr_getI zSm 30 rfl zf_3_110 rfl rfl (by decide) ?_
              refine zr_s zSm 31 rfl rfl ?_
              refine zr_lret zSm 32 rfl rfl ?_
              exact h
            · rw [if_neg (show ¬ (p0 = 32) from q6)] at h
              refine zr_lsD 1 113 [2, 28, 29, 30, 31, 32] rfl ?_ (by decide) (by decide) rfl ?_
              · intro hx
                simp only [List.mem_cons, List.not_mem_nil, or_false] at hx
                rcases hx with e | e | e | e | e | e
                · exact q1 e
                · exact q2 e
                · exact q3 e
                · exact q4 e
                · exact q5 e
                · exact q6 e
              · refine zr_iload_n zSm 33 rfl rfl ?_
                refine zr_s zSm 34 rfl rfl ?_
                refine zr_lret zSm 35 rfl rfl ?_
                exact h
def zv_53 (I : zI) (J : zJ) (p0 : Int32) (p1 p2 : Int64) : Int64 := if p0 = 42 then (p1 + p2) else (if p0 = 43 then (p1 - p2) else (if p0 = 44 then (p1 * p2) else (if p0 = 45 then (if ¬ p2 = 0 then (p1 / p2) else 0) else (if p0 = 46 then (if ¬ p2 = 0 then (p1 - p1 / p2 * p2) else 0) else (if (zv_54 I J p0 p1 p2) = 0 then 0 else 1)))))
theorem ze_53 {RO : zRo} {d : Nat} {P : zP} {I : zI} {J : zJ} {D : zD} {bc bs : Nat} {p0 : Int32} {p1 p2 : Int64} (h : P (.inl (some (.long (zv_53 I J p0 p1 p2)))) I J D) : zz RO (d + 2) 53 [.int p0, .long p1, .long p2] I J D bc bs P := by
  refine zT_of (Nat.le_of_ble_eq_true rfl) rfl ?_
  show zw RO (d + 1) 53 P 0 [(0, .int p0), (1, .long p1), (3, .long p2)] [] I J D bc bs
  unfold zv_53 at h
  refine zr_iload_n zSm 0 rfl rfl ?_
  by_cases q1 : p0 = 42
  · rw [if_pos (show (p0 = 42) from q1)] at h
    refine zr_tsG 1 36 [42] rfl (by simp only [List.mem_cons, List.not_mem_nil, or_false]; exact q1) (by decide) ?_
    refine zr_lload_n zSm 2 rfl rfl ?_
    refine zr_lload_n zSm 3 rfl rfl ?_
    refine zr_s zSm 4 rfl rfl ?_
    refine zr_lret zSm 5 rfl rfl ?_
    exact h
  · rw [if_neg (show ¬ (p0 = 42) from q1)] at h
    by_cases q2 : p0 = 43
    · rw [if_pos (show (p0 = 43) from q2)] at h
      refine zr_tsG 1 40 [43] rfl (by simp only [List.mem_cons, List.not_mem_nil, or_false]; exact q2) (by decide) ?_
      refine zr_lload_n zSm 6 rfl rfl ?_
      refine zr_lload_n zSm 7 rfl rfl ?_
      refine zr_s zSm 8 rfl rfl ?_
      refine zr_lret zSm 9 rfl rfl ?_
      exact h
    · rw [if_neg (show ¬ (p0 = 43) from q2)] at h
      by_cases q3 : p0 = 44
      · rw [if_pos (show (p0 = 44) from q3)] at h
        refine zr_tsG 1 44 [44] rfl (by simp only [List.mem_cons, List.not_mem_nil, or_false]; exact q3) (by decide) ?_
        refine zr_lload_n zSm 10 rfl rfl ?_
        refine zr_lload_n zSm 11 rfl rfl ?_
        refine zr_s zSm 12 rfl rfl ?_
        refine zr_lret zSm 13 rfl rfl ?_
        exact h
      · rw [if_neg (show ¬ (p0 = 44) from q3)] at h
        by_cases q4 : p0 = 45
        · rw [if_pos (show (p0 = 45) from q4)] at h
          refine zr_tsG 1 48 [45] rfl (by simp only [List.mem_cons, List.not_mem_nil, or_false]; exact q4) (by decide) ?_
          refine zr_lload_n zSm 14 rfl rfl ?_
          refine zr_s zSm 15 rfl rfl ?_
          refine zr_s zSm 16 rfl rfl ?_
          refine zr_if zSm 17 58 rfl rfl (fun q5 => ?_) (fun q5 => ?_)
          · have q5 := zq_ne.mp q5
            rw [if_pos (show (¬ p2 = 0) from q5)] at h
            refine zr_lload_n zSm 20 rfl rfl ?_
            refine zr_lload_n zSm 21 rfl rfl ?_
            refine zr_ldiv zSm 22 rfl q5 ?_
            refine zr_lret zSm 23 rfl rfl ?_
            exact h
          · have q5 := (fun z => q5 (zq_ne.mpr z))
            rw [if_neg (show ¬ (¬ p2 = 0) from q5)] at h
            refine zr_s zSm 18 rfl rfl ?_
            refine zr_goto zSm 19 61 rfl rfl ?_
            refine zr_lret zSm 23 rfl rfl ?_
            exact h
        · rw [if_neg (show ¬ (p0 = 45) from q4)] at h
          by_cases q6 : p0 = 46
          · rw [if_pos (show (p0 = 46) from q6)] at h
            refine zr_tsG 1 62 [46] rfl (by simp only [List.mem_cons, List.not_mem_nil, or_false]; exact q6) (by decide) ?_
            refine zr_lload_n zSm 24 rfl rfl ?_
            refine zr_s zSm 25 rfl rfl ?_
            refine zr_s zSm 26 rfl rfl ?_
            refine zr_if zSm 27 72 rfl rfl (fun q7 => ?_) (fun q7 => ?_)
            · have q7 := zq_ne.mp q7
              rw [if_pos (show (¬ p2 = 0) from q7)] at h
              refine zr_lload_n zSm 30 rfl rfl ?_
              refine zr_lload_n zSm 31 rfl rfl ?_
              refine zr_lrem zSm 32 rfl q7 ?_
              refine zr_lret zSm 33 rfl rfl ?_
              exact h
            · have q7 := (fun z => q7 (zq_ne.mpr z))
              rw [if_neg (show ¬ (¬ p2 = 0) from q7)] at h
              refine zr_s zSm 28 rfl rfl ?_
              refine zr_goto zSm 29 75 rfl rfl ?_
              refine zr_lret zSm 33 rfl rfl ?_
              exact h
          · rw [if_neg (show ¬ (p0 = 46) from q6)] at h
            refine zr_tsD 1 76 [42, 43, 44, 45, 46] rfl ?_ (by decide) rfl ?_
            · intro hx
              simp only [List.mem_cons, List.not_mem_nil, or_false] at hx
              rcases hx with e | e | e | e | e
              · exact q1 e
              · exact q2 e
              · exact q3 e
              · exact q4 e
              · exact q6 e
            · refine zr_iload_n zSm 34 rfl rfl ?_
              refine zr_lload_n zSm 35 rfl rfl ?_
              refine zr_lload_n zSm 36 rfl rfl ?_
              refine zr_ins0 37 54 3 [.int p0, .long p1, .long p2] rfl rfl zk_3_127 zms_54 rfl (Nat.le_of_ble_eq_true rfl) ?_
              refine ze_54 ?_
              refine zNx_i ?_
              refine zr_if zSm 38 89 rfl rfl (fun q8 => ?_) (fun q8 => ?_)
              · rw [if_pos (show ((zv_54 I J p0 p1 p2) = 0) from q8)] at h
                refine zr_s zSm 41 rfl rfl ?_
                refine zr_lret zSm 42 rfl rfl ?_
                exact h
              · rw [if_neg (show ¬ ((zv_54 I J p0 p1 p2) = 0) from q8)] at h
                refine zr_s zSm 39 rfl rfl ?_
                refine zr_goto zSm 40 90 rfl rfl ?_
                refine zr_lret zSm 42 rfl rfl ?_
                exact h

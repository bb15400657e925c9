/-! ===== what the start gives ===== -/
theorem zlt1 {w : Cond} (i : Nat) (h : tables_1_1[i]? = some w) : w ∈ lw_tbl := List.mem_append_right _ (List.mem_append_left _ (List.mem_of_getElem? h))
theorem zlt2 {w : Cond} (i : Nat) (h : tables_1_2[i]? = some w) : w ∈ lw_tbl := List.mem_append_right _ (List.mem_append_right _ (List.mem_append_left _ (List.mem_of_getElem? h)))
theorem zlt3 {w : Cond} (i : Nat) (h : tables_1_3[i]? = some w) : w ∈ lw_tbl := List.mem_append_right _ (List.mem_append_right _ (List.mem_append_right _ (List.mem_append_left _ (List.mem_of_getElem? h))))
theorem zlt4 {w : Cond} (i : Nat) (h : tables_1_4[i]? = some w) : w ∈ lw_tbl := List.mem_append_right _ (List.mem_append_right _ (List.mem_append_right _ (List.mem_append_right _ (List.mem_append_left _ (List.mem_of_getElem? h)))))
theorem zlt5 {w : Cond} (i : Nat) (h : tables_1_5[i]? = some w) : w ∈ lw_tbl := List.mem_append_right _ (List.mem_append_right _ (List.mem_append_right _ (List.mem_append_right _ (List.mem_append_right _ (List.mem_append_left _ (List.mem_of_getElem? h))))))
theorem zlt6 {w : Cond} (i : Nat) (h : tables_1_6[i]? = some w) : w ∈ lw_tbl := List.mem_append_right _ (List.mem_append_right _ (List.mem_append_right _ (List.mem_append_right _ (List.mem_append_right _ (List.mem_append_right _ (List.mem_append_left _ (List.mem_of_getElem? h)))))))
theorem zlt7 {w : Cond} (i : Nat) (h : tables_1_7[i]? = some w) : w ∈ lw_tbl := List.mem_append_right _ (List.mem_append_right _ (List.mem_append_right _ (List.mem_append_right _ (List.mem_append_right _ (List.mem_append_right _ (List.mem_append_right _ (List.mem_append_left _ (List.mem_of_getElem? h))))))))
theorem zlt8 {w : Cond} (i : Nat) (h : tables_1_8[i]? = some w) : w ∈ lw_tbl := List.mem_append_right _ (List.mem_append_right _ (List.mem_append_right _ (List.mem_append_right _ (List.mem_append_right _ (List.mem_append_right _ (List.mem_append_right _ (List.mem_append_right _ (List.mem_of_getElem? h))))))))
def zGv : List Cond := flatC (Cond.and given_1 narrow_1)
theorem zgv {s : State} {args : Array Value} (hgv : (Cond.and given_1 narrow_1).before args s = true) {w : Cond} (i : Nat) (h : zGv[i]? = some w) : w.before args s = true := flat_of_before _ hgv w (List.mem_of_getElem? h)
theorem zgm {s : State} {args : Array Value} (hgv : (Cond.and given_1 narrow_1).before args s = true) {w : Cond} (h : w ∈ zGv) : w.before args s = true := flat_of_before _ hgv w h
def zTm : Nat → Term
  | 0 => .string "RuleStack$Tokens" 85
  | 1 => .string "RuleStack$Tokens" 25
  | _ => .string "RuleStackModel" 84
theorem zTm_ex : ∀ i, i < 3 → Cond.exactly (zTm i) "java/lang/String" ∈ zGv
  | 0, _ => List.mem_of_getElem? (i := 241) (by decide +kernel)
  | 1, _ => List.mem_of_getElem? (i := 89) (by decide +kernel)
  | 2, _ => List.mem_of_getElem? (i := 974) (by decide +kernel)
  | n + 3, h => by omega
theorem zTm_co : ∀ i, i < 3 → Cond.eq (.field (zTm i) "java/lang/String" "coder" "B") (.int 0) ∈ zGv
  | 0, _ => List.mem_of_getElem? (i := 242) (by decide +kernel)
  | 1, _ => List.mem_of_getElem? (i := 90) (by decide +kernel)
  | 2, _ => List.mem_of_getElem? (i := 975) (by decide +kernel)
  | n + 3, h => by omega
theorem zTm_ar : ∀ i, i < 3 → Cond.arrayOf (.field (zTm i) "java/lang/String" "value" "[B") .byte ∈ zGv
  | 0, _ => List.mem_of_getElem? (i := 243) (by decide +kernel)
  | 1, _ => List.mem_of_getElem? (i := 91) (by decide +kernel)
  | 2, _ => List.mem_of_getElem? (i := 976) (by decide +kernel)
  | n + 3, h => by omega
theorem zTm_le : ∀ i, i < 3 → Cond.eq (.length (.field (zTm i) "java/lang/String" "value" "[B")) (.int (Int32.ofNat (zSln.getD i 0))) ∈ zGv
  | 0, _ => List.mem_of_getElem? (i := 244) (by decide +kernel)
  | 1, _ => List.mem_of_getElem? (i := 92) (by decide +kernel)
  | 2, _ => List.mem_of_getElem? (i := 977) (by decide +kernel)
  | n + 3, h => by omega
theorem zTm_e0 : ∀ j, j < 13 → zGv[245 + j]? = some (Cond.eq (.elem (.field (zTm 0) "java/lang/String" "value" "[B") (.int (Int32.ofNat j))) (.int ((zSbt.getD 0 []).getD j 0))) := by decide +kernel
theorem zTm_e1 : ∀ j, j < 148 → zGv[93 + j]? = some (Cond.eq (.elem (.field (zTm 1) "java/lang/String" "value" "[B") (.int (Int32.ofNat j))) (.int ((zSbt.getD 1 []).getD j 0))) := by decide +kernel
theorem zTm_e2 : ∀ j, j < 149 → zGv[978 + j]? = some (Cond.eq (.elem (.field (zTm 2) "java/lang/String" "value" "[B") (.int (Int32.ofNat j))) (.int ((zSbt.getD 2 []).getD j 0))) := by decide +kernel
theorem zTm_el : ∀ i, i < 3 → ∀ j, j < zSln.getD i 0 → Cond.eq (.elem (.field (zTm i) "java/lang/String" "value" "[B") (.int (Int32.ofNat j))) (.int ((zSbt.getD i []).getD j 0)) ∈ zGv
  | 0, _ => fun j hj => List.mem_of_getElem? (zTm_e0 j hj)
  | 1, _ => fun j hj => List.mem_of_getElem? (zTm_e1 j hj)
  | 2, _ => fun j hj => List.mem_of_getElem? (zTm_e2 j hj)
  | n + 3, h => by omega
theorem zTm_ne {s : State} {args : Array Value} (hgv : (Cond.and given_1 narrow_1).before args s = true) : ∀ i j : Nat, i < 3 → j < 3 → i ≠ j → (Cond.not (Cond.eq (zTm i) (zTm j))).before args s = true ∨ (Cond.not (Cond.eq (zTm j) (zTm i))).before args s = true := by
  have a : (Cond.not (Cond.eq (zTm 1) (zTm 0))).before args s = true := zgv hgv 258 (by decide +kernel)
  have b : (Cond.not (Cond.eq (zTm 1) (zTm 2))).before args s = true := zgv hgv 1127 (by decide +kernel)
  have c : (Cond.not (Cond.eq (zTm 0) (zTm 2))).before args s = true := zgv hgv 1128 (by decide +kernel)
  intro i j hi hj hij
  have hi3 : i = 0 ∨ i = 1 ∨ i = 2 := by omega
  have hj3 : j = 0 ∨ j = 1 ∨ j = 2 := by omega
  rcases hi3 with rfl | rfl | rfl <;> rcases hj3 with rfl | rfl | rfl
  · exact absurd rfl hij
  · exact Or.inr a
  · exact Or.inl c
  · exact Or.inl a
  · exact absurd rfl hij
  · exact Or.inl b
  · exact Or.inr c
  · exact Or.inr b
  · exact absurd rfl hij
theorem zsr_in : ∀ q ∈ zSRl, Cond.stringRef q.1 q.2.1 q.2.2 ∈ lw_tbl ∧ Cond.exactly (Term.string q.1 q.2.1) "java/lang/String" ∈ zGv := List.forall_mem_cons.mpr ⟨⟨zlt4 150 (by decide +kernel), List.mem_of_getElem? (i := 259) (by decide +kernel)⟩, List.forall_mem_cons.mpr ⟨⟨zlt4 197 (by decide +kernel), List.mem_of_getElem? (i := 281) (by decide +kernel)⟩, List.forall_mem_cons.mpr ⟨⟨zlt4 221 (by decide +kernel), List.mem_of_getElem? (i := 318) (by decide +kernel)⟩, List.forall_mem_cons.mpr ⟨⟨zlt4 235 (by decide +kernel), List.mem_of_getElem? (i := 340) (by decide +kernel)⟩, List.forall_mem_cons.mpr ⟨⟨zlt4 236 (by decide +kernel), List.mem_of_getElem? (i := 367) (by decide +kernel)⟩, List.forall_mem_cons.mpr ⟨⟨zlt5 48 (by decide +kernel), List.mem_of_getElem? (i := 396) (by decide +kernel)⟩, List.forall_mem_cons.mpr ⟨⟨zlt5 49 (by decide +kernel), List.mem_of_getElem? (i := 428) (by decide +kernel)⟩, List.forall_mem_cons.mpr ⟨⟨zlt5 78 (by decide +kernel), List.mem_of_getElem? (i := 466) (by decide +kernel)⟩, List.forall_mem_cons.mpr ⟨⟨zlt5 79 (by decide +kernel), List.mem_of_getElem? (i := 502) (by decide +kernel)⟩, List.forall_mem_cons.mpr ⟨⟨zlt5 87 (by decide +kernel), List.mem_of_getElem? (i := 545) (by decide +kernel)⟩, List.forall_mem_cons.mpr ⟨⟨zlt5 95 (by decide +kernel), List.mem_of_getElem? (i := 589) (by decide +kernel)⟩, List.forall_mem_cons.mpr ⟨⟨zlt5 103 (by decide +kernel), List.mem_of_getElem? (i := 633) (by decide +kernel)⟩, List.forall_mem_cons.mpr ⟨⟨zlt5 111 (by decide +kernel), List.mem_of_getElem? (i := 664) (by decide +kernel)⟩, List.forall_mem_cons.mpr ⟨⟨zlt5 119 (by decide +kernel), List.mem_of_getElem? (i := 705) (by decide +kernel)⟩, List.forall_mem_cons.mpr ⟨⟨zlt5 128 (by decide +kernel), List.mem_of_getElem? (i := 736) (by decide +kernel)⟩, List.forall_mem_cons.mpr ⟨⟨zlt5 136 (by decide +kernel), List.mem_of_getElem? (i := 792) (by decide +kernel)⟩, List.forall_mem_cons.mpr ⟨⟨zlt5 144 (by decide +kernel), List.mem_of_getElem? (i := 848) (by decide +kernel)⟩, List.forall_mem_cons.mpr ⟨⟨zlt5 145 (by decide +kernel), List.mem_of_getElem? (i := 897) (by decide +kernel)⟩, List.forall_mem_cons.mpr ⟨⟨zlt5 153 (by decide +kernel), List.mem_of_getElem? (i := 937) (by decide +kernel)⟩, fun _ h => absurd h List.not_mem_nil⟩⟩⟩⟩⟩⟩⟩⟩⟩⟩⟩⟩⟩⟩⟩⟩⟩⟩⟩
theorem zsf_in : ∀ q ∈ zNsF, Cond.fieldLinkNest q.1 q.2.1 q.2.2.1 q.2.2.2.1 q.2.2.2.2.1 q.2.2.2.2.2 ∈ lw_tbl := List.forall_mem_cons.mpr ⟨zlt3 126 (by decide +kernel), List.forall_mem_cons.mpr ⟨zlt6 174 (by decide +kernel), List.forall_mem_cons.mpr ⟨zlt6 176 (by decide +kernel), fun _ h => absurd h List.not_mem_nil⟩⟩⟩
theorem zsm_in : Cond.methodLinkNest "RuleStackModel" 175 zNsM "RuleStackModel" ∈ lw_tbl := zlt6 163 (by decide +kernel)
theorem zsd_in : ∀ x ∈ zDcl, Cond.declares x ∈ lw_tbl := List.forall_mem_cons.mpr ⟨zlt4 111 (by decide +kernel), List.forall_mem_cons.mpr ⟨zlt4 112 (by decide +kernel), List.forall_mem_cons.mpr ⟨zlt4 113 (by decide +kernel), List.forall_mem_cons.mpr ⟨zlt4 114 (by decide +kernel), List.forall_mem_cons.mpr ⟨zlt4 115 (by decide +kernel), List.forall_mem_cons.mpr ⟨zlt4 116 (by decide +kernel), fun _ h => absurd h List.not_mem_nil⟩⟩⟩⟩⟩⟩
theorem zsc_in : ∀ x ∈ zCsl, Cond.castable x x ∈ lw_tbl := List.forall_mem_cons.mpr ⟨zlt4 110 (by decide +kernel), List.forall_mem_cons.mpr ⟨zlt4 190 (by decide +kernel), List.forall_mem_cons.mpr ⟨zlt4 214 (by decide +kernel), List.forall_mem_cons.mpr ⟨zlt6 156 (by decide +kernel), fun _ h => absurd h List.not_mem_nil⟩⟩⟩⟩
theorem zsn_in : ∀ q ∈ zNcl, Cond.not (Cond.castable q.1 q.2) ∈ zGv := List.forall_mem_cons.mpr ⟨List.mem_of_getElem? (i := 58) (by decide +kernel), List.forall_mem_cons.mpr ⟨List.mem_of_getElem? (i := 72) (by decide +kernel), fun _ h => absurd h List.not_mem_nil⟩⟩
set_option maxHeartbeats 1000000 in
theorem zXT_start {s : State} {args : Array Value} {A : Nat → Prop} (hts : ∀ w ∈ lw_tbl, w.before args s = true) (hgv : (Cond.and given_1 narrow_1).before args s = true) (hA : ∀ a : Nat, a < s.heap.size → ¬ A a) : ∃ (adK adV : Nat → Nat) (si : Nat), ∀ ad : Nat → Nat, (∀ i, i < 3 → ad (110 + i) = adK i ∧ ad (120 + i) = adV i) → ad 130 = si → zXT2 ad A s s.heap := by
  obtain ⟨adK, adV, hS, hev⟩ := vk_Sof (args := args) (s := s) (N := 3) (tm := zTm) (len := zSln) (byt := zSbt) (A := A) (by decide) (fun i hi => zgm hgv (zTm_ex i hi)) (fun i hi => zgm hgv (zTm_co i hi)) (fun i hi => zgm hgv (zTm_ar i hi)) (fun i hi => zgm hgv (zTm_le i hi)) (fun i hi j hj => zgm hgv (zTm_el i hi j hj)) (zTm_ne hgv) hA
  have q1 : vx_Zq Bundle.tN "UNASSIGNED_STACK" Bundle.steD A s s.heap := vx_Zqof (hts _ (zlt4 135 (by decide +kernel))) (hts _ (zlt1 18 (by decide +kernel))) (zgv hgv 19 (by decide +kernel)) hA
  have q2 : vx_Zq Bundle.tN "SUPPRESSED_SENTINEL" Bundle.listD A s s.heap := vx_Zqof (hts _ (zlt4 137 (by decide +kernel))) (hts _ (zlt1 18 (by decide +kernel))) (zgv hgv 20 (by decide +kernel)) hA
  have q3 : ∀ q ∈ zSRl, ∃ sa, vk_R q.1 q.2.1 q.2.2 sa s := by
    intro q hq
    obtain ⟨h1, h2⟩ := zsr_in q hq
    obtain ⟨a, c, cA, kA, e1, -⟩ := Cond.exactly_spec (args := args) (first := s) (o := none) (s := s) (idx := []) (t := .string q.1 q.2.1) (cls := "java/lang/String") (zgm hgv h2)
    exact ⟨a, vk_R.of (hts _ h1) e1⟩
  have q10 : va_Z "java/lang/String" "COMPACT_STRINGS" "Z" (.int 1) A s s.heap := va_Zof (hts _ (zlt1 66 (by decide +kernel))) (hts _ (zlt1 4 (by decide +kernel))) (va_eqi (zgv hgv 4 (by decide +kernel))) hA
  have q12 : va_Zq "jdk/internal/util/Preconditions" "SIOOBE_FORMATTER" "Ljava/util/function/BiFunction;" A s s.heap := va_Zqof (hts _ (zlt1 82 (by decide +kernel))) (hts _ (zlt1 6 (by decide +kernel))) (zgv hgv 5 (by decide +kernel)) hA
  have e3 : (Term.string "RuleStackModel" 147).eval args s none [] s = some (.ref (adK 0)) := va_eqR (t := zTm 0) (zgv hgv 1166 (by decide +kernel)) (hev 0 (by omega))
  have r0 : vk_R "RuleStack$Tokens" 85 (zStx.getD 0 "") (adK 0) s := vk_R.of (hts _ (zlt2 202 (by decide +kernel))) (hev 0 (by omega))
  have r1 : vk_R "RuleStackModel" 147 (zStx.getD 0 "") (adK 0) s := vk_R.of (hts _ (zlt6 135 (by decide +kernel))) e3
  have r2 : vk_R "RuleStack$Tokens" 25 (zStx.getD 1 "") (adK 1) s := vk_R.of (hts _ (zlt1 56 (by decide +kernel))) (hev 1 (by omega))
  have r3 : vk_R "RuleStackModel" 84 (zStx.getD 2 "") (adK 2) s := vk_R.of (hts _ (zlt5 160 (by decide +kernel))) (hev 2 (by omega))
  have go : ∀ ad : Nat → Nat, (∀ i, i < 3 → ad (110 + i) = adK i ∧ ad (120 + i) = adV i) → zXT ad A s s.heap := by
    intro ad had
    have k0 : ad (110 + 0) = adK 0 := (had 0 (by omega)).1
    have k1 : ad (110 + 1) = adK 1 := (had 1 (by omega)).1
    have k2 : ad (110 + 2) = adK 2 := (had 2 (by omega)).1
    refine ⟨q1, q2, q3, fun q hq => va_Nc.of (zgm hgv (zsn_in q hq)), fun q hq => va_Nw.of rfl (hts _ (zsf_in q hq)), va_Nw.of rfl (hts _ zsm_in), fun x hx => va_Nw.of rfl (hts _ (zsd_in x hx)), ⟨fun i hi => ?_, fun i j hi hj e => ?_⟩, ?_, q10, fun x hx => va_Nw.of rfl (hts _ (zsc_in x hx))⟩
    · have h9 := hS.1 i hi
      rw [← (had i hi).1, ← (had i hi).2] at h9
      exact h9
    · refine hS.2 i j hi hj ?_
      rw [← (had i hi).1, ← (had j hj).1]
      exact e
    · refine List.forall_mem_cons.mpr ⟨?_, List.forall_mem_cons.mpr ⟨?_, List.forall_mem_cons.mpr ⟨?_, List.forall_mem_cons.mpr ⟨?_, fun _ h => absurd h List.not_mem_nil⟩⟩⟩⟩
      · show vk_R "RuleStack$Tokens" 85 (zStx.getD 0 "") (ad (110 + 0)) s
        rw [k0]
        exact r0
      · show vk_R "RuleStackModel" 147 (zStx.getD 0 "") (ad (110 + 0)) s
        rw [k0]
        exact r1
      · show vk_R "RuleStack$Tokens" 25 (zStx.getD 1 "") (ad (110 + 1)) s
        rw [k1]
        exact r2
      · show vk_R "RuleStackModel" 84 (zStx.getD 2 "") (ad (110 + 2)) s
        rw [k2]
        exact r3
  rcases q12 with q12 | ⟨t, q12⟩
  · exact ⟨adK, adV, 0, fun ad had _ => ⟨go ad had, Or.inl q12⟩⟩
  · exact ⟨adK, adV, t, fun ad had ht => ⟨go ad had, Or.inr (by rw [ht]; exact q12)⟩⟩
theorem zst_0_e : ∀ j, j < 7 → zGv[12 + j]? = some (Cond.eq (.elem (.static "RuleStack" "MOST_ITEMS" "[I") (.int (Int32.ofNat j))) (.int (zM0 j))) := by decide +kernel
theorem zst_0 {s : State} {args : Array Value} {A : Nat → Prop} (hts : ∀ w ∈ lw_tbl, w.before args s = true) (hgv : (Cond.and given_1 narrow_1).before args s = true) (hA : ∀ a : Nat, a < s.heap.size → ¬ A a) : ∃ t : Nat, va_Z "RuleStack" "MOST_ITEMS" "[I" (.ref t) A s s.heap ∧ va_T .int t 7 (fun k => .int (zM0 k)) A s s.heap := by
  obtain ⟨t, h1, h2⟩ := va_Tof (args := args) (s := s) (tm := .static "RuleStack" "MOST_ITEMS" "[I") (ty := .int) (N := 7) (f := fun k => .int (zM0 k)) (A := A) (by decide) (zgv hgv 10 (by decide +kernel)) (va_eqt (zgv hgv 11 (by decide +kernel))) (fun j hj => va_eqt (zgv hgv _ (zst_0_e j hj))) hA
  exact ⟨t, va_Zof (hts _ (zlt3 127 (by decide +kernel))) (hts _ (zlt1 1 (by decide +kernel))) h1 hA, h2⟩
theorem zst_1_e : ∀ j, j < 9 → zGv[24 + j]? = some (Cond.eq (.elem (.static "RuleStackModel" "MOST" "[I") (.int (Int32.ofNat j))) (.int (zM1 j))) := by decide +kernel
theorem zst_1 {s : State} {args : Array Value} {A : Nat → Prop} (hts : ∀ w ∈ lw_tbl, w.before args s = true) (hgv : (Cond.and given_1 narrow_1).before args s = true) (hA : ∀ a : Nat, a < s.heap.size → ¬ A a) : ∃ t : Nat, va_Z "RuleStackModel" "MOST" "[I" (.ref t) A s s.heap ∧ va_T .int t 9 (fun k => .int (zM1 k)) A s s.heap := by
  obtain ⟨t, h1, h2⟩ := va_Tof (args := args) (s := s) (tm := .static "RuleStackModel" "MOST" "[I") (ty := .int) (N := 9) (f := fun k => .int (zM1 k)) (A := A) (by decide) (zgv hgv 22 (by decide +kernel)) (va_eqt (zgv hgv 23 (by decide +kernel))) (fun j hj => va_eqt (zgv hgv _ (zst_1_e j hj))) hA
  exact ⟨t, va_Zof (hts _ (zlt6 184 (by decide +kernel))) (hts _ (zlt1 15 (by decide +kernel))) h1 hA, h2⟩
def zRL (L : Nat) (xs : Nat → Int32) : zRo
  | 99 => some (L, xs)
  | 100 => some (7, zM0)
  | 101 => some (9, zM1)
  | _ => none
theorem zRL_ok {L : Nat} {xs : Nat → Int32} : zROk (zRL L xs) := ⟨rfl, rfl⟩
theorem zX_T {b L : Nat} {xs : Nat → Int32} {A : Nat → Prop} {U : State} {H : Heap} (h : va_X b L xs U H) (hA : ¬ A b) : va_T .int b L (fun k => .int (xs k)) A U H := by
  obtain ⟨scr, h1, h2, h3, h4, h5⟩ := h
  exact ⟨scr, h1, h2, h3, by omega, by rw [h4], h5, hA⟩
/-- the addresses beside the world's own, and that they are right -/
theorem zEX_start {s : State} {b L : Nat} {xs : Nat → Int32} {A : Nat → Prop} (hts : ∀ w ∈ lw_tbl, w.before #[Value.ref b] s = true) (hgv : (Cond.and given_1 narrow_1).before #[Value.ref b] s = true) (hX : va_X b L xs s s.heap) (hbl : b < s.heap.size) (hA : ∀ a : Nat, a < s.heap.size → ¬ A a) : ∃ f : Nat → Nat, f 99 = b ∧ ∀ ad : Nat → Nat, (∀ o, 99 ≤ o → ad o = f o) → zEX ad (zRL L xs) zXT2 A s s.heap := by
  obtain ⟨adK, adV, si, hXT⟩ := zXT_start hts hgv hA
  obtain ⟨m0, z0, t0⟩ := zst_0 hts hgv hA
  obtain ⟨m1, z1, t1⟩ := zst_1 hts hgv hA
  refine ⟨fun o => if o = 99 then b else if o = 100 then m0 else if o = 101 then m1 else if o = 130 then si else if 120 ≤ o then adV (o - 120) else adK (o - 110), rfl, fun ad had => ?_⟩
  have a99 : ad 99 = b := (had 99 (by omega)).trans rfl
  have a100 : ad 100 = m0 := (had 100 (by omega)).trans rfl
  have a101 : ad 101 = m1 := (had 101 (by omega)).trans rfl
  have a130 : ad 130 = si := (had 130 (by omega)).trans rfl
  refine ⟨fun o N g ho => ?_, List.forall_mem_cons.mpr ⟨?_, List.forall_mem_cons.mpr ⟨?_, fun _ h => absurd h List.not_mem_nil⟩⟩, hXT ad (fun i hi => ?_) a130⟩
  · unfold zRL at ho
    split at ho
    · cases ho
      rw [a99]
      exact zX_T hX (hA b hbl)
    · cases ho
      rw [a100]
      exact t0
    · cases ho
      rw [a101]
      exact t1
    · cases ho
  · show va_Z "RuleStack" "MOST_ITEMS" "[I" (.ref (ad 100)) A s s.heap
    rw [a100]
    exact z0
  · show va_Z "RuleStackModel" "MOST" "[I" (.ref (ad 101)) A s s.heap
    rw [a101]
    exact z1
  · have hi3 : i = 0 ∨ i = 1 ∨ i = 2 := by omega
    rcases hi3 with rfl | rfl | rfl
    · exact ⟨(had _ (by omega)).trans rfl, (had _ (by omega)).trans rfl⟩
    · exact ⟨(had _ (by omega)).trans rfl, (had _ (by omega)).trans rfl⟩
    · exact ⟨(had _ (by omega)).trans rfl, (had _ (by omega)).trans rfl⟩

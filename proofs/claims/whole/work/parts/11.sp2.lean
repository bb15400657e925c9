variable {SH : List zHs}
/-! ===== special steps (2): locals told fewer, Strings, Math, a static across the nest, copies, a row of four made, a Wrong thrown and caught ===== -/
def zs_sub : zSp := fun _ _ X _ pc ll st I J D bc bs => ∃ ll', (∀ q ∈ ll', q ∈ ll) ∧ X pc ll' st I J D bc bs
def zs_ldcS : zSp := fun _ mi X _ pc ll st I J D bc bs => ∃ idx i, ((zown mi, idx, i) ∈ zStl ∧ (pc, .ldc idx, 2) ∈ ztb mi) ∧ X (pc + 2) ll (.ref (110 + i) :: st) I J D bc bs
def zs_gfV : zSp := fun _ mi X _ pc ll st I J D bc bs => ∃ idx i r, (st = .ref (110 + i) :: r ∧ i < 3 ∧ (pc, .getfield idx, 3) ∈ ztb mi ∧ Cond.fieldLink (zown mi) idx "java/lang/String" "value" "[B" ∈ zAL) ∧ X (pc + 3) ll (.ref (120 + i) :: r) I J D bc bs
def zs_gfC : zSp := fun _ mi X _ pc ll st I J D bc bs => ∃ idx i r, (st = .ref (110 + i) :: r ∧ i < 3 ∧ (pc, .getfield idx, 3) ∈ ztb mi ∧ Cond.fieldLink (zown mi) idx "java/lang/String" "coder" "B" ∈ zAL) ∧ X (pc + 3) ll (.int 0 :: r) I J D bc bs
def zs_gsC : zSp := fun _ mi X _ pc ll st I J D bc bs => ∃ idx, ((pc, .getstatic idx, 3) ∈ ztb mi ∧ Cond.fieldLink (zown mi) idx "java/lang/String" "COMPACT_STRINGS" "Z" ∈ zAL) ∧ X (pc + 3) ll (.int 1 :: st) I J D bc bs
def zs_bal : zSp := fun _ mi X _ pc ll st I J D bc bs => ∃ x i r, (st = .int x :: .ref (120 + i) :: r ∧ i < 3 ∧ (pc, .baload, 1) ∈ ztb mi ∧ vp_in x (zSln.getD i 0)) ∧ X (pc + 1) ll (.int ((zSbt.getD i []).getD x.toNatClampNeg 0) :: r) I J D bc bs
def zs_alen : zSp := fun _ mi X _ pc ll st I J D bc bs => ∃ i r, (st = .ref (120 + i) :: r ∧ i < 3 ∧ (pc, .arraylength, 1) ∈ ztb mi) ∧ X (pc + 1) ll (.int (Int32.ofNat (zSln.getD i 0)) :: r) I J D bc bs
def zs_callVS : zSp := fun E mi X P pc ll st I J D bc bs => ∃ idx mj i As rest, ((pc, .invokevirtual idx, 3) ∈ ztb mi ∧ st = As.reverse ++ .ref (110 + i) :: rest ∧ i < 3 ∧ Cond.methodLink (zown mi) idx (zym mj) ∈ zAL ∧ zMv mj As.length ∧ (zym mj).cls = "java/lang/String" ∧ (rest.map fun v => v.category).sum ≤ 8) ∧
  E mj (.ref (110 + i) :: As) I J D 0 0 (fun o I' J' D' => match o with
    | .inl v => X (pc + 3) ll (v.toList ++ rest) I' J' D' bc bs
    | .inr x => P (.inr x) I' J' D')
/-! Math -/
def zMth (own : String) (idx : Nat) (x : MethodName) (code : ByteArray) (n : Nat) (ty : FieldType) : Prop := Cond.methodLink own idx x ∈ zAL ∧ Cond.static x ∈ zAL ∧ Cond.initialized "java/lang/Math" ∈ zAL ∧ Cond.code x code n (some ty) ∈ zAL
def zs_math : zSp := fun _ mi X _ pc ll st I J D bc bs => ∃ idx r v, ((pc, .invokestatic idx, 3) ∈ ztb mi ∧ (r.map fun v => v.category).sum ≤ 8 ∧
  ((∃ x y, st = .int y :: .int x :: r ∧ zMth (zown mi) idx Lib.Math.max.name Lib.Math.max.code 2 .int ∧ v = .int (if x < y then y else x)) ∨
   (∃ x y, st = .int y :: .int x :: r ∧ zMth (zown mi) idx Lib.Math.min.name Lib.Math.min.code 2 .int ∧ v = .int (if y < x then y else x)) ∨
   (∃ x y, st = .long y :: .long x :: r ∧ zMth (zown mi) idx Lib.MathLoose.max_long.x Lib.MathLoose.max_long.code 4 .long ∧ v = .long (if y < x then x else y)) ∨
   (∃ x y, st = .long y :: .long x :: r ∧ zMth (zown mi) idx Lib.MathLoose.min_long.x Lib.MathLoose.min_long.code 4 .long ∧ v = .long (if x < y then x else y)))) ∧ X (pc + 3) ll (v :: r) I J D bc bs
/-! the table of most items, out of a nest mate -/
def zs_gsn : zSp := fun _ mi X _ pc ll st I J D bc bs => (mi = 63 ∧ (pc, .getstatic 75, 3) ∈ ztb mi) ∧ X (pc + 3) ll (.ref 100 :: st) I J D bc bs
/-! arraycopy between two int rows of the world -/
def zAcp (own : String) (idx : Nat) : Prop := Cond.methodLink own idx arraycopyName ∈ zAL ∧ Cond.native arraycopyName ∈ zAL ∧ Cond.static arraycopyName ∈ zAL ∧ Cond.initialized "java/lang/System" ∈ zAL
def zcp (I : zI) (a b sp dp n : Nat) : zI := fun o k => if o = b then va_cpy (I a) (I b) sp dp n k else I o k
def zs_copy (SH : List zHs) : zSp := fun _ mi X _ pc ll st I J D bc bs => ∃ idx a b na nb sp dp n r, ((pc, .invokestatic idx, 3) ∈ ztb mi ∧ zAcp (zown mi) idx ∧ st = .int n :: .int dp :: .ref b :: .int sp :: .ref a :: r ∧ SH[a]? = some (.inr (0, na)) ∧ SH[b]? = some (.inr (0, nb)) ∧ ¬ sp < 0 ∧ ¬ dp < 0 ∧ ¬ n < 0 ∧ sp.toNatClampNeg + n.toNatClampNeg ≤ na ∧ dp.toNatClampNeg + n.toNatClampNeg ≤ nb ∧ (r.map fun v => v.category).sum ≤ 8) ∧
  X (pc + 3) ll r (zcp I a b sp.toNatClampNeg dp.toNatClampNeg n.toNatClampNeg) J D bc bs
/-! a row of four made, filled, copied -/
def zArrS (pc fA fN ac : Nat) : List (Nat × Instr × Nat) := [(pc, .iconst 4, 1), (pc + 1, .newarray .int, 2), (pc + 3, .dup, 1), (pc + 4, .iconst 0, 1), (pc + 5, .iload_n 1, 1), (pc + 6, .iastore, 1), (pc + 7, .dup, 1), (pc + 8, .iconst 1, 1), (pc + 9, .iload_n 2, 1), (pc + 10, .iastore, 1), (pc + 11, .dup, 1), (pc + 12, .iconst 2, 1), (pc + 13, .iload_n 3, 1), (pc + 14, .iastore, 1), (pc + 15, .dup, 1), (pc + 16, .iconst 3, 1), (pc + 17, .iload 4, 2), (pc + 19, .iastore, 1), (pc + 20, .astore 5, 2), (pc + 22, .aload 5, 2), (pc + 24, .iconst 0, 1), (pc + 25, .aload_n 0, 1), (pc + 26, .getfield fA, 3), (pc + 29, .iconst 4, 1), (pc + 30, .aload_n 0, 1), (pc + 31, .getfield fN, 3), (pc + 34, .imul, 1), (pc + 35, .iconst 4, 1), (pc + 36, .invokestatic ac, 3)]
def zu4 (I : zI) (o k : Nat) (a b c e : Int32) : zI := zu (zu (zu (zu I o k a) o (k + 1) b) o (k + 2) c) o (k + 3) e
def zdr (ll : zL) (i : Nat) : zL := ll.filter (fun q => !(q.1 == i) && !(q.1 + 1 == i && q.2.category == 2))
def zs_arr (SH : List zHs) : zSp := fun _ mi X _ pc ll st I J D bc bs => ∃ a b c e fA oA NA kA fN kN t ks, ((∀ q ∈ zArrS pc fA fN 397, q ∈ ztb mi) ∧ zown mi = "RuleStackModel" ∧ zFl (zown mi) fA 11 kA ∧ zFl (zown mi) fN 11 kN ∧ SH[28]? = some (.inl (11, ks)) ∧ ks[kA]? = some (2, oA) ∧ ks[kN]? = some (0, t) ∧ SH[oA]? = some (.inr (0, NA)) ∧
  zlk ll 0 = some (.ref 28) ∧ zlk ll 1 = some (.int a) ∧ zlk ll 2 = some (.int b) ∧ zlk ll 3 = some (.int c) ∧ zlk ll 4 = some (.int e) ∧ st = [] ∧ 5 < znl mi ∧ ¬ 4 * I 28 kN < 0 ∧ (4 * I 28 kN).toNatClampNeg + 4 ≤ NA ∧ 1 ≤ bc ∧ 4 ≤ bs) ∧ X (pc + 39) (zdr ll 5) [] (zu4 I oA (4 * I 28 kN).toNatClampNeg a b c e) J D (bc - 1) (bs - 4)
/-! what stops the reference's reading -/
def zs_wrong : zSp := fun _ mi _ P pc ll st I J D bc bs => (∃ idx, (pc, .aload_n 0, 1) ∈ ztb mi ∧ (pc + 1, .invokevirtual idx, 3) ∈ ztb mi ∧ Cond.methodLink (zown mi) idx (zym 149) ∈ zAL ∧ (pc + 4, .athrow, 1) ∈ ztb mi ∧ zown mi = "RuleStackModel" ∧ zwh mi = [] ∧ mi ≠ 235 ∧ zlk ll 0 = some (.ref 28) ∧ st = [] ∧ 1 ≤ bc ∧ 8 ≤ bs ∧ vp_in (I 28 24) 452) ∧ P (.inr (3, 1, I 32 (I 28 24).toNatClampNeg)) I J D
def zs_must : zSp := fun _ mi _ P pc ll st I J D bc bs => ∃ e q, (mi = 150 ∧ pc = 11 ∧ zlk ll 2 = some (.int e) ∧ zlk ll 3 = some (.int q) ∧ st = [] ∧ 1 ≤ bc ∧ 8 ≤ bs) ∧ P (.inr (3, e, q)) I J D
def zs_try (SH : List zHs) : zSp := fun E mi X P pc ll st I J D bc bs => ∃ idx mj b As rest c9 s9, (mi = 177 ∧ pc ∈ [26, 35, 69] ∧ (pc, .invokevirtual idx, 3) ∈ ztb mi ∧ st = As.reverse ++ .ref b :: rest ∧ Cond.methodLink (zown mi) idx (zym mj) ∈ zAL ∧ zMv mj As.length ∧ zRc SH mj b ∧ (rest.map fun v => v.category).sum ≤ 8 ∧ c9 ≤ bc ∧ s9 ≤ bs ∧ zlk ll 0 = some (.ref 28)) ∧
  E mj (.ref b :: As) I J D c9 s9 (fun o I' J' D' => match o with
    | .inl v => X (pc + 3) ll (v.toList ++ rest) I' J' D' (bc - c9) (bs - s9)
    | .inr x => x.1 = 3 ∧ X 94 [(0, .ref 28), (1, .int x.2.1)] [] (zu I' 28 29 x.2.2) J' D' (bc - c9) (bs - s9))
/-! all of them -/
def zS (SH : List zHs) : zSp := fun E mi X P pc ll st I J D bc bs =>
  zs_throw E mi X P pc ll st I J D bc bs ∨ zs_catch SH E mi X P pc ll st I J D bc bs ∨ zs_callS E mi X P pc ll st I J D bc bs ∨ zs_callX SH E mi X P pc ll st I J D bc bs ∨ zs_sub E mi X P pc ll st I J D bc bs ∨ zs_ldcS E mi X P pc ll st I J D bc bs ∨ zs_gfV E mi X P pc ll st I J D bc bs ∨ zs_gfC E mi X P pc ll st I J D bc bs ∨ zs_gsC E mi X P pc ll st I J D bc bs ∨
  zs_bal E mi X P pc ll st I J D bc bs ∨ zs_alen E mi X P pc ll st I J D bc bs ∨ zs_callVS E mi X P pc ll st I J D bc bs ∨ zs_math E mi X P pc ll st I J D bc bs ∨ zs_gsn E mi X P pc ll st I J D bc bs ∨ zs_copy SH E mi X P pc ll st I J D bc bs ∨ zs_arr SH E mi X P pc ll st I J D bc bs ∨ zs_wrong E mi X P pc ll st I J D bc bs ∨ zs_must E mi X P pc ll st I J D bc bs ∨ zs_try SH E mi X P pc ll st I J D bc bs
theorem zs_try_mono : zSPmono (zs_try SH) := fun E mi X X' P P' pc ll st I J D bc bs hX hP hE h => by
  obtain ⟨idx, mj, b, As, rest, c9, s9, h1, h2⟩ := h
  refine ⟨idx, mj, b, As, rest, c9, s9, h1, hE _ _ _ _ _ _ _ _ _ (fun o I' J' D' q => ?_) h2⟩
  cases o with
  | inl v => exact hX _ _ _ _ _ _ _ _ q
  | inr x => exact ⟨q.1, hX _ _ _ _ _ _ _ _ q.2⟩
theorem zs_callVS_mono : zSPmono zs_callVS := fun E mi X X' P P' pc ll st I J D bc bs hX hP hE h => by
  obtain ⟨idx, mj, i, As, rest, h1, h2⟩ := h
  refine ⟨idx, mj, i, As, rest, h1, hE _ _ _ _ _ _ _ _ _ (fun o I' J' D' q => ?_) h2⟩
  cases o with
  | inl v => exact hX _ _ _ _ _ _ _ _ q
  | inr x => exact hP _ _ _ _ q
theorem zS_mono : zSPmono (zS SH) := fun E mi X X' P P' pc ll st I J D bc bs hX hP hE h => by
  unfold zS at h ⊢
  rcases h with h | h | h | h | h | h | h | h | h | h | h | h | h | h | h | h | h | h | h
  · exact Or.inl (zs_throw_mono E mi X X' P P' pc ll st I J D bc bs hX hP hE h)
  · exact Or.inr (Or.inl (zs_catch_mono E mi X X' P P' pc ll st I J D bc bs hX hP hE h))
  · exact Or.inr (Or.inr (Or.inl (zs_callS_mono E mi X X' P P' pc ll st I J D bc bs hX hP hE h)))
  · exact Or.inr (Or.inr (Or.inr (Or.inl (zs_callX_mono E mi X X' P P' pc ll st I J D bc bs hX hP hE h))))
  · iterate 4 refine Or.inr ?_
    obtain ⟨a, h1, h2⟩ := h
    exact Or.inl ⟨a, h1, hX _ _ _ _ _ _ _ _ h2⟩
  · iterate 5 refine Or.inr ?_
    obtain ⟨a, b, h1, h2⟩ := h
    exact Or.inl ⟨a, b, h1, hX _ _ _ _ _ _ _ _ h2⟩
  · iterate 6 refine Or.inr ?_
    obtain ⟨a, b, c, h1, h2⟩ := h
    exact Or.inl ⟨a, b, c, h1, hX _ _ _ _ _ _ _ _ h2⟩
  · iterate 7 refine Or.inr ?_
    obtain ⟨a, b, c, h1, h2⟩ := h
    exact Or.inl ⟨a, b, c, h1, hX _ _ _ _ _ _ _ _ h2⟩
  · iterate 8 refine Or.inr ?_
    obtain ⟨a, h1, h2⟩ := h
    exact Or.inl ⟨a, h1, hX _ _ _ _ _ _ _ _ h2⟩
  · iterate 9 refine Or.inr ?_
    obtain ⟨a, b, c, h1, h2⟩ := h
    exact Or.inl ⟨a, b, c, h1, hX _ _ _ _ _ _ _ _ h2⟩
  · iterate 10 refine Or.inr ?_
    obtain ⟨a, b, h1, h2⟩ := h
    exact Or.inl ⟨a, b, h1, hX _ _ _ _ _ _ _ _ h2⟩
  · iterate 11 refine Or.inr ?_
    exact Or.inl (zs_callVS_mono E mi X X' P P' pc ll st I J D bc bs hX hP hE h)
  · iterate 12 refine Or.inr ?_
    obtain ⟨a, b, c, h1, h2⟩ := h
    exact Or.inl ⟨a, b, c, h1, hX _ _ _ _ _ _ _ _ h2⟩
  · iterate 13 refine Or.inr ?_
    obtain ⟨h1, h2⟩ := h
    exact Or.inl ⟨h1, hX _ _ _ _ _ _ _ _ h2⟩
  · iterate 14 refine Or.inr ?_
    obtain ⟨a1, a2, a3, a4, a5, a6, a7, a8, a9, h1, h2⟩ := h
    exact Or.inl ⟨a1, a2, a3, a4, a5, a6, a7, a8, a9, h1, hX _ _ _ _ _ _ _ _ h2⟩
  · iterate 15 refine Or.inr ?_
    obtain ⟨a1, a2, a3, a4, a5, a6, a7, a8, a9, a10, a11, a12, h1, h2⟩ := h
    exact Or.inl ⟨a1, a2, a3, a4, a5, a6, a7, a8, a9, a10, a11, a12, h1, hX _ _ _ _ _ _ _ _ h2⟩
  · iterate 16 refine Or.inr ?_
    obtain ⟨h1, h2⟩ := h
    exact Or.inl ⟨h1, hP _ _ _ _ h2⟩
  · iterate 17 refine Or.inr ?_
    obtain ⟨a, b, h1, h2⟩ := h
    exact Or.inl ⟨a, b, h1, hP _ _ _ _ h2⟩
  · iterate 18 refine Or.inr ?_
    exact zs_try_mono E mi X X' P P' pc ll st I J D bc bs hX hP hE h

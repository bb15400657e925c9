variable {SH : List zHs}
/-! ===== special steps (1): throws, catches, calls of methods with a table ===== -/
def zTn : List String := ["java/lang/RuntimeException", "java/lang/Exception"]
def zISE : String := "java/lang/IllegalStateException"
def zIAE : String := "java/lang/IllegalArgumentException"
def zIOE : String := "java/lang/IndexOutOfBoundsException"
def zNcl : List (String × String) := [(zISE, zIAE), (zISE, zIOE)]
def zSRl : List (String × Nat × String) := [("RuleStack", 85, "the tape is full"), ("RuleStack", 96, "the tape has not so many bytes"), ("RuleStack", 131, "what is 0 to 9"), ("RuleStack", 149, "players are 2 to 4"), ("RuleStack", 151, "there is no program"), ("RuleStack", 164, "no such act or player"), ("RuleStack", 169, "the act cannot be done now"), ("RuleStack", 175, "no such reply or player"), ("RuleStack", 177, "the reply cannot be given now"), ("RuleStack", 179, "there is no game that goes on"), ("RuleStack", 181, "no such act, reply or player"), ("RuleStack", 189, "what is 0 to 7"), ("RuleStack", 194, "no such player or track"), ("RuleStack", 199, "no such pool"), ("RuleStack", 204, "no such place, or what is not 0 to 3"), ("RuleStack", 209, "no such move, or what is not 0 to 3"), ("RuleStack", 214, "there are not so many moves"), ("RuleStack", 216, "no game was begun"), ("RuleStack", 225, "no such track")]
def zNsF : List (String × Nat × String × String × String × String) := [("RuleStack$Meaning", 75, "RuleStack", "MOST_ITEMS", "[I", "RuleStack"), ("RuleStackModel", 309, "RuleStackModel$Wrong", "error", "I", "RuleStackModel"), ("RuleStackModel", 312, "RuleStackModel$Wrong", "place", "I", "RuleStackModel")]
def zNsM : MethodName := ⟨"RuleStackModel$Wrong", "<init>", "(II)V"⟩
def zDcl : List MethodName := [⟨"java/lang/RuntimeException", "<init>", "()V"⟩, ⟨"java/lang/RuntimeException", "<init>", "(Ljava/lang/String;)V"⟩, ⟨"java/lang/Exception", "<init>", "()V"⟩, ⟨"java/lang/Exception", "<init>", "(Ljava/lang/String;)V"⟩, ⟨"java/lang/Throwable", "<init>", "()V"⟩, ⟨"java/lang/Throwable", "<init>", "(Ljava/lang/String;)V"⟩]
def zCsl : List String := ["java/lang/IllegalStateException", "java/lang/IllegalArgumentException", "java/lang/IndexOutOfBoundsException", "RuleStackModel$Wrong"]
def zDc : Cond → Bool
  | .declares x => decide (x ∈ zDcl)
  | .castable a b => decide (a = b ∧ a ∈ zCsl)
  | _ => false
def zWd (w : Cond) : Bool := (decide (w ∈ lw_tbl) && goodWord w) || zDc w
/-! the String constants that are read: 0 the symbols, 1 the class's keywords, 2 the reference's -/
def zStx : List String := ["(),;:=+-*/%<>", "track pool phase act reply rule win to at when do end set add if then else cancel again skip all my their die round depth me them players and or not", "track pool to at phase act reply rule win when do end set add if then else cancel again skip all my their die round depth me them players and or not "]
def zSln : List Nat := [13, 148, 149]
def zSb0 : List Int32 := [40, 41, 44, 59, 58, 61, 43, 45, 42, 47, 37, 60, 62]
def zSb1 : List Int32 := [116, 114, 97, 99, 107, 32, 112, 111, 111, 108, 32, 112, 104, 97, 115, 101, 32, 97, 99, 116, 32, 114, 101, 112, 108, 121, 32, 114, 117, 108, 101, 32, 119, 105, 110, 32, 116, 111, 32, 97, 116, 32, 119, 104, 101, 110, 32, 100, 111, 32, 101, 110, 100, 32, 115, 101, 116, 32, 97, 100, 100, 32, 105, 102, 32, 116, 104, 101, 110, 32, 101, 108, 115, 101, 32, 99, 97, 110, 99, 101, 108, 32, 97, 103, 97, 105, 110, 32, 115, 107, 105, 112, 32, 97, 108, 108, 32, 109, 121, 32, 116, 104, 101, 105, 114, 32, 100, 105, 101, 32, 114, 111, 117, 110, 100, 32, 100, 101, 112, 116, 104, 32, 109, 101, 32, 116, 104, 101, 109, 32, 112, 108, 97, 121, 101, 114, 115, 32, 97, 110, 100, 32, 111, 114, 32, 110, 111, 116]
def zSb2 : List Int32 := [116, 114, 97, 99, 107, 32, 112, 111, 111, 108, 32, 116, 111, 32, 97, 116, 32, 112, 104, 97, 115, 101, 32, 97, 99, 116, 32, 114, 101, 112, 108, 121, 32, 114, 117, 108, 101, 32, 119, 105, 110, 32, 119, 104, 101, 110, 32, 100, 111, 32, 101, 110, 100, 32, 115, 101, 116, 32, 97, 100, 100, 32, 105, 102, 32, 116, 104, 101, 110, 32, 101, 108, 115, 101, 32, 99, 97, 110, 99, 101, 108, 32, 97, 103, 97, 105, 110, 32, 115, 107, 105, 112, 32, 97, 108, 108, 32, 109, 121, 32, 116, 104, 101, 105, 114, 32, 100, 105, 101, 32, 114, 111, 117, 110, 100, 32, 100, 101, 112, 116, 104, 32, 109, 101, 32, 116, 104, 101, 109, 32, 112, 108, 97, 121, 101, 114, 115, 32, 97, 110, 100, 32, 111, 114, 32, 110, 111, 116, 32]
def zSbt : List (List Int32) := [zSb0, zSb1, zSb2]
def zStl : List (String × Nat × Nat) := [("RuleStack$Tokens", 85, 0), ("RuleStackModel", 147, 0), ("RuleStack$Tokens", 25, 1), ("RuleStackModel", 84, 2)]
def zXT (ad : Nat → Nat) (A : Nat → Prop) (U : State) (H : Heap) : Prop :=
  vx_Zq Bundle.tN "UNASSIGNED_STACK" Bundle.steD A U H ∧ vx_Zq Bundle.tN "SUPPRESSED_SENTINEL" Bundle.listD A U H ∧ (∀ q ∈ zSRl, ∃ sa, vk_R q.1 q.2.1 q.2.2 sa U) ∧ (∀ q ∈ zNcl, va_Nc q.1 q.2 U) ∧
  (∀ q ∈ zNsF, va_Nw (.fieldLinkNest q.1 q.2.1 q.2.2.1 q.2.2.2.1 q.2.2.2.2.1 q.2.2.2.2.2) U) ∧ va_Nw (.methodLinkNest "RuleStackModel" 175 zNsM "RuleStackModel") U ∧ (∀ x ∈ zDcl, va_Nw (.declares x) U) ∧ vk_S 3 zSln zSbt (fun i => ad (110 + i)) (fun i => ad (120 + i)) A U H ∧ (∀ q ∈ zStl, vk_R q.1 q.2.1 (zStx.getD q.2.2 "") (ad (110 + q.2.2)) U) ∧ va_Z "java/lang/String" "COMPACT_STRINGS" "Z" (.int 1) A U H ∧ (∀ x ∈ zCsl, va_Nw (.castable x x) U)
theorem zWd_of {ad : Nat → Nat} {A : Nat → Prop} {s : State} {H : Heap} {args : Array Value} {w : Cond} (hts : ∀ w ∈ zAL, w.before args s = true) (hX : zXT ad A s H) (h : zWd w = true) : w.before args s = true ∧ vx_ot w = true := by
  unfold zWd at h
  rcases Bool.or_eq_true_iff.mp h with h | h
  · simp only [Bool.and_eq_true, decide_eq_true_eq] at h
    exact ⟨hts w (List.mem_filter.mpr h), by unfold vx_ot; rw [h.2, Bool.or_true]⟩
  · unfold zDc at h
    split at h
    · exact ⟨va_Nw.use rfl (hX.2.2.2.2.2.2.1 _ (of_decide_eq_true h)), rfl⟩
    · obtain ⟨rfl, h9⟩ := of_decide_eq_true h
      exact ⟨va_Nw.use rfl (hX.2.2.2.2.2.2.2.2.2.2 _ h9), rfl⟩
    · cases h
theorem zXT_ok : zXTok zXT := by
  refine ⟨fun ad A u U H hW h => ?_, fun ad A A' U H H' h hq hz hA => ?_⟩
  · obtain ⟨h1, h2, h3, h4, h5, h6, h7, h8, h9, h10, h11⟩ := h
    exact ⟨vx_Zq.moved hW.alike h1, vx_Zq.moved hW.alike h2, fun q hq => by obtain ⟨sa, h⟩ := h3 q hq; exact ⟨sa, vk_R.warm hW h⟩, fun q hq => va_Nc.moved hW.alike (h4 q hq), fun q hq => va_Nw.warmF hW (h5 q hq), va_Nw.warmM hW h6, fun x hx => va_Nw.warmD hW (h7 x hx), h8.moved hW.alike, fun q hq => vk_R.warm hW (h9 q hq), va_Z.moved hW.alike h10, fun x hx => va_Nw.warmC hW (h11 x hx)⟩
  · obtain ⟨h1, h2, h3, h4, h5, h6, h7, h8, h9, h10, h11⟩ := h
    exact ⟨(h1.kept hq).narrow hA, (h2.kept hq).narrow hA, h3, h4, h5, h6, h7, (h8.kept hq).narrow hA, h9, (h10.kept hq).narrow hA, h11⟩
theorem zSPok_or {l : Launch} {RO : zRo} {S1 S2 : zSp} {XT : (Nat → Nat) → (Nat → Prop) → State → Heap → Prop} (h1 : zSPok SH l RO S1 XT) (h2 : zSPok SH l RO S2 XT) : zSPok SH l RO (fun E mi X P pc ll st I J D bc bs => S1 E mi X P pc ll st I J D bc bs ∨ S2 E mi X P pc ll st I J D bc bs) XT := by
  intro p e R s m args below meth c Q A G ad ca mi d E P pc ll st I J D bc bs hC hEX hR htab hlk hQ hEnd hEndX hE hEW h
  rcases h with h | h
  · exact h1 p e R s m args below meth c Q A G ad ca mi d E P pc ll st I J D bc bs hC hEX hR htab hlk hQ hEnd hEndX hE hEW h
  · exact h2 p e R s m args below meth c Q A G ad ca mi d E P pc ll st I J D bc bs hC hEX hR htab hlk hQ hEnd hEndX hE hEW h
theorem zSPmono_or {S1 S2 : zSp} (h1 : zSPmono S1) (h2 : zSPmono S2) : zSPmono (fun E mi X P pc ll st I J D bc bs => S1 E mi X P pc ll st I J D bc bs ∨ S2 E mi X P pc ll st I J D bc bs) :=
  fun E mi X X' P P' pc ll st I J D bc bs hX hP hE h => h.elim (fun q => Or.inl (h1 E mi X X' P P' pc ll st I J D bc bs hX hP hE q)) (fun q => Or.inr (h2 E mi X X' P P' pc ll st I J D bc bs hX hP hE q))
theorem zdc {mi pc : Nat} {ins : Instr} {len : Nat} (h : (pc, ins, len) ∈ ztb mi) : decode (zcc mi) pc = .ok (ins, len) := by
  have h9 := zdec mi (pc, ins, len) h
  exact h9
/-! 'throw new E("text")' in the class's own methods -/
def zThW (own : String) (ik ic : Nat) (cls : String) : Prop := ∀ w ∈ Cond.classLink own ik cls :: Cond.initialized cls :: vx_atS own ic cls zTn, zWd w = true
def zThr (mi pc k : Nat) : Prop := ∃ (ik is ic : Nat) (tx : String), (pc, .new ik, 3) ∈ ztb mi ∧ (pc + 3, .dup, 1) ∈ ztb mi ∧ (pc + 4, .ldc is, 2) ∈ ztb mi ∧ (pc + 6, .invokespecial ic, 3) ∈ ztb mi ∧ (pc + 9, .athrow, 1) ∈ ztb mi ∧ zwh mi = [] ∧ (zown mi, is, tx) ∈ zSRl ∧ zThW (zown mi) ik ic (zXn k) ∧ k < 3 ∧ mi ≠ 235
def zs_throw : zSp := fun _ mi _ P pc _ st I J D bc bs => ∃ k, (zThr mi pc k ∧ st = [] ∧ 1 ≤ bc ∧ 6 ≤ bs) ∧ P (.inr (k, 0, 0)) I J D
theorem zs_throw_mono : zSPmono zs_throw := fun _ _ _ _ _ _ _ _ _ _ _ _ _ _ _ hP _ h => by
  obtain ⟨k, h1, h2⟩ := h
  exact ⟨k, h1, hP _ _ _ _ h2⟩
theorem zTn_fit : ∀ n ∈ zTn, Bundle.fit n = true := by decide +kernel
theorem zXn_fit : ∀ k, k < 3 → Bundle.fit (zXn k) = true := by decide +kernel
set_option maxHeartbeats 1000000 in
theorem zs_throw_ok {l : Launch} {RO : zRo} (hl : l.stackTraces = false) : zSPok SH l RO zs_throw zXT := by
  intro p e R s m args below meth c Q A G ad ca mi d E P pc ll st I J D bc bs hC hEX hR htab hlk hQ hEnd hEndX hE hEW h
  obtain ⟨k, ⟨⟨ik, is, ic, tx, d0, d3, d4, d6, d9, hw0, hsr, hW, hk3, hmi⟩, rfl, hb1, hb6⟩, hp⟩ := h
  obtain ⟨hx, hb, hml, hown, hts, hK, hD, hA⟩ := hC
  obtain ⟨hU, hN, hSt, -, -⟩ := hEX.2.2
  obtain ⟨sa, hstr⟩ := hSt _ hsr
  rcases hQ with ⟨P', hP', rfl⟩ | hz
  · intro H locs ls cells slots hP hS hll hbc hbs
    refine vx_throwS hx hb hl hown (zXn_fit k hk3) zTn_fit (zWd_of hts hEX.2.2 (hW _ List.mem_cons_self)).1 (zWd_of hts hEX.2.2 (hW _ (List.mem_cons_of_mem _ List.mem_cons_self))).1 hstr (fun w hw => (zWd_of hts hEX.2.2 (hW _ (List.mem_cons_of_mem _ (List.mem_cons_of_mem _ hw)))).1)
      (fun w hw => ?_) hU hN hS (hll.1.trans hml.symm) (zdc d0) (zdc d3) (zdc d4) (zdc d6) (zdc d9) (fun x hx => ?_) ?_ ?_ ?_ ?_ hlk (fun t ht hz hq q9 => ?_) hS.2.2 ?_ ?_
    · exact (zWd_of hts hEX.2.2 (hW w hw)).2
    · rw [htab, hw0] at hx
      cases hx
    · show 2 + 3 < R.frames
      omega
    · show 0 + (13 * (2 + 1) + 43) ≤ R.locals
      omega
    · omega
    · omega
    · exact ⟨(k, 0, 0), I, J, D, rfl, hP' _ _ _ _ hp, hP.kept (fun k q hk => hq q.1 (hP k q hk).lt), fun h3 => absurd h3 (by show ¬ k = 3; omega), Nat.le_trans hS.1 hz, fun q h1 h2 => (hq q (Nat.lt_of_lt_of_le h1 hS.1)).trans (hS.2.1 q h1 h2)⟩
    · omega
    · omega
  · exact absurd hz hmi
/-! calls within a method that catches: a matching handler answers a constant -/
def zHe (mi pc : Nat) (r : Int32) : Prop := ∃ n, zic n = r ∧ (pc, .iconst n, 1) ∈ ztb mi ∧ (pc + 1, .ireturn, 1) ∈ ztb mi ∧ zRi mi (some (.int r)) .ireturn
def zHc (mi pc k : Nat) (r : Int32) : Prop := ∃ (pre : List ExceptionTableEntry) (x : ExceptionTableEntry) (suf : List ExceptionTableEntry), tableOf (zwh mi) = pre ++ x :: suf ∧
  (∀ z ∈ pre, covers z pc = false ∨ (z.catchType ≠ 0 ∧ ∃ nm : String, Cond.classLink (zown mi) z.catchType nm ∈ zAL ∧ (zXn k, nm) ∈ zNcl)) ∧ covers x pc = true ∧ x.catchType ≠ 0 ∧ Cond.classLink (zown mi) x.catchType (zXn k) ∈ zAL ∧ zXn k ∈ zCsl ∧
  ((∃ j, j < znl mi ∧ (x.handlerPc, .astore j, 2) ∈ ztb mi ∧ zHe mi (x.handlerPc + 2) r) ∨ ∃ j : Fin 4, (j : Nat) < znl mi ∧ (x.handlerPc, .astore_n j, 1) ∈ ztb mi ∧ zHe mi (x.handlerPc + 1) r)
section ZHand
variable {p : Program} {l : Launch} {e : Env} {R : Room} {s : State} {m : MethodId} {args : Array Value} {below : List Frame} {meth : Method} {c : Code} {Q : State → Prop} {H : Heap} {locs : List Loc} {cells slots : Nat}
variable {A : Nat → Prop} {G : va_G} {ad ca : Nat → Nat} {mi : Nat} {RO : zRo}
theorem zhand {P : zP} {I : zI} {J : zJ} {D : zD} {pc k : Nat} {r : Int32} {rest : List Value} {ls : Array Slot} {lv : List (Nat × Value)} {q : Addr} {ce : Cell} (hC : zC SH p s m args c A G ad ca mi) (hEX : zEX ad RO zXT A s s.heap) (htab : c.exceptionTable.toList = tableOf (zwh mi))
    (hEnd : zEnd SH p l e R s m args below meth c Q A G ad ca mi P) (hh : zHc mi pc k r) (hp : P (.inl (some (.int r))) I J D) (hP : va_P G vwCl (zW SH ad ca I J D) H) (hS : va_S A s.heap H locs) (hll : lv_has ls (znl mi) lv) (hcell : H[q]? = some ce) (hv : ce.vm = .none) (hcl : s.vm.findClass (zXn k) = some ce.cls) (hc : cells ≤ R.cells) (hs : slots ≤ R.slots) :
    vx_W p l e R s m args below meth c H locs cells slots Q (F0 m pc ls rest) q := by
  obtain ⟨hx, hb, hml, hown, hts, hK, hD, hA⟩ := hC
  obtain ⟨pre, x, suf, h1, h2, h3, h4, h5, h6, h7⟩ := hh
  have tail : ∀ pc9 ls9, zHe mi pc9 r → W p l e R s m args below meth c H locs cells slots Q (F0 m pc9 ls9 []) := by
    intro pc9 ls9 hhe
    obtain ⟨n, rfl, d1, d2, hri⟩ := hhe
    exact lv_iconst hx hb (zdc d1) (zic_eq n) (hEnd _ I J D hp (pc9 + 1) _ H locs ls9 cells slots hri (zdc d2) hP hS hc hs)
  refine vx_catch (name := zXn k) hown pre x suf (htab.trans h1) (fun z hz => ?_) h3 h4 (hts _ h5) (va_Nw.use rfl (hEX.2.2.2.2.2.2.2.2.2.2.2.2 _ h6)) hcell hv hcl ?_
  · rcases h2 z hz with h | ⟨a, nm, b, c9⟩
    · exact Or.inl h
    · exact Or.inr ⟨a, nm, hts _ b, hEX.2.2.2.2.2.1 _ c9⟩
  · rcases h7 with ⟨j, hj, d1, hhe⟩ | ⟨j, hj, d1, hhe⟩
    · exact lv_astore hx hb (zdc d1) hll hj rfl (fun ls' _ => tail _ ls' hhe)
    · exact lv_astore_n hx hb (zdc d1) rfl hll hj rfl (fun ls' _ => tail _ ls' hhe)
end ZHand
def zCt (RO : zRo) (mi : Nat) (X : zK) (P : zP) (pc : Nat) (ll : zL) (rest : List Value) (bc bs : Nat) : zP := fun o I' J' D' => match o with
  | .inl v => X (pc + 3) ll (v.toList ++ rest) I' J' D' bc bs
  | .inr x => ∃ r, zHc mi pc x.1 r ∧ P (.inl (some (.int r))) I' J' D'
def zs_catch (SH : List zHs) : zSp := fun E mi X P pc ll st I J D bc bs => ∃ idx mj b As rest c9 s9, ((pc, .invokevirtual idx, 3) ∈ ztb mi ∧ st = As.reverse ++ .ref b :: rest ∧ Cond.methodLink (zown mi) idx (zym mj) ∈ zAL ∧ zMv mj As.length ∧ zRc SH mj b ∧ (rest.map fun v => v.category).sum ≤ 8 ∧ c9 ≤ bc ∧ s9 ≤ bs) ∧
  E mj (.ref b :: As) I J D c9 s9 (fun o I' J' D' => match o with
    | .inl v => X (pc + 3) ll (v.toList ++ rest) I' J' D' (bc - c9) (bs - s9)
    | .inr x => ∃ r, zHc mi pc x.1 r ∧ P (.inl (some (.int r))) I' J' D')
theorem zs_catch_mono : zSPmono (zs_catch SH) := fun E mi X X' P P' pc ll st I J D bc bs hX hP hE h => by
  obtain ⟨idx, mj, b, As, rest, c9, s9, h1, h2⟩ := h
  refine ⟨idx, mj, b, As, rest, c9, s9, h1, hE _ _ _ _ _ _ _ _ _ (fun o I' J' D' q => ?_) h2⟩
  cases o with
  | inl v => exact hX _ _ _ _ _ _ _ _ q
  | inr x => obtain ⟨r, q1, q2⟩ := q; exact ⟨r, q1, hP _ _ _ _ q2⟩
section ZCall
variable {p : Program} {l : Launch} {e : Env} {R : Room} {s : State} {m : MethodId} {args : Array Value} {below : List Frame} {meth : Method} {c : Code} {Q : State → Prop} {H : Heap} {locs : List Loc} {cells slots : Nat}
variable {A : Nat → Prop} {G : va_G} {ad ca : Nat → Nat} {mi : Nat} {RO : zRo} {XT : (Nat → Nat) → (Nat → Prop) → State → Heap → Prop}
/-- a virtual call, both ways out left open -/
theorem zcallV {d idx mj b pc : Nat} {As rest : List Value} {c9 s9 : Nat} {ls : Array Slot} {I : zI} {J : zJ} {D : zD} {P9 : zP} {lv : List (Nat × Value)} (hXT : zXTok XT) (hC : zC SH p s m args c A G ad ca mi) (hEX : zEX ad RO XT A s s.heap) (hR : d + 11 ≤ R.frames ∧ (d + 1) * 100 ≤ R.locals)
    (hdg : (pc, .invokevirtual idx, 3) ∈ ztb mi) (hlk : Cond.methodLink (zown mi) idx (zym mj) ∈ zAL) (hmv : zMv mj As.length) (hrc : zRc SH mj b) (hcat : (rest.map fun v => v.category).sum ≤ 8) (hM : zCal SH l RO XT d mj (.ref b :: As) I J D c9 s9 P9) (hP : va_P G vwCl (zW SH ad ca I J D) H) (hS : va_S A s.heap H locs) (hll : lv_has ls (znl mi) lv) (hc9 : cells + c9 ≤ R.cells) (hs9 : slots + s9 ≤ R.slots)
    (kx : ∀ x I' J' D' H1 locs1 q ce, P9 (.inr x) I' J' D' → va_P G vwCl (zW SH ad ca I' J' D') H1 → va_S A s.heap H1 locs1 → zXo G x q H1 → H1[q]? = some ce → ce.vm = .none → s.vm.findClass (zXn x.1) = some ce.cls → vx_W p l e R s m args below meth c H1 locs1 (cells + c9) (slots + s9) Q (F0 m pc ls (rest.map (zV ad))) q)
    (kk : ∀ v I' J' D' H1 locs1, P9 (.inl v) I' J' D' → va_P G vwCl (zW SH ad ca I' J' D') H1 → va_S A s.heap H1 locs1 → W p l e R s m args below meth c H1 locs1 (cells + c9) (slots + s9) Q (F0 m (pc + 3) ls ((v.toList ++ rest).map (zV ad)))) :
    W p l e R s m args below meth c H locs cells slots Q (F0 m pc ls ((As.reverse ++ .ref b :: rest).map (zV ad))) := by
  have hC0 := hC
  obtain ⟨hx, hb, hml, hown, hts, hK, hD, hA⟩ := hC
  obtain ⟨hmo, hin, hse⟩ := hmv
  obtain ⟨ci, ks, T, N, hb1, hb2⟩ := hrc
  refine zcall (A1 := va_A (zW SH ad ca I J D) H.size) (P := _) (rest := rest.map (zV ad)) (a := (Value.ref (ad b) :: As.map (zV ad)).toArray)
    (vx_runV (C := (zym mj).cls) (b := ad b) (As := As.map (zV ad)) (rest := rest.map (zV ad)) (Ts := zAL) (n := As.length) (nL := znl mi) ⟨hx, hb, hml, hown, hts⟩ (hM G ad ca H.size)
      (cwV As.length hts (zGood (fun w hw => ?_)) rfl rfl rfl ⟨rfl, hmo.2.2.1⟩ ⟨?_, ?_⟩)
      ⟨zPc_blind hXT, ?_, zpre (av := .ref b :: As) hXT hC0 hEX hP hS⟩ rfl (List.length_map _) hll.1 (zrev As (.ref b) rest) ?_ (zdc hdg) ⟨hc9, hs9⟩) hS (zA_sub hD hA hS) kx ?_
  · rcases List.mem_append.mp hw with hw | hw
    · simp only [List.mem_cons, List.not_mem_nil, or_false] at hw
      rcases hw with rfl | rfl | rfl | rfl
      · exact hlk
      · exact hin
      · exact hse
      · exact hmo.2.1
    · exact zws_in hmo w hw
  · exact hR.1
  · have h60 := hmo.2.2.2.1
    show 8 + (znl mj + 11) + d * 100 ≤ R.locals
    omega
  · exact va_recv hK hP (q := ((zym mj).cls, T, N)) hb2 (zW_of hb1)
  · exact lv_room (by rw [zcats]; exact hcat)
  · intro v I' J' D' H1 locs1 hp hP1 hS1
    have h9 := kk v I' J' D' H1 locs1 hp hP1 hS1
    rw [List.map_append] at h9
    have e9 : v.toList.map (zV ad) = (v.map (zV ad)).toList := by cases v <;> rfl
    rw [e9] at h9
    exact h9
end ZCall
theorem zs_catch_ok {l : Launch} {RO : zRo} : zSPok SH l RO (zs_catch SH) zXT := by
  intro p e R s m args below meth c Q A G ad ca mi d E P pc ll st I J D bc bs hC hEX hR htab hlk hQ hEnd hEndX hE hEW h
  obtain ⟨idx, mj, b, As, rest, c9, s9, ⟨hdg, rfl, hlkw, hmv, hrc, hcat, hc9, hs9⟩, hk⟩ := h
  intro H locs ls cells slots hP hS hll hbc hbs
  refine zcallV zXT_ok hC hEX hR hdg hlkw hmv hrc hcat (hE mj _ _ I J D c9 s9 _ hmv.1 hk) hP hS hll (by omega) (by omega) ?_ ?_
  · intro x I' J' D' H1 locs1 q ce hp hP1 hS1 hxo hce hcv hcl
    obtain ⟨r, hh, hp⟩ := hp
    exact zhand hC hEX htab hEnd hh hp hP1 hS1 hll hce hcv hcl (by omega) (by omega)
  · intro v I' J' D' H1 locs1 hp hP1 hS1
    exact hp H1 locs1 ls (cells + c9) (slots + s9) hP1 hS1 hll (by omega) (by omega)
/-! calls of methods with a table of their own -/
def zs_callS : zSp := fun E mi X P pc ll st I J D bc bs => ∃ idx mj As rest c9 s9, ((pc, .invokestatic idx, 3) ∈ ztb mi ∧ st = As.reverse ++ rest ∧ Cond.methodLink (zown mi) idx (zym mj) ∈ zAL ∧ zMoW mj As.length ∧ Cond.static (zym mj) ∈ zAL ∧ (rest.map fun v => v.category).sum ≤ 8 ∧ c9 ≤ bc ∧ s9 ≤ bs) ∧
  E mj As I J D c9 s9 (fun o I' J' D' => match o with
    | .inl v => X (pc + 3) ll (v.toList ++ rest) I' J' D' (bc - c9) (bs - s9)
    | .inr x => P (.inr x) I' J' D')
def zs_callX (SH : List zHs) : zSp := fun E mi X P pc ll st I J D bc bs => ∃ idx mj b As rest c9 s9, ((pc, .invokevirtual idx, 3) ∈ ztb mi ∧ st = As.reverse ++ .ref b :: rest ∧ Cond.methodLink (zown mi) idx (zym mj) ∈ zAL ∧ zMoW mj As.length ∧ Cond.instanceMethod (zym mj) ∈ zAL ∧ Cond.selects (zym mj).cls (zym mj) (zym mj) ∈ zAL ∧ zRc SH mj b ∧ (rest.map fun v => v.category).sum ≤ 8 ∧ c9 ≤ bc ∧ s9 ≤ bs) ∧
  E mj (.ref b :: As) I J D c9 s9 (fun o I' J' D' => match o with
    | .inl v => X (pc + 3) ll (v.toList ++ rest) I' J' D' (bc - c9) (bs - s9)
    | .inr x => P (.inr x) I' J' D')
theorem zs_callS_mono : zSPmono zs_callS := fun E mi X X' P P' pc ll st I J D bc bs hX hP hE h => by
  obtain ⟨idx, mj, As, rest, c9, s9, h1, h2⟩ := h
  refine ⟨idx, mj, As, rest, c9, s9, h1, hE _ _ _ _ _ _ _ _ _ (fun o I' J' D' q => ?_) h2⟩
  cases o with
  | inl v => exact hX _ _ _ _ _ _ _ _ q
  | inr x => exact hP _ _ _ _ q
theorem zs_callX_mono : zSPmono (zs_callX SH) := fun E mi X X' P P' pc ll st I J D bc bs hX hP hE h => by
  obtain ⟨idx, mj, b, As, rest, c9, s9, h1, h2⟩ := h
  refine ⟨idx, mj, b, As, rest, c9, s9, h1, hE _ _ _ _ _ _ _ _ _ (fun o I' J' D' q => ?_) h2⟩
  cases o with
  | inl v => exact hX _ _ _ _ _ _ _ _ q
  | inr x => exact hP _ _ _ _ q
theorem zwsW_in {mj n : Nat} (h : zMoW mj n) : ∀ w ∈ zwsW mj, w ∈ zAL := fun w hw => (List.mem_cons.mp hw).elim (fun q => q ▸ h.1) id
theorem zs_callS_ok {l : Launch} {RO : zRo} : zSPok SH l RO zs_callS zXT := by
  intro p e R s m args below meth c Q A G ad ca mi d E P pc ll st I J D bc bs hC hEX hR htab hlk hQ hEnd hEndX hE hEW h
  obtain ⟨idx, mj, As, rest, c9, s9, ⟨hdg, rfl, hlkw, hmo, hst, hcat, hc9, hs9⟩, hk⟩ := h
  have hM := hEW mj _ _ I J D c9 s9 _ hmo hk G ad ca
  have hC0 := hC
  obtain ⟨hx, hb, hml, hown, hts, hK, hD, hA⟩ := hC
  intro H locs ls cells slots hP hS hll hbc hbs
  refine zcall (A1 := va_A (zW SH ad ca I J D) H.size) (P := _) (rest := rest.map (zV ad)) (a := (As.map (zV ad)).toArray)
    (vx_runSX (As := As.map (zV ad)) (rest := rest.map (zV ad)) (Ts := zAL) (n := As.length) (nL := znl mi) ⟨hx, hb, hml, hown, hts⟩ (hM H.size)
      (vx_cwSW As.length hts (zGood (fun w hw => ?_)) rfl rfl rfl hmo.2.2.1 ⟨?_, ?_⟩)
      ⟨zPc_blind zXT_ok, zpre (av := As) zXT_ok hC0 hEX hP hS⟩ rfl (List.length_map _) hll.1 (by show (As.reverse ++ rest).map (zV ad) = _; rw [List.map_append, List.map_reverse]) ?_ (zdc hdg) ⟨?_, ?_⟩) hS (zA_sub hD hA hS) ?_ ?_
  · rcases List.mem_append.mp hw with hw | hw
    · simp only [List.mem_cons, List.not_mem_nil, or_false] at hw
      rcases hw with rfl | rfl | rfl
      · exact hlkw
      · exact hst
      · exact hmo.2.1
    · exact zwsW_in hmo w hw
  · exact hR.1
  · have h60 := hmo.2.2.2.1
    show 8 + (znl mj + 11) + d * 100 ≤ R.locals
    omega
  · exact lv_room (by rw [zcats]; exact hcat)
  · omega
  · omega
  · intro x I' J' D' H1 locs1 q ce hp hP1 hS1 hxo hce hcv hcl
    exact hEndX x I' J' D' hp pc ls _ H1 locs1 _ _ q ce hP1 hS1 hxo hce hcv hcl (by omega) (by omega)
  · intro v I' J' D' H1 locs1 hp hP1 hS1
    have h9 := hp H1 locs1 ls (cells + c9) (slots + s9) hP1 hS1 hll (by omega) (by omega)
    rw [List.map_append] at h9
    have e9 : v.toList.map (zV ad) = (v.map (zV ad)).toList := by cases v <;> rfl
    rw [e9] at h9
    exact h9
theorem zs_callX_ok {l : Launch} {RO : zRo} : zSPok SH l RO (zs_callX SH) zXT := by
  intro p e R s m args below meth c Q A G ad ca mi d E P pc ll st I J D bc bs hC hEX hR htab hlk hQ hEnd hEndX hE hEW h
  obtain ⟨idx, mj, b, As, rest, c9, s9, ⟨hdg, rfl, hlkw, hmo, hin, hse, ⟨ci, ks, T, N, hb1, hb2⟩, hcat, hc9, hs9⟩, hk⟩ := h
  have hM := hEW mj _ _ I J D c9 s9 _ hmo hk G ad ca
  have hC0 := hC
  obtain ⟨hx, hb, hml, hown, hts, hK, hD, hA⟩ := hC
  intro H locs ls cells slots hP hS hll hbc hbs
  refine zcall (A1 := va_A (zW SH ad ca I J D) H.size) (P := _) (rest := rest.map (zV ad)) (a := (Value.ref (ad b) :: As.map (zV ad)).toArray)
    (vx_runVX (C := (zym mj).cls) (b := ad b) (As := As.map (zV ad)) (rest := rest.map (zV ad)) (Ts := zAL) (n := As.length) (nL := znl mi) ⟨hx, hb, hml, hown, hts⟩ (hM H.size)
      (vx_cwVW As.length hts (zGood (fun w hw => ?_)) rfl rfl rfl ⟨rfl, hmo.2.2.1⟩ ⟨?_, ?_⟩)
      ⟨zPc_blind zXT_ok, va_recv hK hP (q := ((zym mj).cls, T, N)) hb2 (zW_of hb1), zpre (av := .ref b :: As) zXT_ok hC0 hEX hP hS⟩ rfl (List.length_map _) hll.1 (zrev As (.ref b) rest) ?_ (zdc hdg) ⟨?_, ?_⟩) hS (zA_sub hD hA hS) ?_ ?_
  · rcases List.mem_append.mp hw with hw | hw
    · simp only [List.mem_cons, List.not_mem_nil, or_false] at hw
      rcases hw with rfl | rfl | rfl | rfl
      · exact hlkw
      · exact hin
      · exact hse
      · exact hmo.2.1
    · exact zwsW_in hmo w hw
  · exact hR.1
  · have h60 := hmo.2.2.2.1
    show 8 + (znl mj + 11) + d * 100 ≤ R.locals
    omega
  · exact lv_room (by rw [zcats]; exact hcat)
  · omega
  · omega
  · intro x I' J' D' H1 locs1 q ce hp hP1 hS1 hxo hce hcv hcl
    exact hEndX x I' J' D' hp pc ls _ H1 locs1 _ _ q ce hP1 hS1 hxo hce hcv hcl (by omega) (by omega)
  · intro v I' J' D' H1 locs1 hp hP1 hS1
    have h9 := hp H1 locs1 ls (cells + c9) (slots + s9) hP1 hS1 hll (by omega) (by omega)
    rw [List.map_append] at h9
    have e9 : v.toList.map (zV ad) = (v.map (zV ad)).toList := by cases v <;> rfl
    rw [e9] at h9
    exact h9

variable {SH : List zHs}
/-! ===== rows of walks on the abstract machine ===== -/
abbrev zV1 (SH : List zHs) (RO : zRo) (SP : zSp) (d mi : Nat) (P : zP) : zK := zWP SH RO SP (zT SH RO SP d) mi P
section ZRows
variable {RO : zRo} {SP : zSp} {d mi : Nat} {P : zP} {pc : Nat} {ll ll' : zL} {st st' r : List Value} {I : zI} {J : zJ} {D : zD} {bc bs : Nat}
theorem zr {ins : Instr} {len : Nat} (hSP : zSPmono SP) (i : Nat) (hm : (ztb mi)[i]? = some (pc, ins, len)) (h : zw1 SH RO mi (zT SH RO SP d) (zV1 SH RO SP d mi P) P pc ins len ll st I J D bc bs) : zV1 SH RO SP d mi P pc ll st I J D bc bs :=
  zWP_fold hSP (zT_mono hSP d) (Or.inl ⟨ins, len, List.mem_of_getElem? hm, h⟩)
theorem zr_sp (hSP : zSPmono SP) (h : SP (zT SH RO SP d) mi (zV1 SH RO SP d mi P) P pc ll st I J D bc bs) : zV1 SH RO SP d mi P pc ll st I J D bc bs :=
  zWP_fold hSP (zT_mono hSP d) (Or.inr h)
theorem zr_s {ins : Instr} (hSP : zSPmono SP) (i : Nat) (hm : (ztb mi)[i]? = some (pc, ins, 1)) (hs : zsl ins st = some st') (k : zV1 SH RO SP d mi P (pc + 1) ll st' I J D bc bs) : zV1 SH RO SP d mi P pc ll st I J D bc bs :=
  zr hSP i hm (Or.inl ⟨st', ⟨hs, rfl⟩, k⟩)
theorem zr_bipush {n : Int} (hSP : zSPmono SP) (i : Nat) (v : Int32) (hm : (ztb mi)[i]? = some (pc, .bipush n, 2)) (hv : (Int8.ofInt n).toInt32 = v) (k : zV1 SH RO SP d mi P (pc + 2) ll (.int v :: st) I J D bc bs) : zV1 SH RO SP d mi P pc ll st I J D bc bs :=
  zr hSP i hm (Or.inr ⟨v, ⟨hv, rfl⟩, k⟩)
theorem zr_sipush {n : Int} (hSP : zSPmono SP) (i : Nat) (v : Int32) (hm : (ztb mi)[i]? = some (pc, .sipush n, 3)) (hv : (Int16.ofInt n).toInt32 = v) (k : zV1 SH RO SP d mi P (pc + 3) ll (.int v :: st) I J D bc bs) : zV1 SH RO SP d mi P pc ll st I J D bc bs :=
  zr hSP i hm (Or.inr ⟨v, ⟨hv, rfl⟩, k⟩)
theorem zr_ldc {n : Nat} {v : Int32} (hSP : zSPmono SP) (i : Nat) (hm : (ztb mi)[i]? = some (pc, .ldc n, 2)) (hv : Cond.constant (zown mi) n v ∈ zAL) (k : zV1 SH RO SP d mi P (pc + 2) ll (.int v :: st) I J D bc bs) : zV1 SH RO SP d mi P pc ll st I J D bc bs :=
  zr hSP i hm (Or.inr ⟨v, ⟨hv, rfl⟩, k⟩)
theorem zr_ldc2 {n : Nat} {v : Int64} (hSP : zSPmono SP) (i : Nat) (hm : (ztb mi)[i]? = some (pc, .ldc2_w n, 3)) (hv : Cond.constantLong (zown mi) n v ∈ zAL) (k : zV1 SH RO SP d mi P (pc + 3) ll (.long v :: st) I J D bc bs) : zV1 SH RO SP d mi P pc ll st I J D bc bs :=
  zr hSP i hm (Or.inr ⟨v, ⟨hv, rfl⟩, k⟩)
theorem zr_iload {n : Nat} {x : Int32} (hSP : zSPmono SP) (i : Nat) (hm : (ztb mi)[i]? = some (pc, .iload n, 2)) (hv : zlk ll n = some (.int x)) (k : zV1 SH RO SP d mi P (pc + 2) ll (.int x :: st) I J D bc bs) : zV1 SH RO SP d mi P pc ll st I J D bc bs :=
  zr hSP i hm (Or.inr ⟨x, ⟨hv, rfl⟩, k⟩)
theorem zr_iload_n {n : Fin 4} {x : Int32} (hSP : zSPmono SP) (i : Nat) (hm : (ztb mi)[i]? = some (pc, .iload_n n, 1)) (hv : zlk ll n = some (.int x)) (k : zV1 SH RO SP d mi P (pc + 1) ll (.int x :: st) I J D bc bs) : zV1 SH RO SP d mi P pc ll st I J D bc bs :=
  zr hSP i hm (Or.inr ⟨x, ⟨hv, rfl⟩, k⟩)
theorem zr_lload {n : Nat} {x : Int64} (hSP : zSPmono SP) (i : Nat) (hm : (ztb mi)[i]? = some (pc, .lload n, 2)) (hv : zlk ll n = some (.long x)) (k : zV1 SH RO SP d mi P (pc + 2) ll (.long x :: st) I J D bc bs) : zV1 SH RO SP d mi P pc ll st I J D bc bs :=
  zr hSP i hm (Or.inr ⟨x, ⟨hv, rfl⟩, k⟩)
theorem zr_lload_n {n : Fin 4} {x : Int64} (hSP : zSPmono SP) (i : Nat) (hm : (ztb mi)[i]? = some (pc, .lload_n n, 1)) (hv : zlk ll n = some (.long x)) (k : zV1 SH RO SP d mi P (pc + 1) ll (.long x :: st) I J D bc bs) : zV1 SH RO SP d mi P pc ll st I J D bc bs :=
  zr hSP i hm (Or.inr ⟨x, ⟨hv, rfl⟩, k⟩)
theorem zr_aload {n : Nat} {x : Nat} (hSP : zSPmono SP) (i : Nat) (hm : (ztb mi)[i]? = some (pc, .aload n, 2)) (hv : zlk ll n = some (.ref x)) (k : zV1 SH RO SP d mi P (pc + 2) ll (.ref x :: st) I J D bc bs) : zV1 SH RO SP d mi P pc ll st I J D bc bs :=
  zr hSP i hm (Or.inr ⟨x, ⟨hv, rfl⟩, k⟩)
theorem zr_aload_n {n : Fin 4} {x : Nat} (hSP : zSPmono SP) (i : Nat) (hm : (ztb mi)[i]? = some (pc, .aload_n n, 1)) (hv : zlk ll n = some (.ref x)) (k : zV1 SH RO SP d mi P (pc + 1) ll (.ref x :: st) I J D bc bs) : zV1 SH RO SP d mi P pc ll st I J D bc bs :=
  zr hSP i hm (Or.inr ⟨x, ⟨hv, rfl⟩, k⟩)
theorem zr_dload {n : Nat} {x : UInt64} (hSP : zSPmono SP) (i : Nat) (hm : (ztb mi)[i]? = some (pc, .dload n, 2)) (hv : zlk ll n = some (.double x)) (k : zV1 SH RO SP d mi P (pc + 2) ll (.double x :: st) I J D bc bs) : zV1 SH RO SP d mi P pc ll st I J D bc bs :=
  zr hSP i hm (Or.inr ⟨x, ⟨hv, rfl⟩, k⟩)
theorem zr_istore {n : Nat} {x : Int32} (hSP : zSPmono SP) (i : Nat) (hm : (ztb mi)[i]? = some (pc, .istore n, 2)) (hn : n < znl mi) (hl : zst ll n (.int x) = ll') (k : zV1 SH RO SP d mi P (pc + 2) ll' r I J D bc bs) : zV1 SH RO SP d mi P pc ll (.int x :: r) I J D bc bs :=
  zr hSP i hm (Or.inr ⟨x, r, ⟨rfl, hn, rfl⟩, hl ▸ k⟩)
theorem zr_istore_n {n : Fin 4} {x : Int32} (hSP : zSPmono SP) (i : Nat) (hm : (ztb mi)[i]? = some (pc, .istore_n n, 1)) (hn : (n : Nat) < znl mi) (hl : zst ll n (.int x) = ll') (k : zV1 SH RO SP d mi P (pc + 1) ll' r I J D bc bs) : zV1 SH RO SP d mi P pc ll (.int x :: r) I J D bc bs :=
  zr hSP i hm (Or.inr ⟨x, r, ⟨rfl, hn, rfl⟩, hl ▸ k⟩)
theorem zr_astore {n : Nat} {x : Nat} (hSP : zSPmono SP) (i : Nat) (hm : (ztb mi)[i]? = some (pc, .astore n, 2)) (hn : n < znl mi) (hl : zst ll n (.ref x) = ll') (k : zV1 SH RO SP d mi P (pc + 2) ll' r I J D bc bs) : zV1 SH RO SP d mi P pc ll (.ref x :: r) I J D bc bs :=
  zr hSP i hm (Or.inr ⟨x, r, ⟨rfl, hn, rfl⟩, hl ▸ k⟩)
theorem zr_astore_n {n : Fin 4} {x : Nat} (hSP : zSPmono SP) (i : Nat) (hm : (ztb mi)[i]? = some (pc, .astore_n n, 1)) (hn : (n : Nat) < znl mi) (hl : zst ll n (.ref x) = ll') (k : zV1 SH RO SP d mi P (pc + 1) ll' r I J D bc bs) : zV1 SH RO SP d mi P pc ll (.ref x :: r) I J D bc bs :=
  zr hSP i hm (Or.inr ⟨x, r, ⟨rfl, hn, rfl⟩, hl ▸ k⟩)
theorem zr_lstore {n : Nat} {x : Int64} (hSP : zSPmono SP) (i : Nat) (hm : (ztb mi)[i]? = some (pc, .lstore n, 2)) (hn : n + 1 < znl mi) (hl : zst2 ll n (.long x) = ll') (k : zV1 SH RO SP d mi P (pc + 2) ll' r I J D bc bs) : zV1 SH RO SP d mi P pc ll (.long x :: r) I J D bc bs :=
  zr hSP i hm (Or.inr ⟨x, r, ⟨rfl, hn, rfl⟩, hl ▸ k⟩)
theorem zr_lstore_n {n : Fin 4} {x : Int64} (hSP : zSPmono SP) (i : Nat) (hm : (ztb mi)[i]? = some (pc, .lstore_n n, 1)) (hn : (n : Nat) + 1 < znl mi) (hl : zst2 ll n (.long x) = ll') (k : zV1 SH RO SP d mi P (pc + 1) ll' r I J D bc bs) : zV1 SH RO SP d mi P pc ll (.long x :: r) I J D bc bs :=
  zr hSP i hm (Or.inr ⟨x, r, ⟨rfl, hn, rfl⟩, hl ▸ k⟩)
theorem zr_dstore {n : Nat} {x : UInt64} (hSP : zSPmono SP) (i : Nat) (hm : (ztb mi)[i]? = some (pc, .dstore n, 2)) (hn : n + 1 < znl mi) (hl : zst2 ll n (.double x) = ll') (k : zV1 SH RO SP d mi P (pc + 2) ll' r I J D bc bs) : zV1 SH RO SP d mi P pc ll (.double x :: r) I J D bc bs :=
  zr hSP i hm (Or.inr ⟨x, r, ⟨rfl, hn, rfl⟩, hl ▸ k⟩)
theorem zr_iinc {n : Nat} {z : Int} {x v : Int32} (hSP : zSPmono SP) (i : Nat) (hm : (ztb mi)[i]? = some (pc, .iinc n z, 3)) (hv : zlk ll n = some (.int x)) (hn : n < znl mi) (he : x + Int32.ofInt z = v) (hl : zst ll n (.int v) = ll') (k : zV1 SH RO SP d mi P (pc + 3) ll' st I J D bc bs) : zV1 SH RO SP d mi P pc ll st I J D bc bs :=
  zr hSP i hm (Or.inr ⟨x, ⟨hv, hn, rfl⟩, he ▸ hl ▸ k⟩)
theorem zr_idiv {x y : Int32} (hSP : zSPmono SP) (i : Nat) (hm : (ztb mi)[i]? = some (pc, .idiv, 1)) (hy : ¬ y = 0) (k : zV1 SH RO SP d mi P (pc + 1) ll (.int (x / y) :: r) I J D bc bs) : zV1 SH RO SP d mi P pc ll (.int y :: .int x :: r) I J D bc bs :=
  zr hSP i hm (Or.inr ⟨x, y, r, ⟨rfl, hy, rfl⟩, k⟩)
theorem zr_irem {x y : Int32} (hSP : zSPmono SP) (i : Nat) (hm : (ztb mi)[i]? = some (pc, .irem, 1)) (hy : ¬ y = 0) (k : zV1 SH RO SP d mi P (pc + 1) ll (.int (x - x / y * y) :: r) I J D bc bs) : zV1 SH RO SP d mi P pc ll (.int y :: .int x :: r) I J D bc bs :=
  zr hSP i hm (Or.inr ⟨x, y, r, ⟨rfl, hy, rfl⟩, k⟩)
theorem zr_ldiv {x y : Int64} (hSP : zSPmono SP) (i : Nat) (hm : (ztb mi)[i]? = some (pc, .ldiv, 1)) (hy : ¬ y = 0) (k : zV1 SH RO SP d mi P (pc + 1) ll (.long (x / y) :: r) I J D bc bs) : zV1 SH RO SP d mi P pc ll (.long y :: .long x :: r) I J D bc bs :=
  zr hSP i hm (Or.inr ⟨x, y, r, ⟨rfl, hy, rfl⟩, k⟩)
theorem zr_lrem {x y : Int64} (hSP : zSPmono SP) (i : Nat) (hm : (ztb mi)[i]? = some (pc, .lrem, 1)) (hy : ¬ y = 0) (k : zV1 SH RO SP d mi P (pc + 1) ll (.long (x - x / y * y) :: r) I J D bc bs) : zV1 SH RO SP d mi P pc ll (.long y :: .long x :: r) I J D bc bs :=
  zr hSP i hm (Or.inr ⟨x, y, r, ⟨rfl, hy, rfl⟩, k⟩)
theorem zr_ddiv {x y : UInt64} (hSP : zSPmono SP) (i : Nat) (hm : (ztb mi)[i]? = some (pc, .ddiv, 1)) (hy : vf_n64 (FP.ddiv x y)) (k : zV1 SH RO SP d mi P (pc + 1) ll (.double (FP.ddiv x y) :: r) I J D bc bs) : zV1 SH RO SP d mi P pc ll (.double y :: .double x :: r) I J D bc bs :=
  zr hSP i hm (Or.inr ⟨x, y, r, ⟨rfl, hy, rfl⟩, k⟩)
theorem zr_if {op : ClassFile.Cond} {off : Int} {x : Int32} (hSP : zSPmono SP) (i tgt : Nat) (hm : (ztb mi)[i]? = some (pc, .ifCond op off, 3)) (ht : (pc : Int) + off = (tgt : Int)) (k1 : zc1 op x → zV1 SH RO SP d mi P tgt ll r I J D bc bs) (k2 : ¬ zc1 op x → zV1 SH RO SP d mi P (pc + 3) ll r I J D bc bs) : zV1 SH RO SP d mi P pc ll (.int x :: r) I J D bc bs :=
  zr hSP i hm (Or.inr ⟨x, r, tgt, ⟨rfl, ht, rfl⟩, k1, k2⟩)
theorem zr_ic {op : ClassFile.Cond} {off : Int} {x y : Int32} (hSP : zSPmono SP) (i tgt : Nat) (hm : (ztb mi)[i]? = some (pc, .if_icmp op off, 3)) (ht : (pc : Int) + off = (tgt : Int)) (k1 : zc2 op x y → zV1 SH RO SP d mi P tgt ll r I J D bc bs) (k2 : ¬ zc2 op x y → zV1 SH RO SP d mi P (pc + 3) ll r I J D bc bs) : zV1 SH RO SP d mi P pc ll (.int y :: .int x :: r) I J D bc bs :=
  zr hSP i hm (Or.inr ⟨x, y, r, tgt, ⟨rfl, ht, rfl⟩, k1, k2⟩)
theorem zr_goto {off : Int} (hSP : zSPmono SP) (i tgt : Nat) (hm : (ztb mi)[i]? = some (pc, .goto off, 3)) (ht : (pc : Int) + off = (tgt : Int)) (k : zV1 SH RO SP d mi P tgt ll st I J D bc bs) : zV1 SH RO SP d mi P pc ll st I J D bc bs :=
  zr hSP i hm (Or.inr ⟨tgt, ⟨ht, rfl⟩, k⟩)
theorem zr_tsOut {dflt lo hi : Int} {offs : Array Int} {len : Nat} {x : Int32} (hSP : zSPmono SP) (i tgt : Nat) (hm : (ztb mi)[i]? = some (pc, .tableswitch dflt lo hi offs, len)) (h : x.toInt < lo ∨ hi < x.toInt) (ht : (pc : Int) + dflt = (tgt : Int)) (k : zV1 SH RO SP d mi P tgt ll r I J D bc bs) : zV1 SH RO SP d mi P pc ll (.int x :: r) I J D bc bs :=
  zr hSP i hm (Or.inr ⟨x, r, tgt, ⟨rfl, Or.inl ⟨h, ht⟩⟩, k⟩)
theorem zr_tsIn {dflt lo hi : Int} {offs : Array Int} {len : Nat} {x : Int32} {off : Int} (hSP : zSPmono SP) (i tgt : Nat) (hm : (ztb mi)[i]? = some (pc, .tableswitch dflt lo hi offs, len)) (h1 : ¬ x.toInt < lo) (h2 : ¬ hi < x.toInt) (ho : offs[(x.toInt - lo).toNat]? = some off) (ht : (pc : Int) + off = (tgt : Int)) (k : zV1 SH RO SP d mi P tgt ll r I J D bc bs) : zV1 SH RO SP d mi P pc ll (.int x :: r) I J D bc bs :=
  zr hSP i hm (Or.inr ⟨x, r, tgt, ⟨rfl, Or.inr ⟨h1, h2, off, ho, ht⟩⟩, k⟩)
theorem zr_lsw {dflt : Int} {ps : Array (Int × Int)} {len : Nat} {x : Int32} (hSP : zSPmono SP) (i tgt : Nat) (hm : (ztb mi)[i]? = some (pc, .lookupswitch dflt ps, len)) (h1 : (ps.toList.zip (ps.toList.drop 1)).all (fun (a, next) => a.1 < next.1) = true) (ht : (pc : Int) + Op.lookupswitch.offset ps.toList dflt x.toInt = (tgt : Int)) (k : zV1 SH RO SP d mi P tgt ll r I J D bc bs) : zV1 SH RO SP d mi P pc ll (.int x :: r) I J D bc bs :=
  zr hSP i hm (Or.inr ⟨x, r, tgt, ⟨rfl, h1, ht⟩, k⟩)
/-! fields -/
theorem zr_getI {idx o ci k : Nat} {t : Nat} (hSP : zSPmono SP) (i : Nat) (hm : (ztb mi)[i]? = some (pc, .getfield idx, 3)) (hf : zFl (zown mi) idx ci k) {ks : List (Nat × Nat)} (ho : SH[o]? = some (.inl (ci, ks))) (hk : ks[k]? = some (0, t)) (hc : ci ≠ 10) (kk : zV1 SH RO SP d mi P (pc + 3) ll (.int (I o k) :: r) I J D bc bs) : zV1 SH RO SP d mi P pc ll (.ref o :: r) I J D bc bs :=
  zr hSP i hm (Or.inr ⟨o, r, ci, k, (0, t), ⟨rfl, hf, ⟨ks, ho, hk, hc⟩, rfl⟩, kk⟩)
theorem zr_getZ {idx o ci k : Nat} {t : Nat} (hSP : zSPmono SP) (i : Nat) (hm : (ztb mi)[i]? = some (pc, .getfield idx, 3)) (hf : zFl (zown mi) idx ci k) {ks : List (Nat × Nat)} (ho : SH[o]? = some (.inl (ci, ks))) (hk : ks[k]? = some (3, t)) (hc : ci ≠ 10) (kk : zV1 SH RO SP d mi P (pc + 3) ll (.int (I o k) :: r) I J D bc bs) : zV1 SH RO SP d mi P pc ll (.ref o :: r) I J D bc bs :=
  zr hSP i hm (Or.inr ⟨o, r, ci, k, (3, t), ⟨rfl, hf, ⟨ks, ho, hk, hc⟩, rfl⟩, kk⟩)
theorem zr_getJ {idx o ci k : Nat} {t : Nat} (hSP : zSPmono SP) (i : Nat) (hm : (ztb mi)[i]? = some (pc, .getfield idx, 3)) (hf : zFl (zown mi) idx ci k) {ks : List (Nat × Nat)} (ho : SH[o]? = some (.inl (ci, ks))) (hk : ks[k]? = some (1, t)) (hc : ci ≠ 10) (kk : zV1 SH RO SP d mi P (pc + 3) ll (.long (J o k) :: r) I J D bc bs) : zV1 SH RO SP d mi P pc ll (.ref o :: r) I J D bc bs :=
  zr hSP i hm (Or.inr ⟨o, r, ci, k, (1, t), ⟨rfl, hf, ⟨ks, ho, hk, hc⟩, rfl⟩, kk⟩)
theorem zr_getR {idx o ci k : Nat} {t : Nat} (hSP : zSPmono SP) (i : Nat) (hm : (ztb mi)[i]? = some (pc, .getfield idx, 3)) (hf : zFl (zown mi) idx ci k) {ks : List (Nat × Nat)} (ho : SH[o]? = some (.inl (ci, ks))) (hk : ks[k]? = some (2, t)) (hc : ci ≠ 10) (kk : zV1 SH RO SP d mi P (pc + 3) ll (.ref t :: r) I J D bc bs) : zV1 SH RO SP d mi P pc ll (.ref o :: r) I J D bc bs :=
  zr hSP i hm (Or.inr ⟨o, r, ci, k, (2, t), ⟨rfl, hf, ⟨ks, ho, hk, hc⟩, rfl⟩, kk⟩)
theorem zr_putI {idx o ci k : Nat} {t : Nat} {x : Int32} (hSP : zSPmono SP) (i : Nat) (hm : (ztb mi)[i]? = some (pc, .putfield idx, 3)) (hf : zFl (zown mi) idx ci k) {ks : List (Nat × Nat)} (ho : SH[o]? = some (.inl (ci, ks))) (hk : ks[k]? = some (0, t)) (hc : ci ≠ 10) (hp : zFp ci k .int) (kk : zV1 SH RO SP d mi P (pc + 3) ll r (zu I o k x) J D bc bs) : zV1 SH RO SP d mi P pc ll (.int x :: .ref o :: r) I J D bc bs :=
  zr hSP i hm (Or.inr ⟨.int x, o, r, ci, k, (0, t), ⟨rfl, hf, ⟨ks, ho, hk, hc⟩, rfl⟩, Or.inl ⟨x, ⟨rfl, rfl, hp⟩, kk⟩⟩)
theorem zr_putZ {idx o ci k : Nat} {t : Nat} {x : Int32} (hSP : zSPmono SP) (i : Nat) (hm : (ztb mi)[i]? = some (pc, .putfield idx, 3)) (hf : zFl (zown mi) idx ci k) {ks : List (Nat × Nat)} (ho : SH[o]? = some (.inl (ci, ks))) (hk : ks[k]? = some (3, t)) (hc : ci ≠ 10) (hp : zFp ci k .boolean) (hx : x = 0 ∨ x = 1) (kk : zV1 SH RO SP d mi P (pc + 3) ll r (zu I o k x) J D bc bs) : zV1 SH RO SP d mi P pc ll (.int x :: .ref o :: r) I J D bc bs :=
  zr hSP i hm (Or.inr ⟨.int x, o, r, ci, k, (3, t), ⟨rfl, hf, ⟨ks, ho, hk, hc⟩, rfl⟩, Or.inr (Or.inl ⟨x, ⟨rfl, rfl, hp, hx⟩, kk⟩)⟩)
theorem zr_putJ {idx o ci k : Nat} {t : Nat} {x : Int64} (hSP : zSPmono SP) (i : Nat) (hm : (ztb mi)[i]? = some (pc, .putfield idx, 3)) (hf : zFl (zown mi) idx ci k) {ks : List (Nat × Nat)} (ho : SH[o]? = some (.inl (ci, ks))) (hk : ks[k]? = some (1, t)) (hc : ci ≠ 10) (hp : zFp ci k .long) (kk : zV1 SH RO SP d mi P (pc + 3) ll r I (zu J o k x) D bc bs) : zV1 SH RO SP d mi P pc ll (.long x :: .ref o :: r) I J D bc bs :=
  zr hSP i hm (Or.inr ⟨.long x, o, r, ci, k, (1, t), ⟨rfl, hf, ⟨ks, ho, hk, hc⟩, rfl⟩, Or.inr (Or.inr ⟨x, ⟨rfl, rfl, hp⟩, kk⟩)⟩)
theorem zr_gets {idx : Nat} {q : String × String × String × Nat} (hSP : zSPmono SP) (i : Nat) (hm : (ztb mi)[i]? = some (pc, .getstatic idx, 3)) (hq : q ∈ zSTl) (hw : Cond.fieldLink (zown mi) idx q.1 q.2.1 q.2.2.1 ∈ zAL) (kk : zV1 SH RO SP d mi P (pc + 3) ll (.ref q.2.2.2 :: st) I J D bc bs) : zV1 SH RO SP d mi P pc ll st I J D bc bs :=
  zr hSP i hm (Or.inr ⟨q, ⟨hq, hw, rfl⟩, kk⟩)
/-! arrays -/
theorem zr_iald {o N : Nat} {x : Int32} (hSP : zSPmono SP) (i : Nat) (hm : (ztb mi)[i]? = some (pc, .iaload, 1)) (ho : SH[o]? = some (.inr (0, N))) (hin : vp_in x N) (kk : zV1 SH RO SP d mi P (pc + 1) ll (.int (I o x.toNatClampNeg) :: r) I J D bc bs) : zV1 SH RO SP d mi P pc ll (.int x :: .ref o :: r) I J D bc bs :=
  zr hSP i hm (Or.inr ⟨x, o, r, _, ⟨rfl, rfl, Or.inl ⟨N, ho, hin, rfl⟩⟩, kk⟩)
theorem zr_sald {o N : Nat} {f : Nat → Int32} {x : Int32} (hSP : zSPmono SP) (i : Nat) (hm : (ztb mi)[i]? = some (pc, .iaload, 1)) (ho : RO o = some (N, f)) (hin : vp_in x N) (kk : zV1 SH RO SP d mi P (pc + 1) ll (.int (f x.toNatClampNeg) :: r) I J D bc bs) : zV1 SH RO SP d mi P pc ll (.int x :: .ref o :: r) I J D bc bs :=
  zr hSP i hm (Or.inr ⟨x, o, r, _, ⟨rfl, rfl, Or.inr ⟨N, f, ho, hin, rfl⟩⟩, kk⟩)
theorem zr_bald {o N : Nat} {x : Int32} (hSP : zSPmono SP) (i : Nat) (hm : (ztb mi)[i]? = some (pc, .baload, 1)) (ho : SH[o]? = some (.inr (3, N))) (hin : vp_in x N) (kk : zV1 SH RO SP d mi P (pc + 1) ll (.int (I o x.toNatClampNeg) :: r) I J D bc bs) : zV1 SH RO SP d mi P pc ll (.int x :: .ref o :: r) I J D bc bs :=
  zr hSP i hm (Or.inr ⟨x, o, r, N, ⟨rfl, rfl, ho, hin⟩, kk⟩)
theorem zr_lald {o N : Nat} {x : Int32} (hSP : zSPmono SP) (i : Nat) (hm : (ztb mi)[i]? = some (pc, .laload, 1)) (ho : SH[o]? = some (.inr (1, N))) (hin : vp_in x N) (kk : zV1 SH RO SP d mi P (pc + 1) ll (.long (J o x.toNatClampNeg) :: r) I J D bc bs) : zV1 SH RO SP d mi P pc ll (.int x :: .ref o :: r) I J D bc bs :=
  zr hSP i hm (Or.inr ⟨x, o, r, N, ⟨rfl, rfl, ho, hin⟩, kk⟩)
theorem zr_dald {o N : Nat} {x : Int32} (hSP : zSPmono SP) (i : Nat) (hm : (ztb mi)[i]? = some (pc, .daload, 1)) (ho : SH[o]? = some (.inr (2, N))) (hin : vp_in x N) (kk : zV1 SH RO SP d mi P (pc + 1) ll (.double (D o x.toNatClampNeg) :: r) I J D bc bs) : zV1 SH RO SP d mi P pc ll (.int x :: .ref o :: r) I J D bc bs :=
  zr hSP i hm (Or.inr ⟨x, o, r, N, ⟨rfl, rfl, ho, hin⟩, kk⟩)
theorem zr_iast {o N : Nat} {x v : Int32} (hSP : zSPmono SP) (i : Nat) (hm : (ztb mi)[i]? = some (pc, .iastore, 1)) (ho : SH[o]? = some (.inr (0, N))) (hin : vp_in x N) (kk : zV1 SH RO SP d mi P (pc + 1) ll r (zu I o x.toNatClampNeg v) J D bc bs) : zV1 SH RO SP d mi P pc ll (.int v :: .int x :: .ref o :: r) I J D bc bs :=
  zr hSP i hm (Or.inr ⟨v, x, o, r, N, ⟨rfl, rfl, ho, hin⟩, kk⟩)
theorem zr_bast {o N : Nat} {x v : Int32} (hSP : zSPmono SP) (i : Nat) (hm : (ztb mi)[i]? = some (pc, .bastore, 1)) (ho : SH[o]? = some (.inr (3, N))) (hin : vp_in x N) (kk : zV1 SH RO SP d mi P (pc + 1) ll r (zu I o x.toNatClampNeg (vp_nar .byte v)) J D bc bs) : zV1 SH RO SP d mi P pc ll (.int v :: .int x :: .ref o :: r) I J D bc bs :=
  zr hSP i hm (Or.inr ⟨v, x, o, r, N, ⟨rfl, rfl, ho, hin⟩, kk⟩)
theorem zr_last {o N : Nat} {x : Int32} {v : Int64} (hSP : zSPmono SP) (i : Nat) (hm : (ztb mi)[i]? = some (pc, .lastore, 1)) (ho : SH[o]? = some (.inr (1, N))) (hin : vp_in x N) (kk : zV1 SH RO SP d mi P (pc + 1) ll r I (zu J o x.toNatClampNeg v) D bc bs) : zV1 SH RO SP d mi P pc ll (.long v :: .int x :: .ref o :: r) I J D bc bs :=
  zr hSP i hm (Or.inr ⟨v, x, o, r, N, ⟨rfl, rfl, ho, hin⟩, kk⟩)
theorem zr_dast {o N : Nat} {x : Int32} {v : UInt64} (hSP : zSPmono SP) (i : Nat) (hm : (ztb mi)[i]? = some (pc, .dastore, 1)) (ho : SH[o]? = some (.inr (2, N))) (hin : vp_in x N) (kk : zV1 SH RO SP d mi P (pc + 1) ll r I J (zu D o x.toNatClampNeg v) bc bs) : zV1 SH RO SP d mi P pc ll (.double v :: .int x :: .ref o :: r) I J D bc bs :=
  zr hSP i hm (Or.inr ⟨v, x, o, r, N, ⟨rfl, rfl, ho, hin⟩, kk⟩)
theorem zr_alen {o ty N : Nat} (hSP : zSPmono SP) (i : Nat) (v : Int32) (hm : (ztb mi)[i]? = some (pc, .arraylength, 1)) (ho : SH[o]? = some (.inr (ty, N))) (hv : v = Int32.ofNat N) (kk : zV1 SH RO SP d mi P (pc + 1) ll (.int v :: r) I J D bc bs) : zV1 SH RO SP d mi P pc ll (.ref o :: r) I J D bc bs :=
  zr hSP i hm (Or.inr ⟨o, r, v, ⟨rfl, rfl, Or.inl ⟨ty, N, ho, hv⟩⟩, kk⟩)
theorem zr_salen {o N : Nat} {f : Nat → Int32} (hSP : zSPmono SP) (i : Nat) (v : Int32) (hm : (ztb mi)[i]? = some (pc, .arraylength, 1)) (ho : RO o = some (N, f)) (hv : v = Int32.ofNat N) (kk : zV1 SH RO SP d mi P (pc + 1) ll (.int v :: r) I J D bc bs) : zV1 SH RO SP d mi P pc ll (.ref o :: r) I J D bc bs :=
  zr hSP i hm (Or.inr ⟨o, r, v, ⟨rfl, rfl, Or.inr ⟨N, f, ho, hv⟩⟩, kk⟩)
/-! ends -/
theorem zr_iret {v : Int32} {ty : FieldType} (hSP : zSPmono SP) (i : Nat) (hm : (ztb mi)[i]? = some (pc, .ireturn, 1)) (hr : zrt mi = some ty) (hn : narrow ty (.int v) = .int v) (k : P (.inl (some (.int v))) I J D) : zV1 SH RO SP d mi P pc ll [.int v] I J D bc bs :=
  zr hSP i hm (Or.inr ⟨v, ⟨rfl, ⟨rfl, ty, hr, hn⟩, rfl⟩, k⟩)
theorem zr_lret {v : Int64} (hSP : zSPmono SP) (i : Nat) (hm : (ztb mi)[i]? = some (pc, .lreturn, 1)) (hr : zrt mi = some .long) (k : P (.inl (some (.long v))) I J D) : zV1 SH RO SP d mi P pc ll [.long v] I J D bc bs :=
  zr hSP i hm (Or.inr ⟨v, ⟨rfl, ⟨rfl, hr⟩, rfl⟩, k⟩)
theorem zr_dret {v : UInt64} (hSP : zSPmono SP) (i : Nat) (hm : (ztb mi)[i]? = some (pc, .dreturn, 1)) (hr : zrt mi = some .double) (k : P (.inl (some (.double v))) I J D) : zV1 SH RO SP d mi P pc ll [.double v] I J D bc bs :=
  zr hSP i hm (Or.inr ⟨v, ⟨rfl, ⟨rfl, hr⟩, rfl⟩, k⟩)
theorem zr_vret (hSP : zSPmono SP) (i : Nat) (hm : (ztb mi)[i]? = some (pc, .return_, 1)) (hr : zrt mi = none) (k : P (.inl none) I J D) : zV1 SH RO SP d mi P pc ll [] I J D bc bs :=
  zr hSP i hm (Or.inr ⟨⟨rfl, ⟨rfl, hr⟩, rfl⟩, k⟩)
/-! calls: what comes back goes on, what is thrown goes out -/
def zNx (SH : List zHs) (RO : zRo) (SP : zSp) (d mi : Nat) (P : zP) (pc : Nat) (ll : zL) (rest : List Value) (bc bs : Nat) : zP := fun o I J D => match o with
  | .inl v => zV1 SH RO SP d mi P pc ll (v.toList ++ rest) I J D bc bs
  | .inr x => P (.inr x) I J D
theorem zr_inv {idx b : Nat} {st rest : List Value} (hSP : zSPmono SP) (i mj n c9 s9 : Nat) (As : List Value) (hm : (ztb mi)[i]? = some (pc, .invokevirtual idx, 3)) (hst : st = As.reverse ++ .ref b :: rest) (hl : Cond.methodLink (zown mi) idx (zym mj) ∈ zAL) (hv : zMv mj n) (hn : As.length = n) (hb : zRc SH mj b) (hc : (rest.map fun v => v.category).sum ≤ 8) (h1 : c9 ≤ bc) (h2 : s9 ≤ bs)
    (k : zT SH RO SP d mj (.ref b :: As) I J D c9 s9 (zNx SH RO SP d mi P (pc + 3) ll rest (bc - c9) (bs - s9))) : zV1 SH RO SP d mi P pc ll st I J D bc bs :=
  zr hSP i hm (Or.inr ⟨mj, b, As, rest, c9, s9, ⟨hst, rfl, hl, hn ▸ hv, hb, hc, h1, h2⟩, k⟩)
theorem zr_ins {idx : Nat} {st rest : List Value} (hSP : zSPmono SP) (i mj n c9 s9 : Nat) (As : List Value) (hm : (ztb mi)[i]? = some (pc, .invokestatic idx, 3)) (hst : st = As.reverse ++ rest) (hl : Cond.methodLink (zown mi) idx (zym mj) ∈ zAL) (hv : zMs mj n) (hn : As.length = n) (hc : (rest.map fun v => v.category).sum ≤ 8) (h1 : c9 ≤ bc) (h2 : s9 ≤ bs)
    (k : zT SH RO SP d mj As I J D c9 s9 (zNx SH RO SP d mi P (pc + 3) ll rest (bc - c9) (bs - s9))) : zV1 SH RO SP d mi P pc ll st I J D bc bs :=
  zr hSP i hm (Or.inr ⟨mj, As, rest, c9, s9, ⟨hst, rfl, hl, hn ▸ hv, hc, h1, h2⟩, k⟩)
theorem zT_of {mj : Nat} {av : List Value} (hlen : (lg_sl av).length ≤ znl mj) (hw : zwh mj = []) (h : zV1 SH RO SP d mj P 0 (lv_args 0 av) [] I J D bc bs) : zT SH RO SP (d + 1) mj av I J D bc bs P := by
  refine ⟨⟨hlen, Or.inl hw⟩, ?_⟩
  have hpn : zPn mj P = P := by unfold zPn; rw [hw]; rfl
  rw [hpn]
  exact h
end ZRows

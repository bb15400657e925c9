/-! ===== the reference's keywords: the loop of its constructor ===== -/
def mSt : List Nat := [0, 6, 11, 14, 17, 23, 27, 33, 38, 42, 47, 50, 54, 58, 62, 65, 70, 75, 82, 88, 93, 97, 100, 106, 110, 116, 122, 125, 130, 138, 142, 145, 149]
def mEn : List Nat := [5, 10, 13, 16, 22, 26, 32, 37, 41, 46, 49, 53, 57, 61, 64, 69, 74, 81, 87, 92, 96, 99, 105, 109, 115, 121, 124, 129, 137, 141, 144, 148]
theorem mT_ok : ∀ n, n < 32 → mSt.getD n 0 ≤ mEn.getD n 0 ∧ mEn.getD n 0 < 149 ∧ zSb2.getD (mEn.getD n 0) 0 = 32 ∧ mSt.getD (n + 1) 0 = mEn.getD n 0 + 1 := by decide +kernel
theorem mT_no : ∀ n, n < 32 → ∀ x, x < 149 → mSt.getD n 0 ≤ x → x < mEn.getD n 0 → ¬ zSb2.getD x 0 = 32 := by decide +kernel
def mkZ (n x : Nat) (f : Nat → Int64) : Nat → Int64 := vp_updL f n ((f n <<< ((8 : Int32).toInt64 &&& 63)) ||| (zSb2.getD x 0).toInt64)
def mI (n : Nat) : Nat → Nat → (Nat → Int64) → Nat → Int64
  | 0, _, f => f
  | k + 1, x, f => mI n k (x + 1) (mkZ n x f)
def mN : Nat → Nat → Int64
  | 0 => fun _ => 0
  | n + 1 => mI n (mEn.getD n 0 - mSt.getD n 0) (mSt.getD n 0) (mN n)
def wsM (ca : Nat → Nat) (q ak : Nat) (fs : List Value) (r : va_W) (f : Nat → Int64) : va_W := (q, .inr (11, fs)) :: (ak, .inl (ca 1, 32, .inr (.inl f))) :: r
theorem zd133_203 : decode (zcc 133) 203 = .ok (.iconst 0, 1) := by
  show decode cX11_init 203 = _
  decide +kernel
theorem zd133_204 : decode (zcc 133) 204 = .ok (.istore_n 1, 1) := by
  show decode cX11_init 204 = _
  decide +kernel
theorem zd133_205 : decode (zcc 133) 205 = .ok (.iconst 0, 1) := by
  show decode cX11_init 205 = _
  decide +kernel
theorem zd133_206 : decode (zcc 133) 206 = .ok (.istore_n 2, 1) := by
  show decode cX11_init 206 = _
  decide +kernel
theorem zd133_207 : decode (zcc 133) 207 = .ok (.iload_n 2, 1) := by
  show decode cX11_init 207 = _
  decide +kernel
theorem zd133_208 : decode (zcc 133) 208 = .ok (.bipush 32, 2) := by
  show decode cX11_init 208 = _
  decide +kernel
theorem zd133_210 : decode (zcc 133) 210 = .ok (.if_icmp .ge 61, 3) := by
  show decode cX11_init 210 = _
  decide +kernel
theorem zd133_213 : decode (zcc 133) 213 = .ok (.ldc 84, 2) := by
  show decode cX11_init 213 = _
  decide +kernel
theorem zd133_215 : decode (zcc 133) 215 = .ok (.bipush 32, 2) := by
  show decode cX11_init 215 = _
  decide +kernel
theorem zd133_217 : decode (zcc 133) 217 = .ok (.iload_n 1, 1) := by
  show decode cX11_init 217 = _
  decide +kernel
theorem zd133_218 : decode (zcc 133) 218 = .ok (.invokevirtual 86, 3) := by
  show decode cX11_init 218 = _
  decide +kernel
theorem zd133_221 : decode (zcc 133) 221 = .ok (.istore_n 3, 1) := by
  show decode cX11_init 221 = _
  decide +kernel
theorem zd133_222 : decode (zcc 133) 222 = .ok (.iload_n 1, 1) := by
  show decode cX11_init 222 = _
  decide +kernel
theorem zd133_223 : decode (zcc 133) 223 = .ok (.istore 4, 2) := by
  show decode cX11_init 223 = _
  decide +kernel
theorem zd133_225 : decode (zcc 133) 225 = .ok (.iload 4, 2) := by
  show decode cX11_init 225 = _
  decide +kernel
theorem zd133_227 : decode (zcc 133) 227 = .ok (.iload_n 3, 1) := by
  show decode cX11_init 227 = _
  decide +kernel
theorem zd133_228 : decode (zcc 133) 228 = .ok (.if_icmp .ge 33, 3) := by
  show decode cX11_init 228 = _
  decide +kernel
theorem zd133_231 : decode (zcc 133) 231 = .ok (.aload_n 0, 1) := by
  show decode cX11_init 231 = _
  decide +kernel
theorem zd133_232 : decode (zcc 133) 232 = .ok (.getfield 9, 3) := by
  show decode cX11_init 232 = _
  decide +kernel
theorem zd133_235 : decode (zcc 133) 235 = .ok (.iload_n 2, 1) := by
  show decode cX11_init 235 = _
  decide +kernel
theorem zd133_236 : decode (zcc 133) 236 = .ok (.aload_n 0, 1) := by
  show decode cX11_init 236 = _
  decide +kernel
theorem zd133_237 : decode (zcc 133) 237 = .ok (.getfield 9, 3) := by
  show decode cX11_init 237 = _
  decide +kernel
theorem zd133_240 : decode (zcc 133) 240 = .ok (.iload_n 2, 1) := by
  show decode cX11_init 240 = _
  decide +kernel
theorem zd133_241 : decode (zcc 133) 241 = .ok (.laload, 1) := by
  show decode cX11_init 241 = _
  decide +kernel
theorem zd133_242 : decode (zcc 133) 242 = .ok (.bipush 8, 2) := by
  show decode cX11_init 242 = _
  decide +kernel
theorem zd133_244 : decode (zcc 133) 244 = .ok (.lshl, 1) := by
  show decode cX11_init 244 = _
  decide +kernel
theorem zd133_245 : decode (zcc 133) 245 = .ok (.ldc 84, 2) := by
  show decode cX11_init 245 = _
  decide +kernel
theorem zd133_247 : decode (zcc 133) 247 = .ok (.iload 4, 2) := by
  show decode cX11_init 247 = _
  decide +kernel
theorem zd133_249 : decode (zcc 133) 249 = .ok (.invokevirtual 92, 3) := by
  show decode cX11_init 249 = _
  decide +kernel
theorem zd133_252 : decode (zcc 133) 252 = .ok (.i2l, 1) := by
  show decode cX11_init 252 = _
  decide +kernel
theorem zd133_253 : decode (zcc 133) 253 = .ok (.lor, 1) := by
  show decode cX11_init 253 = _
  decide +kernel
theorem zd133_254 : decode (zcc 133) 254 = .ok (.lastore, 1) := by
  show decode cX11_init 254 = _
  decide +kernel
theorem zd133_255 : decode (zcc 133) 255 = .ok (.iinc 4 1, 3) := by
  show decode cX11_init 255 = _
  decide +kernel
theorem zd133_258 : decode (zcc 133) 258 = .ok (.goto (-33), 3) := by
  show decode cX11_init 258 = _
  decide +kernel
theorem zd133_261 : decode (zcc 133) 261 = .ok (.iload_n 3, 1) := by
  show decode cX11_init 261 = _
  decide +kernel
theorem zd133_262 : decode (zcc 133) 262 = .ok (.iconst 1, 1) := by
  show decode cX11_init 262 = _
  decide +kernel
theorem zd133_263 : decode (zcc 133) 263 = .ok (.iadd, 1) := by
  show decode cX11_init 263 = _
  decide +kernel
theorem zd133_264 : decode (zcc 133) 264 = .ok (.istore_n 1, 1) := by
  show decode cX11_init 264 = _
  decide +kernel
theorem zd133_265 : decode (zcc 133) 265 = .ok (.iinc 2 1, 3) := by
  show decode cX11_init 265 = _
  decide +kernel
theorem zd133_268 : decode (zcc 133) 268 = .ok (.goto (-61), 3) := by
  show decode cX11_init 268 = _
  decide +kernel
theorem zd133_271 : decode (zcc 133) 271 = .ok (.return_, 1) := by
  show decode cX11_init 271 = _
  decide +kernel
section Mk9
variable {p : Program} {l : Launch} {e : Env} {R : Room} {s : State} {m : MethodId} {args : Array Value} {below : List Frame} {meth : Method} {c : Code} {Q : State → Prop} {cells slots : Nat}
variable {A : Nat → Prop} {G : va_G} {ad ca : Nat → Nat} {q ak : Nat} {fs : List Value} {r : va_W}
theorem wsM_kept {f : Nat → Int64} {H H1 : Heap} (hP : va_P G vwCl (wsM ca q ak fs r f) H) (ho : ∀ x, x < H.size → H1[x]? = H[x]?) : va_P G vwCl (wsM ca q ak fs r f) H1 := hP.kept (fun k y hk => ho y.1 (hP k y hk).lt)
set_option maxHeartbeats 1000000 in
/-- a word: its letters laid into its key -/
theorem mk_in (hC : zC [] p s m args c A G ad ca 133) (hEX : zEX ad zRz zXT2 A s s.heap) (hR : 4 + 11 ≤ R.frames ∧ (4 + 1) * 100 ≤ R.locals) (hc : cells ≤ R.cells) (hs : slots ≤ R.slots) (hfk : fs[1]? = some (.ref ak)) {n E : Nat} {fr : Int32} (hn : n < 32) (hE : E < 149) :
    ∀ (k x : Nat) (f : Nat → Int64) (H : Heap) (locs : List Loc) (ls : Array Slot), x + k = E → va_P G vwCl (wsM ca q ak fs r f) H → va_D A (wsM ca q ak fs r f) → va_S A s.heap H locs → lv_has ls 5 [(4, .int (zi (x : Int))), (3, .int (zi (E : Int))), (0, .ref q), (1, .int fr), (2, .int (zi (n : Int)))] →
    (∀ (H : Heap) (locs : List Loc) (ls : Array Slot), va_P G vwCl (wsM ca q ak fs r (mI n k x f)) H → va_D A (wsM ca q ak fs r (mI n k x f)) → va_S A s.heap H locs → lv_has ls 5 [(4, .int (zi (E : Int))), (3, .int (zi (E : Int))), (0, .ref q), (1, .int fr), (2, .int (zi (n : Int)))] → W p l e R s m args below meth c H locs cells slots Q (F0 m 261 ls [])) → W p l e R s m args below meth c H locs cells slots Q (F0 m 225 ls []) := by
  have hC0 := hC
  obtain ⟨hx, hb, hml, hown, hts, hK, hD0, hA⟩ := hC
  have hstr : vk_R "RuleStackModel" 84 (zStx.getD 2 "") (ad (110 + 2)) s := hEX.2.2.1.2.2.2.2.2.2.2.2.1 ("RuleStackModel", 84, 2) (by decide)
  intro k
  induction k with
  | zero =>
    intro x f H locs ls hx9 hP hD hS hll kk
    have hx9 : x = E := hx9
    subst hx9
    refine lv_iload (i := 4) (x := zi (x : Int)) hx hb zd133_225 (lv_at hll 0 rfl) ?_
    refine lv_iload_n (i := 3) (x := zi (x : Int)) hx hb zd133_227 rfl (lv_at hll 1 rfl) ?_
    exact lv_icmp_ge (tgt := 261) hx hb zd133_228 rfl (fun _ => kk H locs ls hP hD hS hll) (fun z => absurd ((zi_le (by omega) (by omega)).mpr (by omega)) z)
  | succ k ih =>
    intro x f H locs ls hx9 hP hD hS hll kk
    have hin : vp_in (zi (n : Int)) 32 := zi_in (by omega) (by omega) (by decide)
    have ec : (zi (n : Int)).toNatClampNeg = n := by rw [zi_cl (by omega) (by omega)]; rfl
    refine lv_iload (i := 4) (x := zi (x : Int)) hx hb zd133_225 (lv_at hll 0 rfl) ?_
    refine lv_iload_n (i := 3) (x := zi (E : Int)) hx hb zd133_227 rfl (lv_at hll 1 rfl) ?_
    refine lv_icmp_ge (tgt := 261) hx hb zd133_228 rfl (fun z => absurd ((zi_le (by omega) (by omega)).mp z) (by omega)) (fun _ => ?_)
    obtain ⟨C1, T1, N1, c1, n1, w1⟩ := zf_11_9
    cases c1
    refine lv_aload_n (i := 0) (x := q) hx hb zd133_231 rfl (lv_at hll 2 rfl) ?_
    refine va_get hx hb hts zcl_11.2.1 hown hK hP 0 rfl zcl_11.1 1 n1 (hts _ w1) (fun x h => h) hfk zd133_232 ?_
    refine lv_iload_n (i := 2) (x := zi (n : Int)) hx hb zd133_235 rfl (lv_at hll 4 rfl) ?_
    refine lv_aload_n (i := 0) (x := q) hx hb zd133_236 rfl (lv_at hll 2 rfl) ?_
    refine va_get hx hb hts zcl_11.2.1 hown hK hP 0 rfl zcl_11.1 1 n1 (hts _ w1) (fun x h => h) hfk zd133_237 ?_
    refine lv_iload_n (i := 2) (x := zi (n : Int)) hx hb zd133_240 rfl (lv_at hll 4 rfl) ?_
    refine va_lald hx hb hK hP 1 1 rfl rfl hin zd133_241 ?_
    rw [ec]
    refine lv_bipush (v := 8) hx hb zd133_242 rfl ?_
    refine lv_lshl hx hb zd133_244 rfl ?_
    refine va_ldcS hx hb hown hstr zd133_245 ?_
    refine lv_iload (i := 4) (x := zi (x : Int)) hx hb zd133_247 (lv_at hll 0 rfl) ?_
    refine x_callV (d := 4) (idx := 92) (mj := 244) (j := 2) (v := zSb2.getD x 0) (As := [.int (zi (x : Int))]) (I := fun _ _ => 0) (J := fun _ _ => 0) (D := fun _ _ => 0) (P9 := fun o _ _ _ => o = .inl (some (.int (zSb2.getD x 0)))) hC0 hEX hR hS hll.1 zd133_249 zk_11_92 zms_244 (by decide +kernel) (by decide) (by show 2 + (1 + (1 + 0)) ≤ 8; omega) (x_244 (d := 0) (k := x) (by decide) (by show x < 149; omega) rfl) (fun _ _ _ _ h => h) rfl hc hs (fun H2 locs2 hS2 ho2 => ?_)
    have hP2 := wsM_kept hP ho2
    refine lv_i2l hx hb zd133_252 rfl ?_
    refine lv_lor hx hb zd133_253 ?_
    refine va_last hx hb hK hP2 hD hS2 1 1 rfl rfl hin zd133_254 (fun H3 locs3 hP3 hD3 hS3 => ?_)
    rw [ec] at hP3 hD3
    refine lv_iinc (k := 0) (v := zi ((x + 1 : Nat) : Int)) (lv' := [(4, .int (zi ((x + 1 : Nat) : Int))), (3, .int (zi (E : Int))), (0, .ref q), (1, .int fr), (2, .int (zi (n : Int)))]) hx hb zd133_255 hll rfl (dg_s x) (by decide) rfl (fun ls4 h4 => ?_)
    refine lv_goto (tgt := 225) hx hb zd133_258 rfl ?_
    exact ih (x + 1) (mkZ n x f) H3 locs3 ls4 (by omega) hP3 hD3 hS3 h4 kk
end Mk9

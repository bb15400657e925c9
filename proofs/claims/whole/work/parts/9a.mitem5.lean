/-! ===== the reference's items: phases ===== -/
theorem qEE_0 {T : qTk} {k : Nat} (h : ¬ (4 ≤ T.1 k ∧ T.1 k ≤ 10) ∧ ¬ T.1 k = 2 ∧ ¬ T.1 k = 3 ∧ ¬ T.1 k = 27) : qEE T k = 0 := by
  unfold qEE qE1
  rw [if_neg h.1, if_neg h.2.1, if_neg h.2.2.1, if_neg h.2.2.2]
theorem qMm_pn {T : qTk} {k : Nat} (h2 : T.1 k = 2) (ha : T.1 (k - 1) = 40 ∨ T.1 (k - 1) = 38) : qMm T (k + 1) = ((qMm T k).1, (qMm T k).2.1, (if (qFd T 7 (T.2.2.1 k) T.2.2.2).getD 0 < 12 then qup (qMm T k).2.2.1 ((qMm T k).1 11) ((qMm T k).2.2.1 ((qMm T k).1 11) ||| (1 <<< (zi (((qFd T 7 (T.2.2.1 k) T.2.2.2).getD 0 : Nat) : Int) &&& 31))) else (qMm T k).2.2.1), (qMm T k).2.2.2) ∧ qEE T k = if (qFd T 7 (T.2.2.1 k) T.2.2.2).isNone = true then 2 else 0 := by
  refine ⟨?_, ?_⟩
  · show qM1 T k (qMm T k) = _
    unfold qM1
    rw [if_neg (by omega), if_pos h2, if_pos ha]
  · unfold qEE qE1
    rw [if_neg (by omega), if_pos h2, if_neg (by omega), if_pos ha]
/-- the acts of phase N, from tokens k on, as the meaning has them at k2 -/
def qPa (T : qTk) (N k k2 : Nat) (I I' : zI) : Prop := (∀ i, ¬ i = N → I' 39 i = I 39 i) ∧ (qCn T.1 7 T.2.2.2 ≤ 12 → I 39 N = (qMm T k).2.2.1 N → I' 39 N = (qMm T k2).2.2.1 N) ∧ (∀ i, ¬ i = N → (qMm T k2).2.2.1 i = (qMm T k).2.2.1 i) ∧ (qMm T k2).1 = (qMm T k).1 ∧ (qMm T k2).2.1 = (qMm T k).2.1 ∧ (qMm T k2).2.2.2 = (qMm T k).2.2.2
theorem qPa_app {T : qTk} {N k k1 k2 : Nat} {I I1 I2 : zI} (h : qPa T N k k1 I I1) (h2 : qPa T N k1 k2 I1 I2) : qPa T N k k2 I I2 := by
  obtain ⟨a1, a2, a3, a4, a5, a6⟩ := h
  obtain ⟨b1, b2, b3, b4, b5, b6⟩ := h2
  exact ⟨fun i hi => (b1 i hi).trans (a1 i hi), fun x y => b2 x (a2 x y), fun i hi => (b3 i hi).trans (a3 i hi), b4.trans a4, b5.trans a5, b6.trans a6⟩
theorem qPa_same {T : qTk} {N k k2 : Nat} {I I' : zI} (h : qMm T k2 = qMm T k) (e : I' 39 = I 39) : qPa T N k k2 I I' := by
  unfold qPa
  rw [h, e]
  exact ⟨fun _ _ => rfl, fun _ z => z, fun _ _ => rfl, rfl, rfl, rfl⟩
section MItem5
variable {RO : zRo} {d : Nat} {P : zP} {I : zI} {J : zJ} {D : zD} {bc bs : Nat} {T : qTk} {mn ct k dp a j c : Nat} {I0 : zI} {J0 : zJ}
theorem pNs_pos {T : qTk} (hw : qTw T) : ∀ {f k : Nat} {x : Nat ⊕ (Nat × Unit)}, k < T.2.2.2 → pNs T.1 f k = some x → k ≤ qPos x ∧ qPos x < T.2.2.2
  | 0, _, _, _, h => by cases h
  | f + 1, k, x, hn, h => by
    unfold pNs at h
    by_cases c : T.1 k = 38
    · rw [if_pos c] at h
      have l1 := qTw_lt hw (k := k) (by omega)
      have := pB_pos (k := k + 1) h (fun y hy => pT_pos hw (by omega) l1 hy) (fun k1 _ h1 h2 x hx => pNs_pos hw h2 hx)
      omega
    · rw [if_neg c] at h
      exact pT_pos hw (by omega) hn h
theorem s_170_6 {N : Nat} {r : Nat ⊕ (Nat × Unit)} (hw : qTw T) (hm : mn = 0 ∨ mn = 1) (hok : mn = 1 → ∃ q, r = .inr q) (hnm : mn = 1 → ∀ i, T.1 i = 7 → T.1 (i + 1) = 2) (hN : N < 6) : ∀ {f k : Nat} {I : zI}, pB (pT T.1 2 k) (fun k1 _ => pNs T.1 f k1) = some r → k < T.2.2.2 → (T.1 (k - 1) = 40 ∨ T.1 (k - 1) = 38) → qTm T I J → I 28 24 = zi (k : Int) → I 28 25 = zi (mn : Int) → rfr I0 I → rfj J0 J → I 37 4 = zi (N : Int) → (mn = 1 → (qMm T k).1 11 = N) → qTh T P D bc bs I0 J0 (qOut (qEp9 T mn) k r) →
    (∀ q, r = .inr q → (mn = 1 → ∀ i, k ≤ i → i < q.1 → qEE T i = 0) → ∀ I', zfm [24] [39] I I' → I' 28 24 = zi (q.1 : Int) → (mn = 0 → I' 39 = I 39) → (mn = 1 → qPa T N k q.1 I I') → P (.inl none) I' J D) → zw RO (d + 3) 170 P 6 [(0, .ref 28)] [] I J D bc bs := by
  intro f
  induction f with
  | zero =>
    intro k I h hn ha ht h24 h25 hr0 hj0 h37 hM H1 H2
    -- out of steps
    unfold pT at h
    have ff := qTh_f hm hok H1
    by_cases z : T.1 k = 2
    · rw [if_pos z] at h
      cases h
    · rw [if_neg z] at h
      have er : r = .inl k := (Option.some.inj h).symm
      have b := ff k er
      refine wl_170_6 ⟨bc, bs, Nat.le_refl _, Nat.le_refl _, ?_⟩
      exact s_165 (d := d) (c := 7) hw ht h24 h25 hm hn (by omega) (fun z i => hnm z i) (fun _ => ⟨b.1, b.2 I J hr0 hj0⟩) (fun y => absurd y z) (fun y => absurd y z)
  | succ f ih =>
    intro k I h hn ha ht h24 h25 hr0 hj0 h37 hM H1 H2
    have hNn := hw.2.1
    have ff := qTh_f hm hok H1
    have fz : ∀ {I' : zI}, zfm [24] [39] I I' → rfr I0 I' := fun {I'} f => zfm_trans hr0 (zfm_sub f (by simp) (by simp))
    by_cases z : T.1 k = 2
    · have h : pNs T.1 (f + 1) (k + 1) = some r := by
        unfold pT at h
        rw [if_pos z] at h
        exact h
      have l1 := qTw_lt hw (k := k) (by omega)
      have pr := pNs_pos hw l1 h
      obtain ⟨mm, me⟩ := qMm_pn z ha
      by_cases bad : mn = 1 ∧ qFd T 7 (T.2.2.1 k) T.2.2.2 = none
      · rw [bad.2] at me
        have me : qEE T k = 2 := me
        have := qTh_e (e := 2) (j := k) bad.1 (fun i h1 h2 => by omega) me (by omega) ⟨Nat.le_refl _, by omega⟩ H1
        refine wl_170_6 ⟨bc, bs, Nat.le_refl _, Nat.le_refl _, ?_⟩
        exact s_165 (d := d) (c := 7) hw ht h24 h25 hm hn (by omega) (fun z i => hnm z i) (fun y => absurd z y) (fun _ _ _ => ⟨this.1, this.2 I J hr0 hj0⟩) (fun _ v I' hv => by
          obtain ⟨m, hm1, _⟩ := hv bad.1
          rw [bad.2] at hm1
          cases hm1)
      · refine wl_170_6 ⟨0, 0, Nat.zero_le _, Nat.zero_le _, ?_⟩
        refine s_165 (d := d) (c := 7) hw ht h24 h25 hm hn (by omega) (fun z i => hnm z i) (fun y => absurd z y) (fun _ m1 hq => absurd ⟨m1, hq⟩ bad) (fun _ v I1 hv e1 f1 => ?_)
        have t1 := qTm_n ht f1
        have m1 : I1 28 25 = zi (mn : Int) := by rw [f1.2 25 (by decide)]; exact h25
        -- behind the name: a comma and the next one, or the end
        have key : ∀ (I2 : zI), zfm [24] [39] I I2 → I2 28 24 = zi ((k + 1 : Nat) : Int) → (mn = 0 → I2 39 = I 39) → (mn = 1 → qPa T N k (k + 1) I I2) → (mn = 1 → qEE T k = 0) → (zz RO (d + 3) 152 [.ref 28, .int 102] I2 J D 0 0 (zNi P fun v2 I3 J3 D3 => ((¬ v2 = 0 → zw RO (d + 3) 170 P 6 [(0, .ref 28)] [] I3 J3 D3 bc bs) ∧ (¬ (¬ v2 = 0) → (∃ c3 s3, c3 ≤ bc ∧ s3 ≤ bs ∧ zz RO (d + 3) 151 [.ref 28, .int 103] I3 J3 D3 c3 s3 (zNv P fun I4 J4 D4 => P (.inl none) I4 J4 D4)))))) := by
          intro I2 f2 e2 k39 kpa kE
          have t2 : qTm T I2 J := by
            unfold qTm
            rw [f2.2 4 (by decide), f2.1 31 (by decide) (by decide), f2.1 32 (by decide) (by decide)]
            exact ht
          unfold pNs at h
          by_cases c38 : T.1 (k + 1) = 38
          · rw [if_pos c38] at h
            have l2 := qTw_lt hw (k := k + 1) (by omega)
            refine s_152t (d := d + 1) (a := 38) hw t2 e2 l1 (by omega) c38 (fun I3 e3 f3 => ?_)
            refine ⟨fun _ => ?_, fun q => absurd (by decide) q⟩
            have f03 : zfm [24] [39] I I3 := zfm_trans f2 (zfm_sub f3 (by simp) (by simp))
            have E38 : qEE T (k + 1) = 0 := qEE_0 (by omega)
            have M38 : qMm T (k + 1 + 1) = qMm T (k + 1) := qMm_0 (by omega)
            have p2 := pB_pos (k := k + 1 + 1) h (fun y hy => pT_pos hw (by omega) l2 hy) (fun k1 _ h1 h2 x hx => pNs_pos hw h2 hx)
            have ek : qOut (qEp9 T mn) k r = qOut (qEp9 T mn) (k + 1 + 1) r := qOut_step (fun j h1 h2 => by
              unfold qEp9
              split
              · rename_i m1
                by_cases e : j = k
                · rw [e]
                  exact kE m1
                · rw [show j = k + 1 by omega]
                  exact E38
              · rfl) ⟨by omega, p2.1⟩
            refine ih (k := k + 1 + 1) h l2 (Or.inr (by rw [Nat.add_sub_cancel]; exact c38)) (by
              unfold qTm
              rw [f03.2 4 (by decide), f03.1 31 (by decide) (by decide), f03.1 32 (by decide) (by decide)]
              exact ht) e3 (by rw [f03.2 25 (by decide)]; exact h25) (fz f03) hj0 (by rw [f03.1 37 (by decide) (by decide)]; exact h37) (fun m1 => by
              rw [M38, (kpa m1).2.2.2.1]
              exact hM m1) (by rw [← ek]; exact H1) (fun q hq hcl I4 f4 e4 k4 k4p => ?_)
            refine H2 q hq (fun m1 i h1 h2 => ?_) I4 (zfm_trans f03 f4) e4 (fun m0 => by rw [k4 m0, f3.1 39 (by decide) (by decide)]; exact k39 m0) (fun m1 => ?_)
            · by_cases e : i = k
              · rw [e]
                exact kE m1
              · by_cases e2 : i = k + 1
                · rw [e2]
                  exact E38
                · exact hcl m1 i (by omega) h2
            · exact qPa_app (kpa m1) (qPa_app (qPa_same M38 (f3.1 39 (by decide) (by decide))) (k4p m1))
          · rw [if_neg c38] at h
            refine s_152f (d := d + 1) (a := 38) hw t2 e2 l1 (by omega) c38 ?_
            refine ⟨fun q => absurd rfl q, fun _ => ?_⟩
            refine s_tk (d := d + 1) (b := 39) hw t2 e2 l1 (by omega) (fun y => ?_) (fun y I4 e4 f4 => ?_)
            · unfold pT at h
              rw [if_neg y] at h
              have b := ff (k + 1) (pF_inv h)
              exact ⟨b.1, b.2 I2 J (fz f2) hj0⟩
            · unfold pT at h
              rw [if_pos y] at h
              have er := pO_inv h
              have E39 : qEE T (k + 1) = 0 := qEE_0 (by omega)
              have M39 : qMm T (k + 1 + 1) = qMm T (k + 1) := qMm_0 (by omega)
              refine H2 _ er (fun m1 i h1 h2 => ?_) I4 (zfm_trans f2 (zfm_sub f4 (by simp) (by simp))) e4 (fun m0 => by rw [f4.1 39 (by decide) (by decide)]; exact k39 m0) (fun m1 => qPa_app (kpa m1) (qPa_same M39 (f4.1 39 (by decide) (by decide))))
              have h2 : i < k + 1 + 1 := h2
              by_cases e : i = k
              · rw [e]
                exact kE m1
              · rw [show i = k + 1 by omega]
                exact E39
        show _ ∧ _
        rcases hm with m0 | m1'
        · refine ⟨fun _ => ?_, fun q => absurd (show I1 28 25 = 0 by rw [m1, m0]; rfl) q⟩
          exact key I1 (zfm_sub f1 (by simp) (by simp)) e1 (fun _ => f1.1 39 (by decide) (by decide)) (fun y => by omega) (fun y => by omega)
        · refine ⟨fun q => absurd (show ¬ I1 28 25 = 0 by rw [m1, m1']; decide) (fun w => w q), fun _ => ?_⟩
          obtain ⟨act, ha1, ha2⟩ := hv m1'
          have e37 : I1 37 4 = zi (N : Int) := by rw [f1.1 37 (by decide) (by decide)]; exact h37
          have cln : (zi (N : Int)).toNatClampNeg = N := zi_clk (by omega)
          have vn : vp_in (zi (N : Int)) 6 := zi_in (by omega) (by omega) (by omega)
          rw [ha1] at me mm
          have me : qEE T k = 0 := me
          rw [e37, cln, ha2]
          refine ⟨vn, vn, ?_⟩
          have f12 : zfm [24] [39] I (zu I1 39 N ((I1 39 N) ||| (1 <<< (zi (act : Int) &&& 31)))) := zfm_zu (zfm_sub f1 (by simp) (by simp)) _ _ (by decide) (by decide)
          refine key _ f12 (by rw [zu_n _ _ (by omega)]; exact e1) (fun y => by omega) (fun _ => ?_) (fun _ => me)
          have e39 : I1 39 = I 39 := f1.1 39 (by decide) (by decide)
          have hl := qFd_lt ha1
          refine ⟨fun i hi => by rw [zu_n _ _ (by omega), e39], fun h12 hpre => ?_, fun i hi => ?_, ?_, ?_, ?_⟩
          · rw [zu_s, mm]
            show _ = (if act < 12 then qup (qMm T k).2.2.1 ((qMm T k).1 11) ((qMm T k).2.2.1 ((qMm T k).1 11) ||| (1 <<< (zi (act : Int) &&& 31))) else (qMm T k).2.2.1) N
            rw [if_pos (by omega), hM m1', qup_s, e39, hpre]
          · rw [mm]
            show (if act < 12 then qup (qMm T k).2.2.1 ((qMm T k).1 11) ((qMm T k).2.2.1 ((qMm T k).1 11) ||| (1 <<< (zi (act : Int) &&& 31))) else (qMm T k).2.2.1) i = _
            split
            · rw [hM m1', qup_n _ _ hi]
            · rfl
          · rw [mm]
          · rw [mm]
          · rw [mm]
    · unfold pT at h
      rw [if_neg z] at h
      have er : r = .inl k := (Option.some.inj h).symm
      have b := ff k er
      refine wl_170_6 ⟨bc, bs, Nat.le_refl _, Nat.le_refl _, ?_⟩
      exact s_165 (d := d) (c := 7) hw ht h24 h25 hm hn (by omega) (fun z i => hnm z i) (fun _ => ⟨b.1, b.2 I J hr0 hj0⟩) (fun y => absurd y z) (fun y => absurd y z)
end MItem5

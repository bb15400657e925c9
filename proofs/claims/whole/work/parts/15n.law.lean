/-! ===== written by wip/whole/lay15.py: walks, a formula each ===== -/
set_option maxRecDepth 20000 in
theorem wl_235_28 {RO : zRo} {d : Nat} {P : zP} {I : zI} {J : zJ} {D : zD} {bc bs : Nat} {l5 : Int32} {L : Nat} {xs : Nat → Int32} (hL : RO 99 = some (L, xs)) (h : ((((Int32.ofNat L) - 6) < l5 → P (.inl (some (.int 1))) I J D) ∧ (¬ (((Int32.ofNat L) - 6) < l5) → (vp_in l5 L ∧ ((((xs l5.toNatClampNeg) &&& 31) = 0 → (vp_in (l5 + 1) L ∧ (vp_in (l5 + 2) L ∧ (vp_in (l5 + 3) L ∧ (vp_in (l5 + 4) L ∧ (vp_in (l5 + 5) L ∧ (∃ c1 s1, c1 ≤ bc ∧ s1 ≤ bs ∧ zz RO (d + 1) 220 [.ref 0, .int (xs ((l5 + 1).toNatClampNeg)), .int (xs ((l5 + 2).toNatClampNeg)), .int (xs ((l5 + 3).toNatClampNeg)), .int (xs ((l5 + 4).toNatClampNeg)), .int (xs ((l5 + 5).toNatClampNeg)), .ref 52] I J D c1 s1 (zNi P fun v1 I1 J1 D1 => (vp_in (l5 + 1) L ∧ (vp_in (l5 + 2) L ∧ (vp_in (l5 + 3) L ∧ (vp_in (l5 + 4) L ∧ (vp_in (l5 + 5) L ∧ (zz RO (d + 1) 138 [.ref 28, .int (xs ((l5 + 1).toNatClampNeg)), .int (xs ((l5 + 2).toNatClampNeg)), .int (xs ((l5 + 3).toNatClampNeg)), .int (xs ((l5 + 4).toNatClampNeg)), .int (xs ((l5 + 5).toNatClampNeg))] I1 J1 D1 0 0 (zNi P fun v2 I2 J2 D2 => (((zv_134 I2 J2) = v1 → ((¬ v1 = 0 → zw RO (d + 1) 235 P 28 [(0, .ref 99), (1, .ref 0), (2, .ref 28), (3, .ref 52), (4, .ref 53), (5, .int (l5 + 6))] [] I2 J2 D2 (bc - c1) (bs - s1)) ∧ (¬ (¬ v1 = 0) → (((J2 52 0) = v2.toInt64 → zw RO (d + 1) 235 P 28 [(0, .ref 99), (1, .ref 0), (2, .ref 28), (3, .ref 52), (4, .ref 53), (5, .int (l5 + 6))] [] I2 J2 D2 (bc - c1) (bs - s1)) ∧ (¬ ((J2 52 0) = v2.toInt64) → P (.inl (some (.int 0))) I2 J2 D2))))) ∧ (¬ ((zv_134 I2 J2) = v1) → P (.inl (some (.int 0))) I2 J2 D2))))))))))))))))) ∧ (¬ (((xs l5.toNatClampNeg) &&& 31) = 0) → ((((xs l5.toNatClampNeg) &&& 31) = 1 → (vp_in (l5 + 1) L ∧ (∃ c3 s3, c3 ≤ bc ∧ s3 ≤ bs ∧ zz RO (d + 1) 221 [.ref 0, .int (xs ((l5 + 1).toNatClampNeg)), .ref 52] I J D c3 s3 (zNi P fun v3 I3 J3 D3 => (vp_in (l5 + 1) L ∧ (zz RO (d + 1) 140 [.ref 28, .int (xs ((l5 + 1).toNatClampNeg))] I3 J3 D3 0 0 (zNi P fun v4 I4 J4 D4 => (((zv_134 I4 J4) = v3 → ((¬ v3 = 0 → zw RO (d + 1) 235 P 28 [(0, .ref 99), (1, .ref 0), (2, .ref 28), (3, .ref 52), (4, .ref 53), (5, .int (l5 + 6))] [] I4 J4 D4 (bc - c3) (bs - s3)) ∧ (¬ (¬ v3 = 0) → (((J4 52 0) = v4.toInt64 → zw RO (d + 1) 235 P 28 [(0, .ref 99), (1, .ref 0), (2, .ref 28), (3, .ref 52), (4, .ref 53), (5, .int (l5 + 6))] [] I4 J4 D4 (bc - c3) (bs - s3)) ∧ (¬ ((J4 52 0) = v4.toInt64) → P (.inl (some (.int 0))) I4 J4 D4))))) ∧ (¬ ((zv_134 I4 J4) = v3) → P (.inl (some (.int 0))) I4 J4 D4))))))))) ∧ (¬ (((xs l5.toNatClampNeg) &&& 31) = 1) → ((((xs l5.toNatClampNeg) &&& 31) = 2 → (zz RO (d + 1) 109 [.ref 0] I J D 0 0 (zNi P fun v5 I5 J5 D5 => (∃ c6 s6, c6 ≤ bc ∧ s6 ≤ bs ∧ zz RO (d + 1) 177 [.ref 28] I5 J5 D5 c6 s6 (zNi P fun v6 I6 J6 D6 => ((v5 = v6 → zw RO (d + 1) 235 P 28 [(0, .ref 99), (1, .ref 0), (2, .ref 28), (3, .ref 52), (4, .ref 53), (5, .int (l5 + 6))] [] I6 J6 D6 (bc - c6) (bs - s6)) ∧ (¬ (v5 = v6) → P (.inl (some (.int 0))) I6 J6 D6))))))) ∧ (¬ (((xs l5.toNatClampNeg) &&& 31) = 2) → ((((xs l5.toNatClampNeg) &&& 31) = 3 → (zz RO (d + 1) 178 [.ref 28] I J D 0 0 (zNi P fun v7 I7 J7 D7 => (((zv_110 I J) = v7 → zw RO (d + 1) 235 P 28 [(0, .ref 99), (1, .ref 0), (2, .ref 28), (3, .ref 52), (4, .ref 53), (5, .int (l5 + 6))] [] I7 J7 D7 bc bs) ∧ (¬ ((zv_110 I J) = v7) → P (.inl (some (.int 0))) I7 J7 D7))))) ∧ (¬ (((xs l5.toNatClampNeg) &&& 31) = 3) → ((((xs l5.toNatClampNeg) &&& 31) = 4 → (vp_in (l5 + 1) L ∧ (∃ c8 s8, c8 ≤ bc ∧ s8 ≤ bs ∧ zz RO (d + 1) 222 [.ref 0, .int (xs ((l5 + 1).toNatClampNeg)), .ref 52] I J D c8 s8 (zNi P fun v8 I8 J8 D8 => (vp_in (l5 + 1) L ∧ (zz RO (d + 1) 207 [.ref 28, .int (xs ((l5 + 1).toNatClampNeg))] I8 J8 D8 0 0 (zNi P fun v9 I9 J9 D9 => (((zv_134 I9 J9) = v8 → ((¬ v8 = 0 → zw RO (d + 1) 235 P 28 [(0, .ref 99), (1, .ref 0), (2, .ref 28), (3, .ref 52), (4, .ref 53), (5, .int (l5 + 6))] [] I9 J9 D9 (bc - c8) (bs - s8)) ∧ (¬ (¬ v8 = 0) → (((J9 52 0) = v9.toInt64 → zw RO (d + 1) 235 P 28 [(0, .ref 99), (1, .ref 0), (2, .ref 28), (3, .ref 52), (4, .ref 53), (5, .int (l5 + 6))] [] I9 J9 D9 (bc - c8) (bs - s8)) ∧ (¬ ((J9 52 0) = v9.toInt64) → P (.inl (some (.int 0))) I9 J9 D9))))) ∧ (¬ ((zv_134 I9 J9) = v8) → P (.inl (some (.int 0))) I9 J9 D9))))))))) ∧ (¬ (((xs l5.toNatClampNeg) &&& 31) = 4) → ((((xs l5.toNatClampNeg) &&& 31) = 5 → (vp_in (l5 + 1) L ∧ (vp_in (l5 + 2) L ∧ (vp_in (l5 + 3) L ∧ (∃ c10 s10, c10 ≤ bc ∧ s10 ≤ bs ∧ zz RO (d + 1) 223 [.ref 0, .int (xs ((l5 + 1).toNatClampNeg)), .long ((((xs ((l5 + 2).toNatClampNeg)).toInt64) <<< ((32 : Int32).toInt64 &&& 63)) ||| (((xs ((l5 + 3).toNatClampNeg)).toInt64) &&& 4294967295)), .ref 52] I J D c10 s10 (zNi P fun v10 I10 J10 D10 => (vp_in (l5 + 1) L ∧ (vp_in (l5 + 2) L ∧ (vp_in (l5 + 3) L ∧ (zz RO (d + 1) 197 [.ref 28, .int (xs ((l5 + 1).toNatClampNeg)), .long ((((xs ((l5 + 2).toNatClampNeg)).toInt64) <<< ((32 : Int32).toInt64 &&& 63)) ||| (((xs ((l5 + 3).toNatClampNeg)).toInt64) &&& 4294967295))] I10 J10 D10 0 0 (zNi P fun v11 I11 J11 D11 => (((zv_134 I11 J11) = v10 → ((¬ v10 = 0 → zw RO (d + 1) 235 P 28 [(0, .ref 99), (1, .ref 0), (2, .ref 28), (3, .ref 52), (4, .ref 53), (5, .int (l5 + 6))] [] I11 J11 D11 (bc - c10) (bs - s10)) ∧ (¬ (¬ v10 = 0) → (((J11 52 0) = v11.toInt64 → zw RO (d + 1) 235 P 28 [(0, .ref 99), (1, .ref 0), (2, .ref 28), (3, .ref 52), (4, .ref 53), (5, .int (l5 + 6))] [] I11 J11 D11 (bc - c10) (bs - s10)) ∧ (¬ ((J11 52 0) = v11.toInt64) → P (.inl (some (.int 0))) I11 J11 D11))))) ∧ (¬ ((zv_134 I11 J11) = v10) → P (.inl (some (.int 0))) I11 J11 D11))))))))))))) ∧ (¬ (((xs l5.toNatClampNeg) &&& 31) = 5) → ((((xs l5.toNatClampNeg) &&& 31) = 6 → (vp_in (l5 + 1) L ∧ (vp_in (l5 + 2) L ∧ (∃ c12 s12, c12 ≤ bc ∧ s12 ≤ bs ∧ zz RO (d + 1) 224 [.ref 0, .int (xs ((l5 + 1).toNatClampNeg)), .int (xs ((l5 + 2).toNatClampNeg)), .ref 52] I J D c12 s12 (zNi P fun v12 I12 J12 D12 => (vp_in (l5 + 1) L ∧ (vp_in (l5 + 2) L ∧ (∃ c13 s13, c13 ≤ (bc - c12) ∧ s13 ≤ (bs - s12) ∧ zz RO (d + 1) 201 [.ref 28, .int (xs ((l5 + 1).toNatClampNeg)), .int (xs ((l5 + 2).toNatClampNeg))] I12 J12 D12 c13 s13 (zNi P fun v13 I13 J13 D13 => (((zv_134 I13 J13) = v12 → ((¬ v12 = 0 → zw RO (d + 1) 235 P 28 [(0, .ref 99), (1, .ref 0), (2, .ref 28), (3, .ref 52), (4, .ref 53), (5, .int (l5 + 6))] [] I13 J13 D13 ((bc - c12) - c13) ((bs - s12) - s13)) ∧ (¬ (¬ v12 = 0) → (((J13 52 0) = v13.toInt64 → zw RO (d + 1) 235 P 28 [(0, .ref 99), (1, .ref 0), (2, .ref 28), (3, .ref 52), (4, .ref 53), (5, .int (l5 + 6))] [] I13 J13 D13 ((bc - c12) - c13) ((bs - s12) - s13)) ∧ (¬ ((J13 52 0) = v13.toInt64) → P (.inl (some (.int 0))) I13 J13 D13))))) ∧ (¬ ((zv_134 I13 J13) = v12) → P (.inl (some (.int 0))) I13 J13 D13))))))))))) ∧ (¬ (((xs l5.toNatClampNeg) &&& 31) = 6) → ((((xs l5.toNatClampNeg) &&& 31) = 7 → (vp_in (l5 + 1) L ∧ (vp_in (l5 + 2) L ∧ (∃ c14 s14, c14 ≤ bc ∧ s14 ≤ bs ∧ zz RO (d + 1) 225 [.ref 0, .int (xs ((l5 + 1).toNatClampNeg)), .int (xs ((l5 + 2).toNatClampNeg)), .ref 52] I J D c14 s14 (zNi P fun v14 I14 J14 D14 => (vp_in (l5 + 1) L ∧ (vp_in (l5 + 2) L ∧ (∃ c15 s15, c15 ≤ (bc - c14) ∧ s15 ≤ (bs - s14) ∧ zz RO (d + 1) 202 [.ref 28, .int (xs ((l5 + 1).toNatClampNeg)), .int (xs ((l5 + 2).toNatClampNeg))] I14 J14 D14 c15 s15 (zNi P fun v15 I15 J15 D15 => (((zv_134 I15 J15) = v14 → ((¬ v14 = 0 → zw RO (d + 1) 235 P 28 [(0, .ref 99), (1, .ref 0), (2, .ref 28), (3, .ref 52), (4, .ref 53), (5, .int (l5 + 6))] [] I15 J15 D15 ((bc - c14) - c15) ((bs - s14) - s15)) ∧ (¬ (¬ v14 = 0) → (((J15 52 0) = v15.toInt64 → zw RO (d + 1) 235 P 28 [(0, .ref 99), (1, .ref 0), (2, .ref 28), (3, .ref 52), (4, .ref 53), (5, .int (l5 + 6))] [] I15 J15 D15 ((bc - c14) - c15) ((bs - s14) - s15)) ∧ (¬ ((J15 52 0) = v15.toInt64) → P (.inl (some (.int 0))) I15 J15 D15))))) ∧ (¬ ((zv_134 I15 J15) = v14) → P (.inl (some (.int 0))) I15 J15 D15))))))))))) ∧ (¬ (((xs l5.toNatClampNeg) &&& 31) = 7) → ((((xs l5.toNatClampNeg) &&& 31) = 8 → (∃ c16 s16, c16 ≤ bc ∧ s16 ≤ bs ∧ zz RO (d + 1) 226 [.ref 0, .ref 52] I J D c16 s16 (zNi P fun v16 I16 J16 D16 => (∃ c17 s17, c17 ≤ (bc - c16) ∧ s17 ≤ (bs - s16) ∧ zz RO (d + 1) 203 [.ref 28] I16 J16 D16 c17 s17 (zNi P fun v17 I17 J17 D17 => (((zv_134 I17 J17) = v16 → ((¬ v16 = 0 → zw RO (d + 1) 235 P 28 [(0, .ref 99), (1, .ref 0), (2, .ref 28), (3, .ref 52), (4, .ref 53), (5, .int (l5 + 6))] [] I17 J17 D17 ((bc - c16) - c17) ((bs - s16) - s17)) ∧ (¬ (¬ v16 = 0) → (((J17 52 0) = v17.toInt64 → zw RO (d + 1) 235 P 28 [(0, .ref 99), (1, .ref 0), (2, .ref 28), (3, .ref 52), (4, .ref 53), (5, .int (l5 + 6))] [] I17 J17 D17 ((bc - c16) - c17) ((bs - s16) - s17)) ∧ (¬ ((J17 52 0) = v17.toInt64) → P (.inl (some (.int 0))) I17 J17 D17))))) ∧ (¬ ((zv_134 I17 J17) = v16) → P (.inl (some (.int 0))) I17 J17 D17))))))) ∧ (¬ (((xs l5.toNatClampNeg) &&& 31) = 8) → ((((xs l5.toNatClampNeg) &&& 31) = 9 → (vp_in (l5 + 1) L ∧ (((xs ((l5 + 1).toNatClampNeg)) = 0 → (vp_in (l5 + 2) L ∧ (vp_in (l5 + 3) L ∧ (∃ c18 s18, c18 ≤ bc ∧ s18 ≤ bs ∧ zz RO (d + 1) 227 [.ref 0, .int 0, .int (xs ((l5 + 2).toNatClampNeg)), .int (xs ((l5 + 3).toNatClampNeg)), .ref 52] I J D c18 s18 (zNi P fun v18 I18 J18 D18 => (vp_in (l5 + 1) L ∧ (vp_in (l5 + 2) L ∧ (vp_in (l5 + 3) L ∧ (zz RO (d + 1) 204 [.ref 28, .int 0, .int (xs ((l5 + 2).toNatClampNeg)), .int (xs ((l5 + 3).toNatClampNeg))] I18 J18 D18 0 0 (zNi P fun v19 I19 J19 D19 => (((zv_134 I19 J19) = v18 → ((¬ v18 = 0 → zw RO (d + 1) 235 P 28 [(0, .ref 99), (1, .ref 0), (2, .ref 28), (3, .ref 52), (4, .ref 53), (5, .int (l5 + 6))] [] I19 J19 D19 (bc - c18) (bs - s18)) ∧ (¬ (¬ v18 = 0) → ((v19 = 0 → (((J19 52 0) = 0 → zw RO (d + 1) 235 P 28 [(0, .ref 99), (1, .ref 0), (2, .ref 28), (3, .ref 52), (4, .ref 53), (5, .int (l5 + 6))] [] I19 J19 D19 (bc - c18) (bs - s18)) ∧ (¬ ((J19 52 0) = 0) → P (.inl (some (.int 0))) I19 J19 D19))) ∧ (¬ (v19 = 0) → (((J19 52 0) = 1 → zw RO (d + 1) 235 P 28 [(0, .ref 99), (1, .ref 0), (2, .ref 28), (3, .ref 52), (4, .ref 53), (5, .int (l5 + 6))] [] I19 J19 D19 (bc - c18) (bs - s18)) ∧ (¬ ((J19 52 0) = 1) → P (.inl (some (.int 0))) I19 J19 D19))))))) ∧ (¬ ((zv_134 I19 J19) = v18) → P (.inl (some (.int 0))) I19 J19 D19)))))))))))) ∧ (¬ ((xs ((l5 + 1).toNatClampNeg)) = 0) → (vp_in (l5 + 2) L ∧ (vp_in (l5 + 3) L ∧ (∃ c20 s20, c20 ≤ bc ∧ s20 ≤ bs ∧ zz RO (d + 1) 227 [.ref 0, .int 1, .int (xs ((l5 + 2).toNatClampNeg)), .int (xs ((l5 + 3).toNatClampNeg)), .ref 52] I J D c20 s20 (zNi P fun v20 I20 J20 D20 => (vp_in (l5 + 1) L ∧ (vp_in (l5 + 2) L ∧ (vp_in (l5 + 3) L ∧ (zz RO (d + 1) 204 [.ref 28, .int 1, .int (xs ((l5 + 2).toNatClampNeg)), .int (xs ((l5 + 3).toNatClampNeg))] I20 J20 D20 0 0 (zNi P fun v21 I21 J21 D21 => (((zv_134 I21 J21) = v20 → ((¬ v20 = 0 → zw RO (d + 1) 235 P 28 [(0, .ref 99), (1, .ref 0), (2, .ref 28), (3, .ref 52), (4, .ref 53), (5, .int (l5 + 6))] [] I21 J21 D21 (bc - c20) (bs - s20)) ∧ (¬ (¬ v20 = 0) → ((v21 = 0 → (((J21 52 0) = 0 → zw RO (d + 1) 235 P 28 [(0, .ref 99), (1, .ref 0), (2, .ref 28), (3, .ref 52), (4, .ref 53), (5, .int (l5 + 6))] [] I21 J21 D21 (bc - c20) (bs - s20)) ∧ (¬ ((J21 52 0) = 0) → P (.inl (some (.int 0))) I21 J21 D21))) ∧ (¬ (v21 = 0) → (((J21 52 0) = 1 → zw RO (d + 1) 235 P 28 [(0, .ref 99), (1, .ref 0), (2, .ref 28), (3, .ref 52), (4, .ref 53), (5, .int (l5 + 6))] [] I21 J21 D21 (bc - c20) (bs - s20)) ∧ (¬ ((J21 52 0) = 1) → P (.inl (some (.int 0))) I21 J21 D21))))))) ∧ (¬ ((zv_134 I21 J21) = v20) → P (.inl (some (.int 0))) I21 J21 D21))))))))))))))) ∧ (¬ (((xs l5.toNatClampNeg) &&& 31) = 9) → ((((xs l5.toNatClampNeg) &&& 31) = 10 → (zz RO (d + 1) 118 [.ref 0] I J D 0 0 (zNi P fun v22 I22 J22 D22 => (zz RO (d + 1) 205 [.ref 28] I22 J22 D22 0 0 (zNi P fun v23 I23 J23 D23 => ((v22 = v23 → zw RO (d + 1) 235 P 28 [(0, .ref 99), (1, .ref 0), (2, .ref 28), (3, .ref 52), (4, .ref 53), (5, .int (l5 + 6))] [] I23 J23 D23 bc bs) ∧ (¬ (v22 = v23) → P (.inl (some (.int 0))) I23 J23 D23))))))) ∧ (¬ (((xs l5.toNatClampNeg) &&& 31) = 10) → ((((xs l5.toNatClampNeg) &&& 31) = 11 → (zz RO (d + 1) 209 [.ref 28] I J D 0 0 (zNi P fun v24 I24 J24 D24 => (((zv_119 I J) = v24 → zw RO (d + 1) 235 P 28 [(0, .ref 99), (1, .ref 0), (2, .ref 28), (3, .ref 52), (4, .ref 53), (5, .int (l5 + 6))] [] I24 J24 D24 bc bs) ∧ (¬ ((zv_119 I J) = v24) → P (.inl (some (.int 0))) I24 J24 D24))))) ∧ (¬ (((xs l5.toNatClampNeg) &&& 31) = 11) → ((((xs l5.toNatClampNeg) &&& 31) = 12 → (vp_in (l5 + 1) L ∧ (∃ c25 s25, c25 ≤ bc ∧ s25 ≤ bs ∧ zz RO (d + 1) 228 [.ref 0, .int (xs ((l5 + 1).toNatClampNeg)), .ref 52] I J D c25 s25 (zNi P fun v25 I25 J25 D25 => (vp_in (l5 + 1) L ∧ (zz RO (d + 1) 211 [.ref 28, .int (xs ((l5 + 1).toNatClampNeg))] I25 J25 D25 0 0 (zNi P fun v26 I26 J26 D26 => (((zv_134 I26 J26) = v25 → ((¬ v25 = 0 → zw RO (d + 1) 235 P 28 [(0, .ref 99), (1, .ref 0), (2, .ref 28), (3, .ref 52), (4, .ref 53), (5, .int (l5 + 6))] [] I26 J26 D26 (bc - c25) (bs - s25)) ∧ (¬ (¬ v25 = 0) → (((J26 52 0) = v26.toInt64 → zw RO (d + 1) 235 P 28 [(0, .ref 99), (1, .ref 0), (2, .ref 28), (3, .ref 52), (4, .ref 53), (5, .int (l5 + 6))] [] I26 J26 D26 (bc - c25) (bs - s25)) ∧ (¬ ((J26 52 0) = v26.toInt64) → P (.inl (some (.int 0))) I26 J26 D26))))) ∧ (¬ ((zv_134 I26 J26) = v25) → P (.inl (some (.int 0))) I26 J26 D26))))))))) ∧ (¬ (((xs l5.toNatClampNeg) &&& 31) = 12) → ((((xs l5.toNatClampNeg) &&& 31) = 13 → (vp_in (l5 + 1) L ∧ (vp_in (l5 + 2) L ∧ (∃ c27 s27, c27 ≤ bc ∧ s27 ≤ bs ∧ zz RO (d + 1) 229 [.ref 0, .int (xs ((l5 + 1).toNatClampNeg)), .int (xs ((l5 + 2).toNatClampNeg)), .ref 52] I J D c27 s27 (zNi P fun v27 I27 J27 D27 => (vp_in (l5 + 1) L ∧ (vp_in (l5 + 2) L ∧ (zz RO (d + 1) 212 [.ref 28, .int (xs ((l5 + 1).toNatClampNeg)), .int (xs ((l5 + 2).toNatClampNeg))] I27 J27 D27 0 0 (zNi P fun v28 I28 J28 D28 => (((zv_134 I28 J28) = v27 → ((¬ v27 = 0 → zw RO (d + 1) 235 P 28 [(0, .ref 99), (1, .ref 0), (2, .ref 28), (3, .ref 52), (4, .ref 53), (5, .int (l5 + 6))] [] I28 J28 D28 (bc - c27) (bs - s27)) ∧ (¬ (¬ v27 = 0) → (((J28 52 0) = v28.toInt64 → zw RO (d + 1) 235 P 28 [(0, .ref 99), (1, .ref 0), (2, .ref 28), (3, .ref 52), (4, .ref 53), (5, .int (l5 + 6))] [] I28 J28 D28 (bc - c27) (bs - s27)) ∧ (¬ ((J28 52 0) = v28.toInt64) → P (.inl (some (.int 0))) I28 J28 D28))))) ∧ (¬ ((zv_134 I28 J28) = v27) → P (.inl (some (.int 0))) I28 J28 D28))))))))))) ∧ (¬ (((xs l5.toNatClampNeg) &&& 31) = 13) → ((((xs l5.toNatClampNeg) &&& 31) = 14 → (vp_in (l5 + 1) L ∧ (∃ c29 s29, c29 ≤ bc ∧ s29 ≤ bs ∧ zz RO (d + 1) 230 [.ref 0, .int (xs ((l5 + 1).toNatClampNeg)), .ref 52] I J D c29 s29 (zNi P fun v29 I29 J29 D29 => (vp_in (l5 + 1) L ∧ (zz RO (d + 1) 213 [.ref 28, .int (xs ((l5 + 1).toNatClampNeg))] I29 J29 D29 0 0 (zNi P fun v30 I30 J30 D30 => (((zv_134 I30 J30) = v29 → ((¬ v29 = 0 → zw RO (d + 1) 235 P 28 [(0, .ref 99), (1, .ref 0), (2, .ref 28), (3, .ref 52), (4, .ref 53), (5, .int (l5 + 6))] [] I30 J30 D30 (bc - c29) (bs - s29)) ∧ (¬ (¬ v29 = 0) → (((J30 52 0) = v30.toInt64 → zw RO (d + 1) 235 P 28 [(0, .ref 99), (1, .ref 0), (2, .ref 28), (3, .ref 52), (4, .ref 53), (5, .int (l5 + 6))] [] I30 J30 D30 (bc - c29) (bs - s29)) ∧ (¬ ((J30 52 0) = v30.toInt64) → P (.inl (some (.int 0))) I30 J30 D30))))) ∧ (¬ ((zv_134 I30 J30) = v29) → P (.inl (some (.int 0))) I30 J30 D30))))))))) ∧ (¬ (((xs l5.toNatClampNeg) &&& 31) = 14) → ((((xs l5.toNatClampNeg) &&& 31) = 15 → (vp_in (l5 + 1) L ∧ (vp_in (l5 + 2) L ∧ (∃ c31 s31, c31 ≤ bc ∧ s31 ≤ bs ∧ zz RO (d + 1) 231 [.ref 0, .int (xs ((l5 + 1).toNatClampNeg)), .int (xs ((l5 + 2).toNatClampNeg)), .ref 52] I J D c31 s31 (zNi P fun v31 I31 J31 D31 => (vp_in (l5 + 1) L ∧ (vp_in (l5 + 2) L ∧ (zz RO (d + 1) 214 [.ref 28, .int (xs ((l5 + 1).toNatClampNeg)), .int (xs ((l5 + 2).toNatClampNeg))] I31 J31 D31 0 0 (zNi P fun v32 I32 J32 D32 => (((zv_134 I32 J32) = v31 → ((¬ v31 = 0 → zw RO (d + 1) 235 P 28 [(0, .ref 99), (1, .ref 0), (2, .ref 28), (3, .ref 52), (4, .ref 53), (5, .int (l5 + 6))] [] I32 J32 D32 (bc - c31) (bs - s31)) ∧ (¬ (¬ v31 = 0) → (((J32 52 0) = v32.toInt64 → zw RO (d + 1) 235 P 28 [(0, .ref 99), (1, .ref 0), (2, .ref 28), (3, .ref 52), (4, .ref 53), (5, .int (l5 + 6))] [] I32 J32 D32 (bc - c31) (bs - s31)) ∧ (¬ ((J32 52 0) = v32.toInt64) → P (.inl (some (.int 0))) I32 J32 D32))))) ∧ (¬ ((zv_134 I32 J32) = v31) → P (.inl (some (.int 0))) I32 J32 D32))))))))))) ∧ (¬ (((xs l5.toNatClampNeg) &&& 31) = 15) → ((((xs l5.toNatClampNeg) &&& 31) = 16 → (vp_in (l5 + 1) L ∧ (vp_in (l5 + 2) L ∧ (∃ c33 s33, c33 ≤ bc ∧ s33 ≤ bs ∧ zz RO (d + 1) 232 [.ref 0, .int (xs ((l5 + 1).toNatClampNeg)), .int (xs ((l5 + 2).toNatClampNeg)), .ref 52] I J D c33 s33 (zNi P fun v33 I33 J33 D33 => (vp_in (l5 + 1) L ∧ (vp_in (l5 + 2) L ∧ (zz RO (d + 1) 215 [.ref 28, .int (xs ((l5 + 1).toNatClampNeg)), .int (xs ((l5 + 2).toNatClampNeg))] I33 J33 D33 0 0 (zNi P fun v34 I34 J34 D34 => (((zv_134 I34 J34) = v33 → ((¬ v33 = 0 → zw RO (d + 1) 235 P 28 [(0, .ref 99), (1, .ref 0), (2, .ref 28), (3, .ref 52), (4, .ref 53), (5, .int (l5 + 6))] [] I34 J34 D34 (bc - c33) (bs - s33)) ∧ (¬ (¬ v33 = 0) → (((J34 52 0) = v34.toInt64 → zw RO (d + 1) 235 P 28 [(0, .ref 99), (1, .ref 0), (2, .ref 28), (3, .ref 52), (4, .ref 53), (5, .int (l5 + 6))] [] I34 J34 D34 (bc - c33) (bs - s33)) ∧ (¬ ((J34 52 0) = v34.toInt64) → P (.inl (some (.int 0))) I34 J34 D34))))) ∧ (¬ ((zv_134 I34 J34) = v33) → P (.inl (some (.int 0))) I34 J34 D34))))))))))) ∧ (¬ (((xs l5.toNatClampNeg) &&& 31) = 16) → ((((xs l5.toNatClampNeg) &&& 31) = 17 → (vp_in (l5 + 1) L ∧ (∃ c35 s35, c35 ≤ bc ∧ s35 ≤ bs ∧ zz RO (d + 1) 233 [.ref 0, .int (xs ((l5 + 1).toNatClampNeg)), .ref 52] I J D c35 s35 (zNi P fun v35 I35 J35 D35 => (vp_in (l5 + 1) L ∧ (∃ c36 s36, c36 ≤ (bc - c35) ∧ s36 ≤ (bs - s35) ∧ zz RO (d + 1) 216 [.ref 28, .int (xs ((l5 + 1).toNatClampNeg))] I35 J35 D35 c36 s36 (zNi P fun v36 I36 J36 D36 => (((zv_134 I36 J36) = v35 → ((¬ v35 = 0 → zw RO (d + 1) 235 P 28 [(0, .ref 99), (1, .ref 0), (2, .ref 28), (3, .ref 52), (4, .ref 53), (5, .int (l5 + 6))] [] I36 J36 D36 ((bc - c35) - c36) ((bs - s35) - s36)) ∧ (¬ (¬ v35 = 0) → (((J36 52 0) = v36.toInt64 → zw RO (d + 1) 235 P 28 [(0, .ref 99), (1, .ref 0), (2, .ref 28), (3, .ref 52), (4, .ref 53), (5, .int (l5 + 6))] [] I36 J36 D36 ((bc - c35) - c36) ((bs - s35) - s36)) ∧ (¬ ((J36 52 0) = v36.toInt64) → P (.inl (some (.int 0))) I36 J36 D36))))) ∧ (¬ ((zv_134 I36 J36) = v35) → P (.inl (some (.int 0))) I36 J36 D36))))))))) ∧ (¬ (((xs l5.toNatClampNeg) &&& 31) = 17) → ((((xs l5.toNatClampNeg) &&& 31) = 18 → (zz RO (d + 1) 217 [.ref 28] I J D 0 0 (zNl P fun v37 I37 J37 D37 => (((zv_126 I J) = v37 → zw RO (d + 1) 235 P 28 [(0, .ref 99), (1, .ref 0), (2, .ref 28), (3, .ref 52), (4, .ref 53), (5, .int (l5 + 6))] [] I37 J37 D37 bc bs) ∧ (¬ ((zv_126 I J) = v37) → P (.inl (some (.int 0))) I37 J37 D37))))) ∧ (¬ (((xs l5.toNatClampNeg) &&& 31) = 18) → ((((xs l5.toNatClampNeg) &&& 31) = 19 → (vp_in (l5 + 1) L ∧ (∃ c38 s38, c38 ≤ bc ∧ s38 ≤ bs ∧ zz RO (d + 1) 234 [.ref 0, .int (xs ((l5 + 1).toNatClampNeg)), .ref 53] I J D c38 s38 (zNi P fun v38 I38 J38 D38 => (vp_in (l5 + 1) L ∧ (zz RO (d + 1) 218 [.ref 28, .int (xs ((l5 + 1).toNatClampNeg))] I38 J38 D38 0 0 (zNd P fun v39 I39 J39 D39 => (((zv_134 I39 J39) = v38 → ((¬ v38 = 0 → zw RO (d + 1) 235 P 28 [(0, .ref 99), (1, .ref 0), (2, .ref 28), (3, .ref 52), (4, .ref 53), (5, .int (l5 + 6))] [] I39 J39 D39 (bc - c38) (bs - s38)) ∧ (¬ (¬ v38 = 0) → (((Op.cmpValue (FP.dcmp (D39 53 0) v39) .l) = 0 → zw RO (d + 1) 235 P 28 [(0, .ref 99), (1, .ref 0), (2, .ref 28), (3, .ref 52), (4, .ref 53), (5, .int (l5 + 6))] [] I39 J39 D39 (bc - c38) (bs - s38)) ∧ (¬ ((Op.cmpValue (FP.dcmp (D39 53 0) v39) .l) = 0) → (((Op.cmpValue (FP.dcmp (D39 53 0) (D39 53 0)) .l) = 0 → P (.inl (some (.int 0))) I39 J39 D39) ∧ (¬ ((Op.cmpValue (FP.dcmp (D39 53 0) (D39 53 0)) .l) = 0) → ((¬ (Op.cmpValue (FP.dcmp v39 v39) .l) = 0 → zw RO (d + 1) 235 P 28 [(0, .ref 99), (1, .ref 0), (2, .ref 28), (3, .ref 52), (4, .ref 53), (5, .int (l5 + 6))] [] I39 J39 D39 (bc - c38) (bs - s38)) ∧ (¬ (¬ (Op.cmpValue (FP.dcmp v39 v39) .l) = 0) → P (.inl (some (.int 0))) I39 J39 D39))))))))) ∧ (¬ ((zv_134 I39 J39) = v38) → P (.inl (some (.int 0))) I39 J39 D39))))))))) ∧ (¬ (((xs l5.toNatClampNeg) &&& 31) = 19) → ((((xs l5.toNatClampNeg) &&& 31) = 20 → (zz RO (d + 1) 128 [.ref 0] I J D 0 0 (zNl P fun v40 I40 J40 D40 => (zz RO (d + 1) 219 [.ref 28] I40 J40 D40 0 0 (zNl P fun v41 I41 J41 D41 => ((v40 = v41 → zw RO (d + 1) 235 P 28 [(0, .ref 99), (1, .ref 0), (2, .ref 28), (3, .ref 52), (4, .ref 53), (5, .int (l5 + 6))] [] I41 J41 D41 bc bs) ∧ (¬ (v40 = v41) → P (.inl (some (.int 0))) I41 J41 D41))))))) ∧ (¬ (((xs l5.toNatClampNeg) &&& 31) = 20) → zw RO (d + 1) 235 P 28 [(0, .ref 99), (1, .ref 0), (2, .ref 28), (3, .ref 52), (4, .ref 53), (5, .int (l5 + 6))] [] I J D bc bs)))))))))))))))))))))))))))))))))))))))))))))) : zw RO (d + 1) 235 P 28 [(0, .ref 99), (1, .ref 0), (2, .ref 28), (3, .ref 52), (4, .ref 53), (5, .int l5)] [] I J D bc bs := by
  refine zr_iload zSm 16 rfl rfl ?_
  refine zr_aload_n zSm 17 rfl rfl ?_
  refine zr_salen zSm 18 (Int32.ofNat L) rfl hL rfl ?_
  refine zr_bipush zSm 19 6 rfl rfl ?_
  refine zr_s zSm 20 rfl rfl ?_
  refine zr_ic zSm 21 1278 rfl rfl (fun q1 => ?_) (fun q1 => ?_)
  · have h := h.1 q1
    refine zr_s zSm 755 rfl rfl ?_
    refine zr_iret zSm 756 rfl rfl rfl ?_
    exact h
  · have h := h.2 q1
    refine zr_aload_n zSm 22 rfl rfl ?_
    refine zr_iload zSm 23 rfl rfl ?_
    obtain ⟨b24, h⟩ := h
    refine zr_sald zSm 24 rfl hL b24 ?_
    refine zr_bipush zSm 25 31 rfl rfl ?_
    refine zr_s zSm 26 rfl rfl ?_
    by_cases q2 : ((xs l5.toNatClampNeg) &&& 31) = 0
    · have h := h.1 q2
      refine zr_tsG 27 144 [0] rfl (by simp only [List.mem_cons, List.not_mem_nil, or_false]; exact q2) (by decide) ?_
      refine zr_aload_n zSm 28 rfl rfl ?_
      refine zr_aload_n zSm 29 rfl rfl ?_
      refine zr_iload zSm 30 rfl rfl ?_
      refine zr_s zSm 31 rfl rfl ?_
      refine zr_s zSm 32 rfl rfl ?_
      obtain ⟨b33, h⟩ := h
      refine zr_sald zSm 33 rfl hL b33 ?_
      refine zr_aload_n zSm 34 rfl rfl ?_
      refine zr_iload zSm 35 rfl rfl ?_
      refine zr_s zSm 36 rfl rfl ?_
      refine zr_s zSm 37 rfl rfl ?_
      obtain ⟨b38, h⟩ := h
      refine zr_sald zSm 38 rfl hL b38 ?_
      refine zr_aload_n zSm 39 rfl rfl ?_
      refine zr_iload zSm 40 rfl rfl ?_
      refine zr_s zSm 41 rfl rfl ?_
      refine zr_s zSm 42 rfl rfl ?_
      obtain ⟨b43, h⟩ := h
      refine zr_sald zSm 43 rfl hL b43 ?_
      refine zr_aload_n zSm 44 rfl rfl ?_
      refine zr_iload zSm 45 rfl rfl ?_
      refine zr_s zSm 46 rfl rfl ?_
      refine zr_s zSm 47 rfl rfl ?_
      obtain ⟨b48, h⟩ := h
      refine zr_sald zSm 48 rfl hL b48 ?_
      refine zr_aload_n zSm 49 rfl rfl ?_
      refine zr_iload zSm 50 rfl rfl ?_
      refine zr_s zSm 51 rfl rfl ?_
      refine zr_s zSm 52 rfl rfl ?_
      obtain ⟨b53, h⟩ := h
      refine zr_sald zSm 53 rfl hL b53 ?_
      refine zr_aload_n zSm 54 rfl rfl ?_
      obtain ⟨c1, s1, g1, f1, h⟩ := h
      refine zr_callS 55 220 7 c1 s1 [.ref 0, .int (xs ((l5 + 1).toNatClampNeg)), .int (xs ((l5 + 2).toNatClampNeg)), .int (xs ((l5 + 3).toNatClampNeg)), .int (xs ((l5 + 4).toNatClampNeg)), .int (xs ((l5 + 5).toNatClampNeg)), .ref 52] rfl rfl zk_L_71 zmw_220 zmt_220 rfl (Nat.le_of_ble_eq_true rfl) g1 f1 ?_
      refine zci h (fun v1 I1 J1 D1 h => ?_)
      refine zr_istore zSm 56 (ll' := [(6, .int v1), (0, .ref 99), (1, .ref 0), (2, .ref 28), (3, .ref 52), (4, .ref 53), (5, .int l5)]) rfl (by decide) rfl ?_
      refine zr_aload_n zSm 57 rfl rfl ?_
      refine zr_aload_n zSm 58 rfl rfl ?_
      refine zr_iload zSm 59 rfl rfl ?_
      refine zr_s zSm 60 rfl rfl ?_
      refine zr_s zSm 61 rfl rfl ?_
      obtain ⟨b62, h⟩ := h
      refine zr_sald zSm 62 rfl hL b62 ?_
      refine zr_aload_n zSm 63 rfl rfl ?_
      refine zr_iload zSm 64 rfl rfl ?_
      refine zr_s zSm 65 rfl rfl ?_
      refine zr_s zSm 66 rfl rfl ?_
      obtain ⟨b67, h⟩ := h
      refine zr_sald zSm 67 rfl hL b67 ?_
      refine zr_aload_n zSm 68 rfl rfl ?_
      refine zr_iload zSm 69 rfl rfl ?_
      refine zr_s zSm 70 rfl rfl ?_
      refine zr_s zSm 71 rfl rfl ?_
      obtain ⟨b72, h⟩ := h
      refine zr_sald zSm 72 rfl hL b72 ?_
      refine zr_aload_n zSm 73 rfl rfl ?_
      refine zr_iload zSm 74 rfl rfl ?_
      refine zr_s zSm 75 rfl rfl ?_
      refine zr_s zSm 76 rfl rfl ?_
      obtain ⟨b77, h⟩ := h
      refine zr_sald zSm 77 rfl hL b77 ?_
      refine zr_aload_n zSm 78 rfl rfl ?_
      refine zr_iload zSm 79 rfl rfl ?_
      refine zr_s zSm 80 rfl rfl ?_
      refine zr_s zSm 81 rfl rfl ?_
      obtain ⟨b82, h⟩ := h
      refine zr_sald zSm 82 rfl hL b82 ?_
      refine zr_inv0 83 138 5 [.int (xs ((l5 + 1).toNatClampNeg)), .int (xs ((l5 + 2).toNatClampNeg)), .int (xs ((l5 + 3).toNatClampNeg)), .int (xs ((l5 + 4).toNatClampNeg)), .int (xs ((l5 + 5).toNatClampNeg))] rfl rfl zk_L_76 zms_138 rfl ⟨_, _, _, _, rfl, rfl⟩ (Nat.le_of_ble_eq_true rfl) ?_
      refine zci h (fun v2 I2 J2 D2 h => ?_)
      refine zr_istore zSm 84 (ll' := [(7, .int v2), (6, .int v1), (0, .ref 99), (1, .ref 0), (2, .ref 28), (3, .ref 52), (4, .ref 53), (5, .int l5)]) rfl (by decide) rfl ?_
      refine zr_aload_n zSm 85 rfl rfl ?_
      refine zr_inv0 86 134 0 [] rfl rfl zk_L_77 zms_134 rfl ⟨_, _, _, _, rfl, rfl⟩ (Nat.le_of_ble_eq_true rfl) ?_
      refine ze_134 ?_
      refine zNx_i ?_
      refine zr_iload zSm 87 rfl rfl ?_
      refine zr_ic zSm 88 228 rfl rfl (fun q3 => ?_) (fun q3 => ?_)
      · have h := h.1 q3
        refine zr_iload zSm 91 rfl rfl ?_
        refine zr_if zSm 92 245 rfl rfl (fun q4 => ?_) (fun q4 => ?_)
        · have h := h.1 q4
          refine zr_goto zSm 102 1272 rfl rfl ?_
          refine zr_iinc zSm 753 (v := l5 + 6) (ll' := [(5, .int (l5 + 6)), (7, .int v2), (6, .int v1), (0, .ref 99), (1, .ref 0), (2, .ref 28), (3, .ref 52), (4, .ref 53)]) rfl rfl (by decide) rfl rfl ?_
          refine zr_goto zSm 754 28 rfl rfl ?_
          refine zr_sub [3, 4, 5, 6, 7, 0] rfl ?_
          exact h
        · have h := h.2 q4
          refine zr_aload_n zSm 93 rfl rfl ?_
          refine zr_s zSm 94 rfl rfl ?_
          refine zr_lald zSm 95 rfl rfl (zin_lit (by decide) (by decide)) ?_
          refine zr_iload zSm 96 rfl rfl ?_
          refine zr_s zSm 97 rfl rfl ?_
          refine zr_s zSm 98 rfl rfl ?_
          refine zr_if zSm 99 245 rfl rfl (fun q5 => ?_) (fun q5 => ?_)
          · have q5 := zq_eq.mp q5
            have h := h.1 q5
            refine zr_goto zSm 102 1272 rfl rfl ?_
            refine zr_iinc zSm 753 (v := l5 + 6) (ll' := [(5, .int (l5 + 6)), (7, .int v2), (6, .int v1), (0, .ref 99), (1, .ref 0), (2, .ref 28), (3, .ref 52), (4, .ref 53)]) rfl rfl (by decide) rfl rfl ?_
            refine zr_goto zSm 754 28 rfl rfl ?_
            refine zr_sub [3, 4, 5, 6, 7, 0] rfl ?_
            exact h
          · have q5 := (fun z => q5 (zq_eq.mpr z))
            have h := h.2 q5
            refine zr_s zSm 100 rfl rfl ?_
            refine zr_iret zSm 101 rfl rfl rfl ?_
            exact h
      · have h := h.2 q3
        refine zr_s zSm 89 rfl rfl ?_
        refine zr_iret zSm 90 rfl rfl rfl ?_
        exact h
    · have h := h.2 q2
      by_cases q6 : ((xs l5.toNatClampNeg) &&& 31) = 1
      · have h := h.1 q6
        refine zr_tsG 27 248 [1] rfl (by simp only [List.mem_cons, List.not_mem_nil, or_false]; exact q6) (by decide) ?_
        refine zr_aload_n zSm 103 rfl rfl ?_
        refine zr_aload_n zSm 104 rfl rfl ?_
        refine zr_iload zSm 105 rfl rfl ?_
        refine zr_s zSm 106 rfl rfl ?_
        refine zr_s zSm 107 rfl rfl ?_
        obtain ⟨b108, h⟩ := h
        refine zr_sald zSm 108 rfl hL b108 ?_
        refine zr_aload_n zSm 109 rfl rfl ?_
        obtain ⟨c3, s3, g3, f3, h⟩ := h
        refine zr_callS 110 221 3 c3 s3 [.ref 0, .int (xs ((l5 + 1).toNatClampNeg)), .ref 52] rfl rfl zk_L_80 zmw_221 zmt_221 rfl (Nat.le_of_ble_eq_true rfl) g3 f3 ?_
        refine zci h (fun v3 I3 J3 D3 h => ?_)
        refine zr_istore zSm 111 (ll' := [(6, .int v3), (0, .ref 99), (1, .ref 0), (2, .ref 28), (3, .ref 52), (4, .ref 53), (5, .int l5)]) rfl (by decide) rfl ?_
        refine zr_aload_n zSm 112 rfl rfl ?_
        refine zr_aload_n zSm 113 rfl rfl ?_
        refine zr_iload zSm 114 rfl rfl ?_
        refine zr_s zSm 115 rfl rfl ?_
        refine zr_s zSm 116 rfl rfl ?_
        obtain ⟨b117, h⟩ := h
        refine zr_sald zSm 117 rfl hL b117 ?_
        refine zr_inv0 118 140 1 [.int (xs ((l5 + 1).toNatClampNeg))] rfl rfl zk_L_83 zms_140 rfl ⟨_, _, _, _, rfl, rfl⟩ (Nat.le_of_ble_eq_true rfl) ?_
        refine zci h (fun v4 I4 J4 D4 h => ?_)
        refine zr_istore zSm 119 (ll' := [(7, .int v4), (6, .int v3), (0, .ref 99), (1, .ref 0), (2, .ref 28), (3, .ref 52), (4, .ref 53), (5, .int l5)]) rfl (by decide) rfl ?_
        refine zr_aload_n zSm 120 rfl rfl ?_
        refine zr_inv0 121 134 0 [] rfl rfl zk_L_77 zms_134 rfl ⟨_, _, _, _, rfl, rfl⟩ (Nat.le_of_ble_eq_true rfl) ?_
        refine ze_134 ?_
        refine zNx_i ?_
        refine zr_iload zSm 122 rfl rfl ?_
        refine zr_ic zSm 123 284 rfl rfl (fun q7 => ?_) (fun q7 => ?_)
        · have h := h.1 q7
          refine zr_iload zSm 126 rfl rfl ?_
          refine zr_if zSm 127 301 rfl rfl (fun q8 => ?_) (fun q8 => ?_)
          · have h := h.1 q8
            refine zr_goto zSm 137 1272 rfl rfl ?_
            refine zr_iinc zSm 753 (v := l5 + 6) (ll' := [(5, .int (l5 + 6)), (7, .int v4), (6, .int v3), (0, .ref 99), (1, .ref 0), (2, .ref 28), (3, .ref 52), (4, .ref 53)]) rfl rfl (by decide) rfl rfl ?_
            refine zr_goto zSm 754 28 rfl rfl ?_
            refine zr_sub [3, 4, 5, 6, 7, 0] rfl ?_
            exact h
          · have h := h.2 q8
            refine zr_aload_n zSm 128 rfl rfl ?_
            refine zr_s zSm 129 rfl rfl ?_
            refine zr_lald zSm 130 rfl rfl (zin_lit (by decide) (by decide)) ?_
            refine zr_iload zSm 131 rfl rfl ?_
            refine zr_s zSm 132 rfl rfl ?_
            refine zr_s zSm 133 rfl rfl ?_
            refine zr_if zSm 134 301 rfl rfl (fun q9 => ?_) (fun q9 => ?_)
            · have q9 := zq_eq.mp q9
              have h := h.1 q9
              refine zr_goto zSm 137 1272 rfl rfl ?_
              refine zr_iinc zSm 753 (v := l5 + 6) (ll' := [(5, .int (l5 + 6)), (7, .int v4), (6, .int v3), (0, .ref 99), (1, .ref 0), (2, .ref 28), (3, .ref 52), (4, .ref 53)]) rfl rfl (by decide) rfl rfl ?_
              refine zr_goto zSm 754 28 rfl rfl ?_
              refine zr_sub [3, 4, 5, 6, 7, 0] rfl ?_
              exact h
            · have q9 := (fun z => q9 (zq_eq.mpr z))
              have h := h.2 q9
              refine zr_s zSm 135 rfl rfl ?_
              refine zr_iret zSm 136 rfl rfl rfl ?_
              exact h
        · have h := h.2 q7
          refine zr_s zSm 124 rfl rfl ?_
          refine zr_iret zSm 125 rfl rfl rfl ?_
          exact h
      · have h := h.2 q6
        by_cases q10 : ((xs l5.toNatClampNeg) &&& 31) = 2
        · have h := h.1 q10
          refine zr_tsG 27 304 [2] rfl (by simp only [List.mem_cons, List.not_mem_nil, or_false]; exact q10) (by decide) ?_
          refine zr_aload_n zSm 138 rfl rfl ?_
          refine zr_inv0 139 109 0 [] rfl rfl zk_L_84 zms_109 rfl ⟨_, _, _, _, rfl, rfl⟩ (Nat.le_of_ble_eq_true rfl) ?_
          refine zci h (fun v5 I5 J5 D5 h => ?_)
          refine zr_aload_n zSm 140 rfl rfl ?_
          obtain ⟨c6, s6, g6, f6, h⟩ := h
          refine zr_callX 141 177 0 c6 s6 [] rfl rfl zk_L_87 zmw_177 zmt_177 zsl_177 rfl ⟨_, _, _, _, rfl, rfl⟩ (Nat.le_of_ble_eq_true rfl) g6 f6 ?_
          refine zci h (fun v6 I6 J6 D6 h => ?_)
          refine zr_ic zSm 142 1272 rfl rfl (fun q11 => ?_) (fun q11 => ?_)
          · have h := h.1 q11
            refine zr_iinc zSm 753 (v := l5 + 6) (ll' := [(5, .int (l5 + 6)), (0, .ref 99), (1, .ref 0), (2, .ref 28), (3, .ref 52), (4, .ref 53)]) rfl rfl (by decide) rfl rfl ?_
            refine zr_goto zSm 754 28 rfl rfl ?_
            refine zr_sub [1, 2, 3, 4, 5, 0] rfl ?_
            exact h
          · have h := h.2 q11
            refine zr_s zSm 143 rfl rfl ?_
            refine zr_iret zSm 144 rfl rfl rfl ?_
            exact h
        · have h := h.2 q10
          by_cases q12 : ((xs l5.toNatClampNeg) &&& 31) = 3
          · have h := h.1 q12
            refine zr_tsG 27 317 [3] rfl (by simp only [List.mem_cons, List.not_mem_nil, or_false]; exact q12) (by decide) ?_
            refine zr_aload_n zSm 145 rfl rfl ?_
            refine zr_inv0 146 110 0 [] rfl rfl zk_L_88 zms_110 rfl ⟨_, _, _, _, rfl, rfl⟩ (Nat.le_of_ble_eq_true rfl) ?_
            refine ze_110 ?_
            refine zNx_i ?_
            refine zr_aload_n zSm 147 rfl rfl ?_
            refine zr_inv0 148 178 0 [] rfl rfl zk_L_91 zms_178 rfl ⟨_, _, _, _, rfl, rfl⟩ (Nat.le_of_ble_eq_true rfl) ?_
            refine zci h (fun v7 I7 J7 D7 h => ?_)
            refine zr_ic zSm 149 1272 rfl rfl (fun q13 => ?_) (fun q13 => ?_)
            · have h := h.1 q13
              refine zr_iinc zSm 753 (v := l5 + 6) (ll' := [(5, .int (l5 + 6)), (0, .ref 99), (1, .ref 0), (2, .ref 28), (3, .ref 52), (4, .ref 53)]) rfl rfl (by decide) rfl rfl ?_
              refine zr_goto zSm 754 28 rfl rfl ?_
              refine zr_sub [1, 2, 3, 4, 5, 0] rfl ?_
              exact h
            · have h := h.2 q13
              refine zr_s zSm 150 rfl rfl ?_
              refine zr_iret zSm 151 rfl rfl rfl ?_
              exact h
          · have h := h.2 q12
            by_cases q14 : ((xs l5.toNatClampNeg) &&& 31) = 4
            · have h := h.1 q14
              refine zr_tsG 27 330 [4] rfl (by simp only [List.mem_cons, List.not_mem_nil, or_false]; exact q14) (by decide) ?_
              refine zr_aload_n zSm 152 rfl rfl ?_
              refine zr_aload_n zSm 153 rfl rfl ?_
              refine zr_iload zSm 154 rfl rfl ?_
              refine zr_s zSm 155 rfl rfl ?_
              refine zr_s zSm 156 rfl rfl ?_
              obtain ⟨b157, h⟩ := h
              refine zr_sald zSm 157 rfl hL b157 ?_
              refine zr_aload_n zSm 158 rfl rfl ?_
              obtain ⟨c8, s8, g8, f8, h⟩ := h
              refine zr_callS 159 222 3 c8 s8 [.ref 0, .int (xs ((l5 + 1).toNatClampNeg)), .ref 52] rfl rfl zk_L_92 zmw_222 zmt_222 rfl (Nat.le_of_ble_eq_true rfl) g8 f8 ?_
              refine zci h (fun v8 I8 J8 D8 h => ?_)
              refine zr_istore zSm 160 (ll' := [(6, .int v8), (0, .ref 99), (1, .ref 0), (2, .ref 28), (3, .ref 52), (4, .ref 53), (5, .int l5)]) rfl (by decide) rfl ?_
              refine zr_aload_n zSm 161 rfl rfl ?_
              refine zr_aload_n zSm 162 rfl rfl ?_
              refine zr_iload zSm 163 rfl rfl ?_
              refine zr_s zSm 164 rfl rfl ?_
              refine zr_s zSm 165 rfl rfl ?_
              obtain ⟨b166, h⟩ := h
              refine zr_sald zSm 166 rfl hL b166 ?_
              refine zr_inv0 167 207 1 [.int (xs ((l5 + 1).toNatClampNeg))] rfl rfl zk_L_94 zms_207 rfl ⟨_, _, _, _, rfl, rfl⟩ (Nat.le_of_ble_eq_true rfl) ?_
              refine zci h (fun v9 I9 J9 D9 h => ?_)
              refine zr_istore zSm 168 (ll' := [(7, .int v9), (6, .int v8), (0, .ref 99), (1, .ref 0), (2, .ref 28), (3, .ref 52), (4, .ref 53), (5, .int l5)]) rfl (by decide) rfl ?_
              refine zr_aload_n zSm 169 rfl rfl ?_
              refine zr_inv0 170 134 0 [] rfl rfl zk_L_77 zms_134 rfl ⟨_, _, _, _, rfl, rfl⟩ (Nat.le_of_ble_eq_true rfl) ?_
              refine ze_134 ?_
              refine zNx_i ?_
              refine zr_iload zSm 171 rfl rfl ?_
              refine zr_ic zSm 172 366 rfl rfl (fun q15 => ?_) (fun q15 => ?_)
              · have h := h.1 q15
                refine zr_iload zSm 175 rfl rfl ?_
                refine zr_if zSm 176 383 rfl rfl (fun q16 => ?_) (fun q16 => ?_)
                · have h := h.1 q16
                  refine zr_goto zSm 186 1272 rfl rfl ?_
                  refine zr_iinc zSm 753 (v := l5 + 6) (ll' := [(5, .int (l5 + 6)), (7, .int v9), (6, .int v8), (0, .ref 99), (1, .ref 0), (2, .ref 28), (3, .ref 52), (4, .ref 53)]) rfl rfl (by decide) rfl rfl ?_
                  refine zr_goto zSm 754 28 rfl rfl ?_
                  refine zr_sub [3, 4, 5, 6, 7, 0] rfl ?_
                  exact h
                · have h := h.2 q16
                  refine zr_aload_n zSm 177 rfl rfl ?_
                  refine zr_s zSm 178 rfl rfl ?_
                  refine zr_lald zSm 179 rfl rfl (zin_lit (by decide) (by decide)) ?_
                  refine zr_iload zSm 180 rfl rfl ?_
                  refine zr_s zSm 181 rfl rfl ?_
                  refine zr_s zSm 182 rfl rfl ?_
                  refine zr_if zSm 183 383 rfl rfl (fun q17 => ?_) (fun q17 => ?_)
                  · have q17 := zq_eq.mp q17
                    have h := h.1 q17
                    refine zr_goto zSm 186 1272 rfl rfl ?_
                    refine zr_iinc zSm 753 (v := l5 + 6) (ll' := [(5, .int (l5 + 6)), (7, .int v9), (6, .int v8), (0, .ref 99), (1, .ref 0), (2, .ref 28), (3, .ref 52), (4, .ref 53)]) rfl rfl (by decide) rfl rfl ?_
                    refine zr_goto zSm 754 28 rfl rfl ?_
                    refine zr_sub [3, 4, 5, 6, 7, 0] rfl ?_
                    exact h
                  · have q17 := (fun z => q17 (zq_eq.mpr z))
                    have h := h.2 q17
                    refine zr_s zSm 184 rfl rfl ?_
                    refine zr_iret zSm 185 rfl rfl rfl ?_
                    exact h
              · have h := h.2 q15
                refine zr_s zSm 173 rfl rfl ?_
                refine zr_iret zSm 174 rfl rfl rfl ?_
                exact h
            · have h := h.2 q14
              by_cases q18 : ((xs l5.toNatClampNeg) &&& 31) = 5
              · have h := h.1 q18
                refine zr_tsG 27 386 [5] rfl (by simp only [List.mem_cons, List.not_mem_nil, or_false]; exact q18) (by decide) ?_
                refine zr_aload_n zSm 187 rfl rfl ?_
                refine zr_aload_n zSm 188 rfl rfl ?_
                refine zr_iload zSm 189 rfl rfl ?_
                refine zr_s zSm 190 rfl rfl ?_
                refine zr_s zSm 191 rfl rfl ?_
                obtain ⟨b192, h⟩ := h
                refine zr_sald zSm 192 rfl hL b192 ?_
                refine zr_aload_n zSm 193 rfl rfl ?_
                refine zr_iload zSm 194 rfl rfl ?_
                refine zr_s zSm 195 rfl rfl ?_
                refine zr_s zSm 196 rfl rfl ?_
                obtain ⟨b197, h⟩ := h
                refine zr_sald zSm 197 rfl hL b197 ?_
                refine zr_s zSm 198 rfl rfl ?_
                refine zr_bipush zSm 199 32 rfl rfl ?_
                refine zr_s zSm 200 rfl rfl ?_
                refine zr_aload_n zSm 201 rfl rfl ?_
                refine zr_iload zSm 202 rfl rfl ?_
                refine zr_s zSm 203 rfl rfl ?_
                refine zr_s zSm 204 rfl rfl ?_
                obtain ⟨b205, h⟩ := h
                refine zr_sald zSm 205 rfl hL b205 ?_
                refine zr_s zSm 206 rfl rfl ?_
                refine zr_ldc2 zSm 207 rfl zc_L_95 ?_
                refine zr_s zSm 208 rfl rfl ?_
                refine zr_s zSm 209 rfl rfl ?_
                refine zr_aload_n zSm 210 rfl rfl ?_
                obtain ⟨c10, s10, g10, f10, h⟩ := h
                refine zr_callS 211 223 4 c10 s10 [.ref 0, .int (xs ((l5 + 1).toNatClampNeg)), .long ((((xs ((l5 + 2).toNatClampNeg)).toInt64) <<< ((32 : Int32).toInt64 &&& 63)) ||| (((xs ((l5 + 3).toNatClampNeg)).toInt64) &&& 4294967295)), .ref 52] rfl rfl zk_L_97 zmw_223 zmt_223 rfl (Nat.le_of_ble_eq_true rfl) g10 f10 ?_
                refine zci h (fun v10 I10 J10 D10 h => ?_)
                refine zr_istore zSm 212 (ll' := [(6, .int v10), (0, .ref 99), (1, .ref 0), (2, .ref 28), (3, .ref 52), (4, .ref 53), (5, .int l5)]) rfl (by decide) rfl ?_
                refine zr_aload_n zSm 213 rfl rfl ?_
                refine zr_aload_n zSm 214 rfl rfl ?_
                refine zr_iload zSm 215 rfl rfl ?_
                refine zr_s zSm 216 rfl rfl ?_
                refine zr_s zSm 217 rfl rfl ?_
                obtain ⟨b218, h⟩ := h
                refine zr_sald zSm 218 rfl hL b218 ?_
                refine zr_aload_n zSm 219 rfl rfl ?_
                refine zr_iload zSm 220 rfl rfl ?_
                refine zr_s zSm 221 rfl rfl ?_
                refine zr_s zSm 222 rfl rfl ?_
                obtain ⟨b223, h⟩ := h
                refine zr_sald zSm 223 rfl hL b223 ?_
                refine zr_s zSm 224 rfl rfl ?_
                refine zr_bipush zSm 225 32 rfl rfl ?_
                refine zr_s zSm 226 rfl rfl ?_
                refine zr_aload_n zSm 227 rfl rfl ?_
                refine zr_iload zSm 228 rfl rfl ?_
                refine zr_s zSm 229 rfl rfl ?_
                refine zr_s zSm 230 rfl rfl ?_
                obtain ⟨b231, h⟩ := h
                refine zr_sald zSm 231 rfl hL b231 ?_
                refine zr_s zSm 232 rfl rfl ?_
                refine zr_ldc2 zSm 233 rfl zc_L_95 ?_
                refine zr_s zSm 234 rfl rfl ?_
                refine zr_s zSm 235 rfl rfl ?_
                refine zr_inv0 236 197 2 [.int (xs ((l5 + 1).toNatClampNeg)), .long ((((xs ((l5 + 2).toNatClampNeg)).toInt64) <<< ((32 : Int32).toInt64 &&& 63)) ||| (((xs ((l5 + 3).toNatClampNeg)).toInt64) &&& 4294967295))] rfl rfl zk_L_100 zms_197 rfl ⟨_, _, _, _, rfl, rfl⟩ (Nat.le_of_ble_eq_true rfl) ?_
                refine zci h (fun v11 I11 J11 D11 h => ?_)
                refine zr_istore zSm 237 (ll' := [(7, .int v11), (6, .int v10), (0, .ref 99), (1, .ref 0), (2, .ref 28), (3, .ref 52), (4, .ref 53), (5, .int l5)]) rfl (by decide) rfl ?_
                refine zr_aload_n zSm 238 rfl rfl ?_
                refine zr_inv0 239 134 0 [] rfl rfl zk_L_77 zms_134 rfl ⟨_, _, _, _, rfl, rfl⟩ (Nat.le_of_ble_eq_true rfl) ?_
                refine ze_134 ?_
                refine zNx_i ?_
                refine zr_iload zSm 240 rfl rfl ?_
                refine zr_ic zSm 241 466 rfl rfl (fun q19 => ?_) (fun q19 => ?_)
                · have h := h.1 q19
                  refine zr_iload zSm 244 rfl rfl ?_
                  refine zr_if zSm 245 483 rfl rfl (fun q20 => ?_) (fun q20 => ?_)
                  · have h := h.1 q20
                    refine zr_goto zSm 255 1272 rfl rfl ?_
                    refine zr_iinc zSm 753 (v := l5 + 6) (ll' := [(5, .int (l5 + 6)), (7, .int v11), (6, .int v10), (0, .ref 99), (1, .ref 0), (2, .ref 28), (3, .ref 52), (4, .ref 53)]) rfl rfl (by decide) rfl rfl ?_
                    refine zr_goto zSm 754 28 rfl rfl ?_
                    refine zr_sub [3, 4, 5, 6, 7, 0] rfl ?_
                    exact h
                  · have h := h.2 q20
                    refine zr_aload_n zSm 246 rfl rfl ?_
                    refine zr_s zSm 247 rfl rfl ?_
                    refine zr_lald zSm 248 rfl rfl (zin_lit (by decide) (by decide)) ?_
                    refine zr_iload zSm 249 rfl rfl ?_
                    refine zr_s zSm 250 rfl rfl ?_
                    refine zr_s zSm 251 rfl rfl ?_
                    refine zr_if zSm 252 483 rfl rfl (fun q21 => ?_) (fun q21 => ?_)
                    · have q21 := zq_eq.mp q21
                      have h := h.1 q21
                      refine zr_goto zSm 255 1272 rfl rfl ?_
                      refine zr_iinc zSm 753 (v := l5 + 6) (ll' := [(5, .int (l5 + 6)), (7, .int v11), (6, .int v10), (0, .ref 99), (1, .ref 0), (2, .ref 28), (3, .ref 52), (4, .ref 53)]) rfl rfl (by decide) rfl rfl ?_
                      refine zr_goto zSm 754 28 rfl rfl ?_
                      refine zr_sub [3, 4, 5, 6, 7, 0] rfl ?_
                      exact h
                    · have q21 := (fun z => q21 (zq_eq.mpr z))
                      have h := h.2 q21
                      refine zr_s zSm 253 rfl rfl ?_
                      refine zr_iret zSm 254 rfl rfl rfl ?_
                      exact h
                · have h := h.2 q19
                  refine zr_s zSm 242 rfl rfl ?_
                  refine zr_iret zSm 243 rfl rfl rfl ?_
                  exact h
              · have h := h.2 q18
                by_cases q22 : ((xs l5.toNatClampNeg) &&& 31) = 6
                · have h := h.1 q22
                  refine zr_tsG 27 486 [6] rfl (by simp only [List.mem_cons, List.not_mem_nil, or_false]; exact q22) (by decide) ?_
                  refine zr_aload_n zSm 256 rfl rfl ?_
                  refine zr_aload_n zSm 257 rfl rfl ?_
                  refine zr_iload zSm 258 rfl rfl ?_
                  refine zr_s zSm 259 rfl rfl ?_
                  refine zr_s zSm 260 rfl rfl ?_
                  obtain ⟨b261, h⟩ := h
                  refine zr_sald zSm 261 rfl hL b261 ?_
                  refine zr_aload_n zSm 262 rfl rfl ?_
                  refine zr_iload zSm 263 rfl rfl ?_
                  refine zr_s zSm 264 rfl rfl ?_
                  refine zr_s zSm 265 rfl rfl ?_
                  obtain ⟨b266, h⟩ := h
                  refine zr_sald zSm 266 rfl hL b266 ?_
                  refine zr_aload_n zSm 267 rfl rfl ?_
                  obtain ⟨c12, s12, g12, f12, h⟩ := h
                  refine zr_callS 268 224 4 c12 s12 [.ref 0, .int (xs ((l5 + 1).toNatClampNeg)), .int (xs ((l5 + 2).toNatClampNeg)), .ref 52] rfl rfl zk_L_101 zmw_224 zmt_224 rfl (Nat.le_of_ble_eq_true rfl) g12 f12 ?_
                  refine zci h (fun v12 I12 J12 D12 h => ?_)
                  refine zr_istore zSm 269 (ll' := [(6, .int v12), (0, .ref 99), (1, .ref 0), (2, .ref 28), (3, .ref 52), (4, .ref 53), (5, .int l5)]) rfl (by decide) rfl ?_
                  refine zr_aload_n zSm 270 rfl rfl ?_
                  refine zr_aload_n zSm 271 rfl rfl ?_
                  refine zr_iload zSm 272 rfl rfl ?_
                  refine zr_s zSm 273 rfl rfl ?_
                  refine zr_s zSm 274 rfl rfl ?_
                  obtain ⟨b275, h⟩ := h
                  refine zr_sald zSm 275 rfl hL b275 ?_
                  refine zr_aload_n zSm 276 rfl rfl ?_
                  refine zr_iload zSm 277 rfl rfl ?_
                  refine zr_s zSm 278 rfl rfl ?_
                  refine zr_s zSm 279 rfl rfl ?_
                  obtain ⟨b280, h⟩ := h
                  refine zr_sald zSm 280 rfl hL b280 ?_
                  obtain ⟨c13, s13, g13, f13, h⟩ := h
                  refine zr_inv zSm 281 201 2 c13 s13 [.int (xs ((l5 + 1).toNatClampNeg)), .int (xs ((l5 + 2).toNatClampNeg))] rfl rfl zk_L_104 zms_201 rfl ⟨_, _, _, _, rfl, rfl⟩ (Nat.le_of_ble_eq_true rfl) g13 f13 ?_
                  refine zci h (fun v13 I13 J13 D13 h => ?_)
                  refine zr_istore zSm 282 (ll' := [(7, .int v13), (6, .int v12), (0, .ref 99), (1, .ref 0), (2, .ref 28), (3, .ref 52), (4, .ref 53), (5, .int l5)]) rfl (by decide) rfl ?_
                  refine zr_aload_n zSm 283 rfl rfl ?_
                  refine zr_inv0 284 134 0 [] rfl rfl zk_L_77 zms_134 rfl ⟨_, _, _, _, rfl, rfl⟩ (Nat.le_of_ble_eq_true rfl) ?_
                  refine ze_134 ?_
                  refine zNx_i ?_
                  refine zr_iload zSm 285 rfl rfl ?_
                  refine zr_ic zSm 286 534 rfl rfl (fun q23 => ?_) (fun q23 => ?_)
                  · have h := h.1 q23
                    refine zr_iload zSm 289 rfl rfl ?_
                    refine zr_if zSm 290 551 rfl rfl (fun q24 => ?_) (fun q24 => ?_)
                    · have h := h.1 q24
                      refine zr_goto zSm 300 1272 rfl rfl ?_
                      refine zr_iinc zSm 753 (v := l5 + 6) (ll' := [(5, .int (l5 + 6)), (7, .int v13), (6, .int v12), (0, .ref 99), (1, .ref 0), (2, .ref 28), (3, .ref 52), (4, .ref 53)]) rfl rfl (by decide) rfl rfl ?_
                      refine zr_goto zSm 754 28 rfl rfl ?_
                      refine zr_sub [3, 4, 5, 6, 7, 0] rfl ?_
                      exact h
                    · have h := h.2 q24
                      refine zr_aload_n zSm 291 rfl rfl ?_
                      refine zr_s zSm 292 rfl rfl ?_
                      refine zr_lald zSm 293 rfl rfl (zin_lit (by decide) (by decide)) ?_
                      refine zr_iload zSm 294 rfl rfl ?_
                      refine zr_s zSm 295 rfl rfl ?_
                      refine zr_s zSm 296 rfl rfl ?_
                      refine zr_if zSm 297 551 rfl rfl (fun q25 => ?_) (fun q25 => ?_)
                      · have q25 := zq_eq.mp q25
                        have h := h.1 q25
                        refine zr_goto zSm 300 1272 rfl rfl ?_
                        refine zr_iinc zSm 753 (v := l5 + 6) (ll' := [(5, .int (l5 + 6)), (7, .int v13), (6, .int v12), (0, .ref 99), (1, .ref 0), (2, .ref 28), (3, .ref 52), (4, .ref 53)]) rfl rfl (by decide) rfl rfl ?_
                        refine zr_goto zSm 754 28 rfl rfl ?_
                        refine zr_sub [3, 4, 5, 6, 7, 0] rfl ?_
                        exact h
                      · have q25 := (fun z => q25 (zq_eq.mpr z))
                        have h := h.2 q25
                        refine zr_s zSm 298 rfl rfl ?_
                        refine zr_iret zSm 299 rfl rfl rfl ?_
                        exact h
                  · have h := h.2 q23
                    refine zr_s zSm 287 rfl rfl ?_
                    refine zr_iret zSm 288 rfl rfl rfl ?_
                    exact h
                · have h := h.2 q22
                  by_cases q26 : ((xs l5.toNatClampNeg) &&& 31) = 7
                  · have h := h.1 q26
                    refine zr_tsG 27 554 [7] rfl (by simp only [List.mem_cons, List.not_mem_nil, or_false]; exact q26) (by decide) ?_
                    refine zr_aload_n zSm 301 rfl rfl ?_
                    refine zr_aload_n zSm 302 rfl rfl ?_
                    refine zr_iload zSm 303 rfl rfl ?_
                    refine zr_s zSm 304 rfl rfl ?_
                    refine zr_s zSm 305 rfl rfl ?_
                    obtain ⟨b306, h⟩ := h
                    refine zr_sald zSm 306 rfl hL b306 ?_
                    refine zr_aload_n zSm 307 rfl rfl ?_
                    refine zr_iload zSm 308 rfl rfl ?_
                    refine zr_s zSm 309 rfl rfl ?_
                    refine zr_s zSm 310 rfl rfl ?_
                    obtain ⟨b311, h⟩ := h
                    refine zr_sald zSm 311 rfl hL b311 ?_
                    refine zr_aload_n zSm 312 rfl rfl ?_
                    obtain ⟨c14, s14, g14, f14, h⟩ := h
                    refine zr_callS 313 225 4 c14 s14 [.ref 0, .int (xs ((l5 + 1).toNatClampNeg)), .int (xs ((l5 + 2).toNatClampNeg)), .ref 52] rfl rfl zk_L_105 zmw_225 zmt_225 rfl (Nat.le_of_ble_eq_true rfl) g14 f14 ?_
                    refine zci h (fun v14 I14 J14 D14 h => ?_)
                    refine zr_istore zSm 314 (ll' := [(6, .int v14), (0, .ref 99), (1, .ref 0), (2, .ref 28), (3, .ref 52), (4, .ref 53), (5, .int l5)]) rfl (by decide) rfl ?_
                    refine zr_aload_n zSm 315 rfl rfl ?_
                    refine zr_aload_n zSm 316 rfl rfl ?_
                    refine zr_iload zSm 317 rfl rfl ?_
                    refine zr_s zSm 318 rfl rfl ?_
                    refine zr_s zSm 319 rfl rfl ?_
                    obtain ⟨b320, h⟩ := h
                    refine zr_sald zSm 320 rfl hL b320 ?_
                    refine zr_aload_n zSm 321 rfl rfl ?_
                    refine zr_iload zSm 322 rfl rfl ?_
                    refine zr_s zSm 323 rfl rfl ?_
                    refine zr_s zSm 324 rfl rfl ?_
                    obtain ⟨b325, h⟩ := h
                    refine zr_sald zSm 325 rfl hL b325 ?_
                    obtain ⟨c15, s15, g15, f15, h⟩ := h
                    refine zr_inv zSm 326 202 2 c15 s15 [.int (xs ((l5 + 1).toNatClampNeg)), .int (xs ((l5 + 2).toNatClampNeg))] rfl rfl zk_L_107 zms_202 rfl ⟨_, _, _, _, rfl, rfl⟩ (Nat.le_of_ble_eq_true rfl) g15 f15 ?_
                    refine zci h (fun v15 I15 J15 D15 h => ?_)
                    refine zr_istore zSm 327 (ll' := [(7, .int v15), (6, .int v14), (0, .ref 99), (1, .ref 0), (2, .ref 28), (3, .ref 52), (4, .ref 53), (5, .int l5)]) rfl (by decide) rfl ?_
                    refine zr_aload_n zSm 328 rfl rfl ?_
                    refine zr_inv0 329 134 0 [] rfl rfl zk_L_77 zms_134 rfl ⟨_, _, _, _, rfl, rfl⟩ (Nat.le_of_ble_eq_true rfl) ?_
                    refine ze_134 ?_
                    refine zNx_i ?_
                    refine zr_iload zSm 330 rfl rfl ?_
                    refine zr_ic zSm 331 602 rfl rfl (fun q27 => ?_) (fun q27 => ?_)
                    · have h := h.1 q27
                      refine zr_iload zSm 334 rfl rfl ?_
                      refine zr_if zSm 335 619 rfl rfl (fun q28 => ?_) (fun q28 => ?_)
                      · have h := h.1 q28
                        refine zr_goto zSm 345 1272 rfl rfl ?_
                        refine zr_iinc zSm 753 (v := l5 + 6) (ll' := [(5, .int (l5 + 6)), (7, .int v15), (6, .int v14), (0, .ref 99), (1, .ref 0), (2, .ref 28), (3, .ref 52), (4, .ref 53)]) rfl rfl (by decide) rfl rfl ?_
                        refine zr_goto zSm 754 28 rfl rfl ?_
                        refine zr_sub [3, 4, 5, 6, 7, 0] rfl ?_
                        exact h
                      · have h := h.2 q28
                        refine zr_aload_n zSm 336 rfl rfl ?_
                        refine zr_s zSm 337 rfl rfl ?_
                        refine zr_lald zSm 338 rfl rfl (zin_lit (by decide) (by decide)) ?_
                        refine zr_iload zSm 339 rfl rfl ?_
                        refine zr_s zSm 340 rfl rfl ?_
                        refine zr_s zSm 341 rfl rfl ?_
                        refine zr_if zSm 342 619 rfl rfl (fun q29 => ?_) (fun q29 => ?_)
                        · have q29 := zq_eq.mp q29
                          have h := h.1 q29
                          refine zr_goto zSm 345 1272 rfl rfl ?_
                          refine zr_iinc zSm 753 (v := l5 + 6) (ll' := [(5, .int (l5 + 6)), (7, .int v15), (6, .int v14), (0, .ref 99), (1, .ref 0), (2, .ref 28), (3, .ref 52), (4, .ref 53)]) rfl rfl (by decide) rfl rfl ?_
                          refine zr_goto zSm 754 28 rfl rfl ?_
                          refine zr_sub [3, 4, 5, 6, 7, 0] rfl ?_
                          exact h
                        · have q29 := (fun z => q29 (zq_eq.mpr z))
                          have h := h.2 q29
                          refine zr_s zSm 343 rfl rfl ?_
                          refine zr_iret zSm 344 rfl rfl rfl ?_
                          exact h
                    · have h := h.2 q27
                      refine zr_s zSm 332 rfl rfl ?_
                      refine zr_iret zSm 333 rfl rfl rfl ?_
                      exact h
                  · have h := h.2 q26
                    by_cases q30 : ((xs l5.toNatClampNeg) &&& 31) = 8
                    · have h := h.1 q30
                      refine zr_tsG 27 622 [8] rfl (by simp only [List.mem_cons, List.not_mem_nil, or_false]; exact q30) (by decide) ?_
                      refine zr_aload_n zSm 346 rfl rfl ?_
                      refine zr_aload_n zSm 347 rfl rfl ?_
                      obtain ⟨c16, s16, g16, f16, h⟩ := h
                      refine zr_callS 348 226 2 c16 s16 [.ref 0, .ref 52] rfl rfl zk_L_108 zmw_226 zmt_226 rfl (Nat.le_of_ble_eq_true rfl) g16 f16 ?_
                      refine zci h (fun v16 I16 J16 D16 h => ?_)
                      refine zr_istore zSm 349 (ll' := [(6, .int v16), (0, .ref 99), (1, .ref 0), (2, .ref 28), (3, .ref 52), (4, .ref 53), (5, .int l5)]) rfl (by decide) rfl ?_
                      refine zr_aload_n zSm 350 rfl rfl ?_
                      obtain ⟨c17, s17, g17, f17, h⟩ := h
                      refine zr_inv zSm 351 203 0 c17 s17 [] rfl rfl zk_L_111 zms_203 rfl ⟨_, _, _, _, rfl, rfl⟩ (Nat.le_of_ble_eq_true rfl) g17 f17 ?_
                      refine zci h (fun v17 I17 J17 D17 h => ?_)
                      refine zr_istore zSm 352 (ll' := [(7, .int v17), (6, .int v16), (0, .ref 99), (1, .ref 0), (2, .ref 28), (3, .ref 52), (4, .ref 53), (5, .int l5)]) rfl (by decide) rfl ?_
                      refine zr_aload_n zSm 353 rfl rfl ?_
                      refine zr_inv0 354 134 0 [] rfl rfl zk_L_77 zms_134 rfl ⟨_, _, _, _, rfl, rfl⟩ (Nat.le_of_ble_eq_true rfl) ?_
                      refine ze_134 ?_
                      refine zNx_i ?_
                      refine zr_iload zSm 355 rfl rfl ?_
                      refine zr_ic zSm 356 646 rfl rfl (fun q31 => ?_) (fun q31 => ?_)
                      · have h := h.1 q31
                        refine zr_iload zSm 359 rfl rfl ?_
                        refine zr_if zSm 360 663 rfl rfl (fun q32 => ?_) (fun q32 => ?_)
                        · have h := h.1 q32
                          refine zr_goto zSm 370 1272 rfl rfl ?_
                          refine zr_iinc zSm 753 (v := l5 + 6) (ll' := [(5, .int (l5 + 6)), (7, .int v17), (6, .int v16), (0, .ref 99), (1, .ref 0), (2, .ref 28), (3, .ref 52), (4, .ref 53)]) rfl rfl (by decide) rfl rfl ?_
                          refine zr_goto zSm 754 28 rfl rfl ?_
                          refine zr_sub [3, 4, 5, 6, 7, 0] rfl ?_
                          exact h
                        · have h := h.2 q32
                          refine zr_aload_n zSm 361 rfl rfl ?_
                          refine zr_s zSm 362 rfl rfl ?_
                          refine zr_lald zSm 363 rfl rfl (zin_lit (by decide) (by decide)) ?_
                          refine zr_iload zSm 364 rfl rfl ?_
                          refine zr_s zSm 365 rfl rfl ?_
                          refine zr_s zSm 366 rfl rfl ?_
                          refine zr_if zSm 367 663 rfl rfl (fun q33 => ?_) (fun q33 => ?_)
                          · have q33 := zq_eq.mp q33
                            have h := h.1 q33
                            refine zr_goto zSm 370 1272 rfl rfl ?_
                            refine zr_iinc zSm 753 (v := l5 + 6) (ll' := [(5, .int (l5 + 6)), (7, .int v17), (6, .int v16), (0, .ref 99), (1, .ref 0), (2, .ref 28), (3, .ref 52), (4, .ref 53)]) rfl rfl (by decide) rfl rfl ?_
                            refine zr_goto zSm 754 28 rfl rfl ?_
                            refine zr_sub [3, 4, 5, 6, 7, 0] rfl ?_
                            exact h
                          · have q33 := (fun z => q33 (zq_eq.mpr z))
                            have h := h.2 q33
                            refine zr_s zSm 368 rfl rfl ?_
                            refine zr_iret zSm 369 rfl rfl rfl ?_
                            exact h
                      · have h := h.2 q31
                        refine zr_s zSm 357 rfl rfl ?_
                        refine zr_iret zSm 358 rfl rfl rfl ?_
                        exact h
                    · have h := h.2 q30
                      by_cases q34 : ((xs l5.toNatClampNeg) &&& 31) = 9
                      · have h := h.1 q34
                        refine zr_tsG 27 666 [9] rfl (by simp only [List.mem_cons, List.not_mem_nil, or_false]; exact q34) (by decide) ?_
                        refine zr_aload_n zSm 371 rfl rfl ?_
                        refine zr_aload_n zSm 372 rfl rfl ?_
                        refine zr_iload zSm 373 rfl rfl ?_
                        refine zr_s zSm 374 rfl rfl ?_
                        refine zr_s zSm 375 rfl rfl ?_
                        obtain ⟨b376, h⟩ := h
                        refine zr_sald zSm 376 rfl hL b376 ?_
                        refine zr_if zSm 377 680 rfl rfl (fun q35 => ?_) (fun q35 => ?_)
                        · have h := h.1 q35
                          refine zr_s zSm 380 rfl rfl ?_
                          refine zr_aload_n zSm 381 rfl rfl ?_
                          refine zr_iload zSm 382 rfl rfl ?_
                          refine zr_s zSm 383 rfl rfl ?_
                          refine zr_s zSm 384 rfl rfl ?_
                          obtain ⟨b385, h⟩ := h
                          refine zr_sald zSm 385 rfl hL b385 ?_
                          refine zr_aload_n zSm 386 rfl rfl ?_
                          refine zr_iload zSm 387 rfl rfl ?_
                          refine zr_s zSm 388 rfl rfl ?_
                          refine zr_s zSm 389 rfl rfl ?_
                          obtain ⟨b390, h⟩ := h
                          refine zr_sald zSm 390 rfl hL b390 ?_
                          refine zr_aload_n zSm 391 rfl rfl ?_
                          obtain ⟨c18, s18, g18, f18, h⟩ := h
                          refine zr_callS 392 227 5 c18 s18 [.ref 0, .int 0, .int (xs ((l5 + 2).toNatClampNeg)), .int (xs ((l5 + 3).toNatClampNeg)), .ref 52] rfl rfl zk_L_112 zmw_227 zmt_227 rfl (Nat.le_of_ble_eq_true rfl) g18 f18 ?_
                          refine zci h (fun v18 I18 J18 D18 h => ?_)
                          refine zr_istore zSm 393 (ll' := [(6, .int v18), (0, .ref 99), (1, .ref 0), (2, .ref 28), (3, .ref 52), (4, .ref 53), (5, .int l5)]) rfl (by decide) rfl ?_
                          refine zr_aload_n zSm 394 rfl rfl ?_
                          refine zr_aload_n zSm 395 rfl rfl ?_
                          refine zr_iload zSm 396 rfl rfl ?_
                          refine zr_s zSm 397 rfl rfl ?_
                          refine zr_s zSm 398 rfl rfl ?_
                          obtain ⟨b399, h⟩ := h
                          refine zr_sald zSm 399 rfl hL b399 ?_
                          refine zr_if zSm 400 713 rfl rfl (fun q36 => ?_) (fun q36 => ?_)
                          · refine zr_s zSm 403 rfl rfl ?_
                            refine zr_aload_n zSm 404 rfl rfl ?_
                            refine zr_iload zSm 405 rfl rfl ?_
                            refine zr_s zSm 406 rfl rfl ?_
                            refine zr_s zSm 407 rfl rfl ?_
                            obtain ⟨b408, h⟩ := h
                            refine zr_sald zSm 408 rfl hL b408 ?_
                            refine zr_aload_n zSm 409 rfl rfl ?_
                            refine zr_iload zSm 410 rfl rfl ?_
                            refine zr_s zSm 411 rfl rfl ?_
                            refine zr_s zSm 412 rfl rfl ?_
                            obtain ⟨b413, h⟩ := h
                            refine zr_sald zSm 413 rfl hL b413 ?_
                            refine zr_inv0 414 204 3 [.int 0, .int (xs ((l5 + 2).toNatClampNeg)), .int (xs ((l5 + 3).toNatClampNeg))] rfl rfl zk_L_115 zms_204 rfl ⟨_, _, _, _, rfl, rfl⟩ (Nat.le_of_ble_eq_true rfl) ?_
                            refine zci h (fun v19 I19 J19 D19 h => ?_)
                            refine zr_istore zSm 415 (ll' := [(7, .int v19), (6, .int v18), (0, .ref 99), (1, .ref 0), (2, .ref 28), (3, .ref 52), (4, .ref 53), (5, .int l5)]) rfl (by decide) rfl ?_
                            refine zr_aload_n zSm 416 rfl rfl ?_
                            refine zr_inv0 417 134 0 [] rfl rfl zk_L_77 zms_134 rfl ⟨_, _, _, _, rfl, rfl⟩ (Nat.le_of_ble_eq_true rfl) ?_
                            refine ze_134 ?_
                            refine zNx_i ?_
                            refine zr_iload zSm 418 rfl rfl ?_
                            refine zr_ic zSm 419 742 rfl rfl (fun q37 => ?_) (fun q37 => ?_)
                            · have h := h.1 q37
                              refine zr_iload zSm 422 rfl rfl ?_
                              refine zr_if zSm 423 766 rfl rfl (fun q38 => ?_) (fun q38 => ?_)
                              · have h := h.1 q38
                                refine zr_goto zSm 436 1272 rfl rfl ?_
                                refine zr_iinc zSm 753 (v := l5 + 6) (ll' := [(5, .int (l5 + 6)), (7, .int v19), (6, .int v18), (0, .ref 99), (1, .ref 0), (2, .ref 28), (3, .ref 52), (4, .ref 53)]) rfl rfl (by decide) rfl rfl ?_
                                refine zr_goto zSm 754 28 rfl rfl ?_
                                refine zr_sub [3, 4, 5, 6, 7, 0] rfl ?_
                                exact h
                              · have h := h.2 q38
                                refine zr_aload_n zSm 424 rfl rfl ?_
                                refine zr_s zSm 425 rfl rfl ?_
                                refine zr_lald zSm 426 rfl rfl (zin_lit (by decide) (by decide)) ?_
                                refine zr_iload zSm 427 rfl rfl ?_
                                refine zr_if zSm 428 759 rfl rfl (fun q39 => ?_) (fun q39 => ?_)
                                · have h := h.1 q39
                                  refine zr_s zSm 431 rfl rfl ?_
                                  refine zr_s zSm 432 rfl rfl ?_
                                  refine zr_if zSm 433 766 rfl rfl (fun q40 => ?_) (fun q40 => ?_)
                                  · have q40 := zq_eq.mp q40
                                    have h := h.1 q40
                                    refine zr_goto zSm 436 1272 rfl rfl ?_
                                    refine zr_iinc zSm 753 (v := l5 + 6) (ll' := [(5, .int (l5 + 6)), (7, .int v19), (6, .int v18), (0, .ref 99), (1, .ref 0), (2, .ref 28), (3, .ref 52), (4, .ref 53)]) rfl rfl (by decide) rfl rfl ?_
                                    refine zr_goto zSm 754 28 rfl rfl ?_
                                    refine zr_sub [3, 4, 5, 6, 7, 0] rfl ?_
                                    exact h
                                  · have q40 := (fun z => q40 (zq_eq.mpr z))
                                    have h := h.2 q40
                                    refine zr_s zSm 434 rfl rfl ?_
                                    refine zr_iret zSm 435 rfl rfl rfl ?_
                                    exact h
                                · have h := h.2 q39
                                  refine zr_s zSm 429 rfl rfl ?_
                                  refine zr_goto zSm 430 760 rfl rfl ?_
                                  refine zr_s zSm 432 rfl rfl ?_
                                  refine zr_if zSm 433 766 rfl rfl (fun q41 => ?_) (fun q41 => ?_)
                                  · have q41 := zq_eq.mp q41
                                    have h := h.1 q41
                                    refine zr_goto zSm 436 1272 rfl rfl ?_
                                    refine zr_iinc zSm 753 (v := l5 + 6) (ll' := [(5, .int (l5 + 6)), (7, .int v19), (6, .int v18), (0, .ref 99), (1, .ref 0), (2, .ref 28), (3, .ref 52), (4, .ref 53)]) rfl rfl (by decide) rfl rfl ?_
                                    refine zr_goto zSm 754 28 rfl rfl ?_
                                    refine zr_sub [3, 4, 5, 6, 7, 0] rfl ?_
                                    exact h
                                  · have q41 := (fun z => q41 (zq_eq.mpr z))
                                    have h := h.2 q41
                                    refine zr_s zSm 434 rfl rfl ?_
                                    refine zr_iret zSm 435 rfl rfl rfl ?_
                                    exact h
                            · have h := h.2 q37
                              refine zr_s zSm 420 rfl rfl ?_
                              refine zr_iret zSm 421 rfl rfl rfl ?_
                              exact h
                          · exact absurd q35 q36
                        · have h := h.2 q35
                          refine zr_s zSm 378 rfl rfl ?_
                          refine zr_goto zSm 379 681 rfl rfl ?_
                          refine zr_aload_n zSm 381 rfl rfl ?_
                          refine zr_iload zSm 382 rfl rfl ?_
                          refine zr_s zSm 383 rfl rfl ?_
                          refine zr_s zSm 384 rfl rfl ?_
                          obtain ⟨b385, h⟩ := h
                          refine zr_sald zSm 385 rfl hL b385 ?_
                          refine zr_aload_n zSm 386 rfl rfl ?_
                          refine zr_iload zSm 387 rfl rfl ?_
                          refine zr_s zSm 388 rfl rfl ?_
                          refine zr_s zSm 389 rfl rfl ?_
                          obtain ⟨b390, h⟩ := h
                          refine zr_sald zSm 390 rfl hL b390 ?_
                          refine zr_aload_n zSm 391 rfl rfl ?_
                          obtain ⟨c20, s20, g20, f20, h⟩ := h
                          refine zr_callS 392 227 5 c20 s20 [.ref 0, .int 1, .int (xs ((l5 + 2).toNatClampNeg)), .int (xs ((l5 + 3).toNatClampNeg)), .ref 52] rfl rfl zk_L_112 zmw_227 zmt_227 rfl (Nat.le_of_ble_eq_true rfl) g20 f20 ?_
                          refine zci h (fun v20 I20 J20 D20 h => ?_)
                          refine zr_istore zSm 393 (ll' := [(6, .int v20), (0, .ref 99), (1, .ref 0), (2, .ref 28), (3, .ref 52), (4, .ref 53), (5, .int l5)]) rfl (by decide) rfl ?_
                          refine zr_aload_n zSm 394 rfl rfl ?_
                          refine zr_aload_n zSm 395 rfl rfl ?_
                          refine zr_iload zSm 396 rfl rfl ?_
                          refine zr_s zSm 397 rfl rfl ?_
                          refine zr_s zSm 398 rfl rfl ?_
                          obtain ⟨b399, h⟩ := h
                          refine zr_sald zSm 399 rfl hL b399 ?_
                          refine zr_if zSm 400 713 rfl rfl (fun q42 => ?_) (fun q42 => ?_)
                          · exact absurd q42 q35
                          · refine zr_s zSm 401 rfl rfl ?_
                            refine zr_goto zSm 402 714 rfl rfl ?_
                            refine zr_aload_n zSm 404 rfl rfl ?_
                            refine zr_iload zSm 405 rfl rfl ?_
                            refine zr_s zSm 406 rfl rfl ?_
                            refine zr_s zSm 407 rfl rfl ?_
                            obtain ⟨b408, h⟩ := h
                            refine zr_sald zSm 408 rfl hL b408 ?_
                            refine zr_aload_n zSm 409 rfl rfl ?_
                            refine zr_iload zSm 410 rfl rfl ?_
                            refine zr_s zSm 411 rfl rfl ?_
                            refine zr_s zSm 412 rfl rfl ?_
                            obtain ⟨b413, h⟩ := h
                            refine zr_sald zSm 413 rfl hL b413 ?_
                            refine zr_inv0 414 204 3 [.int 1, .int (xs ((l5 + 2).toNatClampNeg)), .int (xs ((l5 + 3).toNatClampNeg))] rfl rfl zk_L_115 zms_204 rfl ⟨_, _, _, _, rfl, rfl⟩ (Nat.le_of_ble_eq_true rfl) ?_
                            refine zci h (fun v21 I21 J21 D21 h => ?_)
                            refine zr_istore zSm 415 (ll' := [(7, .int v21), (6, .int v20), (0, .ref 99), (1, .ref 0), (2, .ref 28), (3, .ref 52), (4, .ref 53), (5, .int l5)]) rfl (by decide) rfl ?_
                            refine zr_aload_n zSm 416 rfl rfl ?_
                            refine zr_inv0 417 134 0 [] rfl rfl zk_L_77 zms_134 rfl ⟨_, _, _, _, rfl, rfl⟩ (Nat.le_of_ble_eq_true rfl) ?_
                            refine ze_134 ?_
                            refine zNx_i ?_
                            refine zr_iload zSm 418 rfl rfl ?_
                            refine zr_ic zSm 419 742 rfl rfl (fun q43 => ?_) (fun q43 => ?_)
                            · have h := h.1 q43
                              refine zr_iload zSm 422 rfl rfl ?_
                              refine zr_if zSm 423 766 rfl rfl (fun q44 => ?_) (fun q44 => ?_)
                              · have h := h.1 q44
                                refine zr_goto zSm 436 1272 rfl rfl ?_
                                refine zr_iinc zSm 753 (v := l5 + 6) (ll' := [(5, .int (l5 + 6)), (7, .int v21), (6, .int v20), (0, .ref 99), (1, .ref 0), (2, .ref 28), (3, .ref 52), (4, .ref 53)]) rfl rfl (by decide) rfl rfl ?_
                                refine zr_goto zSm 754 28 rfl rfl ?_
                                refine zr_sub [3, 4, 5, 6, 7, 0] rfl ?_
                                exact h
                              · have h := h.2 q44
                                refine zr_aload_n zSm 424 rfl rfl ?_
                                refine zr_s zSm 425 rfl rfl ?_
                                refine zr_lald zSm 426 rfl rfl (zin_lit (by decide) (by decide)) ?_
                                refine zr_iload zSm 427 rfl rfl ?_
                                refine zr_if zSm 428 759 rfl rfl (fun q45 => ?_) (fun q45 => ?_)
                                · have h := h.1 q45
                                  refine zr_s zSm 431 rfl rfl ?_
                                  refine zr_s zSm 432 rfl rfl ?_
                                  refine zr_if zSm 433 766 rfl rfl (fun q46 => ?_) (fun q46 => ?_)
                                  · have q46 := zq_eq.mp q46
                                    have h := h.1 q46
                                    refine zr_goto zSm 436 1272 rfl rfl ?_
                                    refine zr_iinc zSm 753 (v := l5 + 6) (ll' := [(5, .int (l5 + 6)), (7, .int v21), (6, .int v20), (0, .ref 99), (1, .ref 0), (2, .ref 28), (3, .ref 52), (4, .ref 53)]) rfl rfl (by decide) rfl rfl ?_
                                    refine zr_goto zSm 754 28 rfl rfl ?_
                                    refine zr_sub [3, 4, 5, 6, 7, 0] rfl ?_
                                    exact h
                                  · have q46 := (fun z => q46 (zq_eq.mpr z))
                                    have h := h.2 q46
                                    refine zr_s zSm 434 rfl rfl ?_
                                    refine zr_iret zSm 435 rfl rfl rfl ?_
                                    exact h
                                · have h := h.2 q45
                                  refine zr_s zSm 429 rfl rfl ?_
                                  refine zr_goto zSm 430 760 rfl rfl ?_
                                  refine zr_s zSm 432 rfl rfl ?_
                                  refine zr_if zSm 433 766 rfl rfl (fun q47 => ?_) (fun q47 => ?_)
                                  · have q47 := zq_eq.mp q47
                                    have h := h.1 q47
                                    refine zr_goto zSm 436 1272 rfl rfl ?_
                                    refine zr_iinc zSm 753 (v := l5 + 6) (ll' := [(5, .int (l5 + 6)), (7, .int v21), (6, .int v20), (0, .ref 99), (1, .ref 0), (2, .ref 28), (3, .ref 52), (4, .ref 53)]) rfl rfl (by decide) rfl rfl ?_
                                    refine zr_goto zSm 754 28 rfl rfl ?_
                                    refine zr_sub [3, 4, 5, 6, 7, 0] rfl ?_
                                    exact h
                                  · have q47 := (fun z => q47 (zq_eq.mpr z))
                                    have h := h.2 q47
                                    refine zr_s zSm 434 rfl rfl ?_
                                    refine zr_iret zSm 435 rfl rfl rfl ?_
                                    exact h
                            · have h := h.2 q43
                              refine zr_s zSm 420 rfl rfl ?_
                              refine zr_iret zSm 421 rfl rfl rfl ?_
                              exact h
                      · have h := h.2 q34
                        by_cases q48 : ((xs l5.toNatClampNeg) &&& 31) = 10
                        · have h := h.1 q48
                          refine zr_tsG 27 769 [10] rfl (by simp only [List.mem_cons, List.not_mem_nil, or_false]; exact q48) (by decide) ?_
                          refine zr_aload_n zSm 437 rfl rfl ?_
                          refine zr_inv0 438 118 0 [] rfl rfl zk_L_116 zms_118 rfl ⟨_, _, _, _, rfl, rfl⟩ (Nat.le_of_ble_eq_true rfl) ?_
                          refine zci h (fun v22 I22 J22 D22 h => ?_)
                          refine zr_aload_n zSm 439 rfl rfl ?_
                          refine zr_inv0 440 205 0 [] rfl rfl zk_L_119 zms_205 rfl ⟨_, _, _, _, rfl, rfl⟩ (Nat.le_of_ble_eq_true rfl) ?_
                          refine zci h (fun v23 I23 J23 D23 h => ?_)
                          refine zr_ic zSm 441 1272 rfl rfl (fun q49 => ?_) (fun q49 => ?_)
                          · have h := h.1 q49
                            refine zr_iinc zSm 753 (v := l5 + 6) (ll' := [(5, .int (l5 + 6)), (0, .ref 99), (1, .ref 0), (2, .ref 28), (3, .ref 52), (4, .ref 53)]) rfl rfl (by decide) rfl rfl ?_
                            refine zr_goto zSm 754 28 rfl rfl ?_
                            refine zr_sub [1, 2, 3, 4, 5, 0] rfl ?_
                            exact h
                          · have h := h.2 q49
                            refine zr_s zSm 442 rfl rfl ?_
                            refine zr_iret zSm 443 rfl rfl rfl ?_
                            exact h
                        · have h := h.2 q48
                          by_cases q50 : ((xs l5.toNatClampNeg) &&& 31) = 11
                          · have h := h.1 q50
                            refine zr_tsG 27 782 [11] rfl (by simp only [List.mem_cons, List.not_mem_nil, or_false]; exact q50) (by decide) ?_
                            refine zr_aload_n zSm 444 rfl rfl ?_
                            refine zr_inv0 445 119 0 [] rfl rfl zk_L_120 zms_119 rfl ⟨_, _, _, _, rfl, rfl⟩ (Nat.le_of_ble_eq_true rfl) ?_
                            refine ze_119 ?_
                            refine zNx_i ?_
                            refine zr_aload_n zSm 446 rfl rfl ?_
                            refine zr_inv0 447 209 0 [] rfl rfl zk_L_123 zms_209 rfl ⟨_, _, _, _, rfl, rfl⟩ (Nat.le_of_ble_eq_true rfl) ?_
                            refine zci h (fun v24 I24 J24 D24 h => ?_)
                            refine zr_ic zSm 448 1272 rfl rfl (fun q51 => ?_) (fun q51 => ?_)
                            · have h := h.1 q51
                              refine zr_iinc zSm 753 (v := l5 + 6) (ll' := [(5, .int (l5 + 6)), (0, .ref 99), (1, .ref 0), (2, .ref 28), (3, .ref 52), (4, .ref 53)]) rfl rfl (by decide) rfl rfl ?_
                              refine zr_goto zSm 754 28 rfl rfl ?_
                              refine zr_sub [1, 2, 3, 4, 5, 0] rfl ?_
                              exact h
                            · have h := h.2 q51
                              refine zr_s zSm 449 rfl rfl ?_
                              refine zr_iret zSm 450 rfl rfl rfl ?_
                              exact h
                          · have h := h.2 q50
                            by_cases q52 : ((xs l5.toNatClampNeg) &&& 31) = 12
                            · have h := h.1 q52
                              refine zr_tsG 27 795 [12] rfl (by simp only [List.mem_cons, List.not_mem_nil, or_false]; exact q52) (by decide) ?_
                              refine zr_aload_n zSm 451 rfl rfl ?_
                              refine zr_aload_n zSm 452 rfl rfl ?_
                              refine zr_iload zSm 453 rfl rfl ?_
                              refine zr_s zSm 454 rfl rfl ?_
                              refine zr_s zSm 455 rfl rfl ?_
                              obtain ⟨b456, h⟩ := h
                              refine zr_sald zSm 456 rfl hL b456 ?_
                              refine zr_aload_n zSm 457 rfl rfl ?_
                              obtain ⟨c25, s25, g25, f25, h⟩ := h
                              refine zr_callS 458 228 3 c25 s25 [.ref 0, .int (xs ((l5 + 1).toNatClampNeg)), .ref 52] rfl rfl zk_L_124 zmw_228 zmt_228 rfl (Nat.le_of_ble_eq_true rfl) g25 f25 ?_
                              refine zci h (fun v25 I25 J25 D25 h => ?_)
                              refine zr_istore zSm 459 (ll' := [(6, .int v25), (0, .ref 99), (1, .ref 0), (2, .ref 28), (3, .ref 52), (4, .ref 53), (5, .int l5)]) rfl (by decide) rfl ?_
                              refine zr_aload_n zSm 460 rfl rfl ?_
                              refine zr_aload_n zSm 461 rfl rfl ?_
                              refine zr_iload zSm 462 rfl rfl ?_
                              refine zr_s zSm 463 rfl rfl ?_
                              refine zr_s zSm 464 rfl rfl ?_
                              obtain ⟨b465, h⟩ := h
                              refine zr_sald zSm 465 rfl hL b465 ?_
                              refine zr_inv0 466 211 1 [.int (xs ((l5 + 1).toNatClampNeg))] rfl rfl zk_L_126 zms_211 rfl ⟨_, _, _, _, rfl, rfl⟩ (Nat.le_of_ble_eq_true rfl) ?_
                              refine zci h (fun v26 I26 J26 D26 h => ?_)
                              refine zr_istore zSm 467 (ll' := [(7, .int v26), (6, .int v25), (0, .ref 99), (1, .ref 0), (2, .ref 28), (3, .ref 52), (4, .ref 53), (5, .int l5)]) rfl (by decide) rfl ?_
                              refine zr_aload_n zSm 468 rfl rfl ?_
                              refine zr_inv0 469 134 0 [] rfl rfl zk_L_77 zms_134 rfl ⟨_, _, _, _, rfl, rfl⟩ (Nat.le_of_ble_eq_true rfl) ?_
                              refine ze_134 ?_
                              refine zNx_i ?_
                              refine zr_iload zSm 470 rfl rfl ?_
                              refine zr_ic zSm 471 831 rfl rfl (fun q53 => ?_) (fun q53 => ?_)
                              · have h := h.1 q53
                                refine zr_iload zSm 474 rfl rfl ?_
                                refine zr_if zSm 475 848 rfl rfl (fun q54 => ?_) (fun q54 => ?_)
                                · have h := h.1 q54
                                  refine zr_goto zSm 485 1272 rfl rfl ?_
                                  refine zr_iinc zSm 753 (v := l5 + 6) (ll' := [(5, .int (l5 + 6)), (7, .int v26), (6, .int v25), (0, .ref 99), (1, .ref 0), (2, .ref 28), (3, .ref 52), (4, .ref 53)]) rfl rfl (by decide) rfl rfl ?_
                                  refine zr_goto zSm 754 28 rfl rfl ?_
                                  refine zr_sub [3, 4, 5, 6, 7, 0] rfl ?_
                                  exact h
                                · have h := h.2 q54
                                  refine zr_aload_n zSm 476 rfl rfl ?_
                                  refine zr_s zSm 477 rfl rfl ?_
                                  refine zr_lald zSm 478 rfl rfl (zin_lit (by decide) (by decide)) ?_
                                  refine zr_iload zSm 479 rfl rfl ?_
                                  refine zr_s zSm 480 rfl rfl ?_
                                  refine zr_s zSm 481 rfl rfl ?_
                                  refine zr_if zSm 482 848 rfl rfl (fun q55 => ?_) (fun q55 => ?_)
                                  · have q55 := zq_eq.mp q55
                                    have h := h.1 q55
                                    refine zr_goto zSm 485 1272 rfl rfl ?_
                                    refine zr_iinc zSm 753 (v := l5 + 6) (ll' := [(5, .int (l5 + 6)), (7, .int v26), (6, .int v25), (0, .ref 99), (1, .ref 0), (2, .ref 28), (3, .ref 52), (4, .ref 53)]) rfl rfl (by decide) rfl rfl ?_
                                    refine zr_goto zSm 754 28 rfl rfl ?_
                                    refine zr_sub [3, 4, 5, 6, 7, 0] rfl ?_
                                    exact h
                                  · have q55 := (fun z => q55 (zq_eq.mpr z))
                                    have h := h.2 q55
                                    refine zr_s zSm 483 rfl rfl ?_
                                    refine zr_iret zSm 484 rfl rfl rfl ?_
                                    exact h
                              · have h := h.2 q53
                                refine zr_s zSm 472 rfl rfl ?_
                                refine zr_iret zSm 473 rfl rfl rfl ?_
                                exact h
                            · have h := h.2 q52
                              by_cases q56 : ((xs l5.toNatClampNeg) &&& 31) = 13
                              · have h := h.1 q56
                                refine zr_tsG 27 851 [13] rfl (by simp only [List.mem_cons, List.not_mem_nil, or_false]; exact q56) (by decide) ?_
                                refine zr_aload_n zSm 486 rfl rfl ?_
                                refine zr_aload_n zSm 487 rfl rfl ?_
                                refine zr_iload zSm 488 rfl rfl ?_
                                refine zr_s zSm 489 rfl rfl ?_
                                refine zr_s zSm 490 rfl rfl ?_
                                obtain ⟨b491, h⟩ := h
                                refine zr_sald zSm 491 rfl hL b491 ?_
                                refine zr_aload_n zSm 492 rfl rfl ?_
                                refine zr_iload zSm 493 rfl rfl ?_
                                refine zr_s zSm 494 rfl rfl ?_
                                refine zr_s zSm 495 rfl rfl ?_
                                obtain ⟨b496, h⟩ := h
                                refine zr_sald zSm 496 rfl hL b496 ?_
                                refine zr_aload_n zSm 497 rfl rfl ?_
                                obtain ⟨c27, s27, g27, f27, h⟩ := h
                                refine zr_callS 498 229 4 c27 s27 [.ref 0, .int (xs ((l5 + 1).toNatClampNeg)), .int (xs ((l5 + 2).toNatClampNeg)), .ref 52] rfl rfl zk_L_127 zmw_229 zmt_229 rfl (Nat.le_of_ble_eq_true rfl) g27 f27 ?_
                                refine zci h (fun v27 I27 J27 D27 h => ?_)
                                refine zr_istore zSm 499 (ll' := [(6, .int v27), (0, .ref 99), (1, .ref 0), (2, .ref 28), (3, .ref 52), (4, .ref 53), (5, .int l5)]) rfl (by decide) rfl ?_
                                refine zr_aload_n zSm 500 rfl rfl ?_
                                refine zr_aload_n zSm 501 rfl rfl ?_
                                refine zr_iload zSm 502 rfl rfl ?_
                                refine zr_s zSm 503 rfl rfl ?_
                                refine zr_s zSm 504 rfl rfl ?_
                                obtain ⟨b505, h⟩ := h
                                refine zr_sald zSm 505 rfl hL b505 ?_
                                refine zr_aload_n zSm 506 rfl rfl ?_
                                refine zr_iload zSm 507 rfl rfl ?_
                                refine zr_s zSm 508 rfl rfl ?_
                                refine zr_s zSm 509 rfl rfl ?_
                                obtain ⟨b510, h⟩ := h
                                refine zr_sald zSm 510 rfl hL b510 ?_
                                refine zr_inv0 511 212 2 [.int (xs ((l5 + 1).toNatClampNeg)), .int (xs ((l5 + 2).toNatClampNeg))] rfl rfl zk_L_129 zms_212 rfl ⟨_, _, _, _, rfl, rfl⟩ (Nat.le_of_ble_eq_true rfl) ?_
                                refine zci h (fun v28 I28 J28 D28 h => ?_)
                                refine zr_istore zSm 512 (ll' := [(7, .int v28), (6, .int v27), (0, .ref 99), (1, .ref 0), (2, .ref 28), (3, .ref 52), (4, .ref 53), (5, .int l5)]) rfl (by decide) rfl ?_
                                refine zr_aload_n zSm 513 rfl rfl ?_
                                refine zr_inv0 514 134 0 [] rfl rfl zk_L_77 zms_134 rfl ⟨_, _, _, _, rfl, rfl⟩ (Nat.le_of_ble_eq_true rfl) ?_
                                refine ze_134 ?_
                                refine zNx_i ?_
                                refine zr_iload zSm 515 rfl rfl ?_
                                refine zr_ic zSm 516 899 rfl rfl (fun q57 => ?_) (fun q57 => ?_)
                                · have h := h.1 q57
                                  refine zr_iload zSm 519 rfl rfl ?_
                                  refine zr_if zSm 520 916 rfl rfl (fun q58 => ?_) (fun q58 => ?_)
                                  · have h := h.1 q58
                                    refine zr_goto zSm 530 1272 rfl rfl ?_
                                    refine zr_iinc zSm 753 (v := l5 + 6) (ll' := [(5, .int (l5 + 6)), (7, .int v28), (6, .int v27), (0, .ref 99), (1, .ref 0), (2, .ref 28), (3, .ref 52), (4, .ref 53)]) rfl rfl (by decide) rfl rfl ?_
                                    refine zr_goto zSm 754 28 rfl rfl ?_
                                    refine zr_sub [3, 4, 5, 6, 7, 0] rfl ?_
                                    exact h
                                  · have h := h.2 q58
                                    refine zr_aload_n zSm 521 rfl rfl ?_
                                    refine zr_s zSm 522 rfl rfl ?_
                                    refine zr_lald zSm 523 rfl rfl (zin_lit (by decide) (by decide)) ?_
                                    refine zr_iload zSm 524 rfl rfl ?_
                                    refine zr_s zSm 525 rfl rfl ?_
                                    refine zr_s zSm 526 rfl rfl ?_
                                    refine zr_if zSm 527 916 rfl rfl (fun q59 => ?_) (fun q59 => ?_)
                                    · have q59 := zq_eq.mp q59
                                      have h := h.1 q59
                                      refine zr_goto zSm 530 1272 rfl rfl ?_
                                      refine zr_iinc zSm 753 (v := l5 + 6) (ll' := [(5, .int (l5 + 6)), (7, .int v28), (6, .int v27), (0, .ref 99), (1, .ref 0), (2, .ref 28), (3, .ref 52), (4, .ref 53)]) rfl rfl (by decide) rfl rfl ?_
                                      refine zr_goto zSm 754 28 rfl rfl ?_
                                      refine zr_sub [3, 4, 5, 6, 7, 0] rfl ?_
                                      exact h
                                    · have q59 := (fun z => q59 (zq_eq.mpr z))
                                      have h := h.2 q59
                                      refine zr_s zSm 528 rfl rfl ?_
                                      refine zr_iret zSm 529 rfl rfl rfl ?_
                                      exact h
                                · have h := h.2 q57
                                  refine zr_s zSm 517 rfl rfl ?_
                                  refine zr_iret zSm 518 rfl rfl rfl ?_
                                  exact h
                              · have h := h.2 q56
                                by_cases q60 : ((xs l5.toNatClampNeg) &&& 31) = 14
                                · have h := h.1 q60
                                  refine zr_tsG 27 919 [14] rfl (by simp only [List.mem_cons, List.not_mem_nil, or_false]; exact q60) (by decide) ?_
                                  refine zr_aload_n zSm 531 rfl rfl ?_
                                  refine zr_aload_n zSm 532 rfl rfl ?_
                                  refine zr_iload zSm 533 rfl rfl ?_
                                  refine zr_s zSm 534 rfl rfl ?_
                                  refine zr_s zSm 535 rfl rfl ?_
                                  obtain ⟨b536, h⟩ := h
                                  refine zr_sald zSm 536 rfl hL b536 ?_
                                  refine zr_aload_n zSm 537 rfl rfl ?_
                                  obtain ⟨c29, s29, g29, f29, h⟩ := h
                                  refine zr_callS 538 230 3 c29 s29 [.ref 0, .int (xs ((l5 + 1).toNatClampNeg)), .ref 52] rfl rfl zk_L_130 zmw_230 zmt_230 rfl (Nat.le_of_ble_eq_true rfl) g29 f29 ?_
                                  refine zci h (fun v29 I29 J29 D29 h => ?_)
                                  refine zr_istore zSm 539 (ll' := [(6, .int v29), (0, .ref 99), (1, .ref 0), (2, .ref 28), (3, .ref 52), (4, .ref 53), (5, .int l5)]) rfl (by decide) rfl ?_
                                  refine zr_aload_n zSm 540 rfl rfl ?_
                                  refine zr_aload_n zSm 541 rfl rfl ?_
                                  refine zr_iload zSm 542 rfl rfl ?_
                                  refine zr_s zSm 543 rfl rfl ?_
                                  refine zr_s zSm 544 rfl rfl ?_
                                  obtain ⟨b545, h⟩ := h
                                  refine zr_sald zSm 545 rfl hL b545 ?_
                                  refine zr_inv0 546 213 1 [.int (xs ((l5 + 1).toNatClampNeg))] rfl rfl zk_L_132 zms_213 rfl ⟨_, _, _, _, rfl, rfl⟩ (Nat.le_of_ble_eq_true rfl) ?_
                                  refine zci h (fun v30 I30 J30 D30 h => ?_)
                                  refine zr_istore zSm 547 (ll' := [(7, .int v30), (6, .int v29), (0, .ref 99), (1, .ref 0), (2, .ref 28), (3, .ref 52), (4, .ref 53), (5, .int l5)]) rfl (by decide) rfl ?_
                                  refine zr_aload_n zSm 548 rfl rfl ?_
                                  refine zr_inv0 549 134 0 [] rfl rfl zk_L_77 zms_134 rfl ⟨_, _, _, _, rfl, rfl⟩ (Nat.le_of_ble_eq_true rfl) ?_
                                  refine ze_134 ?_
                                  refine zNx_i ?_
                                  refine zr_iload zSm 550 rfl rfl ?_
                                  refine zr_ic zSm 551 955 rfl rfl (fun q61 => ?_) (fun q61 => ?_)
                                  · have h := h.1 q61
                                    refine zr_iload zSm 554 rfl rfl ?_
                                    refine zr_if zSm 555 972 rfl rfl (fun q62 => ?_) (fun q62 => ?_)
                                    · have h := h.1 q62
                                      refine zr_goto zSm 565 1272 rfl rfl ?_
                                      refine zr_iinc zSm 753 (v := l5 + 6) (ll' := [(5, .int (l5 + 6)), (7, .int v30), (6, .int v29), (0, .ref 99), (1, .ref 0), (2, .ref 28), (3, .ref 52), (4, .ref 53)]) rfl rfl (by decide) rfl rfl ?_
                                      refine zr_goto zSm 754 28 rfl rfl ?_
                                      refine zr_sub [3, 4, 5, 6, 7, 0] rfl ?_
                                      exact h
                                    · have h := h.2 q62
                                      refine zr_aload_n zSm 556 rfl rfl ?_
                                      refine zr_s zSm 557 rfl rfl ?_
                                      refine zr_lald zSm 558 rfl rfl (zin_lit (by decide) (by decide)) ?_
                                      refine zr_iload zSm 559 rfl rfl ?_
                                      refine zr_s zSm 560 rfl rfl ?_
                                      refine zr_s zSm 561 rfl rfl ?_
                                      refine zr_if zSm 562 972 rfl rfl (fun q63 => ?_) (fun q63 => ?_)
                                      · have q63 := zq_eq.mp q63
                                        have h := h.1 q63
                                        refine zr_goto zSm 565 1272 rfl rfl ?_
                                        refine zr_iinc zSm 753 (v := l5 + 6) (ll' := [(5, .int (l5 + 6)), (7, .int v30), (6, .int v29), (0, .ref 99), (1, .ref 0), (2, .ref 28), (3, .ref 52), (4, .ref 53)]) rfl rfl (by decide) rfl rfl ?_
                                        refine zr_goto zSm 754 28 rfl rfl ?_
                                        refine zr_sub [3, 4, 5, 6, 7, 0] rfl ?_
                                        exact h
                                      · have q63 := (fun z => q63 (zq_eq.mpr z))
                                        have h := h.2 q63
                                        refine zr_s zSm 563 rfl rfl ?_
                                        refine zr_iret zSm 564 rfl rfl rfl ?_
                                        exact h
                                  · have h := h.2 q61
                                    refine zr_s zSm 552 rfl rfl ?_
                                    refine zr_iret zSm 553 rfl rfl rfl ?_
                                    exact h
                                · have h := h.2 q60
                                  by_cases q64 : ((xs l5.toNatClampNeg) &&& 31) = 15
                                  · have h := h.1 q64
                                    refine zr_tsG 27 975 [15] rfl (by simp only [List.mem_cons, List.not_mem_nil, or_false]; exact q64) (by decide) ?_
                                    refine zr_aload_n zSm 566 rfl rfl ?_
                                    refine zr_aload_n zSm 567 rfl rfl ?_
                                    refine zr_iload zSm 568 rfl rfl ?_
                                    refine zr_s zSm 569 rfl rfl ?_
                                    refine zr_s zSm 570 rfl rfl ?_
                                    obtain ⟨b571, h⟩ := h
                                    refine zr_sald zSm 571 rfl hL b571 ?_
                                    refine zr_aload_n zSm 572 rfl rfl ?_
                                    refine zr_iload zSm 573 rfl rfl ?_
                                    refine zr_s zSm 574 rfl rfl ?_
                                    refine zr_s zSm 575 rfl rfl ?_
                                    obtain ⟨b576, h⟩ := h
                                    refine zr_sald zSm 576 rfl hL b576 ?_
                                    refine zr_aload_n zSm 577 rfl rfl ?_
                                    obtain ⟨c31, s31, g31, f31, h⟩ := h
                                    refine zr_callS 578 231 4 c31 s31 [.ref 0, .int (xs ((l5 + 1).toNatClampNeg)), .int (xs ((l5 + 2).toNatClampNeg)), .ref 52] rfl rfl zk_L_133 zmw_231 zmt_231 rfl (Nat.le_of_ble_eq_true rfl) g31 f31 ?_
                                    refine zci h (fun v31 I31 J31 D31 h => ?_)
                                    refine zr_istore zSm 579 (ll' := [(6, .int v31), (0, .ref 99), (1, .ref 0), (2, .ref 28), (3, .ref 52), (4, .ref 53), (5, .int l5)]) rfl (by decide) rfl ?_
                                    refine zr_aload_n zSm 580 rfl rfl ?_
                                    refine zr_aload_n zSm 581 rfl rfl ?_
                                    refine zr_iload zSm 582 rfl rfl ?_
                                    refine zr_s zSm 583 rfl rfl ?_
                                    refine zr_s zSm 584 rfl rfl ?_
                                    obtain ⟨b585, h⟩ := h
                                    refine zr_sald zSm 585 rfl hL b585 ?_
                                    refine zr_aload_n zSm 586 rfl rfl ?_
                                    refine zr_iload zSm 587 rfl rfl ?_
                                    refine zr_s zSm 588 rfl rfl ?_
                                    refine zr_s zSm 589 rfl rfl ?_
                                    obtain ⟨b590, h⟩ := h
                                    refine zr_sald zSm 590 rfl hL b590 ?_
                                    refine zr_inv0 591 214 2 [.int (xs ((l5 + 1).toNatClampNeg)), .int (xs ((l5 + 2).toNatClampNeg))] rfl rfl zk_L_135 zms_214 rfl ⟨_, _, _, _, rfl, rfl⟩ (Nat.le_of_ble_eq_true rfl) ?_
                                    refine zci h (fun v32 I32 J32 D32 h => ?_)
                                    refine zr_istore zSm 592 (ll' := [(7, .int v32), (6, .int v31), (0, .ref 99), (1, .ref 0), (2, .ref 28), (3, .ref 52), (4, .ref 53), (5, .int l5)]) rfl (by decide) rfl ?_
                                    refine zr_aload_n zSm 593 rfl rfl ?_
                                    refine zr_inv0 594 134 0 [] rfl rfl zk_L_77 zms_134 rfl ⟨_, _, _, _, rfl, rfl⟩ (Nat.le_of_ble_eq_true rfl) ?_
                                    refine ze_134 ?_
                                    refine zNx_i ?_
                                    refine zr_iload zSm 595 rfl rfl ?_
                                    refine zr_ic zSm 596 1023 rfl rfl (fun q65 => ?_) (fun q65 => ?_)
                                    · have h := h.1 q65
                                      refine zr_iload zSm 599 rfl rfl ?_
                                      refine zr_if zSm 600 1040 rfl rfl (fun q66 => ?_) (fun q66 => ?_)
                                      · have h := h.1 q66
                                        refine zr_goto zSm 610 1272 rfl rfl ?_
                                        refine zr_iinc zSm 753 (v := l5 + 6) (ll' := [(5, .int (l5 + 6)), (7, .int v32), (6, .int v31), (0, .ref 99), (1, .ref 0), (2, .ref 28), (3, .ref 52), (4, .ref 53)]) rfl rfl (by decide) rfl rfl ?_
                                        refine zr_goto zSm 754 28 rfl rfl ?_
                                        refine zr_sub [3, 4, 5, 6, 7, 0] rfl ?_
                                        exact h
                                      · have h := h.2 q66
                                        refine zr_aload_n zSm 601 rfl rfl ?_
                                        refine zr_s zSm 602 rfl rfl ?_
                                        refine zr_lald zSm 603 rfl rfl (zin_lit (by decide) (by decide)) ?_
                                        refine zr_iload zSm 604 rfl rfl ?_
                                        refine zr_s zSm 605 rfl rfl ?_
                                        refine zr_s zSm 606 rfl rfl ?_
                                        refine zr_if zSm 607 1040 rfl rfl (fun q67 => ?_) (fun q67 => ?_)
                                        · have q67 := zq_eq.mp q67
                                          have h := h.1 q67
                                          refine zr_goto zSm 610 1272 rfl rfl ?_
                                          refine zr_iinc zSm 753 (v := l5 + 6) (ll' := [(5, .int (l5 + 6)), (7, .int v32), (6, .int v31), (0, .ref 99), (1, .ref 0), (2, .ref 28), (3, .ref 52), (4, .ref 53)]) rfl rfl (by decide) rfl rfl ?_
                                          refine zr_goto zSm 754 28 rfl rfl ?_
                                          refine zr_sub [3, 4, 5, 6, 7, 0] rfl ?_
                                          exact h
                                        · have q67 := (fun z => q67 (zq_eq.mpr z))
                                          have h := h.2 q67
                                          refine zr_s zSm 608 rfl rfl ?_
                                          refine zr_iret zSm 609 rfl rfl rfl ?_
                                          exact h
                                    · have h := h.2 q65
                                      refine zr_s zSm 597 rfl rfl ?_
                                      refine zr_iret zSm 598 rfl rfl rfl ?_
                                      exact h
                                  · have h := h.2 q64
                                    by_cases q68 : ((xs l5.toNatClampNeg) &&& 31) = 16
                                    · have h := h.1 q68
                                      refine zr_tsG 27 1043 [16] rfl (by simp only [List.mem_cons, List.not_mem_nil, or_false]; exact q68) (by decide) ?_
                                      refine zr_aload_n zSm 611 rfl rfl ?_
                                      refine zr_aload_n zSm 612 rfl rfl ?_
                                      refine zr_iload zSm 613 rfl rfl ?_
                                      refine zr_s zSm 614 rfl rfl ?_
                                      refine zr_s zSm 615 rfl rfl ?_
                                      obtain ⟨b616, h⟩ := h
                                      refine zr_sald zSm 616 rfl hL b616 ?_
                                      refine zr_aload_n zSm 617 rfl rfl ?_
                                      refine zr_iload zSm 618 rfl rfl ?_
                                      refine zr_s zSm 619 rfl rfl ?_
                                      refine zr_s zSm 620 rfl rfl ?_
                                      obtain ⟨b621, h⟩ := h
                                      refine zr_sald zSm 621 rfl hL b621 ?_
                                      refine zr_aload_n zSm 622 rfl rfl ?_
                                      obtain ⟨c33, s33, g33, f33, h⟩ := h
                                      refine zr_callS 623 232 4 c33 s33 [.ref 0, .int (xs ((l5 + 1).toNatClampNeg)), .int (xs ((l5 + 2).toNatClampNeg)), .ref 52] rfl rfl zk_L_136 zmw_232 zmt_232 rfl (Nat.le_of_ble_eq_true rfl) g33 f33 ?_
                                      refine zci h (fun v33 I33 J33 D33 h => ?_)
                                      refine zr_istore zSm 624 (ll' := [(6, .int v33), (0, .ref 99), (1, .ref 0), (2, .ref 28), (3, .ref 52), (4, .ref 53), (5, .int l5)]) rfl (by decide) rfl ?_
                                      refine zr_aload_n zSm 625 rfl rfl ?_
                                      refine zr_aload_n zSm 626 rfl rfl ?_
                                      refine zr_iload zSm 627 rfl rfl ?_
                                      refine zr_s zSm 628 rfl rfl ?_
                                      refine zr_s zSm 629 rfl rfl ?_
                                      obtain ⟨b630, h⟩ := h
                                      refine zr_sald zSm 630 rfl hL b630 ?_
                                      refine zr_aload_n zSm 631 rfl rfl ?_
                                      refine zr_iload zSm 632 rfl rfl ?_
                                      refine zr_s zSm 633 rfl rfl ?_
                                      refine zr_s zSm 634 rfl rfl ?_
                                      obtain ⟨b635, h⟩ := h
                                      refine zr_sald zSm 635 rfl hL b635 ?_
                                      refine zr_inv0 636 215 2 [.int (xs ((l5 + 1).toNatClampNeg)), .int (xs ((l5 + 2).toNatClampNeg))] rfl rfl zk_L_138 zms_215 rfl ⟨_, _, _, _, rfl, rfl⟩ (Nat.le_of_ble_eq_true rfl) ?_
                                      refine zci h (fun v34 I34 J34 D34 h => ?_)
                                      refine zr_istore zSm 637 (ll' := [(7, .int v34), (6, .int v33), (0, .ref 99), (1, .ref 0), (2, .ref 28), (3, .ref 52), (4, .ref 53), (5, .int l5)]) rfl (by decide) rfl ?_
                                      refine zr_aload_n zSm 638 rfl rfl ?_
                                      refine zr_inv0 639 134 0 [] rfl rfl zk_L_77 zms_134 rfl ⟨_, _, _, _, rfl, rfl⟩ (Nat.le_of_ble_eq_true rfl) ?_
                                      refine ze_134 ?_
                                      refine zNx_i ?_
                                      refine zr_iload zSm 640 rfl rfl ?_
                                      refine zr_ic zSm 641 1091 rfl rfl (fun q69 => ?_) (fun q69 => ?_)
                                      · have h := h.1 q69
                                        refine zr_iload zSm 644 rfl rfl ?_
                                        refine zr_if zSm 645 1108 rfl rfl (fun q70 => ?_) (fun q70 => ?_)
                                        · have h := h.1 q70
                                          refine zr_goto zSm 655 1272 rfl rfl ?_
                                          refine zr_iinc zSm 753 (v := l5 + 6) (ll' := [(5, .int (l5 + 6)), (7, .int v34), (6, .int v33), (0, .ref 99), (1, .ref 0), (2, .ref 28), (3, .ref 52), (4, .ref 53)]) rfl rfl (by decide) rfl rfl ?_
                                          refine zr_goto zSm 754 28 rfl rfl ?_
                                          refine zr_sub [3, 4, 5, 6, 7, 0] rfl ?_
                                          exact h
                                        · have h := h.2 q70
                                          refine zr_aload_n zSm 646 rfl rfl ?_
                                          refine zr_s zSm 647 rfl rfl ?_
                                          refine zr_lald zSm 648 rfl rfl (zin_lit (by decide) (by decide)) ?_
                                          refine zr_iload zSm 649 rfl rfl ?_
                                          refine zr_s zSm 650 rfl rfl ?_
                                          refine zr_s zSm 651 rfl rfl ?_
                                          refine zr_if zSm 652 1108 rfl rfl (fun q71 => ?_) (fun q71 => ?_)
                                          · have q71 := zq_eq.mp q71
                                            have h := h.1 q71
                                            refine zr_goto zSm 655 1272 rfl rfl ?_
                                            refine zr_iinc zSm 753 (v := l5 + 6) (ll' := [(5, .int (l5 + 6)), (7, .int v34), (6, .int v33), (0, .ref 99), (1, .ref 0), (2, .ref 28), (3, .ref 52), (4, .ref 53)]) rfl rfl (by decide) rfl rfl ?_
                                            refine zr_goto zSm 754 28 rfl rfl ?_
                                            refine zr_sub [3, 4, 5, 6, 7, 0] rfl ?_
                                            exact h
                                          · have q71 := (fun z => q71 (zq_eq.mpr z))
                                            have h := h.2 q71
                                            refine zr_s zSm 653 rfl rfl ?_
                                            refine zr_iret zSm 654 rfl rfl rfl ?_
                                            exact h
                                      · have h := h.2 q69
                                        refine zr_s zSm 642 rfl rfl ?_
                                        refine zr_iret zSm 643 rfl rfl rfl ?_
                                        exact h
                                    · have h := h.2 q68
                                      by_cases q72 : ((xs l5.toNatClampNeg) &&& 31) = 17
                                      · have h := h.1 q72
                                        refine zr_tsG 27 1111 [17] rfl (by simp only [List.mem_cons, List.not_mem_nil, or_false]; exact q72) (by decide) ?_
                                        refine zr_aload_n zSm 656 rfl rfl ?_
                                        refine zr_aload_n zSm 657 rfl rfl ?_
                                        refine zr_iload zSm 658 rfl rfl ?_
                                        refine zr_s zSm 659 rfl rfl ?_
                                        refine zr_s zSm 660 rfl rfl ?_
                                        obtain ⟨b661, h⟩ := h
                                        refine zr_sald zSm 661 rfl hL b661 ?_
                                        refine zr_aload_n zSm 662 rfl rfl ?_
                                        obtain ⟨c35, s35, g35, f35, h⟩ := h
                                        refine zr_callS 663 233 3 c35 s35 [.ref 0, .int (xs ((l5 + 1).toNatClampNeg)), .ref 52] rfl rfl zk_L_139 zmw_233 zmt_233 rfl (Nat.le_of_ble_eq_true rfl) g35 f35 ?_
                                        refine zci h (fun v35 I35 J35 D35 h => ?_)
                                        refine zr_istore zSm 664 (ll' := [(6, .int v35), (0, .ref 99), (1, .ref 0), (2, .ref 28), (3, .ref 52), (4, .ref 53), (5, .int l5)]) rfl (by decide) rfl ?_
                                        refine zr_aload_n zSm 665 rfl rfl ?_
                                        refine zr_aload_n zSm 666 rfl rfl ?_
                                        refine zr_iload zSm 667 rfl rfl ?_
                                        refine zr_s zSm 668 rfl rfl ?_
                                        refine zr_s zSm 669 rfl rfl ?_
                                        obtain ⟨b670, h⟩ := h
                                        refine zr_sald zSm 670 rfl hL b670 ?_
                                        obtain ⟨c36, s36, g36, f36, h⟩ := h
                                        refine zr_inv zSm 671 216 1 c36 s36 [.int (xs ((l5 + 1).toNatClampNeg))] rfl rfl zk_L_141 zms_216 rfl ⟨_, _, _, _, rfl, rfl⟩ (Nat.le_of_ble_eq_true rfl) g36 f36 ?_
                                        refine zci h (fun v36 I36 J36 D36 h => ?_)
                                        refine zr_istore zSm 672 (ll' := [(7, .int v36), (6, .int v35), (0, .ref 99), (1, .ref 0), (2, .ref 28), (3, .ref 52), (4, .ref 53), (5, .int l5)]) rfl (by decide) rfl ?_
                                        refine zr_aload_n zSm 673 rfl rfl ?_
                                        refine zr_inv0 674 134 0 [] rfl rfl zk_L_77 zms_134 rfl ⟨_, _, _, _, rfl, rfl⟩ (Nat.le_of_ble_eq_true rfl) ?_
                                        refine ze_134 ?_
                                        refine zNx_i ?_
                                        refine zr_iload zSm 675 rfl rfl ?_
                                        refine zr_ic zSm 676 1147 rfl rfl (fun q73 => ?_) (fun q73 => ?_)
                                        · have h := h.1 q73
                                          refine zr_iload zSm 679 rfl rfl ?_
                                          refine zr_if zSm 680 1164 rfl rfl (fun q74 => ?_) (fun q74 => ?_)
                                          · have h := h.1 q74
                                            refine zr_goto zSm 690 1272 rfl rfl ?_
                                            refine zr_iinc zSm 753 (v := l5 + 6) (ll' := [(5, .int (l5 + 6)), (7, .int v36), (6, .int v35), (0, .ref 99), (1, .ref 0), (2, .ref 28), (3, .ref 52), (4, .ref 53)]) rfl rfl (by decide) rfl rfl ?_
                                            refine zr_goto zSm 754 28 rfl rfl ?_
                                            refine zr_sub [3, 4, 5, 6, 7, 0] rfl ?_
                                            exact h
                                          · have h := h.2 q74
                                            refine zr_aload_n zSm 681 rfl rfl ?_
                                            refine zr_s zSm 682 rfl rfl ?_
                                            refine zr_lald zSm 683 rfl rfl (zin_lit (by decide) (by decide)) ?_
                                            refine zr_iload zSm 684 rfl rfl ?_
                                            refine zr_s zSm 685 rfl rfl ?_
                                            refine zr_s zSm 686 rfl rfl ?_
                                            refine zr_if zSm 687 1164 rfl rfl (fun q75 => ?_) (fun q75 => ?_)
                                            · have q75 := zq_eq.mp q75
                                              have h := h.1 q75
                                              refine zr_goto zSm 690 1272 rfl rfl ?_
                                              refine zr_iinc zSm 753 (v := l5 + 6) (ll' := [(5, .int (l5 + 6)), (7, .int v36), (6, .int v35), (0, .ref 99), (1, .ref 0), (2, .ref 28), (3, .ref 52), (4, .ref 53)]) rfl rfl (by decide) rfl rfl ?_
                                              refine zr_goto zSm 754 28 rfl rfl ?_
                                              refine zr_sub [3, 4, 5, 6, 7, 0] rfl ?_
                                              exact h
                                            · have q75 := (fun z => q75 (zq_eq.mpr z))
                                              have h := h.2 q75
                                              refine zr_s zSm 688 rfl rfl ?_
                                              refine zr_iret zSm 689 rfl rfl rfl ?_
                                              exact h
                                        · have h := h.2 q73
                                          refine zr_s zSm 677 rfl rfl ?_
                                          refine zr_iret zSm 678 rfl rfl rfl ?_
                                          exact h
                                      · have h := h.2 q72
                                        by_cases q76 : ((xs l5.toNatClampNeg) &&& 31) = 18
                                        · have h := h.1 q76
                                          refine zr_tsG 27 1167 [18] rfl (by simp only [List.mem_cons, List.not_mem_nil, or_false]; exact q76) (by decide) ?_
                                          refine zr_aload_n zSm 691 rfl rfl ?_
                                          refine zr_inv0 692 126 0 [] rfl rfl zk_L_142 zms_126 rfl ⟨_, _, _, _, rfl, rfl⟩ (Nat.le_of_ble_eq_true rfl) ?_
                                          refine ze_126 ?_
                                          refine zNx_l ?_
                                          refine zr_aload_n zSm 693 rfl rfl ?_
                                          refine zr_inv0 694 217 0 [] rfl rfl zk_L_146 zms_217 rfl ⟨_, _, _, _, rfl, rfl⟩ (Nat.le_of_ble_eq_true rfl) ?_
                                          refine zcl h (fun v37 I37 J37 D37 h => ?_)
                                          refine zr_s zSm 695 rfl rfl ?_
                                          refine zr_if zSm 696 1272 rfl rfl (fun q77 => ?_) (fun q77 => ?_)
                                          · have q77 := zq_eq.mp q77
                                            have h := h.1 q77
                                            refine zr_iinc zSm 753 (v := l5 + 6) (ll' := [(5, .int (l5 + 6)), (0, .ref 99), (1, .ref 0), (2, .ref 28), (3, .ref 52), (4, .ref 53)]) rfl rfl (by decide) rfl rfl ?_
                                            refine zr_goto zSm 754 28 rfl rfl ?_
                                            refine zr_sub [1, 2, 3, 4, 5, 0] rfl ?_
                                            exact h
                                          · have q77 := (fun z => q77 (zq_eq.mpr z))
                                            have h := h.2 q77
                                            refine zr_s zSm 697 rfl rfl ?_
                                            refine zr_iret zSm 698 rfl rfl rfl ?_
                                            exact h
                                        · have h := h.2 q76
                                          by_cases q78 : ((xs l5.toNatClampNeg) &&& 31) = 19
                                          · have h := h.1 q78
                                            refine zr_tsG 27 1181 [19] rfl (by simp only [List.mem_cons, List.not_mem_nil, or_false]; exact q78) (by decide) ?_
                                            refine zr_aload_n zSm 699 rfl rfl ?_
                                            refine zr_aload_n zSm 700 rfl rfl ?_
                                            refine zr_iload zSm 701 rfl rfl ?_
                                            refine zr_s zSm 702 rfl rfl ?_
                                            refine zr_s zSm 703 rfl rfl ?_
                                            obtain ⟨b704, h⟩ := h
                                            refine zr_sald zSm 704 rfl hL b704 ?_
                                            refine zr_aload zSm 705 rfl rfl ?_
                                            obtain ⟨c38, s38, g38, f38, h⟩ := h
                                            refine zr_callS 706 234 3 c38 s38 [.ref 0, .int (xs ((l5 + 1).toNatClampNeg)), .ref 53] rfl rfl zk_L_147 zmw_234 zmt_234 rfl (Nat.le_of_ble_eq_true rfl) g38 f38 ?_
                                            refine zci h (fun v38 I38 J38 D38 h => ?_)
                                            refine zr_istore zSm 707 (ll' := [(6, .int v38), (0, .ref 99), (1, .ref 0), (2, .ref 28), (3, .ref 52), (4, .ref 53), (5, .int l5)]) rfl (by decide) rfl ?_
                                            refine zr_aload_n zSm 708 rfl rfl ?_
                                            refine zr_aload_n zSm 709 rfl rfl ?_
                                            refine zr_iload zSm 710 rfl rfl ?_
                                            refine zr_s zSm 711 rfl rfl ?_
                                            refine zr_s zSm 712 rfl rfl ?_
                                            obtain ⟨b713, h⟩ := h
                                            refine zr_sald zSm 713 rfl hL b713 ?_
                                            refine zr_inv0 714 218 1 [.int (xs ((l5 + 1).toNatClampNeg))] rfl rfl zk_L_150 zms_218 rfl ⟨_, _, _, _, rfl, rfl⟩ (Nat.le_of_ble_eq_true rfl) ?_
                                            refine zcd h (fun v39 I39 J39 D39 h => ?_)
                                            refine zr_dstore zSm 715 (ll' := [(7, .double v39), (6, .int v38), (0, .ref 99), (1, .ref 0), (2, .ref 28), (3, .ref 52), (4, .ref 53), (5, .int l5)]) rfl (by decide) rfl ?_
                                            refine zr_aload_n zSm 716 rfl rfl ?_
                                            refine zr_inv0 717 134 0 [] rfl rfl zk_L_77 zms_134 rfl ⟨_, _, _, _, rfl, rfl⟩ (Nat.le_of_ble_eq_true rfl) ?_
                                            refine ze_134 ?_
                                            refine zNx_i ?_
                                            refine zr_iload zSm 718 rfl rfl ?_
                                            refine zr_ic zSm 719 1218 rfl rfl (fun q79 => ?_) (fun q79 => ?_)
                                            · have h := h.1 q79
                                              refine zr_iload zSm 722 rfl rfl ?_
                                              refine zr_if zSm 723 1255 rfl rfl (fun q80 => ?_) (fun q80 => ?_)
                                              · have h := h.1 q80
                                                refine zr_goto zSm 744 1272 rfl rfl ?_
                                                refine zr_iinc zSm 753 (v := l5 + 6) (ll' := [(5, .int (l5 + 6)), (7, .double v39), (6, .int v38), (0, .ref 99), (1, .ref 0), (2, .ref 28), (3, .ref 52), (4, .ref 53)]) rfl rfl (by decide) rfl rfl ?_
                                                refine zr_goto zSm 754 28 rfl rfl ?_
                                                refine zr_sub [3, 4, 5, 6, 7, 0] rfl ?_
                                                exact h
                                              · have h := h.2 q80
                                                refine zr_aload zSm 724 rfl rfl ?_
                                                refine zr_s zSm 725 rfl rfl ?_
                                                refine zr_dald zSm 726 rfl rfl (zin_lit (by decide) (by decide)) ?_
                                                refine zr_dload zSm 727 rfl rfl ?_
                                                refine zr_s zSm 728 rfl rfl ?_
                                                refine zr_if zSm 729 1255 rfl rfl (fun q81 => ?_) (fun q81 => ?_)
                                                · have h := h.1 q81
                                                  refine zr_goto zSm 744 1272 rfl rfl ?_
                                                  refine zr_iinc zSm 753 (v := l5 + 6) (ll' := [(5, .int (l5 + 6)), (7, .double v39), (6, .int v38), (0, .ref 99), (1, .ref 0), (2, .ref 28), (3, .ref 52), (4, .ref 53)]) rfl rfl (by decide) rfl rfl ?_
                                                  refine zr_goto zSm 754 28 rfl rfl ?_
                                                  refine zr_sub [3, 4, 5, 6, 7, 0] rfl ?_
                                                  exact h
                                                · have h := h.2 q81
                                                  refine zr_aload zSm 730 rfl rfl ?_
                                                  refine zr_s zSm 731 rfl rfl ?_
                                                  refine zr_dald zSm 732 rfl rfl (zin_lit (by decide) (by decide)) ?_
                                                  refine zr_aload zSm 733 rfl rfl ?_
                                                  refine zr_s zSm 734 rfl rfl ?_
                                                  refine zr_dald zSm 735 rfl rfl (zin_lit (by decide) (by decide)) ?_
                                                  refine zr_s zSm 736 rfl rfl ?_
                                                  refine zr_if zSm 737 1253 rfl rfl (fun q82 => ?_) (fun q82 => ?_)
                                                  · have h := h.1 q82
                                                    refine zr_s zSm 742 rfl rfl ?_
                                                    refine zr_iret zSm 743 rfl rfl rfl ?_
                                                    exact h
                                                  · have h := h.2 q82
                                                    refine zr_dload zSm 738 rfl rfl ?_
                                                    refine zr_dload zSm 739 rfl rfl ?_
                                                    refine zr_s zSm 740 rfl rfl ?_
                                                    refine zr_if zSm 741 1255 rfl rfl (fun q83 => ?_) (fun q83 => ?_)
                                                    · have h := h.1 q83
                                                      refine zr_goto zSm 744 1272 rfl rfl ?_
                                                      refine zr_iinc zSm 753 (v := l5 + 6) (ll' := [(5, .int (l5 + 6)), (7, .double v39), (6, .int v38), (0, .ref 99), (1, .ref 0), (2, .ref 28), (3, .ref 52), (4, .ref 53)]) rfl rfl (by decide) rfl rfl ?_
                                                      refine zr_goto zSm 754 28 rfl rfl ?_
                                                      refine zr_sub [3, 4, 5, 6, 7, 0] rfl ?_
                                                      exact h
                                                    · have h := h.2 q83
                                                      refine zr_s zSm 742 rfl rfl ?_
                                                      refine zr_iret zSm 743 rfl rfl rfl ?_
                                                      exact h
                                            · have h := h.2 q79
                                              refine zr_s zSm 720 rfl rfl ?_
                                              refine zr_iret zSm 721 rfl rfl rfl ?_
                                              exact h
                                          · have h := h.2 q78
                                            by_cases q84 : ((xs l5.toNatClampNeg) &&& 31) = 20
                                            · have h := h.1 q84
                                              refine zr_tsG 27 1258 [20] rfl (by simp only [List.mem_cons, List.not_mem_nil, or_false]; exact q84) (by decide) ?_
                                              refine zr_aload_n zSm 745 rfl rfl ?_
                                              refine zr_inv0 746 128 0 [] rfl rfl zk_L_151 zms_128 rfl ⟨_, _, _, _, rfl, rfl⟩ (Nat.le_of_ble_eq_true rfl) ?_
                                              refine zcl h (fun v40 I40 J40 D40 h => ?_)
                                              refine zr_aload_n zSm 747 rfl rfl ?_
                                              refine zr_inv0 748 219 0 [] rfl rfl zk_L_154 zms_219 rfl ⟨_, _, _, _, rfl, rfl⟩ (Nat.le_of_ble_eq_true rfl) ?_
                                              refine zcl h (fun v41 I41 J41 D41 h => ?_)
                                              refine zr_s zSm 749 rfl rfl ?_
                                              refine zr_if zSm 750 1272 rfl rfl (fun q85 => ?_) (fun q85 => ?_)
                                              · have q85 := zq_eq.mp q85
                                                have h := h.1 q85
                                                refine zr_iinc zSm 753 (v := l5 + 6) (ll' := [(5, .int (l5 + 6)), (0, .ref 99), (1, .ref 0), (2, .ref 28), (3, .ref 52), (4, .ref 53)]) rfl rfl (by decide) rfl rfl ?_
                                                refine zr_goto zSm 754 28 rfl rfl ?_
                                                refine zr_sub [1, 2, 3, 4, 5, 0] rfl ?_
                                                exact h
                                              · have q85 := (fun z => q85 (zq_eq.mpr z))
                                                have h := h.2 q85
                                                refine zr_s zSm 751 rfl rfl ?_
                                                refine zr_iret zSm 752 rfl rfl rfl ?_
                                                exact h
                                            · have h := h.2 q84
                                              refine zr_tsD 27 1272 [0, 1, 2, 3, 4, 5, 6, 7, 8, 9, 10, 11, 12, 13, 14, 15, 16, 17, 18, 19, 20] rfl ?_ (by decide) rfl ?_
                                              · intro hx
                                                simp only [List.mem_cons, List.not_mem_nil, or_false] at hx
                                                rcases hx with e | e | e | e | e | e | e | e | e | e | e | e | e | e | e | e | e | e | e | e | e
                                                · exact q2 e
                                                · exact q6 e
                                                · exact q10 e
                                                · exact q12 e
                                                · exact q14 e
                                                · exact q18 e
                                                · exact q22 e
                                                · exact q26 e
                                                · exact q30 e
                                                · exact q34 e
                                                · exact q48 e
                                                · exact q50 e
                                                · exact q52 e
                                                · exact q56 e
                                                · exact q60 e
                                                · exact q64 e
                                                · exact q68 e
                                                · exact q72 e
                                                · exact q76 e
                                                · exact q78 e
                                                · exact q84 e
                                              · refine zr_iinc zSm 753 (v := l5 + 6) (ll' := [(5, .int (l5 + 6)), (0, .ref 99), (1, .ref 0), (2, .ref 28), (3, .ref 52), (4, .ref 53)]) rfl rfl (by decide) rfl rfl ?_
                                                refine zr_goto zSm 754 28 rfl rfl ?_
                                                refine zr_sub [1, 2, 3, 4, 5, 0] rfl ?_
                                                exact h

theorem zq_0 : goodWord (Cond.castable "a" "b") = true := by decide +kernel
theorem zq_1 : goodWord (Cond.declares ⟨"a","b","c"⟩) = true := by decide +kernel
theorem zq_2 : goodWord (Cond.native ⟨"a","b","c"⟩) = true := by decide +kernel
theorem zq_3 : goodWord (Cond.selects "a" ⟨"a","b","c"⟩ ⟨"a","b","c"⟩) = true := by decide +kernel
theorem zq_4 : goodWord (Cond.superclass "a" "b") = true := by decide +kernel
theorem zq_5 : goodWord (Cond.classLink "a" 1 "b") = true := by decide +kernel
theorem zq_6 : goodWord (Cond.initialized "a") = true := by decide +kernel
theorem zq_7 : goodWord (Cond.instantiable "a" 1) = true := by decide +kernel
theorem zq_8 : goodWord (Cond.lays "a" "b" "c" "d") = true := by decide +kernel
theorem zq_9 : goodWord (Cond.laysStatic "a" "b" "c") = true := by decide +kernel
theorem zq_10 : goodWord (Cond.codeSync ⟨"a","b","c"⟩ ⟨#[]⟩ 1 none) = true := by decide +kernel
theorem zq_11 : goodWord (Cond.methodLink "a" 1 ⟨"a","b","c"⟩) = true := by decide +kernel
theorem zq_thr : ((Bundle.throwableAtoms).filter vx_no).all zWd = true := by decide +kernel
theorem zq2_thr : ((Bundle.throwableAtoms).filter vx_no).all (fun w => goodWord w || zDc w) = true := by decide +kernel
theorem zq_thrS : ((Bundle.throwableSAtoms).filter vx_no).all zWd = true := by decide +kernel
theorem zq2_thrS : ((Bundle.throwableSAtoms).filter vx_no).all (fun w => goodWord w || zDc w) = true := by decide +kernel
theorem zq_ch : ((Bundle.chainSAtoms zISE zTn).filter vx_no).all zWd = true := by decide +kernel
theorem zq2_ch : ((Bundle.chainSAtoms zISE zTn).filter vx_no).all (fun w => goodWord w || zDc w) = true := by decide +kernel
theorem zq3_0 : (((Bundle.throwableAtoms).filter vx_no)[0]?.map zWd) = some true := by decide +kernel
theorem zq3_1 : (((Bundle.throwableAtoms).filter vx_no)[1]?.map zWd) = some true := by decide +kernel
theorem zq3_2 : (((Bundle.throwableAtoms).filter vx_no)[2]?.map zWd) = some true := by decide +kernel
theorem zq3_3 : (((Bundle.throwableAtoms).filter vx_no)[3]?.map zWd) = some true := by decide +kernel
theorem zq3_4 : (((Bundle.throwableAtoms).filter vx_no)[4]?.map zWd) = some true := by decide +kernel
theorem zq3_5 : (((Bundle.throwableAtoms).filter vx_no)[5]?.map zWd) = some true := by decide +kernel
theorem zq3_6 : (((Bundle.throwableAtoms).filter vx_no)[6]?.map zWd) = some true := by decide +kernel
theorem zq3_7 : (((Bundle.throwableAtoms).filter vx_no)[7]?.map zWd) = some true := by decide +kernel
theorem zq3_8 : (((Bundle.throwableAtoms).filter vx_no)[8]?.map zWd) = some true := by decide +kernel
theorem zq3_9 : (((Bundle.throwableAtoms).filter vx_no)[9]?.map zWd) = some true := by decide +kernel
theorem zq3_10 : (((Bundle.throwableAtoms).filter vx_no)[10]?.map zWd) = some true := by decide +kernel
theorem zq3_11 : (((Bundle.throwableAtoms).filter vx_no)[11]?.map zWd) = some true := by decide +kernel
theorem zq3_12 : (((Bundle.throwableAtoms).filter vx_no)[12]?.map zWd) = some true := by decide +kernel
theorem zq3_13 : (((Bundle.throwableAtoms).filter vx_no)[13]?.map zWd) = some true := by decide +kernel
theorem zq3_14 : (((Bundle.throwableAtoms).filter vx_no)[14]?.map zWd) = some true := by decide +kernel
theorem zq3_15 : (((Bundle.throwableAtoms).filter vx_no)[15]?.map zWd) = some true := by decide +kernel
theorem zq3_16 : (((Bundle.throwableAtoms).filter vx_no)[16]?.map zWd) = some true := by decide +kernel
theorem zq3_17 : (((Bundle.throwableAtoms).filter vx_no)[17]?.map zWd) = some true := by decide +kernel
theorem zq3_18 : (((Bundle.throwableAtoms).filter vx_no)[18]?.map zWd) = some true := by decide +kernel
theorem zq3_19 : (((Bundle.throwableAtoms).filter vx_no)[19]?.map zWd) = some true := by decide +kernel
theorem zq3_20 : (((Bundle.throwableAtoms).filter vx_no)[20]?.map zWd) = some true := by decide +kernel
theorem zq3_21 : (((Bundle.throwableAtoms).filter vx_no)[21]?.map zWd) = some true := by decide +kernel
theorem zq3_22 : (((Bundle.throwableAtoms).filter vx_no)[22]?.map zWd) = some true := by decide +kernel
theorem zq3_23 : (((Bundle.throwableAtoms).filter vx_no)[23]?.map zWd) = some true := by decide +kernel
theorem zq3_24 : (((Bundle.throwableAtoms).filter vx_no)[24]?.map zWd) = some true := by decide +kernel
theorem zq3_25 : (((Bundle.throwableAtoms).filter vx_no)[25]?.map zWd) = some true := by decide +kernel

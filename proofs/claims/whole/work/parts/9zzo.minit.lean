/-! ===== the constructor of the reference ===== -/
theorem zd133_0 : decode (zcc 133) 0 = .ok (.aload_n 0, 1) := by
  show decode cX11_init 0 = _
  decide +kernel
theorem zd133_1 : decode (zcc 133) 1 = .ok (.invokespecial 3, 3) := by
  show decode cX11_init 1 = _
  decide +kernel
theorem zd133_4 : decode (zcc 133) 4 = .ok (.aload_n 0, 1) := by
  show decode cX11_init 4 = _
  decide +kernel
theorem zd133_5 : decode (zcc 133) 5 = .ok (.bipush 32, 2) := by
  show decode cX11_init 5 = _
  decide +kernel
theorem zd133_7 : decode (zcc 133) 7 = .ok (.newarray .long, 2) := by
  show decode cX11_init 7 = _
  decide +kernel
theorem zd133_9 : decode (zcc 133) 9 = .ok (.putfield 9, 3) := by
  show decode cX11_init 9 = _
  decide +kernel
theorem zd133_12 : decode (zcc 133) 12 = .ok (.aload_n 0, 1) := by
  show decode cX11_init 12 = _
  decide +kernel
theorem zd133_13 : decode (zcc 133) 13 = .ok (.sipush 2000, 3) := by
  show decode cX11_init 13 = _
  decide +kernel
theorem zd133_16 : decode (zcc 133) 16 = .ok (.newarray .int, 2) := by
  show decode cX11_init 16 = _
  decide +kernel
theorem zd133_18 : decode (zcc 133) 18 = .ok (.putfield 13, 3) := by
  show decode cX11_init 18 = _
  decide +kernel
theorem zd133_21 : decode (zcc 133) 21 = .ok (.aload_n 0, 1) := by
  show decode cX11_init 21 = _
  decide +kernel
theorem zd133_22 : decode (zcc 133) 22 = .ok (.sipush 452, 3) := by
  show decode cX11_init 22 = _
  decide +kernel
theorem zd133_25 : decode (zcc 133) 25 = .ok (.newarray .int, 2) := by
  show decode cX11_init 25 = _
  decide +kernel
theorem zd133_27 : decode (zcc 133) 27 = .ok (.putfield 17, 3) := by
  show decode cX11_init 27 = _
  decide +kernel
theorem zd133_30 : decode (zcc 133) 30 = .ok (.aload_n 0, 1) := by
  show decode cX11_init 30 = _
  decide +kernel
theorem zd133_31 : decode (zcc 133) 31 = .ok (.sipush 452, 3) := by
  show decode cX11_init 31 = _
  decide +kernel
theorem zd133_34 : decode (zcc 133) 34 = .ok (.newarray .int, 2) := by
  show decode cX11_init 34 = _
  decide +kernel
theorem zd133_36 : decode (zcc 133) 36 = .ok (.putfield 20, 3) := by
  show decode cX11_init 36 = _
  decide +kernel
theorem zd133_39 : decode (zcc 133) 39 = .ok (.aload_n 0, 1) := by
  show decode cX11_init 39 = _
  decide +kernel
theorem zd133_40 : decode (zcc 133) 40 = .ok (.sipush 452, 3) := by
  show decode cX11_init 40 = _
  decide +kernel
theorem zd133_43 : decode (zcc 133) 43 = .ok (.newarray .long, 2) := by
  show decode cX11_init 43 = _
  decide +kernel
theorem zd133_45 : decode (zcc 133) 45 = .ok (.putfield 23, 3) := by
  show decode cX11_init 45 = _
  decide +kernel
theorem zd133_48 : decode (zcc 133) 48 = .ok (.aload_n 0, 1) := by
  show decode cX11_init 48 = _
  decide +kernel
theorem zd133_49 : decode (zcc 133) 49 = .ok (.bipush 46, 2) := by
  show decode cX11_init 49 = _
  decide +kernel
theorem zd133_51 : decode (zcc 133) 51 = .ok (.newarray .long, 2) := by
  show decode cX11_init 51 = _
  decide +kernel
theorem zd133_53 : decode (zcc 133) 53 = .ok (.putfield 26, 3) := by
  show decode cX11_init 53 = _
  decide +kernel
theorem zd133_56 : decode (zcc 133) 56 = .ok (.aload_n 0, 1) := by
  show decode cX11_init 56 = _
  decide +kernel
theorem zd133_57 : decode (zcc 133) 57 = .ok (.bipush 46, 2) := by
  show decode cX11_init 57 = _
  decide +kernel
theorem zd133_59 : decode (zcc 133) 59 = .ok (.newarray .int, 2) := by
  show decode cX11_init 59 = _
  decide +kernel
theorem zd133_61 : decode (zcc 133) 61 = .ok (.putfield 29, 3) := by
  show decode cX11_init 61 = _
  decide +kernel
theorem zd133_64 : decode (zcc 133) 64 = .ok (.aload_n 0, 1) := by
  show decode cX11_init 64 = _
  decide +kernel
theorem zd133_65 : decode (zcc 133) 65 = .ok (.bipush 46, 2) := by
  show decode cX11_init 65 = _
  decide +kernel
theorem zd133_67 : decode (zcc 133) 67 = .ok (.newarray .int, 2) := by
  show decode cX11_init 67 = _
  decide +kernel
theorem zd133_69 : decode (zcc 133) 69 = .ok (.putfield 32, 3) := by
  show decode cX11_init 69 = _
  decide +kernel
theorem zd133_72 : decode (zcc 133) 72 = .ok (.aload_n 0, 1) := by
  show decode cX11_init 72 = _
  decide +kernel
theorem zd133_73 : decode (zcc 133) 73 = .ok (.bipush 9, 2) := by
  show decode cX11_init 73 = _
  decide +kernel
theorem zd133_75 : decode (zcc 133) 75 = .ok (.newarray .int, 2) := by
  show decode cX11_init 75 = _
  decide +kernel
theorem zd133_77 : decode (zcc 133) 77 = .ok (.putfield 35, 3) := by
  show decode cX11_init 77 = _
  decide +kernel
theorem zd133_80 : decode (zcc 133) 80 = .ok (.aload_n 0, 1) := by
  show decode cX11_init 80 = _
  decide +kernel
theorem zd133_81 : decode (zcc 133) 81 = .ok (.bipush 36, 2) := by
  show decode cX11_init 81 = _
  decide +kernel
theorem zd133_83 : decode (zcc 133) 83 = .ok (.newarray .int, 2) := by
  show decode cX11_init 83 = _
  decide +kernel
theorem zd133_85 : decode (zcc 133) 85 = .ok (.putfield 38, 3) := by
  show decode cX11_init 85 = _
  decide +kernel
theorem zd133_88 : decode (zcc 133) 88 = .ok (.aload_n 0, 1) := by
  show decode cX11_init 88 = _
  decide +kernel
theorem zd133_89 : decode (zcc 133) 89 = .ok (.bipush 6, 2) := by
  show decode cX11_init 89 = _
  decide +kernel
theorem zd133_91 : decode (zcc 133) 91 = .ok (.newarray .int, 2) := by
  show decode cX11_init 91 = _
  decide +kernel
theorem zd133_93 : decode (zcc 133) 93 = .ok (.putfield 41, 3) := by
  show decode cX11_init 93 = _
  decide +kernel
theorem zd133_96 : decode (zcc 133) 96 = .ok (.aload_n 0, 1) := by
  show decode cX11_init 96 = _
  decide +kernel
theorem zd133_97 : decode (zcc 133) 97 = .ok (.bipush 28, 2) := by
  show decode cX11_init 97 = _
  decide +kernel
theorem zd133_99 : decode (zcc 133) 99 = .ok (.newarray .int, 2) := by
  show decode cX11_init 99 = _
  decide +kernel
theorem zd133_101 : decode (zcc 133) 101 = .ok (.putfield 44, 3) := by
  show decode cX11_init 101 = _
  decide +kernel
theorem zd133_104 : decode (zcc 133) 104 = .ok (.aload_n 0, 1) := by
  show decode cX11_init 104 = _
  decide +kernel
theorem zd133_105 : decode (zcc 133) 105 = .ok (.bipush 28, 2) := by
  show decode cX11_init 105 = _
  decide +kernel
theorem zd133_107 : decode (zcc 133) 107 = .ok (.newarray .int, 2) := by
  show decode cX11_init 107 = _
  decide +kernel
theorem zd133_109 : decode (zcc 133) 109 = .ok (.putfield 47, 3) := by
  show decode cX11_init 109 = _
  decide +kernel
theorem zd133_112 : decode (zcc 133) 112 = .ok (.aload_n 0, 1) := by
  show decode cX11_init 112 = _
  decide +kernel
theorem zd133_113 : decode (zcc 133) 113 = .ok (.bipush 8, 2) := by
  show decode cX11_init 113 = _
  decide +kernel
theorem zd133_115 : decode (zcc 133) 115 = .ok (.newarray .int, 2) := by
  show decode cX11_init 115 = _
  decide +kernel
theorem zd133_117 : decode (zcc 133) 117 = .ok (.putfield 50, 3) := by
  show decode cX11_init 117 = _
  decide +kernel
theorem zd133_120 : decode (zcc 133) 120 = .ok (.aload_n 0, 1) := by
  show decode cX11_init 120 = _
  decide +kernel
theorem zd133_121 : decode (zcc 133) 121 = .ok (.sipush 1350, 3) := by
  show decode cX11_init 121 = _
  decide +kernel
theorem zd133_124 : decode (zcc 133) 124 = .ok (.newarray .int, 2) := by
  show decode cX11_init 124 = _
  decide +kernel
theorem zd133_126 : decode (zcc 133) 126 = .ok (.putfield 53, 3) := by
  show decode cX11_init 126 = _
  decide +kernel
theorem zd133_129 : decode (zcc 133) 129 = .ok (.aload_n 0, 1) := by
  show decode cX11_init 129 = _
  decide +kernel
theorem zd133_130 : decode (zcc 133) 130 = .ok (.sipush 1350, 3) := by
  show decode cX11_init 130 = _
  decide +kernel
theorem zd133_133 : decode (zcc 133) 133 = .ok (.newarray .int, 2) := by
  show decode cX11_init 133 = _
  decide +kernel
theorem zd133_135 : decode (zcc 133) 135 = .ok (.putfield 56, 3) := by
  show decode cX11_init 135 = _
  decide +kernel
theorem zd133_138 : decode (zcc 133) 138 = .ok (.aload_n 0, 1) := by
  show decode cX11_init 138 = _
  decide +kernel
theorem zd133_139 : decode (zcc 133) 139 = .ok (.sipush 1350, 3) := by
  show decode cX11_init 139 = _
  decide +kernel
theorem zd133_142 : decode (zcc 133) 142 = .ok (.newarray .int, 2) := by
  show decode cX11_init 142 = _
  decide +kernel
theorem zd133_144 : decode (zcc 133) 144 = .ok (.putfield 59, 3) := by
  show decode cX11_init 144 = _
  decide +kernel
theorem zd133_147 : decode (zcc 133) 147 = .ok (.aload_n 0, 1) := by
  show decode cX11_init 147 = _
  decide +kernel
theorem zd133_148 : decode (zcc 133) 148 = .ok (.iconst (-1), 1) := by
  show decode cX11_init 148 = _
  decide +kernel
theorem zd133_149 : decode (zcc 133) 149 = .ok (.putfield 62, 3) := by
  show decode cX11_init 149 = _
  decide +kernel
theorem zd133_152 : decode (zcc 133) 152 = .ok (.aload_n 0, 1) := by
  show decode cX11_init 152 = _
  decide +kernel
theorem zd133_153 : decode (zcc 133) 153 = .ok (.bipush 24, 2) := by
  show decode cX11_init 153 = _
  decide +kernel
theorem zd133_155 : decode (zcc 133) 155 = .ok (.newarray .int, 2) := by
  show decode cX11_init 155 = _
  decide +kernel
theorem zd133_157 : decode (zcc 133) 157 = .ok (.putfield 66, 3) := by
  show decode cX11_init 157 = _
  decide +kernel
theorem zd133_160 : decode (zcc 133) 160 = .ok (.aload_n 0, 1) := by
  show decode cX11_init 160 = _
  decide +kernel
theorem zd133_161 : decode (zcc 133) 161 = .ok (.bipush 6, 2) := by
  show decode cX11_init 161 = _
  decide +kernel
theorem zd133_163 : decode (zcc 133) 163 = .ok (.newarray .int, 2) := by
  show decode cX11_init 163 = _
  decide +kernel
theorem zd133_165 : decode (zcc 133) 165 = .ok (.putfield 69, 3) := by
  show decode cX11_init 165 = _
  decide +kernel
theorem zd133_168 : decode (zcc 133) 168 = .ok (.aload_n 0, 1) := by
  show decode cX11_init 168 = _
  decide +kernel
theorem zd133_169 : decode (zcc 133) 169 = .ok (.bipush 40, 2) := by
  show decode cX11_init 169 = _
  decide +kernel
theorem zd133_171 : decode (zcc 133) 171 = .ok (.newarray .int, 2) := by
  show decode cX11_init 171 = _
  decide +kernel
theorem zd133_173 : decode (zcc 133) 173 = .ok (.putfield 72, 3) := by
  show decode cX11_init 173 = _
  decide +kernel
theorem zd133_176 : decode (zcc 133) 176 = .ok (.aload_n 0, 1) := by
  show decode cX11_init 176 = _
  decide +kernel
theorem zd133_177 : decode (zcc 133) 177 = .ok (.sipush 1000, 3) := by
  show decode cX11_init 177 = _
  decide +kernel
theorem zd133_180 : decode (zcc 133) 180 = .ok (.newarray .int, 2) := by
  show decode cX11_init 180 = _
  decide +kernel
theorem zd133_182 : decode (zcc 133) 182 = .ok (.putfield 75, 3) := by
  show decode cX11_init 182 = _
  decide +kernel
theorem zd133_185 : decode (zcc 133) 185 = .ok (.aload_n 0, 1) := by
  show decode cX11_init 185 = _
  decide +kernel
theorem zd133_186 : decode (zcc 133) 186 = .ok (.sipush 452, 3) := by
  show decode cX11_init 186 = _
  decide +kernel
theorem zd133_189 : decode (zcc 133) 189 = .ok (.newarray .long, 2) := by
  show decode cX11_init 189 = _
  decide +kernel
theorem zd133_191 : decode (zcc 133) 191 = .ok (.putfield 78, 3) := by
  show decode cX11_init 191 = _
  decide +kernel
theorem zd133_194 : decode (zcc 133) 194 = .ok (.aload_n 0, 1) := by
  show decode cX11_init 194 = _
  decide +kernel
theorem zd133_195 : decode (zcc 133) 195 = .ok (.sipush 1000, 3) := by
  show decode cX11_init 195 = _
  decide +kernel
theorem zd133_198 : decode (zcc 133) 198 = .ok (.newarray .int, 2) := by
  show decode cX11_init 198 = _
  decide +kernel
theorem zd133_200 : decode (zcc 133) 200 = .ok (.putfield 81, 3) := by
  show decode cX11_init 200 = _
  decide +kernel
theorem zol_11 : Cond.methodLink RX11 3 Lib.objectInit ∈ zAL := zmem5 159 (by decide +kernel) (by decide +kernel)
theorem zff_11_1 : zFf RX11 11 1 (.array .long) := ⟨_, _, _, rfl, rfl, rfl, by decide +kernel⟩
theorem zff_11_2 : zFf RX11 11 2 (.array .int) := ⟨_, _, _, rfl, rfl, rfl, by decide +kernel⟩
theorem zff_11_5 : zFf RX11 11 5 (.array .int) := ⟨_, _, _, rfl, rfl, rfl, by decide +kernel⟩
theorem zff_11_6 : zFf RX11 11 6 (.array .int) := ⟨_, _, _, rfl, rfl, rfl, by decide +kernel⟩
theorem zff_11_7 : zFf RX11 11 7 (.array .long) := ⟨_, _, _, rfl, rfl, rfl, by decide +kernel⟩
theorem zff_11_9 : zFf RX11 11 9 (.array .long) := ⟨_, _, _, rfl, rfl, rfl, by decide +kernel⟩
theorem zff_11_10 : zFf RX11 11 10 (.array .int) := ⟨_, _, _, rfl, rfl, rfl, by decide +kernel⟩
theorem zff_11_11 : zFf RX11 11 11 (.array .int) := ⟨_, _, _, rfl, rfl, rfl, by decide +kernel⟩
theorem zff_11_12 : zFf RX11 11 12 (.array .int) := ⟨_, _, _, rfl, rfl, rfl, by decide +kernel⟩
theorem zff_11_13 : zFf RX11 11 13 (.array .int) := ⟨_, _, _, rfl, rfl, rfl, by decide +kernel⟩
theorem zff_11_14 : zFf RX11 11 14 (.array .int) := ⟨_, _, _, rfl, rfl, rfl, by decide +kernel⟩
theorem zff_11_15 : zFf RX11 11 15 (.array .int) := ⟨_, _, _, rfl, rfl, rfl, by decide +kernel⟩
theorem zff_11_16 : zFf RX11 11 16 (.array .int) := ⟨_, _, _, rfl, rfl, rfl, by decide +kernel⟩
theorem zff_11_17 : zFf RX11 11 17 (.array .int) := ⟨_, _, _, rfl, rfl, rfl, by decide +kernel⟩
theorem zff_11_20 : zFf RX11 11 20 (.array .int) := ⟨_, _, _, rfl, rfl, rfl, by decide +kernel⟩
theorem zff_11_21 : zFf RX11 11 21 (.array .int) := ⟨_, _, _, rfl, rfl, rfl, by decide +kernel⟩
theorem zff_11_22 : zFf RX11 11 22 (.array .int) := ⟨_, _, _, rfl, rfl, rfl, by decide +kernel⟩
theorem zff_11_43 : zFf RX11 11 43 (.array .int) := ⟨_, _, _, rfl, rfl, rfl, by decide +kernel⟩
theorem zff_11_44 : zFf RX11 11 44 (.array .int) := ⟨_, _, _, rfl, rfl, rfl, by decide +kernel⟩
theorem zff_11_46 : zFf RX11 11 46 (.array .int) := ⟨_, _, _, rfl, rfl, rfl, by decide +kernel⟩
theorem zff_11_48 : zFf RX11 11 48 (.array .int) := ⟨_, _, _, rfl, rfl, rfl, by decide +kernel⟩
theorem zff_11_49 : zFf RX11 11 49 (.array .long) := ⟨_, _, _, rfl, rfl, rfl, by decide +kernel⟩
theorem zff_11_50 : zFf RX11 11 50 (.array .int) := ⟨_, _, _, rfl, rfl, rfl, by decide +kernel⟩
def fsM (a1 a2 a3 a4 a5 a6 a7 a8 a9 a10 a11 a12 a13 a14 a15 a16 a17 a18 a19 a20 a21 a22 a23 : Nat) : List Value := [.int 0, .ref a1, .ref a2, .int 0, .int 0, .ref a3, .ref a4, .ref a5, .int 0, .ref a6, .ref a7, .ref a8, .ref a9, .ref a10, .ref a11, .ref a12, .ref a13, .ref a14, .int 0, .int 0, .ref a15, .ref a16, .ref a17, .int 0, .int 0, .int 0, .int 0, .int 0, .int 0, .int (-1), .int 0, .long 0, .long 0, .int 0, .int 0, .int 0, .int 0, .int 0, .int 0, .int 0, .int 0, .int 0, .int 0, .ref a18, .ref a19, .int 0, .ref a20, .int 0, .ref a21, .ref a22, .ref a23]
def rM (ca : Nat → Nat) (a2 a3 a4 a5 a6 a7 a8 a9 a10 a11 a12 a13 a14 a15 a16 a17 a18 a19 a20 a21 a22 a23 : Nat) : va_W := [(a2, .inl (ca 0, zZr 0 2000)), (a3, .inl (ca 0, zZr 0 452)), (a4, .inl (ca 0, zZr 0 452)), (a5, .inl (ca 1, zZr 1 452)), (a6, .inl (ca 1, zZr 1 46)), (a7, .inl (ca 0, zZr 0 46)), (a8, .inl (ca 0, zZr 0 46)), (a9, .inl (ca 0, zZr 0 9)), (a10, .inl (ca 0, zZr 0 36)), (a11, .inl (ca 0, zZr 0 6)), (a12, .inl (ca 0, zZr 0 28)), (a13, .inl (ca 0, zZr 0 28)), (a14, .inl (ca 0, zZr 0 8)), (a15, .inl (ca 0, zZr 0 1350)), (a16, .inl (ca 0, zZr 0 1350)), (a17, .inl (ca 0, zZr 0 1350)), (a18, .inl (ca 0, zZr 0 24)), (a19, .inl (ca 0, zZr 0 6)), (a20, .inl (ca 0, zZr 0 40)), (a21, .inl (ca 0, zZr 0 1000)), (a22, .inl (ca 1, zZr 1 452)), (a23, .inl (ca 0, zZr 0 1000))]
set_option maxHeartbeats 1000000 in
theorem kc_133 {l : Launch} {G : va_G} {ad ca : Nat → Nat} {q sz : Nat} : vx_Met l (zym 133) (zws 133) { frames := 15, cells := 23, slots := 10213, locals := 500 } (zPx G ad ca 11 [.int 0, .null, .null, .int 0, .int 0, .null, .null, .null, .int 0, .null, .null, .null, .null, .null, .null, .null, .null, .null, .int 0, .int 0, .null, .null, .null, .int 0, .int 0, .int 0, .int 0, .int 0, .int 0, .int 0, .int 0, .long 0, .long 0, .int 0, .int 0, .int 0, .int 0, .int 0, .int 0, .int 0, .int 0, .int 0, .int 0, .null, .null, .int 0, .null, .int 0, .null, .null, .null] q sz []) (zQo q sz (fun H => ∃ a1 a2 a3 a4 a5 a6 a7 a8 a9 a10 a11 a12 a13 a14 a15 a16 a17 a18 a19 a20 a21 a22 a23 : Nat, va_P G vwCl (wsM ca q a1 (fsM a1 a2 a3 a4 a5 a6 a7 a8 a9 a10 a11 a12 a13 a14 a15 a16 a17 a18 a19 a20 a21 a22 a23) (rM ca a2 a3 a4 a5 a6 a7 a8 a9 a10 a11 a12 a13 a14 a15 a16 a17 a18 a19 a20 a21 a22 a23) (mN 32)) H ∧ va_D (zFq q sz) (wsM ca q a1 (fsM a1 a2 a3 a4 a5 a6 a7 a8 a9 a10 a11 a12 a13 a14 a15 a16 a17 a18 a19 a20 a21 a22 a23) (rM ca a2 a3 a4 a5 a6 a7 a8 a9 a10 a11 a12 a13 a14 a15 a16 a17 a18 a19 a20 a21 a22 a23) (mN 32)))) zNo 23 10213 (zFq q sz) := by
  refine vx_ofW (cc := zcc 133) (maxL := 5) (ret := none) (by decide) rfl ?_
  intro p e s m args below meth c s₁ B hml ht hv
  obtain ⟨rfl, hsz, hq, hP, hK, hEX⟩ := hv
  subst hsz
  have hts := atoms_spec (ws := zws 133) B.pre
  have hts2 : ∀ w ∈ zAL, w.before [Value.ref q].toArray s = true := fun w hw => hts w (List.mem_cons_of_mem _ hw)
  have hown : s.vm.findClass RX11 = some m.cls := findClass_of_methodNamed B.named
  have hin : meth.name = "<init>" := (name_of_methodNamed B.named B.method).1
  have hx := B.exec
  have hb := B.bytes
  have hA : ∀ x : Nat, s.heap.size ≤ x → zFq q s.heap.size x := fun x h => Or.inr h
  have hlv := lv_entry [Value.ref q] (n := 5) (by show 1 ≤ 5; omega)
  rw [lg_entry_eq]
  generalize (lg_sl [Value.ref q] ++ List.replicate (5 - (lg_sl [Value.ref q]).length) Slot.unset).toArray = ls at hlv ⊢
  have l0 := hlv.2.2 (0, .ref q) List.mem_cons_self
  refine lv_aload_n (i := 0) (x := q) hx hb zd133_0 rfl l0 ?_
  refine W.objInit hx hb hown (hts2 _ zol_11) (hts2 _ zoi_1) (hts2 _ zoi_2) rfl (hlv.1.trans hml.symm) rfl zd133_1 (by show 1 ≤ 15; omega) (by show 2 * 0 + 0 + 12 ≤ 500; omega) ?_
  refine W.eq (g2 := F0 m 4 ls []) rfl ?_
  refine z_seg (A := zFq q s.heap.size) 1 (by decide) 32 (n := 32) (aty := .long) hx hb hts2 hown hin hK hP zD1 va_S.rf hA (by decide) rfl (by decide) (by show 0 + 1 ≤ 23; omega) (by show 0 + 32 ≤ 10213; omega) l0 (pc2 := 7) zf_11_9 zff_11_1 (by decide) (by show 1 < 51; omega) zd133_4 (fun st k => lv_bipush hx hb zd133_5 rfl k) zd133_7 zd133_9 (fun a1 H1 L1 hP1 hD1 hS1 => ?_)
  have hP1 : va_P G vwCl ((q, .inr (11, [.int 0, .ref a1, .null, .int 0, .int 0, .null, .null, .null, .int 0, .null, .null, .null, .null, .null, .null, .null, .null, .null, .int 0, .int 0, .null, .null, .null, .int 0, .int 0, .int 0, .int 0, .int 0, .int 0, .int 0, .int 0, .long 0, .long 0, .int 0, .int 0, .int 0, .int 0, .int 0, .int 0, .int 0, .int 0, .int 0, .int 0, .null, .null, .int 0, .null, .int 0, .null, .null, .null])) :: [(a1, .inl (ca 1, zZr 1 32))]) H1 := hP1
  have hD1 : va_D (zFq q s.heap.size) ((q, .inr (11, [.int 0, .ref a1, .null, .int 0, .int 0, .null, .null, .null, .int 0, .null, .null, .null, .null, .null, .null, .null, .null, .null, .int 0, .int 0, .null, .null, .null, .int 0, .int 0, .int 0, .int 0, .int 0, .int 0, .int 0, .int 0, .long 0, .long 0, .int 0, .int 0, .int 0, .int 0, .int 0, .int 0, .int 0, .int 0, .int 0, .int 0, .null, .null, .int 0, .null, .int 0, .null, .null, .null])) :: [(a1, .inl (ca 1, zZr 1 32))]) := hD1
  refine z_seg (A := zFq q s.heap.size) 0 (by decide) 2000 (n := 2000) (aty := .int) hx hb hts2 hown hin hK hP1 hD1 hS1 hA (by decide) rfl (by decide) (by show 1 + 1 ≤ 23; omega) (by show 32 + 2000 ≤ 10213; omega) l0 (pc2 := 16) zf_11_13 zff_11_2 (by decide) (by show 2 < 51; omega) zd133_12 (fun st k => lv_sipush hx hb zd133_13 rfl k) zd133_16 zd133_18 (fun a2 H2 L2 hP2 hD2 hS2 => ?_)
  have hP2 : va_P G vwCl ((q, .inr (11, [.int 0, .ref a1, .ref a2, .int 0, .int 0, .null, .null, .null, .int 0, .null, .null, .null, .null, .null, .null, .null, .null, .null, .int 0, .int 0, .null, .null, .null, .int 0, .int 0, .int 0, .int 0, .int 0, .int 0, .int 0, .int 0, .long 0, .long 0, .int 0, .int 0, .int 0, .int 0, .int 0, .int 0, .int 0, .int 0, .int 0, .int 0, .null, .null, .int 0, .null, .int 0, .null, .null, .null])) :: [(a1, .inl (ca 1, zZr 1 32)), (a2, .inl (ca 0, zZr 0 2000))]) H2 := hP2
  have hD2 : va_D (zFq q s.heap.size) ((q, .inr (11, [.int 0, .ref a1, .ref a2, .int 0, .int 0, .null, .null, .null, .int 0, .null, .null, .null, .null, .null, .null, .null, .null, .null, .int 0, .int 0, .null, .null, .null, .int 0, .int 0, .int 0, .int 0, .int 0, .int 0, .int 0, .int 0, .long 0, .long 0, .int 0, .int 0, .int 0, .int 0, .int 0, .int 0, .int 0, .int 0, .int 0, .int 0, .null, .null, .int 0, .null, .int 0, .null, .null, .null])) :: [(a1, .inl (ca 1, zZr 1 32)), (a2, .inl (ca 0, zZr 0 2000))]) := hD2
  refine z_seg (A := zFq q s.heap.size) 0 (by decide) 452 (n := 452) (aty := .int) hx hb hts2 hown hin hK hP2 hD2 hS2 hA (by decide) rfl (by decide) (by show 2 + 1 ≤ 23; omega) (by show 2032 + 452 ≤ 10213; omega) l0 (pc2 := 25) zf_11_17 zff_11_5 (by decide) (by show 5 < 51; omega) zd133_21 (fun st k => lv_sipush hx hb zd133_22 rfl k) zd133_25 zd133_27 (fun a3 H3 L3 hP3 hD3 hS3 => ?_)
  have hP3 : va_P G vwCl ((q, .inr (11, [.int 0, .ref a1, .ref a2, .int 0, .int 0, .ref a3, .null, .null, .int 0, .null, .null, .null, .null, .null, .null, .null, .null, .null, .int 0, .int 0, .null, .null, .null, .int 0, .int 0, .int 0, .int 0, .int 0, .int 0, .int 0, .int 0, .long 0, .long 0, .int 0, .int 0, .int 0, .int 0, .int 0, .int 0, .int 0, .int 0, .int 0, .int 0, .null, .null, .int 0, .null, .int 0, .null, .null, .null])) :: [(a1, .inl (ca 1, zZr 1 32)), (a2, .inl (ca 0, zZr 0 2000)), (a3, .inl (ca 0, zZr 0 452))]) H3 := hP3
  have hD3 : va_D (zFq q s.heap.size) ((q, .inr (11, [.int 0, .ref a1, .ref a2, .int 0, .int 0, .ref a3, .null, .null, .int 0, .null, .null, .null, .null, .null, .null, .null, .null, .null, .int 0, .int 0, .null, .null, .null, .int 0, .int 0, .int 0, .int 0, .int 0, .int 0, .int 0, .int 0, .long 0, .long 0, .int 0, .int 0, .int 0, .int 0, .int 0, .int 0, .int 0, .int 0, .int 0, .int 0, .null, .null, .int 0, .null, .int 0, .null, .null, .null])) :: [(a1, .inl (ca 1, zZr 1 32)), (a2, .inl (ca 0, zZr 0 2000)), (a3, .inl (ca 0, zZr 0 452))]) := hD3
  refine z_seg (A := zFq q s.heap.size) 0 (by decide) 452 (n := 452) (aty := .int) hx hb hts2 hown hin hK hP3 hD3 hS3 hA (by decide) rfl (by decide) (by show 3 + 1 ≤ 23; omega) (by show 2484 + 452 ≤ 10213; omega) l0 (pc2 := 34) zf_11_20 zff_11_6 (by decide) (by show 6 < 51; omega) zd133_30 (fun st k => lv_sipush hx hb zd133_31 rfl k) zd133_34 zd133_36 (fun a4 H4 L4 hP4 hD4 hS4 => ?_)
  have hP4 : va_P G vwCl ((q, .inr (11, [.int 0, .ref a1, .ref a2, .int 0, .int 0, .ref a3, .ref a4, .null, .int 0, .null, .null, .null, .null, .null, .null, .null, .null, .null, .int 0, .int 0, .null, .null, .null, .int 0, .int 0, .int 0, .int 0, .int 0, .int 0, .int 0, .int 0, .long 0, .long 0, .int 0, .int 0, .int 0, .int 0, .int 0, .int 0, .int 0, .int 0, .int 0, .int 0, .null, .null, .int 0, .null, .int 0, .null, .null, .null])) :: [(a1, .inl (ca 1, zZr 1 32)), (a2, .inl (ca 0, zZr 0 2000)), (a3, .inl (ca 0, zZr 0 452)), (a4, .inl (ca 0, zZr 0 452))]) H4 := hP4
  have hD4 : va_D (zFq q s.heap.size) ((q, .inr (11, [.int 0, .ref a1, .ref a2, .int 0, .int 0, .ref a3, .ref a4, .null, .int 0, .null, .null, .null, .null, .null, .null, .null, .null, .null, .int 0, .int 0, .null, .null, .null, .int 0, .int 0, .int 0, .int 0, .int 0, .int 0, .int 0, .int 0, .long 0, .long 0, .int 0, .int 0, .int 0, .int 0, .int 0, .int 0, .int 0, .int 0, .int 0, .int 0, .null, .null, .int 0, .null, .int 0, .null, .null, .null])) :: [(a1, .inl (ca 1, zZr 1 32)), (a2, .inl (ca 0, zZr 0 2000)), (a3, .inl (ca 0, zZr 0 452)), (a4, .inl (ca 0, zZr 0 452))]) := hD4
  refine z_seg (A := zFq q s.heap.size) 1 (by decide) 452 (n := 452) (aty := .long) hx hb hts2 hown hin hK hP4 hD4 hS4 hA (by decide) rfl (by decide) (by show 4 + 1 ≤ 23; omega) (by show 2936 + 452 ≤ 10213; omega) l0 (pc2 := 43) zf_11_23 zff_11_7 (by decide) (by show 7 < 51; omega) zd133_39 (fun st k => lv_sipush hx hb zd133_40 rfl k) zd133_43 zd133_45 (fun a5 H5 L5 hP5 hD5 hS5 => ?_)
  have hP5 : va_P G vwCl ((q, .inr (11, [.int 0, .ref a1, .ref a2, .int 0, .int 0, .ref a3, .ref a4, .ref a5, .int 0, .null, .null, .null, .null, .null, .null, .null, .null, .null, .int 0, .int 0, .null, .null, .null, .int 0, .int 0, .int 0, .int 0, .int 0, .int 0, .int 0, .int 0, .long 0, .long 0, .int 0, .int 0, .int 0, .int 0, .int 0, .int 0, .int 0, .int 0, .int 0, .int 0, .null, .null, .int 0, .null, .int 0, .null, .null, .null])) :: [(a1, .inl (ca 1, zZr 1 32)), (a2, .inl (ca 0, zZr 0 2000)), (a3, .inl (ca 0, zZr 0 452)), (a4, .inl (ca 0, zZr 0 452)), (a5, .inl (ca 1, zZr 1 452))]) H5 := hP5
  have hD5 : va_D (zFq q s.heap.size) ((q, .inr (11, [.int 0, .ref a1, .ref a2, .int 0, .int 0, .ref a3, .ref a4, .ref a5, .int 0, .null, .null, .null, .null, .null, .null, .null, .null, .null, .int 0, .int 0, .null, .null, .null, .int 0, .int 0, .int 0, .int 0, .int 0, .int 0, .int 0, .int 0, .long 0, .long 0, .int 0, .int 0, .int 0, .int 0, .int 0, .int 0, .int 0, .int 0, .int 0, .int 0, .null, .null, .int 0, .null, .int 0, .null, .null, .null])) :: [(a1, .inl (ca 1, zZr 1 32)), (a2, .inl (ca 0, zZr 0 2000)), (a3, .inl (ca 0, zZr 0 452)), (a4, .inl (ca 0, zZr 0 452)), (a5, .inl (ca 1, zZr 1 452))]) := hD5
  refine z_seg (A := zFq q s.heap.size) 1 (by decide) 46 (n := 46) (aty := .long) hx hb hts2 hown hin hK hP5 hD5 hS5 hA (by decide) rfl (by decide) (by show 5 + 1 ≤ 23; omega) (by show 3388 + 46 ≤ 10213; omega) l0 (pc2 := 51) zf_11_26 zff_11_9 (by decide) (by show 9 < 51; omega) zd133_48 (fun st k => lv_bipush hx hb zd133_49 rfl k) zd133_51 zd133_53 (fun a6 H6 L6 hP6 hD6 hS6 => ?_)
  have hP6 : va_P G vwCl ((q, .inr (11, [.int 0, .ref a1, .ref a2, .int 0, .int 0, .ref a3, .ref a4, .ref a5, .int 0, .ref a6, .null, .null, .null, .null, .null, .null, .null, .null, .int 0, .int 0, .null, .null, .null, .int 0, .int 0, .int 0, .int 0, .int 0, .int 0, .int 0, .int 0, .long 0, .long 0, .int 0, .int 0, .int 0, .int 0, .int 0, .int 0, .int 0, .int 0, .int 0, .int 0, .null, .null, .int 0, .null, .int 0, .null, .null, .null])) :: [(a1, .inl (ca 1, zZr 1 32)), (a2, .inl (ca 0, zZr 0 2000)), (a3, .inl (ca 0, zZr 0 452)), (a4, .inl (ca 0, zZr 0 452)), (a5, .inl (ca 1, zZr 1 452)), (a6, .inl (ca 1, zZr 1 46))]) H6 := hP6
  have hD6 : va_D (zFq q s.heap.size) ((q, .inr (11, [.int 0, .ref a1, .ref a2, .int 0, .int 0, .ref a3, .ref a4, .ref a5, .int 0, .ref a6, .null, .null, .null, .null, .null, .null, .null, .null, .int 0, .int 0, .null, .null, .null, .int 0, .int 0, .int 0, .int 0, .int 0, .int 0, .int 0, .int 0, .long 0, .long 0, .int 0, .int 0, .int 0, .int 0, .int 0, .int 0, .int 0, .int 0, .int 0, .int 0, .null, .null, .int 0, .null, .int 0, .null, .null, .null])) :: [(a1, .inl (ca 1, zZr 1 32)), (a2, .inl (ca 0, zZr 0 2000)), (a3, .inl (ca 0, zZr 0 452)), (a4, .inl (ca 0, zZr 0 452)), (a5, .inl (ca 1, zZr 1 452)), (a6, .inl (ca 1, zZr 1 46))]) := hD6
  refine z_seg (A := zFq q s.heap.size) 0 (by decide) 46 (n := 46) (aty := .int) hx hb hts2 hown hin hK hP6 hD6 hS6 hA (by decide) rfl (by decide) (by show 6 + 1 ≤ 23; omega) (by show 3434 + 46 ≤ 10213; omega) l0 (pc2 := 59) zf_11_29 zff_11_10 (by decide) (by show 10 < 51; omega) zd133_56 (fun st k => lv_bipush hx hb zd133_57 rfl k) zd133_59 zd133_61 (fun a7 H7 L7 hP7 hD7 hS7 => ?_)
  have hP7 : va_P G vwCl ((q, .inr (11, [.int 0, .ref a1, .ref a2, .int 0, .int 0, .ref a3, .ref a4, .ref a5, .int 0, .ref a6, .ref a7, .null, .null, .null, .null, .null, .null, .null, .int 0, .int 0, .null, .null, .null, .int 0, .int 0, .int 0, .int 0, .int 0, .int 0, .int 0, .int 0, .long 0, .long 0, .int 0, .int 0, .int 0, .int 0, .int 0, .int 0, .int 0, .int 0, .int 0, .int 0, .null, .null, .int 0, .null, .int 0, .null, .null, .null])) :: [(a1, .inl (ca 1, zZr 1 32)), (a2, .inl (ca 0, zZr 0 2000)), (a3, .inl (ca 0, zZr 0 452)), (a4, .inl (ca 0, zZr 0 452)), (a5, .inl (ca 1, zZr 1 452)), (a6, .inl (ca 1, zZr 1 46)), (a7, .inl (ca 0, zZr 0 46))]) H7 := hP7
  have hD7 : va_D (zFq q s.heap.size) ((q, .inr (11, [.int 0, .ref a1, .ref a2, .int 0, .int 0, .ref a3, .ref a4, .ref a5, .int 0, .ref a6, .ref a7, .null, .null, .null, .null, .null, .null, .null, .int 0, .int 0, .null, .null, .null, .int 0, .int 0, .int 0, .int 0, .int 0, .int 0, .int 0, .int 0, .long 0, .long 0, .int 0, .int 0, .int 0, .int 0, .int 0, .int 0, .int 0, .int 0, .int 0, .int 0, .null, .null, .int 0, .null, .int 0, .null, .null, .null])) :: [(a1, .inl (ca 1, zZr 1 32)), (a2, .inl (ca 0, zZr 0 2000)), (a3, .inl (ca 0, zZr 0 452)), (a4, .inl (ca 0, zZr 0 452)), (a5, .inl (ca 1, zZr 1 452)), (a6, .inl (ca 1, zZr 1 46)), (a7, .inl (ca 0, zZr 0 46))]) := hD7
  refine z_seg (A := zFq q s.heap.size) 0 (by decide) 46 (n := 46) (aty := .int) hx hb hts2 hown hin hK hP7 hD7 hS7 hA (by decide) rfl (by decide) (by show 7 + 1 ≤ 23; omega) (by show 3480 + 46 ≤ 10213; omega) l0 (pc2 := 67) zf_11_32 zff_11_11 (by decide) (by show 11 < 51; omega) zd133_64 (fun st k => lv_bipush hx hb zd133_65 rfl k) zd133_67 zd133_69 (fun a8 H8 L8 hP8 hD8 hS8 => ?_)
  have hP8 : va_P G vwCl ((q, .inr (11, [.int 0, .ref a1, .ref a2, .int 0, .int 0, .ref a3, .ref a4, .ref a5, .int 0, .ref a6, .ref a7, .ref a8, .null, .null, .null, .null, .null, .null, .int 0, .int 0, .null, .null, .null, .int 0, .int 0, .int 0, .int 0, .int 0, .int 0, .int 0, .int 0, .long 0, .long 0, .int 0, .int 0, .int 0, .int 0, .int 0, .int 0, .int 0, .int 0, .int 0, .int 0, .null, .null, .int 0, .null, .int 0, .null, .null, .null])) :: [(a1, .inl (ca 1, zZr 1 32)), (a2, .inl (ca 0, zZr 0 2000)), (a3, .inl (ca 0, zZr 0 452)), (a4, .inl (ca 0, zZr 0 452)), (a5, .inl (ca 1, zZr 1 452)), (a6, .inl (ca 1, zZr 1 46)), (a7, .inl (ca 0, zZr 0 46)), (a8, .inl (ca 0, zZr 0 46))]) H8 := hP8
  have hD8 : va_D (zFq q s.heap.size) ((q, .inr (11, [.int 0, .ref a1, .ref a2, .int 0, .int 0, .ref a3, .ref a4, .ref a5, .int 0, .ref a6, .ref a7, .ref a8, .null, .null, .null, .null, .null, .null, .int 0, .int 0, .null, .null, .null, .int 0, .int 0, .int 0, .int 0, .int 0, .int 0, .int 0, .int 0, .long 0, .long 0, .int 0, .int 0, .int 0, .int 0, .int 0, .int 0, .int 0, .int 0, .int 0, .int 0, .null, .null, .int 0, .null, .int 0, .null, .null, .null])) :: [(a1, .inl (ca 1, zZr 1 32)), (a2, .inl (ca 0, zZr 0 2000)), (a3, .inl (ca 0, zZr 0 452)), (a4, .inl (ca 0, zZr 0 452)), (a5, .inl (ca 1, zZr 1 452)), (a6, .inl (ca 1, zZr 1 46)), (a7, .inl (ca 0, zZr 0 46)), (a8, .inl (ca 0, zZr 0 46))]) := hD8
  refine z_seg (A := zFq q s.heap.size) 0 (by decide) 9 (n := 9) (aty := .int) hx hb hts2 hown hin hK hP8 hD8 hS8 hA (by decide) rfl (by decide) (by show 8 + 1 ≤ 23; omega) (by show 3526 + 9 ≤ 10213; omega) l0 (pc2 := 75) zf_11_35 zff_11_12 (by decide) (by show 12 < 51; omega) zd133_72 (fun st k => lv_bipush hx hb zd133_73 rfl k) zd133_75 zd133_77 (fun a9 H9 L9 hP9 hD9 hS9 => ?_)
  have hP9 : va_P G vwCl ((q, .inr (11, [.int 0, .ref a1, .ref a2, .int 0, .int 0, .ref a3, .ref a4, .ref a5, .int 0, .ref a6, .ref a7, .ref a8, .ref a9, .null, .null, .null, .null, .null, .int 0, .int 0, .null, .null, .null, .int 0, .int 0, .int 0, .int 0, .int 0, .int 0, .int 0, .int 0, .long 0, .long 0, .int 0, .int 0, .int 0, .int 0, .int 0, .int 0, .int 0, .int 0, .int 0, .int 0, .null, .null, .int 0, .null, .int 0, .null, .null, .null])) :: [(a1, .inl (ca 1, zZr 1 32)), (a2, .inl (ca 0, zZr 0 2000)), (a3, .inl (ca 0, zZr 0 452)), (a4, .inl (ca 0, zZr 0 452)), (a5, .inl (ca 1, zZr 1 452)), (a6, .inl (ca 1, zZr 1 46)), (a7, .inl (ca 0, zZr 0 46)), (a8, .inl (ca 0, zZr 0 46)), (a9, .inl (ca 0, zZr 0 9))]) H9 := hP9
  have hD9 : va_D (zFq q s.heap.size) ((q, .inr (11, [.int 0, .ref a1, .ref a2, .int 0, .int 0, .ref a3, .ref a4, .ref a5, .int 0, .ref a6, .ref a7, .ref a8, .ref a9, .null, .null, .null, .null, .null, .int 0, .int 0, .null, .null, .null, .int 0, .int 0, .int 0, .int 0, .int 0, .int 0, .int 0, .int 0, .long 0, .long 0, .int 0, .int 0, .int 0, .int 0, .int 0, .int 0, .int 0, .int 0, .int 0, .int 0, .null, .null, .int 0, .null, .int 0, .null, .null, .null])) :: [(a1, .inl (ca 1, zZr 1 32)), (a2, .inl (ca 0, zZr 0 2000)), (a3, .inl (ca 0, zZr 0 452)), (a4, .inl (ca 0, zZr 0 452)), (a5, .inl (ca 1, zZr 1 452)), (a6, .inl (ca 1, zZr 1 46)), (a7, .inl (ca 0, zZr 0 46)), (a8, .inl (ca 0, zZr 0 46)), (a9, .inl (ca 0, zZr 0 9))]) := hD9
  refine z_seg (A := zFq q s.heap.size) 0 (by decide) 36 (n := 36) (aty := .int) hx hb hts2 hown hin hK hP9 hD9 hS9 hA (by decide) rfl (by decide) (by show 9 + 1 ≤ 23; omega) (by show 3535 + 36 ≤ 10213; omega) l0 (pc2 := 83) zf_11_38 zff_11_13 (by decide) (by show 13 < 51; omega) zd133_80 (fun st k => lv_bipush hx hb zd133_81 rfl k) zd133_83 zd133_85 (fun a10 H10 L10 hP10 hD10 hS10 => ?_)
  have hP10 : va_P G vwCl ((q, .inr (11, [.int 0, .ref a1, .ref a2, .int 0, .int 0, .ref a3, .ref a4, .ref a5, .int 0, .ref a6, .ref a7, .ref a8, .ref a9, .ref a10, .null, .null, .null, .null, .int 0, .int 0, .null, .null, .null, .int 0, .int 0, .int 0, .int 0, .int 0, .int 0, .int 0, .int 0, .long 0, .long 0, .int 0, .int 0, .int 0, .int 0, .int 0, .int 0, .int 0, .int 0, .int 0, .int 0, .null, .null, .int 0, .null, .int 0, .null, .null, .null])) :: [(a1, .inl (ca 1, zZr 1 32)), (a2, .inl (ca 0, zZr 0 2000)), (a3, .inl (ca 0, zZr 0 452)), (a4, .inl (ca 0, zZr 0 452)), (a5, .inl (ca 1, zZr 1 452)), (a6, .inl (ca 1, zZr 1 46)), (a7, .inl (ca 0, zZr 0 46)), (a8, .inl (ca 0, zZr 0 46)), (a9, .inl (ca 0, zZr 0 9)), (a10, .inl (ca 0, zZr 0 36))]) H10 := hP10
  have hD10 : va_D (zFq q s.heap.size) ((q, .inr (11, [.int 0, .ref a1, .ref a2, .int 0, .int 0, .ref a3, .ref a4, .ref a5, .int 0, .ref a6, .ref a7, .ref a8, .ref a9, .ref a10, .null, .null, .null, .null, .int 0, .int 0, .null, .null, .null, .int 0, .int 0, .int 0, .int 0, .int 0, .int 0, .int 0, .int 0, .long 0, .long 0, .int 0, .int 0, .int 0, .int 0, .int 0, .int 0, .int 0, .int 0, .int 0, .int 0, .null, .null, .int 0, .null, .int 0, .null, .null, .null])) :: [(a1, .inl (ca 1, zZr 1 32)), (a2, .inl (ca 0, zZr 0 2000)), (a3, .inl (ca 0, zZr 0 452)), (a4, .inl (ca 0, zZr 0 452)), (a5, .inl (ca 1, zZr 1 452)), (a6, .inl (ca 1, zZr 1 46)), (a7, .inl (ca 0, zZr 0 46)), (a8, .inl (ca 0, zZr 0 46)), (a9, .inl (ca 0, zZr 0 9)), (a10, .inl (ca 0, zZr 0 36))]) := hD10
  refine z_seg (A := zFq q s.heap.size) 0 (by decide) 6 (n := 6) (aty := .int) hx hb hts2 hown hin hK hP10 hD10 hS10 hA (by decide) rfl (by decide) (by show 10 + 1 ≤ 23; omega) (by show 3571 + 6 ≤ 10213; omega) l0 (pc2 := 91) zf_11_41 zff_11_14 (by decide) (by show 14 < 51; omega) zd133_88 (fun st k => lv_bipush hx hb zd133_89 rfl k) zd133_91 zd133_93 (fun a11 H11 L11 hP11 hD11 hS11 => ?_)
  have hP11 : va_P G vwCl ((q, .inr (11, [.int 0, .ref a1, .ref a2, .int 0, .int 0, .ref a3, .ref a4, .ref a5, .int 0, .ref a6, .ref a7, .ref a8, .ref a9, .ref a10, .ref a11, .null, .null, .null, .int 0, .int 0, .null, .null, .null, .int 0, .int 0, .int 0, .int 0, .int 0, .int 0, .int 0, .int 0, .long 0, .long 0, .int 0, .int 0, .int 0, .int 0, .int 0, .int 0, .int 0, .int 0, .int 0, .int 0, .null, .null, .int 0, .null, .int 0, .null, .null, .null])) :: [(a1, .inl (ca 1, zZr 1 32)), (a2, .inl (ca 0, zZr 0 2000)), (a3, .inl (ca 0, zZr 0 452)), (a4, .inl (ca 0, zZr 0 452)), (a5, .inl (ca 1, zZr 1 452)), (a6, .inl (ca 1, zZr 1 46)), (a7, .inl (ca 0, zZr 0 46)), (a8, .inl (ca 0, zZr 0 46)), (a9, .inl (ca 0, zZr 0 9)), (a10, .inl (ca 0, zZr 0 36)), (a11, .inl (ca 0, zZr 0 6))]) H11 := hP11
  have hD11 : va_D (zFq q s.heap.size) ((q, .inr (11, [.int 0, .ref a1, .ref a2, .int 0, .int 0, .ref a3, .ref a4, .ref a5, .int 0, .ref a6, .ref a7, .ref a8, .ref a9, .ref a10, .ref a11, .null, .null, .null, .int 0, .int 0, .null, .null, .null, .int 0, .int 0, .int 0, .int 0, .int 0, .int 0, .int 0, .int 0, .long 0, .long 0, .int 0, .int 0, .int 0, .int 0, .int 0, .int 0, .int 0, .int 0, .int 0, .int 0, .null, .null, .int 0, .null, .int 0, .null, .null, .null])) :: [(a1, .inl (ca 1, zZr 1 32)), (a2, .inl (ca 0, zZr 0 2000)), (a3, .inl (ca 0, zZr 0 452)), (a4, .inl (ca 0, zZr 0 452)), (a5, .inl (ca 1, zZr 1 452)), (a6, .inl (ca 1, zZr 1 46)), (a7, .inl (ca 0, zZr 0 46)), (a8, .inl (ca 0, zZr 0 46)), (a9, .inl (ca 0, zZr 0 9)), (a10, .inl (ca 0, zZr 0 36)), (a11, .inl (ca 0, zZr 0 6))]) := hD11
  refine z_seg (A := zFq q s.heap.size) 0 (by decide) 28 (n := 28) (aty := .int) hx hb hts2 hown hin hK hP11 hD11 hS11 hA (by decide) rfl (by decide) (by show 11 + 1 ≤ 23; omega) (by show 3577 + 28 ≤ 10213; omega) l0 (pc2 := 99) zf_11_44 zff_11_15 (by decide) (by show 15 < 51; omega) zd133_96 (fun st k => lv_bipush hx hb zd133_97 rfl k) zd133_99 zd133_101 (fun a12 H12 L12 hP12 hD12 hS12 => ?_)
  have hP12 : va_P G vwCl ((q, .inr (11, [.int 0, .ref a1, .ref a2, .int 0, .int 0, .ref a3, .ref a4, .ref a5, .int 0, .ref a6, .ref a7, .ref a8, .ref a9, .ref a10, .ref a11, .ref a12, .null, .null, .int 0, .int 0, .null, .null, .null, .int 0, .int 0, .int 0, .int 0, .int 0, .int 0, .int 0, .int 0, .long 0, .long 0, .int 0, .int 0, .int 0, .int 0, .int 0, .int 0, .int 0, .int 0, .int 0, .int 0, .null, .null, .int 0, .null, .int 0, .null, .null, .null])) :: [(a1, .inl (ca 1, zZr 1 32)), (a2, .inl (ca 0, zZr 0 2000)), (a3, .inl (ca 0, zZr 0 452)), (a4, .inl (ca 0, zZr 0 452)), (a5, .inl (ca 1, zZr 1 452)), (a6, .inl (ca 1, zZr 1 46)), (a7, .inl (ca 0, zZr 0 46)), (a8, .inl (ca 0, zZr 0 46)), (a9, .inl (ca 0, zZr 0 9)), (a10, .inl (ca 0, zZr 0 36)), (a11, .inl (ca 0, zZr 0 6)), (a12, .inl (ca 0, zZr 0 28))]) H12 := hP12
  have hD12 : va_D (zFq q s.heap.size) ((q, .inr (11, [.int 0, .ref a1, .ref a2, .int 0, .int 0, .ref a3, .ref a4, .ref a5, .int 0, .ref a6, .ref a7, .ref a8, .ref a9, .ref a10, .ref a11, .ref a12, .null, .null, .int 0, .int 0, .null, .null, .null, .int 0, .int 0, .int 0, .int 0, .int 0, .int 0, .int 0, .int 0, .long 0, .long 0, .int 0, .int 0, .int 0, .int 0, .int 0, .int 0, .int 0, .int 0, .int 0, .int 0, .null, .null, .int 0, .null, .int 0, .null, .null, .null])) :: [(a1, .inl (ca 1, zZr 1 32)), (a2, .inl (ca 0, zZr 0 2000)), (a3, .inl (ca 0, zZr 0 452)), (a4, .inl (ca 0, zZr 0 452)), (a5, .inl (ca 1, zZr 1 452)), (a6, .inl (ca 1, zZr 1 46)), (a7, .inl (ca 0, zZr 0 46)), (a8, .inl (ca 0, zZr 0 46)), (a9, .inl (ca 0, zZr 0 9)), (a10, .inl (ca 0, zZr 0 36)), (a11, .inl (ca 0, zZr 0 6)), (a12, .inl (ca 0, zZr 0 28))]) := hD12
  refine z_seg (A := zFq q s.heap.size) 0 (by decide) 28 (n := 28) (aty := .int) hx hb hts2 hown hin hK hP12 hD12 hS12 hA (by decide) rfl (by decide) (by show 12 + 1 ≤ 23; omega) (by show 3605 + 28 ≤ 10213; omega) l0 (pc2 := 107) zf_11_47 zff_11_16 (by decide) (by show 16 < 51; omega) zd133_104 (fun st k => lv_bipush hx hb zd133_105 rfl k) zd133_107 zd133_109 (fun a13 H13 L13 hP13 hD13 hS13 => ?_)
  have hP13 : va_P G vwCl ((q, .inr (11, [.int 0, .ref a1, .ref a2, .int 0, .int 0, .ref a3, .ref a4, .ref a5, .int 0, .ref a6, .ref a7, .ref a8, .ref a9, .ref a10, .ref a11, .ref a12, .ref a13, .null, .int 0, .int 0, .null, .null, .null, .int 0, .int 0, .int 0, .int 0, .int 0, .int 0, .int 0, .int 0, .long 0, .long 0, .int 0, .int 0, .int 0, .int 0, .int 0, .int 0, .int 0, .int 0, .int 0, .int 0, .null, .null, .int 0, .null, .int 0, .null, .null, .null])) :: [(a1, .inl (ca 1, zZr 1 32)), (a2, .inl (ca 0, zZr 0 2000)), (a3, .inl (ca 0, zZr 0 452)), (a4, .inl (ca 0, zZr 0 452)), (a5, .inl (ca 1, zZr 1 452)), (a6, .inl (ca 1, zZr 1 46)), (a7, .inl (ca 0, zZr 0 46)), (a8, .inl (ca 0, zZr 0 46)), (a9, .inl (ca 0, zZr 0 9)), (a10, .inl (ca 0, zZr 0 36)), (a11, .inl (ca 0, zZr 0 6)), (a12, .inl (ca 0, zZr 0 28)), (a13, .inl (ca 0, zZr 0 28))]) H13 := hP13
  have hD13 : va_D (zFq q s.heap.size) ((q, .inr (11, [.int 0, .ref a1, .ref a2, .int 0, .int 0, .ref a3, .ref a4, .ref a5, .int 0, .ref a6, .ref a7, .ref a8, .ref a9, .ref a10, .ref a11, .ref a12, .ref a13, .null, .int 0, .int 0, .null, .null, .null, .int 0, .int 0, .int 0, .int 0, .int 0, .int 0, .int 0, .int 0, .long 0, .long 0, .int 0, .int 0, .int 0, .int 0, .int 0, .int 0, .int 0, .int 0, .int 0, .int 0, .null, .null, .int 0, .null, .int 0, .null, .null, .null])) :: [(a1, .inl (ca 1, zZr 1 32)), (a2, .inl (ca 0, zZr 0 2000)), (a3, .inl (ca 0, zZr 0 452)), (a4, .inl (ca 0, zZr 0 452)), (a5, .inl (ca 1, zZr 1 452)), (a6, .inl (ca 1, zZr 1 46)), (a7, .inl (ca 0, zZr 0 46)), (a8, .inl (ca 0, zZr 0 46)), (a9, .inl (ca 0, zZr 0 9)), (a10, .inl (ca 0, zZr 0 36)), (a11, .inl (ca 0, zZr 0 6)), (a12, .inl (ca 0, zZr 0 28)), (a13, .inl (ca 0, zZr 0 28))]) := hD13
  refine z_seg (A := zFq q s.heap.size) 0 (by decide) 8 (n := 8) (aty := .int) hx hb hts2 hown hin hK hP13 hD13 hS13 hA (by decide) rfl (by decide) (by show 13 + 1 ≤ 23; omega) (by show 3633 + 8 ≤ 10213; omega) l0 (pc2 := 115) zf_11_50 zff_11_17 (by decide) (by show 17 < 51; omega) zd133_112 (fun st k => lv_bipush hx hb zd133_113 rfl k) zd133_115 zd133_117 (fun a14 H14 L14 hP14 hD14 hS14 => ?_)
  have hP14 : va_P G vwCl ((q, .inr (11, [.int 0, .ref a1, .ref a2, .int 0, .int 0, .ref a3, .ref a4, .ref a5, .int 0, .ref a6, .ref a7, .ref a8, .ref a9, .ref a10, .ref a11, .ref a12, .ref a13, .ref a14, .int 0, .int 0, .null, .null, .null, .int 0, .int 0, .int 0, .int 0, .int 0, .int 0, .int 0, .int 0, .long 0, .long 0, .int 0, .int 0, .int 0, .int 0, .int 0, .int 0, .int 0, .int 0, .int 0, .int 0, .null, .null, .int 0, .null, .int 0, .null, .null, .null])) :: [(a1, .inl (ca 1, zZr 1 32)), (a2, .inl (ca 0, zZr 0 2000)), (a3, .inl (ca 0, zZr 0 452)), (a4, .inl (ca 0, zZr 0 452)), (a5, .inl (ca 1, zZr 1 452)), (a6, .inl (ca 1, zZr 1 46)), (a7, .inl (ca 0, zZr 0 46)), (a8, .inl (ca 0, zZr 0 46)), (a9, .inl (ca 0, zZr 0 9)), (a10, .inl (ca 0, zZr 0 36)), (a11, .inl (ca 0, zZr 0 6)), (a12, .inl (ca 0, zZr 0 28)), (a13, .inl (ca 0, zZr 0 28)), (a14, .inl (ca 0, zZr 0 8))]) H14 := hP14
  have hD14 : va_D (zFq q s.heap.size) ((q, .inr (11, [.int 0, .ref a1, .ref a2, .int 0, .int 0, .ref a3, .ref a4, .ref a5, .int 0, .ref a6, .ref a7, .ref a8, .ref a9, .ref a10, .ref a11, .ref a12, .ref a13, .ref a14, .int 0, .int 0, .null, .null, .null, .int 0, .int 0, .int 0, .int 0, .int 0, .int 0, .int 0, .int 0, .long 0, .long 0, .int 0, .int 0, .int 0, .int 0, .int 0, .int 0, .int 0, .int 0, .int 0, .int 0, .null, .null, .int 0, .null, .int 0, .null, .null, .null])) :: [(a1, .inl (ca 1, zZr 1 32)), (a2, .inl (ca 0, zZr 0 2000)), (a3, .inl (ca 0, zZr 0 452)), (a4, .inl (ca 0, zZr 0 452)), (a5, .inl (ca 1, zZr 1 452)), (a6, .inl (ca 1, zZr 1 46)), (a7, .inl (ca 0, zZr 0 46)), (a8, .inl (ca 0, zZr 0 46)), (a9, .inl (ca 0, zZr 0 9)), (a10, .inl (ca 0, zZr 0 36)), (a11, .inl (ca 0, zZr 0 6)), (a12, .inl (ca 0, zZr 0 28)), (a13, .inl (ca 0, zZr 0 28)), (a14, .inl (ca 0, zZr 0 8))]) := hD14
  refine z_seg (A := zFq q s.heap.size) 0 (by decide) 1350 (n := 1350) (aty := .int) hx hb hts2 hown hin hK hP14 hD14 hS14 hA (by decide) rfl (by decide) (by show 14 + 1 ≤ 23; omega) (by show 3641 + 1350 ≤ 10213; omega) l0 (pc2 := 124) zf_11_53 zff_11_20 (by decide) (by show 20 < 51; omega) zd133_120 (fun st k => lv_sipush hx hb zd133_121 rfl k) zd133_124 zd133_126 (fun a15 H15 L15 hP15 hD15 hS15 => ?_)
  have hP15 : va_P G vwCl ((q, .inr (11, [.int 0, .ref a1, .ref a2, .int 0, .int 0, .ref a3, .ref a4, .ref a5, .int 0, .ref a6, .ref a7, .ref a8, .ref a9, .ref a10, .ref a11, .ref a12, .ref a13, .ref a14, .int 0, .int 0, .ref a15, .null, .null, .int 0, .int 0, .int 0, .int 0, .int 0, .int 0, .int 0, .int 0, .long 0, .long 0, .int 0, .int 0, .int 0, .int 0, .int 0, .int 0, .int 0, .int 0, .int 0, .int 0, .null, .null, .int 0, .null, .int 0, .null, .null, .null])) :: [(a1, .inl (ca 1, zZr 1 32)), (a2, .inl (ca 0, zZr 0 2000)), (a3, .inl (ca 0, zZr 0 452)), (a4, .inl (ca 0, zZr 0 452)), (a5, .inl (ca 1, zZr 1 452)), (a6, .inl (ca 1, zZr 1 46)), (a7, .inl (ca 0, zZr 0 46)), (a8, .inl (ca 0, zZr 0 46)), (a9, .inl (ca 0, zZr 0 9)), (a10, .inl (ca 0, zZr 0 36)), (a11, .inl (ca 0, zZr 0 6)), (a12, .inl (ca 0, zZr 0 28)), (a13, .inl (ca 0, zZr 0 28)), (a14, .inl (ca 0, zZr 0 8)), (a15, .inl (ca 0, zZr 0 1350))]) H15 := hP15
  have hD15 : va_D (zFq q s.heap.size) ((q, .inr (11, [.int 0, .ref a1, .ref a2, .int 0, .int 0, .ref a3, .ref a4, .ref a5, .int 0, .ref a6, .ref a7, .ref a8, .ref a9, .ref a10, .ref a11, .ref a12, .ref a13, .ref a14, .int 0, .int 0, .ref a15, .null, .null, .int 0, .int 0, .int 0, .int 0, .int 0, .int 0, .int 0, .int 0, .long 0, .long 0, .int 0, .int 0, .int 0, .int 0, .int 0, .int 0, .int 0, .int 0, .int 0, .int 0, .null, .null, .int 0, .null, .int 0, .null, .null, .null])) :: [(a1, .inl (ca 1, zZr 1 32)), (a2, .inl (ca 0, zZr 0 2000)), (a3, .inl (ca 0, zZr 0 452)), (a4, .inl (ca 0, zZr 0 452)), (a5, .inl (ca 1, zZr 1 452)), (a6, .inl (ca 1, zZr 1 46)), (a7, .inl (ca 0, zZr 0 46)), (a8, .inl (ca 0, zZr 0 46)), (a9, .inl (ca 0, zZr 0 9)), (a10, .inl (ca 0, zZr 0 36)), (a11, .inl (ca 0, zZr 0 6)), (a12, .inl (ca 0, zZr 0 28)), (a13, .inl (ca 0, zZr 0 28)), (a14, .inl (ca 0, zZr 0 8)), (a15, .inl (ca 0, zZr 0 1350))]) := hD15
  refine z_seg (A := zFq q s.heap.size) 0 (by decide) 1350 (n := 1350) (aty := .int) hx hb hts2 hown hin hK hP15 hD15 hS15 hA (by decide) rfl (by decide) (by show 15 + 1 ≤ 23; omega) (by show 4991 + 1350 ≤ 10213; omega) l0 (pc2 := 133) zf_11_56 zff_11_21 (by decide) (by show 21 < 51; omega) zd133_129 (fun st k => lv_sipush hx hb zd133_130 rfl k) zd133_133 zd133_135 (fun a16 H16 L16 hP16 hD16 hS16 => ?_)
  have hP16 : va_P G vwCl ((q, .inr (11, [.int 0, .ref a1, .ref a2, .int 0, .int 0, .ref a3, .ref a4, .ref a5, .int 0, .ref a6, .ref a7, .ref a8, .ref a9, .ref a10, .ref a11, .ref a12, .ref a13, .ref a14, .int 0, .int 0, .ref a15, .ref a16, .null, .int 0, .int 0, .int 0, .int 0, .int 0, .int 0, .int 0, .int 0, .long 0, .long 0, .int 0, .int 0, .int 0, .int 0, .int 0, .int 0, .int 0, .int 0, .int 0, .int 0, .null, .null, .int 0, .null, .int 0, .null, .null, .null])) :: [(a1, .inl (ca 1, zZr 1 32)), (a2, .inl (ca 0, zZr 0 2000)), (a3, .inl (ca 0, zZr 0 452)), (a4, .inl (ca 0, zZr 0 452)), (a5, .inl (ca 1, zZr 1 452)), (a6, .inl (ca 1, zZr 1 46)), (a7, .inl (ca 0, zZr 0 46)), (a8, .inl (ca 0, zZr 0 46)), (a9, .inl (ca 0, zZr 0 9)), (a10, .inl (ca 0, zZr 0 36)), (a11, .inl (ca 0, zZr 0 6)), (a12, .inl (ca 0, zZr 0 28)), (a13, .inl (ca 0, zZr 0 28)), (a14, .inl (ca 0, zZr 0 8)), (a15, .inl (ca 0, zZr 0 1350)), (a16, .inl (ca 0, zZr 0 1350))]) H16 := hP16
  have hD16 : va_D (zFq q s.heap.size) ((q, .inr (11, [.int 0, .ref a1, .ref a2, .int 0, .int 0, .ref a3, .ref a4, .ref a5, .int 0, .ref a6, .ref a7, .ref a8, .ref a9, .ref a10, .ref a11, .ref a12, .ref a13, .ref a14, .int 0, .int 0, .ref a15, .ref a16, .null, .int 0, .int 0, .int 0, .int 0, .int 0, .int 0, .int 0, .int 0, .long 0, .long 0, .int 0, .int 0, .int 0, .int 0, .int 0, .int 0, .int 0, .int 0, .int 0, .int 0, .null, .null, .int 0, .null, .int 0, .null, .null, .null])) :: [(a1, .inl (ca 1, zZr 1 32)), (a2, .inl (ca 0, zZr 0 2000)), (a3, .inl (ca 0, zZr 0 452)), (a4, .inl (ca 0, zZr 0 452)), (a5, .inl (ca 1, zZr 1 452)), (a6, .inl (ca 1, zZr 1 46)), (a7, .inl (ca 0, zZr 0 46)), (a8, .inl (ca 0, zZr 0 46)), (a9, .inl (ca 0, zZr 0 9)), (a10, .inl (ca 0, zZr 0 36)), (a11, .inl (ca 0, zZr 0 6)), (a12, .inl (ca 0, zZr 0 28)), (a13, .inl (ca 0, zZr 0 28)), (a14, .inl (ca 0, zZr 0 8)), (a15, .inl (ca 0, zZr 0 1350)), (a16, .inl (ca 0, zZr 0 1350))]) := hD16
  refine z_seg (A := zFq q s.heap.size) 0 (by decide) 1350 (n := 1350) (aty := .int) hx hb hts2 hown hin hK hP16 hD16 hS16 hA (by decide) rfl (by decide) (by show 16 + 1 ≤ 23; omega) (by show 6341 + 1350 ≤ 10213; omega) l0 (pc2 := 142) zf_11_59 zff_11_22 (by decide) (by show 22 < 51; omega) zd133_138 (fun st k => lv_sipush hx hb zd133_139 rfl k) zd133_142 zd133_144 (fun a17 H17 L17 hP17 hD17 hS17 => ?_)
  have hP17 : va_P G vwCl ((q, .inr (11, [.int 0, .ref a1, .ref a2, .int 0, .int 0, .ref a3, .ref a4, .ref a5, .int 0, .ref a6, .ref a7, .ref a8, .ref a9, .ref a10, .ref a11, .ref a12, .ref a13, .ref a14, .int 0, .int 0, .ref a15, .ref a16, .ref a17, .int 0, .int 0, .int 0, .int 0, .int 0, .int 0, .int 0, .int 0, .long 0, .long 0, .int 0, .int 0, .int 0, .int 0, .int 0, .int 0, .int 0, .int 0, .int 0, .int 0, .null, .null, .int 0, .null, .int 0, .null, .null, .null])) :: [(a1, .inl (ca 1, zZr 1 32)), (a2, .inl (ca 0, zZr 0 2000)), (a3, .inl (ca 0, zZr 0 452)), (a4, .inl (ca 0, zZr 0 452)), (a5, .inl (ca 1, zZr 1 452)), (a6, .inl (ca 1, zZr 1 46)), (a7, .inl (ca 0, zZr 0 46)), (a8, .inl (ca 0, zZr 0 46)), (a9, .inl (ca 0, zZr 0 9)), (a10, .inl (ca 0, zZr 0 36)), (a11, .inl (ca 0, zZr 0 6)), (a12, .inl (ca 0, zZr 0 28)), (a13, .inl (ca 0, zZr 0 28)), (a14, .inl (ca 0, zZr 0 8)), (a15, .inl (ca 0, zZr 0 1350)), (a16, .inl (ca 0, zZr 0 1350)), (a17, .inl (ca 0, zZr 0 1350))]) H17 := hP17
  have hD17 : va_D (zFq q s.heap.size) ((q, .inr (11, [.int 0, .ref a1, .ref a2, .int 0, .int 0, .ref a3, .ref a4, .ref a5, .int 0, .ref a6, .ref a7, .ref a8, .ref a9, .ref a10, .ref a11, .ref a12, .ref a13, .ref a14, .int 0, .int 0, .ref a15, .ref a16, .ref a17, .int 0, .int 0, .int 0, .int 0, .int 0, .int 0, .int 0, .int 0, .long 0, .long 0, .int 0, .int 0, .int 0, .int 0, .int 0, .int 0, .int 0, .int 0, .int 0, .int 0, .null, .null, .int 0, .null, .int 0, .null, .null, .null])) :: [(a1, .inl (ca 1, zZr 1 32)), (a2, .inl (ca 0, zZr 0 2000)), (a3, .inl (ca 0, zZr 0 452)), (a4, .inl (ca 0, zZr 0 452)), (a5, .inl (ca 1, zZr 1 452)), (a6, .inl (ca 1, zZr 1 46)), (a7, .inl (ca 0, zZr 0 46)), (a8, .inl (ca 0, zZr 0 46)), (a9, .inl (ca 0, zZr 0 9)), (a10, .inl (ca 0, zZr 0 36)), (a11, .inl (ca 0, zZr 0 6)), (a12, .inl (ca 0, zZr 0 28)), (a13, .inl (ca 0, zZr 0 28)), (a14, .inl (ca 0, zZr 0 8)), (a15, .inl (ca 0, zZr 0 1350)), (a16, .inl (ca 0, zZr 0 1350)), (a17, .inl (ca 0, zZr 0 1350))]) := hD17
  refine z_segi (A := zFq q s.heap.size) (v := -1) hx hb hts2 hown hK hP17 hD17 hS17 l0 (pc2 := 149) zf_11_62 zp_11_29 (by decide) (by show 29 < 51; omega) zd133_147 (fun st k => lv_iconst hx hb zd133_148 (show Int32.ofInt (-1) = -1 from rfl) k) zd133_149 (fun H18 L18 hP18 hD18 hS18 => ?_)
  have hP18 : va_P G vwCl ((q, .inr (11, [.int 0, .ref a1, .ref a2, .int 0, .int 0, .ref a3, .ref a4, .ref a5, .int 0, .ref a6, .ref a7, .ref a8, .ref a9, .ref a10, .ref a11, .ref a12, .ref a13, .ref a14, .int 0, .int 0, .ref a15, .ref a16, .ref a17, .int 0, .int 0, .int 0, .int 0, .int 0, .int 0, .int (-1), .int 0, .long 0, .long 0, .int 0, .int 0, .int 0, .int 0, .int 0, .int 0, .int 0, .int 0, .int 0, .int 0, .null, .null, .int 0, .null, .int 0, .null, .null, .null])) :: [(a1, .inl (ca 1, zZr 1 32)), (a2, .inl (ca 0, zZr 0 2000)), (a3, .inl (ca 0, zZr 0 452)), (a4, .inl (ca 0, zZr 0 452)), (a5, .inl (ca 1, zZr 1 452)), (a6, .inl (ca 1, zZr 1 46)), (a7, .inl (ca 0, zZr 0 46)), (a8, .inl (ca 0, zZr 0 46)), (a9, .inl (ca 0, zZr 0 9)), (a10, .inl (ca 0, zZr 0 36)), (a11, .inl (ca 0, zZr 0 6)), (a12, .inl (ca 0, zZr 0 28)), (a13, .inl (ca 0, zZr 0 28)), (a14, .inl (ca 0, zZr 0 8)), (a15, .inl (ca 0, zZr 0 1350)), (a16, .inl (ca 0, zZr 0 1350)), (a17, .inl (ca 0, zZr 0 1350))]) H18 := hP18
  have hD18 : va_D (zFq q s.heap.size) ((q, .inr (11, [.int 0, .ref a1, .ref a2, .int 0, .int 0, .ref a3, .ref a4, .ref a5, .int 0, .ref a6, .ref a7, .ref a8, .ref a9, .ref a10, .ref a11, .ref a12, .ref a13, .ref a14, .int 0, .int 0, .ref a15, .ref a16, .ref a17, .int 0, .int 0, .int 0, .int 0, .int 0, .int 0, .int (-1), .int 0, .long 0, .long 0, .int 0, .int 0, .int 0, .int 0, .int 0, .int 0, .int 0, .int 0, .int 0, .int 0, .null, .null, .int 0, .null, .int 0, .null, .null, .null])) :: [(a1, .inl (ca 1, zZr 1 32)), (a2, .inl (ca 0, zZr 0 2000)), (a3, .inl (ca 0, zZr 0 452)), (a4, .inl (ca 0, zZr 0 452)), (a5, .inl (ca 1, zZr 1 452)), (a6, .inl (ca 1, zZr 1 46)), (a7, .inl (ca 0, zZr 0 46)), (a8, .inl (ca 0, zZr 0 46)), (a9, .inl (ca 0, zZr 0 9)), (a10, .inl (ca 0, zZr 0 36)), (a11, .inl (ca 0, zZr 0 6)), (a12, .inl (ca 0, zZr 0 28)), (a13, .inl (ca 0, zZr 0 28)), (a14, .inl (ca 0, zZr 0 8)), (a15, .inl (ca 0, zZr 0 1350)), (a16, .inl (ca 0, zZr 0 1350)), (a17, .inl (ca 0, zZr 0 1350))]) := hD18
  refine z_seg (A := zFq q s.heap.size) 0 (by decide) 24 (n := 24) (aty := .int) hx hb hts2 hown hin hK hP18 hD18 hS18 hA (by decide) rfl (by decide) (by show 17 + 1 ≤ 23; omega) (by show 7691 + 24 ≤ 10213; omega) l0 (pc2 := 155) zf_11_66 zff_11_43 (by decide) (by show 43 < 51; omega) zd133_152 (fun st k => lv_bipush hx hb zd133_153 rfl k) zd133_155 zd133_157 (fun a18 H19 L19 hP19 hD19 hS19 => ?_)
  have hP19 : va_P G vwCl ((q, .inr (11, [.int 0, .ref a1, .ref a2, .int 0, .int 0, .ref a3, .ref a4, .ref a5, .int 0, .ref a6, .ref a7, .ref a8, .ref a9, .ref a10, .ref a11, .ref a12, .ref a13, .ref a14, .int 0, .int 0, .ref a15, .ref a16, .ref a17, .int 0, .int 0, .int 0, .int 0, .int 0, .int 0, .int (-1), .int 0, .long 0, .long 0, .int 0, .int 0, .int 0, .int 0, .int 0, .int 0, .int 0, .int 0, .int 0, .int 0, .ref a18, .null, .int 0, .null, .int 0, .null, .null, .null])) :: [(a1, .inl (ca 1, zZr 1 32)), (a2, .inl (ca 0, zZr 0 2000)), (a3, .inl (ca 0, zZr 0 452)), (a4, .inl (ca 0, zZr 0 452)), (a5, .inl (ca 1, zZr 1 452)), (a6, .inl (ca 1, zZr 1 46)), (a7, .inl (ca 0, zZr 0 46)), (a8, .inl (ca 0, zZr 0 46)), (a9, .inl (ca 0, zZr 0 9)), (a10, .inl (ca 0, zZr 0 36)), (a11, .inl (ca 0, zZr 0 6)), (a12, .inl (ca 0, zZr 0 28)), (a13, .inl (ca 0, zZr 0 28)), (a14, .inl (ca 0, zZr 0 8)), (a15, .inl (ca 0, zZr 0 1350)), (a16, .inl (ca 0, zZr 0 1350)), (a17, .inl (ca 0, zZr 0 1350)), (a18, .inl (ca 0, zZr 0 24))]) H19 := hP19
  have hD19 : va_D (zFq q s.heap.size) ((q, .inr (11, [.int 0, .ref a1, .ref a2, .int 0, .int 0, .ref a3, .ref a4, .ref a5, .int 0, .ref a6, .ref a7, .ref a8, .ref a9, .ref a10, .ref a11, .ref a12, .ref a13, .ref a14, .int 0, .int 0, .ref a15, .ref a16, .ref a17, .int 0, .int 0, .int 0, .int 0, .int 0, .int 0, .int (-1), .int 0, .long 0, .long 0, .int 0, .int 0, .int 0, .int 0, .int 0, .int 0, .int 0, .int 0, .int 0, .int 0, .ref a18, .null, .int 0, .null, .int 0, .null, .null, .null])) :: [(a1, .inl (ca 1, zZr 1 32)), (a2, .inl (ca 0, zZr 0 2000)), (a3, .inl (ca 0, zZr 0 452)), (a4, .inl (ca 0, zZr 0 452)), (a5, .inl (ca 1, zZr 1 452)), (a6, .inl (ca 1, zZr 1 46)), (a7, .inl (ca 0, zZr 0 46)), (a8, .inl (ca 0, zZr 0 46)), (a9, .inl (ca 0, zZr 0 9)), (a10, .inl (ca 0, zZr 0 36)), (a11, .inl (ca 0, zZr 0 6)), (a12, .inl (ca 0, zZr 0 28)), (a13, .inl (ca 0, zZr 0 28)), (a14, .inl (ca 0, zZr 0 8)), (a15, .inl (ca 0, zZr 0 1350)), (a16, .inl (ca 0, zZr 0 1350)), (a17, .inl (ca 0, zZr 0 1350)), (a18, .inl (ca 0, zZr 0 24))]) := hD19
  refine z_seg (A := zFq q s.heap.size) 0 (by decide) 6 (n := 6) (aty := .int) hx hb hts2 hown hin hK hP19 hD19 hS19 hA (by decide) rfl (by decide) (by show 18 + 1 ≤ 23; omega) (by show 7715 + 6 ≤ 10213; omega) l0 (pc2 := 163) zf_11_69 zff_11_44 (by decide) (by show 44 < 51; omega) zd133_160 (fun st k => lv_bipush hx hb zd133_161 rfl k) zd133_163 zd133_165 (fun a19 H20 L20 hP20 hD20 hS20 => ?_)
  have hP20 : va_P G vwCl ((q, .inr (11, [.int 0, .ref a1, .ref a2, .int 0, .int 0, .ref a3, .ref a4, .ref a5, .int 0, .ref a6, .ref a7, .ref a8, .ref a9, .ref a10, .ref a11, .ref a12, .ref a13, .ref a14, .int 0, .int 0, .ref a15, .ref a16, .ref a17, .int 0, .int 0, .int 0, .int 0, .int 0, .int 0, .int (-1), .int 0, .long 0, .long 0, .int 0, .int 0, .int 0, .int 0, .int 0, .int 0, .int 0, .int 0, .int 0, .int 0, .ref a18, .ref a19, .int 0, .null, .int 0, .null, .null, .null])) :: [(a1, .inl (ca 1, zZr 1 32)), (a2, .inl (ca 0, zZr 0 2000)), (a3, .inl (ca 0, zZr 0 452)), (a4, .inl (ca 0, zZr 0 452)), (a5, .inl (ca 1, zZr 1 452)), (a6, .inl (ca 1, zZr 1 46)), (a7, .inl (ca 0, zZr 0 46)), (a8, .inl (ca 0, zZr 0 46)), (a9, .inl (ca 0, zZr 0 9)), (a10, .inl (ca 0, zZr 0 36)), (a11, .inl (ca 0, zZr 0 6)), (a12, .inl (ca 0, zZr 0 28)), (a13, .inl (ca 0, zZr 0 28)), (a14, .inl (ca 0, zZr 0 8)), (a15, .inl (ca 0, zZr 0 1350)), (a16, .inl (ca 0, zZr 0 1350)), (a17, .inl (ca 0, zZr 0 1350)), (a18, .inl (ca 0, zZr 0 24)), (a19, .inl (ca 0, zZr 0 6))]) H20 := hP20
  have hD20 : va_D (zFq q s.heap.size) ((q, .inr (11, [.int 0, .ref a1, .ref a2, .int 0, .int 0, .ref a3, .ref a4, .ref a5, .int 0, .ref a6, .ref a7, .ref a8, .ref a9, .ref a10, .ref a11, .ref a12, .ref a13, .ref a14, .int 0, .int 0, .ref a15, .ref a16, .ref a17, .int 0, .int 0, .int 0, .int 0, .int 0, .int 0, .int (-1), .int 0, .long 0, .long 0, .int 0, .int 0, .int 0, .int 0, .int 0, .int 0, .int 0, .int 0, .int 0, .int 0, .ref a18, .ref a19, .int 0, .null, .int 0, .null, .null, .null])) :: [(a1, .inl (ca 1, zZr 1 32)), (a2, .inl (ca 0, zZr 0 2000)), (a3, .inl (ca 0, zZr 0 452)), (a4, .inl (ca 0, zZr 0 452)), (a5, .inl (ca 1, zZr 1 452)), (a6, .inl (ca 1, zZr 1 46)), (a7, .inl (ca 0, zZr 0 46)), (a8, .inl (ca 0, zZr 0 46)), (a9, .inl (ca 0, zZr 0 9)), (a10, .inl (ca 0, zZr 0 36)), (a11, .inl (ca 0, zZr 0 6)), (a12, .inl (ca 0, zZr 0 28)), (a13, .inl (ca 0, zZr 0 28)), (a14, .inl (ca 0, zZr 0 8)), (a15, .inl (ca 0, zZr 0 1350)), (a16, .inl (ca 0, zZr 0 1350)), (a17, .inl (ca 0, zZr 0 1350)), (a18, .inl (ca 0, zZr 0 24)), (a19, .inl (ca 0, zZr 0 6))]) := hD20
  refine z_seg (A := zFq q s.heap.size) 0 (by decide) 40 (n := 40) (aty := .int) hx hb hts2 hown hin hK hP20 hD20 hS20 hA (by decide) rfl (by decide) (by show 19 + 1 ≤ 23; omega) (by show 7721 + 40 ≤ 10213; omega) l0 (pc2 := 171) zf_11_72 zff_11_46 (by decide) (by show 46 < 51; omega) zd133_168 (fun st k => lv_bipush hx hb zd133_169 rfl k) zd133_171 zd133_173 (fun a20 H21 L21 hP21 hD21 hS21 => ?_)
  have hP21 : va_P G vwCl ((q, .inr (11, [.int 0, .ref a1, .ref a2, .int 0, .int 0, .ref a3, .ref a4, .ref a5, .int 0, .ref a6, .ref a7, .ref a8, .ref a9, .ref a10, .ref a11, .ref a12, .ref a13, .ref a14, .int 0, .int 0, .ref a15, .ref a16, .ref a17, .int 0, .int 0, .int 0, .int 0, .int 0, .int 0, .int (-1), .int 0, .long 0, .long 0, .int 0, .int 0, .int 0, .int 0, .int 0, .int 0, .int 0, .int 0, .int 0, .int 0, .ref a18, .ref a19, .int 0, .ref a20, .int 0, .null, .null, .null])) :: [(a1, .inl (ca 1, zZr 1 32)), (a2, .inl (ca 0, zZr 0 2000)), (a3, .inl (ca 0, zZr 0 452)), (a4, .inl (ca 0, zZr 0 452)), (a5, .inl (ca 1, zZr 1 452)), (a6, .inl (ca 1, zZr 1 46)), (a7, .inl (ca 0, zZr 0 46)), (a8, .inl (ca 0, zZr 0 46)), (a9, .inl (ca 0, zZr 0 9)), (a10, .inl (ca 0, zZr 0 36)), (a11, .inl (ca 0, zZr 0 6)), (a12, .inl (ca 0, zZr 0 28)), (a13, .inl (ca 0, zZr 0 28)), (a14, .inl (ca 0, zZr 0 8)), (a15, .inl (ca 0, zZr 0 1350)), (a16, .inl (ca 0, zZr 0 1350)), (a17, .inl (ca 0, zZr 0 1350)), (a18, .inl (ca 0, zZr 0 24)), (a19, .inl (ca 0, zZr 0 6)), (a20, .inl (ca 0, zZr 0 40))]) H21 := hP21
  have hD21 : va_D (zFq q s.heap.size) ((q, .inr (11, [.int 0, .ref a1, .ref a2, .int 0, .int 0, .ref a3, .ref a4, .ref a5, .int 0, .ref a6, .ref a7, .ref a8, .ref a9, .ref a10, .ref a11, .ref a12, .ref a13, .ref a14, .int 0, .int 0, .ref a15, .ref a16, .ref a17, .int 0, .int 0, .int 0, .int 0, .int 0, .int 0, .int (-1), .int 0, .long 0, .long 0, .int 0, .int 0, .int 0, .int 0, .int 0, .int 0, .int 0, .int 0, .int 0, .int 0, .ref a18, .ref a19, .int 0, .ref a20, .int 0, .null, .null, .null])) :: [(a1, .inl (ca 1, zZr 1 32)), (a2, .inl (ca 0, zZr 0 2000)), (a3, .inl (ca 0, zZr 0 452)), (a4, .inl (ca 0, zZr 0 452)), (a5, .inl (ca 1, zZr 1 452)), (a6, .inl (ca 1, zZr 1 46)), (a7, .inl (ca 0, zZr 0 46)), (a8, .inl (ca 0, zZr 0 46)), (a9, .inl (ca 0, zZr 0 9)), (a10, .inl (ca 0, zZr 0 36)), (a11, .inl (ca 0, zZr 0 6)), (a12, .inl (ca 0, zZr 0 28)), (a13, .inl (ca 0, zZr 0 28)), (a14, .inl (ca 0, zZr 0 8)), (a15, .inl (ca 0, zZr 0 1350)), (a16, .inl (ca 0, zZr 0 1350)), (a17, .inl (ca 0, zZr 0 1350)), (a18, .inl (ca 0, zZr 0 24)), (a19, .inl (ca 0, zZr 0 6)), (a20, .inl (ca 0, zZr 0 40))]) := hD21
  refine z_seg (A := zFq q s.heap.size) 0 (by decide) 1000 (n := 1000) (aty := .int) hx hb hts2 hown hin hK hP21 hD21 hS21 hA (by decide) rfl (by decide) (by show 20 + 1 ≤ 23; omega) (by show 7761 + 1000 ≤ 10213; omega) l0 (pc2 := 180) zf_11_75 zff_11_48 (by decide) (by show 48 < 51; omega) zd133_176 (fun st k => lv_sipush hx hb zd133_177 rfl k) zd133_180 zd133_182 (fun a21 H22 L22 hP22 hD22 hS22 => ?_)
  have hP22 : va_P G vwCl ((q, .inr (11, [.int 0, .ref a1, .ref a2, .int 0, .int 0, .ref a3, .ref a4, .ref a5, .int 0, .ref a6, .ref a7, .ref a8, .ref a9, .ref a10, .ref a11, .ref a12, .ref a13, .ref a14, .int 0, .int 0, .ref a15, .ref a16, .ref a17, .int 0, .int 0, .int 0, .int 0, .int 0, .int 0, .int (-1), .int 0, .long 0, .long 0, .int 0, .int 0, .int 0, .int 0, .int 0, .int 0, .int 0, .int 0, .int 0, .int 0, .ref a18, .ref a19, .int 0, .ref a20, .int 0, .ref a21, .null, .null])) :: [(a1, .inl (ca 1, zZr 1 32)), (a2, .inl (ca 0, zZr 0 2000)), (a3, .inl (ca 0, zZr 0 452)), (a4, .inl (ca 0, zZr 0 452)), (a5, .inl (ca 1, zZr 1 452)), (a6, .inl (ca 1, zZr 1 46)), (a7, .inl (ca 0, zZr 0 46)), (a8, .inl (ca 0, zZr 0 46)), (a9, .inl (ca 0, zZr 0 9)), (a10, .inl (ca 0, zZr 0 36)), (a11, .inl (ca 0, zZr 0 6)), (a12, .inl (ca 0, zZr 0 28)), (a13, .inl (ca 0, zZr 0 28)), (a14, .inl (ca 0, zZr 0 8)), (a15, .inl (ca 0, zZr 0 1350)), (a16, .inl (ca 0, zZr 0 1350)), (a17, .inl (ca 0, zZr 0 1350)), (a18, .inl (ca 0, zZr 0 24)), (a19, .inl (ca 0, zZr 0 6)), (a20, .inl (ca 0, zZr 0 40)), (a21, .inl (ca 0, zZr 0 1000))]) H22 := hP22
  have hD22 : va_D (zFq q s.heap.size) ((q, .inr (11, [.int 0, .ref a1, .ref a2, .int 0, .int 0, .ref a3, .ref a4, .ref a5, .int 0, .ref a6, .ref a7, .ref a8, .ref a9, .ref a10, .ref a11, .ref a12, .ref a13, .ref a14, .int 0, .int 0, .ref a15, .ref a16, .ref a17, .int 0, .int 0, .int 0, .int 0, .int 0, .int 0, .int (-1), .int 0, .long 0, .long 0, .int 0, .int 0, .int 0, .int 0, .int 0, .int 0, .int 0, .int 0, .int 0, .int 0, .ref a18, .ref a19, .int 0, .ref a20, .int 0, .ref a21, .null, .null])) :: [(a1, .inl (ca 1, zZr 1 32)), (a2, .inl (ca 0, zZr 0 2000)), (a3, .inl (ca 0, zZr 0 452)), (a4, .inl (ca 0, zZr 0 452)), (a5, .inl (ca 1, zZr 1 452)), (a6, .inl (ca 1, zZr 1 46)), (a7, .inl (ca 0, zZr 0 46)), (a8, .inl (ca 0, zZr 0 46)), (a9, .inl (ca 0, zZr 0 9)), (a10, .inl (ca 0, zZr 0 36)), (a11, .inl (ca 0, zZr 0 6)), (a12, .inl (ca 0, zZr 0 28)), (a13, .inl (ca 0, zZr 0 28)), (a14, .inl (ca 0, zZr 0 8)), (a15, .inl (ca 0, zZr 0 1350)), (a16, .inl (ca 0, zZr 0 1350)), (a17, .inl (ca 0, zZr 0 1350)), (a18, .inl (ca 0, zZr 0 24)), (a19, .inl (ca 0, zZr 0 6)), (a20, .inl (ca 0, zZr 0 40)), (a21, .inl (ca 0, zZr 0 1000))]) := hD22
  refine z_seg (A := zFq q s.heap.size) 1 (by decide) 452 (n := 452) (aty := .long) hx hb hts2 hown hin hK hP22 hD22 hS22 hA (by decide) rfl (by decide) (by show 21 + 1 ≤ 23; omega) (by show 8761 + 452 ≤ 10213; omega) l0 (pc2 := 189) zf_11_78 zff_11_49 (by decide) (by show 49 < 51; omega) zd133_185 (fun st k => lv_sipush hx hb zd133_186 rfl k) zd133_189 zd133_191 (fun a22 H23 L23 hP23 hD23 hS23 => ?_)
  have hP23 : va_P G vwCl ((q, .inr (11, [.int 0, .ref a1, .ref a2, .int 0, .int 0, .ref a3, .ref a4, .ref a5, .int 0, .ref a6, .ref a7, .ref a8, .ref a9, .ref a10, .ref a11, .ref a12, .ref a13, .ref a14, .int 0, .int 0, .ref a15, .ref a16, .ref a17, .int 0, .int 0, .int 0, .int 0, .int 0, .int 0, .int (-1), .int 0, .long 0, .long 0, .int 0, .int 0, .int 0, .int 0, .int 0, .int 0, .int 0, .int 0, .int 0, .int 0, .ref a18, .ref a19, .int 0, .ref a20, .int 0, .ref a21, .ref a22, .null])) :: [(a1, .inl (ca 1, zZr 1 32)), (a2, .inl (ca 0, zZr 0 2000)), (a3, .inl (ca 0, zZr 0 452)), (a4, .inl (ca 0, zZr 0 452)), (a5, .inl (ca 1, zZr 1 452)), (a6, .inl (ca 1, zZr 1 46)), (a7, .inl (ca 0, zZr 0 46)), (a8, .inl (ca 0, zZr 0 46)), (a9, .inl (ca 0, zZr 0 9)), (a10, .inl (ca 0, zZr 0 36)), (a11, .inl (ca 0, zZr 0 6)), (a12, .inl (ca 0, zZr 0 28)), (a13, .inl (ca 0, zZr 0 28)), (a14, .inl (ca 0, zZr 0 8)), (a15, .inl (ca 0, zZr 0 1350)), (a16, .inl (ca 0, zZr 0 1350)), (a17, .inl (ca 0, zZr 0 1350)), (a18, .inl (ca 0, zZr 0 24)), (a19, .inl (ca 0, zZr 0 6)), (a20, .inl (ca 0, zZr 0 40)), (a21, .inl (ca 0, zZr 0 1000)), (a22, .inl (ca 1, zZr 1 452))]) H23 := hP23
  have hD23 : va_D (zFq q s.heap.size) ((q, .inr (11, [.int 0, .ref a1, .ref a2, .int 0, .int 0, .ref a3, .ref a4, .ref a5, .int 0, .ref a6, .ref a7, .ref a8, .ref a9, .ref a10, .ref a11, .ref a12, .ref a13, .ref a14, .int 0, .int 0, .ref a15, .ref a16, .ref a17, .int 0, .int 0, .int 0, .int 0, .int 0, .int 0, .int (-1), .int 0, .long 0, .long 0, .int 0, .int 0, .int 0, .int 0, .int 0, .int 0, .int 0, .int 0, .int 0, .int 0, .ref a18, .ref a19, .int 0, .ref a20, .int 0, .ref a21, .ref a22, .null])) :: [(a1, .inl (ca 1, zZr 1 32)), (a2, .inl (ca 0, zZr 0 2000)), (a3, .inl (ca 0, zZr 0 452)), (a4, .inl (ca 0, zZr 0 452)), (a5, .inl (ca 1, zZr 1 452)), (a6, .inl (ca 1, zZr 1 46)), (a7, .inl (ca 0, zZr 0 46)), (a8, .inl (ca 0, zZr 0 46)), (a9, .inl (ca 0, zZr 0 9)), (a10, .inl (ca 0, zZr 0 36)), (a11, .inl (ca 0, zZr 0 6)), (a12, .inl (ca 0, zZr 0 28)), (a13, .inl (ca 0, zZr 0 28)), (a14, .inl (ca 0, zZr 0 8)), (a15, .inl (ca 0, zZr 0 1350)), (a16, .inl (ca 0, zZr 0 1350)), (a17, .inl (ca 0, zZr 0 1350)), (a18, .inl (ca 0, zZr 0 24)), (a19, .inl (ca 0, zZr 0 6)), (a20, .inl (ca 0, zZr 0 40)), (a21, .inl (ca 0, zZr 0 1000)), (a22, .inl (ca 1, zZr 1 452))]) := hD23
  refine z_seg (A := zFq q s.heap.size) 0 (by decide) 1000 (n := 1000) (aty := .int) hx hb hts2 hown hin hK hP23 hD23 hS23 hA (by decide) rfl (by decide) (by show 22 + 1 ≤ 23; omega) (by show 9213 + 1000 ≤ 10213; omega) l0 (pc2 := 198) zf_11_81 zff_11_50 (by decide) (by show 50 < 51; omega) zd133_194 (fun st k => lv_sipush hx hb zd133_195 rfl k) zd133_198 zd133_200 (fun a23 H24 L24 hP24 hD24 hS24 => ?_)
  have hP24 : va_P G vwCl ((q, .inr (11, [.int 0, .ref a1, .ref a2, .int 0, .int 0, .ref a3, .ref a4, .ref a5, .int 0, .ref a6, .ref a7, .ref a8, .ref a9, .ref a10, .ref a11, .ref a12, .ref a13, .ref a14, .int 0, .int 0, .ref a15, .ref a16, .ref a17, .int 0, .int 0, .int 0, .int 0, .int 0, .int 0, .int (-1), .int 0, .long 0, .long 0, .int 0, .int 0, .int 0, .int 0, .int 0, .int 0, .int 0, .int 0, .int 0, .int 0, .ref a18, .ref a19, .int 0, .ref a20, .int 0, .ref a21, .ref a22, .ref a23])) :: [(a1, .inl (ca 1, zZr 1 32)), (a2, .inl (ca 0, zZr 0 2000)), (a3, .inl (ca 0, zZr 0 452)), (a4, .inl (ca 0, zZr 0 452)), (a5, .inl (ca 1, zZr 1 452)), (a6, .inl (ca 1, zZr 1 46)), (a7, .inl (ca 0, zZr 0 46)), (a8, .inl (ca 0, zZr 0 46)), (a9, .inl (ca 0, zZr 0 9)), (a10, .inl (ca 0, zZr 0 36)), (a11, .inl (ca 0, zZr 0 6)), (a12, .inl (ca 0, zZr 0 28)), (a13, .inl (ca 0, zZr 0 28)), (a14, .inl (ca 0, zZr 0 8)), (a15, .inl (ca 0, zZr 0 1350)), (a16, .inl (ca 0, zZr 0 1350)), (a17, .inl (ca 0, zZr 0 1350)), (a18, .inl (ca 0, zZr 0 24)), (a19, .inl (ca 0, zZr 0 6)), (a20, .inl (ca 0, zZr 0 40)), (a21, .inl (ca 0, zZr 0 1000)), (a22, .inl (ca 1, zZr 1 452)), (a23, .inl (ca 0, zZr 0 1000))]) H24 := hP24
  have hD24 : va_D (zFq q s.heap.size) ((q, .inr (11, [.int 0, .ref a1, .ref a2, .int 0, .int 0, .ref a3, .ref a4, .ref a5, .int 0, .ref a6, .ref a7, .ref a8, .ref a9, .ref a10, .ref a11, .ref a12, .ref a13, .ref a14, .int 0, .int 0, .ref a15, .ref a16, .ref a17, .int 0, .int 0, .int 0, .int 0, .int 0, .int 0, .int (-1), .int 0, .long 0, .long 0, .int 0, .int 0, .int 0, .int 0, .int 0, .int 0, .int 0, .int 0, .int 0, .int 0, .ref a18, .ref a19, .int 0, .ref a20, .int 0, .ref a21, .ref a22, .ref a23])) :: [(a1, .inl (ca 1, zZr 1 32)), (a2, .inl (ca 0, zZr 0 2000)), (a3, .inl (ca 0, zZr 0 452)), (a4, .inl (ca 0, zZr 0 452)), (a5, .inl (ca 1, zZr 1 452)), (a6, .inl (ca 1, zZr 1 46)), (a7, .inl (ca 0, zZr 0 46)), (a8, .inl (ca 0, zZr 0 46)), (a9, .inl (ca 0, zZr 0 9)), (a10, .inl (ca 0, zZr 0 36)), (a11, .inl (ca 0, zZr 0 6)), (a12, .inl (ca 0, zZr 0 28)), (a13, .inl (ca 0, zZr 0 28)), (a14, .inl (ca 0, zZr 0 8)), (a15, .inl (ca 0, zZr 0 1350)), (a16, .inl (ca 0, zZr 0 1350)), (a17, .inl (ca 0, zZr 0 1350)), (a18, .inl (ca 0, zZr 0 24)), (a19, .inl (ca 0, zZr 0 6)), (a20, .inl (ca 0, zZr 0 40)), (a21, .inl (ca 0, zZr 0 1000)), (a22, .inl (ca 1, zZr 1 452)), (a23, .inl (ca 0, zZr 0 1000))]) := hD24
  refine lv_iconst (v := 0) hx hb zd133_203 (show Int32.ofInt 0 = 0 from rfl) ?_
  refine lv_istore_n (i := 1) (lv' := [(1, .int 0), (0, .ref q)]) hx hb zd133_204 rfl hlv (by decide) rfl (fun ls1 h1 => ?_)
  refine lv_iconst (v := 0) hx hb zd133_205 (show Int32.ofInt 0 = 0 from rfl) ?_
  refine lv_istore_n (i := 2) (lv' := [(2, .int 0), (1, .int 0), (0, .ref q)]) hx hb zd133_206 rfl h1 (by decide) rfl (fun ls2 h2 => ?_)
  have hC : zC [] p s m [Value.ref q].toArray c (zFq q s.heap.size) G ad ca 133 := ⟨hx, hb, hml, hown, hts2, hK, fun _ _ _ => zWn_D, hA⟩
  refine mk_out (q := q) (ak := a1) (fs := fsM a1 a2 a3 a4 a5 a6 a7 a8 a9 a10 a11 a12 a13 a14 a15 a16 a17 a18 a19 a20 a21 a22 a23) (r := rM ca a2 a3 a4 a5 a6 a7 a8 a9 a10 a11 a12 a13 a14 a15 a16 a17 a18 a19 a20 a21 a22 a23) hC hEX ⟨by show 4 + 11 ≤ 15; omega, by show (4 + 1) * 100 ≤ 500; omega⟩ (by show _ ≤ 23; omega) (by show _ ≤ 10213; omega) rfl (fun H5 L5 ls5 hP5 hD5 hS5 => ?_) 32 0 H24 L24 ls2 rfl hP24 hD24 hS24 ⟨h2.1, h2.2.1, fun y hy => h2.2.2 y ?_⟩
  · refine W.widen (Nat.le_refl _) (Nat.le_refl _) (vx_ret ?_)
    exact W.vret hx hb B.returns (fun t ht9 _ => ⟨rfl, ⟨a1, a2, a3, a4, a5, a6, a7, a8, a9, a10, a11, a12, a13, a14, a15, a16, a17, a18, a19, a20, a21, a22, a23, by rw [ht9]; exact hP5, hD5⟩, hS5.F ht9⟩) hS5.2.2 zd133_271
  · have hy : y = (0, .ref q) ∨ y = (1, .int 0) ∨ y = (2, .int 0) := by
      have hy2 : y ∈ [((0 : Nat), Value.ref q), (1, .int 0), (2, .int 0)] := hy
      simpa using hy2
    rcases hy with rfl | rfl | rfl
    · exact List.mem_cons_of_mem _ (List.mem_cons_of_mem _ List.mem_cons_self)
    · exact List.mem_cons_of_mem _ List.mem_cons_self
    · exact List.mem_cons_self

theorem d_M_findWay_0 : decode prog_10_method_61_code 0 = .ok (.iconst 0, 1) := by decide +kernel
theorem d_M_findWay_1 : decode prog_10_method_61_code 1 = .ok (.istore_n 3, 1) := by decide +kernel
theorem d_M_findWay_2 : decode prog_10_method_61_code 2 = .ok (.iconst 1, 1) := by decide +kernel
theorem d_M_findWay_3 : decode prog_10_method_61_code 3 = .ok (.aload_n 0, 1) := by decide +kernel
theorem d_M_findWay_4 : decode prog_10_method_61_code 4 = .ok (.iload_n 1, 1) := by decide +kernel
theorem d_M_findWay_5 : decode prog_10_method_61_code 5 = .ok (.iconst 3, 1) := by decide +kernel
theorem d_M_findWay_6 : decode prog_10_method_61_code 6 = .ok (.invokevirtual 62, 3) := by decide +kernel
theorem d_M_findWay_9 : decode prog_10_method_61_code 9 = .ok (.ishl, 1) := by decide +kernel
theorem d_M_findWay_10 : decode prog_10_method_61_code 10 = .ok (.istore 4, 2) := by decide +kernel
theorem d_M_findWay_12 : decode prog_10_method_61_code 12 = .ok (.aload_n 0, 1) := by decide +kernel
theorem d_M_findWay_13 : decode prog_10_method_61_code 13 = .ok (.iconst (-1), 1) := by decide +kernel
theorem d_M_findWay_14 : decode prog_10_method_61_code 14 = .ok (.putfield 203, 3) := by decide +kernel
theorem d_M_findWay_17 : decode prog_10_method_61_code 17 = .ok (.aload_n 0, 1) := by decide +kernel
theorem d_M_findWay_18 : decode prog_10_method_61_code 18 = .ok (.iload_n 2, 1) := by decide +kernel
theorem d_M_findWay_19 : decode prog_10_method_61_code 19 = .ok (.putfield 206, 3) := by decide +kernel
theorem d_M_findWay_22 : decode prog_10_method_61_code 22 = .ok (.iconst 0, 1) := by decide +kernel
theorem d_M_findWay_23 : decode prog_10_method_61_code 23 = .ok (.istore 5, 2) := by decide +kernel
theorem d_M_findWay_25 : decode prog_10_method_61_code 25 = .ok (.iload 5, 2) := by decide +kernel
theorem d_M_findWay_27 : decode prog_10_method_61_code 27 = .ok (.bipush 6, 2) := by decide +kernel
theorem d_M_findWay_29 : decode prog_10_method_61_code 29 = .ok (.if_icmp .ge 17, 3) := by decide +kernel
theorem d_M_findWay_32 : decode prog_10_method_61_code 32 = .ok (.aload_n 0, 1) := by decide +kernel
theorem d_M_findWay_33 : decode prog_10_method_61_code 33 = .ok (.getfield 25, 3) := by decide +kernel
theorem d_M_findWay_36 : decode prog_10_method_61_code 36 = .ok (.iload 5, 2) := by decide +kernel
theorem d_M_findWay_38 : decode prog_10_method_61_code 38 = .ok (.iconst (-1), 1) := by decide +kernel
theorem d_M_findWay_39 : decode prog_10_method_61_code 39 = .ok (.iastore, 1) := by decide +kernel
theorem d_M_findWay_40 : decode prog_10_method_61_code 40 = .ok (.iinc 5 1, 3) := by decide +kernel
theorem d_M_findWay_43 : decode prog_10_method_61_code 43 = .ok (.goto (-18), 3) := by decide +kernel
theorem d_M_findWay_46 : decode prog_10_method_61_code 46 = .ok (.iload_n 3, 1) := by decide +kernel
theorem d_M_findWay_47 : decode prog_10_method_61_code 47 = .ok (.ifCond .lt 182, 3) := by decide +kernel
theorem d_M_findWay_50 : decode prog_10_method_61_code 50 = .ok (.iload_n 3, 1) := by decide +kernel
theorem d_M_findWay_51 : decode prog_10_method_61_code 51 = .ok (.ifCond .ne 12, 3) := by decide +kernel
theorem d_M_findWay_54 : decode prog_10_method_61_code 54 = .ok (.aload_n 0, 1) := by decide +kernel
theorem d_M_findWay_55 : decode prog_10_method_61_code 55 = .ok (.iload_n 1, 1) := by decide +kernel
theorem d_M_findWay_56 : decode prog_10_method_61_code 56 = .ok (.iconst 3, 1) := by decide +kernel
theorem d_M_findWay_57 : decode prog_10_method_61_code 57 = .ok (.invokevirtual 62, 3) := by decide +kernel
theorem d_M_findWay_60 : decode prog_10_method_61_code 60 = .ok (.goto 11, 3) := by decide +kernel
theorem d_M_findWay_63 : decode prog_10_method_61_code 63 = .ok (.aload_n 0, 1) := by decide +kernel
theorem d_M_findWay_64 : decode prog_10_method_61_code 64 = .ok (.getfield 25, 3) := by decide +kernel
theorem d_M_findWay_67 : decode prog_10_method_61_code 67 = .ok (.iload_n 3, 1) := by decide +kernel
theorem d_M_findWay_68 : decode prog_10_method_61_code 68 = .ok (.iconst 1, 1) := by decide +kernel
theorem d_M_findWay_69 : decode prog_10_method_61_code 69 = .ok (.isub, 1) := by decide +kernel
theorem d_M_findWay_70 : decode prog_10_method_61_code 70 = .ok (.iaload, 1) := by decide +kernel
theorem d_M_findWay_71 : decode prog_10_method_61_code 71 = .ok (.istore 5, 2) := by decide +kernel
theorem d_M_findWay_73 : decode prog_10_method_61_code 73 = .ok (.iload 5, 2) := by decide +kernel
theorem d_M_findWay_75 : decode prog_10_method_61_code 75 = .ok (.iload_n 2, 1) := by decide +kernel
theorem d_M_findWay_76 : decode prog_10_method_61_code 76 = .ok (.if_icmp .eq 8, 3) := by decide +kernel
theorem d_M_findWay_79 : decode prog_10_method_61_code 79 = .ok (.iload_n 3, 1) := by decide +kernel
theorem d_M_findWay_80 : decode prog_10_method_61_code 80 = .ok (.iconst 5, 1) := by decide +kernel
theorem d_M_findWay_81 : decode prog_10_method_61_code 81 = .ok (.if_icmp .ne 16, 3) := by decide +kernel
theorem d_M_findWay_84 : decode prog_10_method_61_code 84 = .ok (.aload_n 0, 1) := by decide +kernel
theorem d_M_findWay_85 : decode prog_10_method_61_code 85 = .ok (.iload_n 1, 1) := by decide +kernel
theorem d_M_findWay_86 : decode prog_10_method_61_code 86 = .ok (.iload_n 2, 1) := by decide +kernel
theorem d_M_findWay_87 : decode prog_10_method_61_code 87 = .ok (.iload_n 3, 1) := by decide +kernel
theorem d_M_findWay_88 : decode prog_10_method_61_code 88 = .ok (.invokevirtual 209, 3) := by decide +kernel
theorem d_M_findWay_91 : decode prog_10_method_61_code 91 = .ok (.iinc 3 (-1), 3) := by decide +kernel
theorem d_M_findWay_94 : decode prog_10_method_61_code 94 = .ok (.goto 132, 3) := by decide +kernel
theorem d_M_findWay_97 : decode prog_10_method_61_code 97 = .ok (.iload 4, 2) := by decide +kernel
theorem d_M_findWay_99 : decode prog_10_method_61_code 99 = .ok (.aload_n 0, 1) := by decide +kernel
theorem d_M_findWay_100 : decode prog_10_method_61_code 100 = .ok (.getfield 25, 3) := by decide +kernel
theorem d_M_findWay_103 : decode prog_10_method_61_code 103 = .ok (.iload_n 3, 1) := by decide +kernel
theorem d_M_findWay_104 : decode prog_10_method_61_code 104 = .ok (.iaload, 1) := by decide +kernel
theorem d_M_findWay_105 : decode prog_10_method_61_code 105 = .ok (.ifCond .ge 7, 3) := by decide +kernel
theorem d_M_findWay_108 : decode prog_10_method_61_code 108 = .ok (.iconst (-1), 1) := by decide +kernel
theorem d_M_findWay_109 : decode prog_10_method_61_code 109 = .ok (.goto 13, 3) := by decide +kernel
theorem d_M_findWay_112 : decode prog_10_method_61_code 112 = .ok (.iconst 1, 1) := by decide +kernel
theorem d_M_findWay_113 : decode prog_10_method_61_code 113 = .ok (.aload_n 0, 1) := by decide +kernel
theorem d_M_findWay_114 : decode prog_10_method_61_code 114 = .ok (.getfield 25, 3) := by decide +kernel
theorem d_M_findWay_117 : decode prog_10_method_61_code 117 = .ok (.iload_n 3, 1) := by decide +kernel
theorem d_M_findWay_118 : decode prog_10_method_61_code 118 = .ok (.iaload, 1) := by decide +kernel
theorem d_M_findWay_119 : decode prog_10_method_61_code 119 = .ok (.ishl, 1) := by decide +kernel
theorem d_M_findWay_120 : decode prog_10_method_61_code 120 = .ok (.iconst (-1), 1) := by decide +kernel
theorem d_M_findWay_121 : decode prog_10_method_61_code 121 = .ok (.ixor, 1) := by decide +kernel
theorem d_M_findWay_122 : decode prog_10_method_61_code 122 = .ok (.iand, 1) := by decide +kernel
theorem d_M_findWay_123 : decode prog_10_method_61_code 123 = .ok (.istore 4, 2) := by decide +kernel
theorem d_M_findWay_125 : decode prog_10_method_61_code 125 = .ok (.aload_n 0, 1) := by decide +kernel
theorem d_M_findWay_126 : decode prog_10_method_61_code 126 = .ok (.getfield 25, 3) := by decide +kernel
theorem d_M_findWay_129 : decode prog_10_method_61_code 129 = .ok (.iload_n 3, 1) := by decide +kernel
theorem d_M_findWay_130 : decode prog_10_method_61_code 130 = .ok (.iaload, 1) := by decide +kernel
theorem d_M_findWay_131 : decode prog_10_method_61_code 131 = .ok (.iconst 1, 1) := by decide +kernel
theorem d_M_findWay_132 : decode prog_10_method_61_code 132 = .ok (.iadd, 1) := by decide +kernel
theorem d_M_findWay_133 : decode prog_10_method_61_code 133 = .ok (.istore 6, 2) := by decide +kernel
theorem d_M_findWay_135 : decode prog_10_method_61_code 135 = .ok (.iload 6, 2) := by decide +kernel
theorem d_M_findWay_137 : decode prog_10_method_61_code 137 = .ok (.aload_n 0, 1) := by decide +kernel
theorem d_M_findWay_138 : decode prog_10_method_61_code 138 = .ok (.getfield 7, 3) := by decide +kernel
theorem d_M_findWay_141 : decode prog_10_method_61_code 141 = .ok (.iconst 2, 1) := by decide +kernel
theorem d_M_findWay_142 : decode prog_10_method_61_code 142 = .ok (.iaload, 1) := by decide +kernel
theorem d_M_findWay_143 : decode prog_10_method_61_code 143 = .ok (.if_icmp .ge 31, 3) := by decide +kernel
theorem d_M_findWay_146 : decode prog_10_method_61_code 146 = .ok (.iload 4, 2) := by decide +kernel
theorem d_M_findWay_148 : decode prog_10_method_61_code 148 = .ok (.iload 6, 2) := by decide +kernel
theorem d_M_findWay_150 : decode prog_10_method_61_code 150 = .ok (.ishr, 1) := by decide +kernel
theorem d_M_findWay_151 : decode prog_10_method_61_code 151 = .ok (.iconst 1, 1) := by decide +kernel
theorem d_M_findWay_152 : decode prog_10_method_61_code 152 = .ok (.iand, 1) := by decide +kernel
theorem d_M_findWay_153 : decode prog_10_method_61_code 153 = .ok (.iconst 1, 1) := by decide +kernel
theorem d_M_findWay_154 : decode prog_10_method_61_code 154 = .ok (.if_icmp .eq 14, 3) := by decide +kernel
theorem d_M_findWay_157 : decode prog_10_method_61_code 157 = .ok (.aload_n 0, 1) := by decide +kernel
theorem d_M_findWay_158 : decode prog_10_method_61_code 158 = .ok (.iload 5, 2) := by decide +kernel
theorem d_M_findWay_160 : decode prog_10_method_61_code 160 = .ok (.iload 6, 2) := by decide +kernel
theorem d_M_findWay_162 : decode prog_10_method_61_code 162 = .ok (.invokevirtual 190, 3) := by decide +kernel
theorem d_M_findWay_165 : decode prog_10_method_61_code 165 = .ok (.ifCond .ne 9, 3) := by decide +kernel
theorem d_M_findWay_168 : decode prog_10_method_61_code 168 = .ok (.iinc 6 1, 3) := by decide +kernel
theorem d_M_findWay_171 : decode prog_10_method_61_code 171 = .ok (.goto (-36), 3) := by decide +kernel
theorem d_M_findWay_174 : decode prog_10_method_61_code 174 = .ok (.aload_n 0, 1) := by decide +kernel
theorem d_M_findWay_175 : decode prog_10_method_61_code 175 = .ok (.getfield 25, 3) := by decide +kernel
theorem d_M_findWay_178 : decode prog_10_method_61_code 178 = .ok (.iload_n 3, 1) := by decide +kernel
theorem d_M_findWay_179 : decode prog_10_method_61_code 179 = .ok (.iload 6, 2) := by decide +kernel
theorem d_M_findWay_181 : decode prog_10_method_61_code 181 = .ok (.aload_n 0, 1) := by decide +kernel
theorem d_M_findWay_182 : decode prog_10_method_61_code 182 = .ok (.getfield 7, 3) := by decide +kernel
theorem d_M_findWay_185 : decode prog_10_method_61_code 185 = .ok (.iconst 2, 1) := by decide +kernel
theorem d_M_findWay_186 : decode prog_10_method_61_code 186 = .ok (.iaload, 1) := by decide +kernel
theorem d_M_findWay_187 : decode prog_10_method_61_code 187 = .ok (.if_icmp .ge 8, 3) := by decide +kernel
theorem d_M_findWay_190 : decode prog_10_method_61_code 190 = .ok (.iload 6, 2) := by decide +kernel
theorem d_M_findWay_192 : decode prog_10_method_61_code 192 = .ok (.goto 4, 3) := by decide +kernel
theorem d_M_findWay_195 : decode prog_10_method_61_code 195 = .ok (.iconst (-1), 1) := by decide +kernel
theorem d_M_findWay_196 : decode prog_10_method_61_code 196 = .ok (.iastore, 1) := by decide +kernel
theorem d_M_findWay_197 : decode prog_10_method_61_code 197 = .ok (.iload 6, 2) := by decide +kernel
theorem d_M_findWay_199 : decode prog_10_method_61_code 199 = .ok (.aload_n 0, 1) := by decide +kernel
theorem d_M_findWay_200 : decode prog_10_method_61_code 200 = .ok (.getfield 7, 3) := by decide +kernel
theorem d_M_findWay_203 : decode prog_10_method_61_code 203 = .ok (.iconst 2, 1) := by decide +kernel
theorem d_M_findWay_204 : decode prog_10_method_61_code 204 = .ok (.iaload, 1) := by decide +kernel
theorem d_M_findWay_205 : decode prog_10_method_61_code 205 = .ok (.if_icmp .ge 18, 3) := by decide +kernel
theorem d_M_findWay_208 : decode prog_10_method_61_code 208 = .ok (.iload 4, 2) := by decide +kernel
theorem d_M_findWay_210 : decode prog_10_method_61_code 210 = .ok (.iconst 1, 1) := by decide +kernel
theorem d_M_findWay_211 : decode prog_10_method_61_code 211 = .ok (.iload 6, 2) := by decide +kernel
theorem d_M_findWay_213 : decode prog_10_method_61_code 213 = .ok (.ishl, 1) := by decide +kernel
theorem d_M_findWay_214 : decode prog_10_method_61_code 214 = .ok (.ior, 1) := by decide +kernel
theorem d_M_findWay_215 : decode prog_10_method_61_code 215 = .ok (.istore 4, 2) := by decide +kernel
theorem d_M_findWay_217 : decode prog_10_method_61_code 217 = .ok (.iinc 3 1, 3) := by decide +kernel
theorem d_M_findWay_220 : decode prog_10_method_61_code 220 = .ok (.goto 6, 3) := by decide +kernel
theorem d_M_findWay_223 : decode prog_10_method_61_code 223 = .ok (.iinc 3 (-1), 3) := by decide +kernel
theorem d_M_findWay_226 : decode prog_10_method_61_code 226 = .ok (.goto (-180), 3) := by decide +kernel
theorem d_M_findWay_229 : decode prog_10_method_61_code 229 = .ok (.return_, 1) := by decide +kernel
def w_M_findWay_226 (K : sm_Mem → Prop) (J46 : Int32 → Int32 → sm_Mem → Prop) (p0 : Int32) (p1 : Int32) (x3 : Int32) (x4 : Int32) (μ : sm_Mem) : Prop := J46 x3 x4 μ
def w_M_findWay_84 (K : sm_Mem → Prop) (J46 : Int32 → Int32 → sm_Mem → Prop) (p0 : Int32) (p1 : Int32) (x3 : Int32) (x4 : Int32) (μ : sm_Mem) : Prop := w_M_measures (fun μ11 => w_M_findWay_226 K J46 p0 p1 (x3 + (-1)) x4 μ11) p0 p1 x3 μ
def w_M_findWay_196 (K : sm_Mem → Prop) (J46 : Int32 → Int32 → sm_Mem → Prop) (p0 : Int32) (p1 : Int32) (x3 : Int32) (x4 : Int32) (x6 : Int32) (s0 : Int32) (s1 : Int32) (μ : sm_Mem) : Prop := vp_in s1 6 ∧ ∀ μ22 : sm_Mem, μ22 = sm_st μ 67 (s1.toNatClampNeg) s0 → if (μ22 62 2) ≤ x6 then w_M_findWay_226 K J46 p0 p1 (x3 + (-1)) x4 μ22 else (∀ v24 : Int32, v24 = (x4 ||| (1 <<< (x6 &&& 31))) → w_M_findWay_226 K J46 p0 p1 (x3 + 1) v24 μ22)
def w_M_findWay_174 (K : sm_Mem → Prop) (J46 : Int32 → Int32 → sm_Mem → Prop) (p0 : Int32) (p1 : Int32) (x3 : Int32) (x4 : Int32) (x6 : Int32) (μ : sm_Mem) : Prop := if (μ 62 2) ≤ x6 then w_M_findWay_196 K J46 p0 p1 x3 x4 x6 (-1) x3 μ else w_M_findWay_196 K J46 p0 p1 x3 x4 x6 x6 x3 μ
def w_M_findWay_168 (K : sm_Mem → Prop) (J46 : Int32 → Int32 → sm_Mem → Prop) (J135 : Int32 → sm_Mem → Prop) (p0 : Int32) (p1 : Int32) (x3 : Int32) (x4 : Int32) (x5 : Int32) (x6 : Int32) (μ : sm_Mem) : Prop := J135 (x6 + 1) μ
def w_M_findWay_135 (K : sm_Mem → Prop) (J46 : Int32 → Int32 → sm_Mem → Prop) (p0 : Int32) (p1 : Int32) (x3 : Int32) (x4 : Int32) (x5 : Int32) (x6 : Int32) (μ : sm_Mem) : Prop := sm_lp1 (fun J135 x6 μ => if (μ 62 2) ≤ x6 then w_M_findWay_174 K J46 p0 p1 x3 x4 x6 μ else (if ((x4 >>> (x6 &&& 31)) &&& 1) = 1 then w_M_findWay_168 K J46 J135 p0 p1 x3 x4 x5 x6 μ else w_M_roadOf (fun r27 μ26 => if r27 = 0 then w_M_findWay_168 K J46 J135 p0 p1 x3 x4 x5 x6 μ26 else w_M_findWay_174 K J46 p0 p1 x3 x4 x6 μ26) x5 x6 μ)) x6 μ
def w_M_findWay_122 (K : sm_Mem → Prop) (J46 : Int32 → Int32 → sm_Mem → Prop) (p0 : Int32) (p1 : Int32) (x3 : Int32) (x5 : Int32) (s0 : Int32) (s1 : Int32) (μ : sm_Mem) : Prop := ∀ v16 : Int32, v16 = (s1 &&& s0) → vp_in x3 6 ∧ ∀ v18 : Int32, v18 = ((μ 67 x3.toNatClampNeg) + 1) → w_M_findWay_135 K J46 p0 p1 x3 v16 x5 v18 μ
def w_M_findWay_71 (K : sm_Mem → Prop) (J46 : Int32 → Int32 → sm_Mem → Prop) (p0 : Int32) (p1 : Int32) (x3 : Int32) (x4 : Int32) (s0 : Int32) (μ : sm_Mem) : Prop := if s0 = p1 then w_M_findWay_84 K J46 p0 p1 x3 x4 μ else (if x3 = 5 then w_M_findWay_84 K J46 p0 p1 x3 x4 μ else (vp_in x3 6 ∧ if 0 ≤ (μ 67 x3.toNatClampNeg) then (vp_in x3 6 ∧ w_M_findWay_122 K J46 p0 p1 x3 s0 ((1 <<< ((μ 67 x3.toNatClampNeg) &&& 31)) ^^^ (-1)) x4 μ) else w_M_findWay_122 K J46 p0 p1 x3 s0 (-1) x4 μ))
def w_M_findWay_46 (K : sm_Mem → Prop) (p0 : Int32) (p1 : Int32) (x3 : Int32) (x4 : Int32) (μ : sm_Mem) : Prop := sm_lp2 (fun J46 x3 x4 μ => if x3 < 0 then K μ else (if x3 = 0 then w_M_its (fun r30 μ29 => w_M_findWay_71 K J46 p0 p1 x3 x4 r30 μ29) p0 3 μ else (vp_in (x3 - 1) 6 ∧ w_M_findWay_71 K J46 p0 p1 x3 x4 (μ 67 (x3 - 1).toNatClampNeg) μ))) x3 x4 μ
def w_M_findWay_25 (K : sm_Mem → Prop) (p0 : Int32) (p1 : Int32) (x3 : Int32) (x4 : Int32) (x5 : Int32) (μ : sm_Mem) : Prop := sm_lp1 (fun J25 x5 μ => if 6 ≤ x5 then w_M_findWay_46 K p0 p1 x3 x4 μ else (vp_in x5 6 ∧ ∀ μ32 : sm_Mem, μ32 = sm_st μ 67 (x5.toNatClampNeg) (-1) → J25 (x5 + 1) μ32)) x5 μ
def w_M_findWay (K : sm_Mem → Prop) (p0 : Int32) (p1 : Int32) (μ : sm_Mem) : Prop := w_M_its (fun r2 μ1 => ∀ v3 : Int32, v3 = (1 <<< (r2 &&& 31)) → ∀ μ4 : sm_Mem, μ4 = sm_st μ1 61 17 (-1) → ∀ μ5 : sm_Mem, μ5 = sm_st μ4 61 18 p1 → w_M_findWay_25 K p0 p1 0 v3 0 μ5) p0 3 μ
set_option maxHeartbeats 4000000 in
set_option maxRecDepth 100000 in
theorem P_M_findWay (l : Launch) {K : sm_Mem → Prop} {p0 : Int32} {p1 : Int32} {μ : sm_Mem} (h : w_M_findWay K p0 p1 μ) : sm_MV l ⟨"SnowMoneyModel", "findWay", "(II)V"⟩ prog_10_method_61_code 7 { frames := 59, cells := 0, slots := 0, locals := 2243 } [sm_R 61, sm_I p0, sm_I p1] μ K := by
  refine sm_ofV (by decide +kernel) (fun _ => Nat.le_of_ble_eq_true rfl) ?_
  intro p e s m args below meth c A Q G C hR
  have B226 : ∀ (x3 : Int32) (x4 : Int32) (J46 : Int32 → Int32 → sm_Mem → Prop) (hJ46 : ∀ (x3 : Int32) (x4 : Int32) (μ : sm_Mem), J46 x3 x4 μ → sm_W p l e { frames := 59, cells := 0, slots := 0, locals := 2243 } s m args below meth c A Q G 7 0 0 46 [] [(0, sm_R 61), (1, sm_I p0), (2, sm_I p1), (3, sm_I x3), (4, sm_I x4)] μ) (μ : sm_Mem), w_M_findWay_226 K J46 p0 p1 x3 x4 μ → sm_W p l e { frames := 59, cells := 0, slots := 0, locals := 2243 } s m args below meth c A Q G 7 0 0 226 [] [(0, sm_R 61), (1, sm_I p0), (2, sm_I p1), (3, sm_I x3), (4, sm_I x4)] μ := by
    intro x3 x4 J46 hJ46 μ h
    refine sr_goto C (tgt := 46) (by decide) d_M_findWay_226 ?_
    exact hJ46 _ _ _ h
  have B84 : ∀ (x3 : Int32) (x4 : Int32) (J46 : Int32 → Int32 → sm_Mem → Prop) (hJ46 : ∀ (x3 : Int32) (x4 : Int32) (μ : sm_Mem), J46 x3 x4 μ → sm_W p l e { frames := 59, cells := 0, slots := 0, locals := 2243 } s m args below meth c A Q G 7 0 0 46 [] [(0, sm_R 61), (1, sm_I p0), (2, sm_I p1), (3, sm_I x3), (4, sm_I x4)] μ) (μ : sm_Mem), w_M_findWay_84 K J46 p0 p1 x3 x4 μ → sm_W p l e { frames := 59, cells := 0, slots := 0, locals := 2243 } s m args below meth c A Q G 7 0 0 84 [] [(0, sm_R 61), (1, sm_I p0), (2, sm_I p1), (3, sm_I x3), (4, sm_I x4)] μ := by
    intro x3 x4 J46 hJ46 μ h
    refine sr_aload_n C 0 rfl rfl d_M_findWay_84 ?_
    refine sr_iload_n C 1 rfl rfl d_M_findWay_85 ?_
    refine sr_iload_n C 2 rfl rfl d_M_findWay_86 ?_
    refine sr_iload_n C 3 rfl rfl d_M_findWay_87 ?_
    refine sr_callVV C [sm_I _, sm_I _, sm_I _] (P_M_measures l h) ok_134 sm_l61 rfl rfl rfl rfl ⟨Nat.le_of_ble_eq_true rfl, Nat.le_of_ble_eq_true rfl⟩ (Nat.le_of_ble_eq_true rfl) ⟨Nat.zero_le _, Nat.zero_le _⟩ d_M_findWay_88 (fun μ11 h => ?_)
    refine sr_iinc C 3 rfl (by decide) d_M_findWay_91 rfl ?_
    refine sr_goto C (tgt := 226) (by decide) d_M_findWay_94 ?_
    refine sr_mask C [1, 2, 3, 0, 4] rfl ?_
    exact B226 _ _ _ hJ46 _ h
  have B196 : ∀ (x3 : Int32) (x4 : Int32) (x6 : Int32) (s0 : Int32) (s1 : Int32) (J46 : Int32 → Int32 → sm_Mem → Prop) (hJ46 : ∀ (x3 : Int32) (x4 : Int32) (μ : sm_Mem), J46 x3 x4 μ → sm_W p l e { frames := 59, cells := 0, slots := 0, locals := 2243 } s m args below meth c A Q G 7 0 0 46 [] [(0, sm_R 61), (1, sm_I p0), (2, sm_I p1), (3, sm_I x3), (4, sm_I x4)] μ) (μ : sm_Mem), w_M_findWay_196 K J46 p0 p1 x3 x4 x6 s0 s1 μ → sm_W p l e { frames := 59, cells := 0, slots := 0, locals := 2243 } s m args below meth c A Q G 7 0 0 196 [sm_I s0, sm_I s1, sm_R 67] [(0, sm_R 61), (1, sm_I p0), (2, sm_I p1), (3, sm_I x3), (4, sm_I x4), (6, sm_I x6)] μ := by
    intro x3 x4 x6 s0 s1 J46 hJ46 μ h
    obtain ⟨g21, h⟩ := h
    refine sr_iast C sm_l67 g21 d_M_findWay_196 ?_
    replace h := h _ rfl
    refine sr_iload C 5 rfl d_M_findWay_197 ?_
    refine sr_aload_n C 0 rfl rfl d_M_findWay_199 ?_
    refine sr_getR C sm_F7 0 q_435 sm_l61 (r := 62) rfl (by decide) d_M_findWay_200 ?_
    refine sr_iconst C (v := 2) d_M_findWay_203 (by decide) ?_
    refine sr_ialdJ C sm_l62 (j := 2) (sm_vin (by decide)) (by decide) d_M_findWay_204 ?_
    refine sr_icmp_ge C (tgt := 223) d_M_findWay_205 (by decide) (fun c23 => ?_) (fun c23 => ?_)
    · replace h := Eq.mp (if_pos c23) h
      refine sr_iinc C 3 rfl (by decide) d_M_findWay_223 rfl ?_
      refine sr_mask C [1, 2, 3, 0, 4] rfl ?_
      exact B226 _ _ _ hJ46 _ h
    · replace h := Eq.mp (if_neg c23) h
      refine sr_iload C 4 rfl d_M_findWay_208 ?_
      refine sr_iconst C (v := 1) d_M_findWay_210 (by decide) ?_
      refine sr_iload C 5 rfl d_M_findWay_211 ?_
      refine sr_ishl C d_M_findWay_213 ?_
      refine sr_ior C d_M_findWay_214 ?_
      replace h := h _ rfl
      refine sr_istore C (by decide) d_M_findWay_215 ?_
      refine sr_iinc C 4 rfl (by decide) d_M_findWay_217 rfl ?_
      refine sr_goto C (tgt := 226) (by decide) d_M_findWay_220 ?_
      refine sr_mask C [2, 3, 4, 0, 1] rfl ?_
      exact B226 _ _ _ hJ46 _ h
  have B174 : ∀ (x3 : Int32) (x4 : Int32) (x6 : Int32) (J46 : Int32 → Int32 → sm_Mem → Prop) (hJ46 : ∀ (x3 : Int32) (x4 : Int32) (μ : sm_Mem), J46 x3 x4 μ → sm_W p l e { frames := 59, cells := 0, slots := 0, locals := 2243 } s m args below meth c A Q G 7 0 0 46 [] [(0, sm_R 61), (1, sm_I p0), (2, sm_I p1), (3, sm_I x3), (4, sm_I x4)] μ) (μ : sm_Mem), w_M_findWay_174 K J46 p0 p1 x3 x4 x6 μ → sm_W p l e { frames := 59, cells := 0, slots := 0, locals := 2243 } s m args below meth c A Q G 7 0 0 174 [] [(0, sm_R 61), (1, sm_I p0), (2, sm_I p1), (3, sm_I x3), (4, sm_I x4), (6, sm_I x6)] μ := by
    intro x3 x4 x6 J46 hJ46 μ h
    refine sr_aload_n C 0 rfl rfl d_M_findWay_174 ?_
    refine sr_getR C sm_F7 16 q_601 sm_l61 (r := 67) rfl (by decide) d_M_findWay_175 ?_
    refine sr_iload_n C 3 rfl rfl d_M_findWay_178 ?_
    refine sr_iload C 5 rfl d_M_findWay_179 ?_
    refine sr_aload_n C 0 rfl rfl d_M_findWay_181 ?_
    refine sr_getR C sm_F7 0 q_435 sm_l61 (r := 62) rfl (by decide) d_M_findWay_182 ?_
    refine sr_iconst C (v := 2) d_M_findWay_185 (by decide) ?_
    refine sr_ialdJ C sm_l62 (j := 2) (sm_vin (by decide)) (by decide) d_M_findWay_186 ?_
    refine sr_icmp_ge C (tgt := 195) d_M_findWay_187 (by decide) (fun c20 => ?_) (fun c20 => ?_)
    · replace h := Eq.mp (if_pos c20) h
      refine sr_iconst C (v := (-1)) d_M_findWay_195 (by decide) ?_
      exact B196 _ _ _ _ _ _ hJ46 _ h
    · replace h := Eq.mp (if_neg c20) h
      refine sr_iload C 5 rfl d_M_findWay_190 ?_
      refine sr_goto C (tgt := 196) (by decide) d_M_findWay_192 ?_
      exact B196 _ _ _ _ _ _ hJ46 _ h
  have B168 : ∀ (x3 : Int32) (x4 : Int32) (x5 : Int32) (x6 : Int32) (J46 : Int32 → Int32 → sm_Mem → Prop) (hJ46 : ∀ (x3 : Int32) (x4 : Int32) (μ : sm_Mem), J46 x3 x4 μ → sm_W p l e { frames := 59, cells := 0, slots := 0, locals := 2243 } s m args below meth c A Q G 7 0 0 46 [] [(0, sm_R 61), (1, sm_I p0), (2, sm_I p1), (3, sm_I x3), (4, sm_I x4)] μ) (J135 : Int32 → sm_Mem → Prop) (hJ135 : ∀ (x6 : Int32) (μ : sm_Mem), J135 x6 μ → sm_W p l e { frames := 59, cells := 0, slots := 0, locals := 2243 } s m args below meth c A Q G 7 0 0 135 [] [(0, sm_R 61), (1, sm_I p0), (2, sm_I p1), (3, sm_I x3), (4, sm_I x4), (5, sm_I x5), (6, sm_I x6)] μ) (μ : sm_Mem), w_M_findWay_168 K J46 J135 p0 p1 x3 x4 x5 x6 μ → sm_W p l e { frames := 59, cells := 0, slots := 0, locals := 2243 } s m args below meth c A Q G 7 0 0 168 [] [(0, sm_R 61), (1, sm_I p0), (2, sm_I p1), (3, sm_I x3), (4, sm_I x4), (5, sm_I x5), (6, sm_I x6)] μ := by
    intro x3 x4 x5 x6 J46 hJ46 J135 hJ135 μ h
    refine sr_iinc C 6 rfl (by decide) d_M_findWay_168 rfl ?_
    refine sr_goto C (tgt := 135) (by decide) d_M_findWay_171 ?_
    refine sr_mask C [1, 2, 3, 4, 5, 6, 0] rfl ?_
    exact hJ135 _ _ h
  have B135 : ∀ (x3 : Int32) (x4 : Int32) (x5 : Int32) (x6 : Int32) (J46 : Int32 → Int32 → sm_Mem → Prop) (hJ46 : ∀ (x3 : Int32) (x4 : Int32) (μ : sm_Mem), J46 x3 x4 μ → sm_W p l e { frames := 59, cells := 0, slots := 0, locals := 2243 } s m args below meth c A Q G 7 0 0 46 [] [(0, sm_R 61), (1, sm_I p0), (2, sm_I p1), (3, sm_I x3), (4, sm_I x4)] μ) (μ : sm_Mem), w_M_findWay_135 K J46 p0 p1 x3 x4 x5 x6 μ → sm_W p l e { frames := 59, cells := 0, slots := 0, locals := 2243 } s m args below meth c A Q G 7 0 0 135 [] [(0, sm_R 61), (1, sm_I p0), (2, sm_I p1), (3, sm_I x3), (4, sm_I x4), (5, sm_I x5), (6, sm_I x6)] μ := by
    intro x3 x4 x5 x6 J46 hJ46 μ h
    refine sm_lp1_sound (P := fun x6 μ => sm_W p l e { frames := 59, cells := 0, slots := 0, locals := 2243 } s m args below meth c A Q G 7 0 0 135 [] [(0, sm_R 61), (1, sm_I p0), (2, sm_I p1), (3, sm_I x3), (4, sm_I x4), (5, sm_I x5), (6, sm_I x6)] μ) (fun J135 x6 μ hJ135 h => ?_) h
    refine sr_iload C 6 rfl d_M_findWay_135 ?_
    refine sr_aload_n C 0 rfl rfl d_M_findWay_137 ?_
    refine sr_getR C sm_F7 0 q_435 sm_l61 (r := 62) rfl (by decide) d_M_findWay_138 ?_
    refine sr_iconst C (v := 2) d_M_findWay_141 (by decide) ?_
    refine sr_ialdJ C sm_l62 (j := 2) (sm_vin (by decide)) (by decide) d_M_findWay_142 ?_
    refine sr_icmp_ge C (tgt := 174) d_M_findWay_143 (by decide) (fun c19 => ?_) (fun c19 => ?_)
    · replace h := Eq.mp (if_pos c19) h
      refine sr_mask C [0, 1, 2, 3, 4, 6] rfl ?_
      exact B174 _ _ _ _ hJ46 _ h
    · replace h := Eq.mp (if_neg c19) h
      refine sr_iload C 4 rfl d_M_findWay_146 ?_
      refine sr_iload C 6 rfl d_M_findWay_148 ?_
      refine sr_ishr C d_M_findWay_150 ?_
      refine sr_iconst C (v := 1) d_M_findWay_151 (by decide) ?_
      refine sr_iand C d_M_findWay_152 ?_
      refine sr_iconst C (v := 1) d_M_findWay_153 (by decide) ?_
      refine sr_icmp_eq C (tgt := 168) d_M_findWay_154 (by decide) (fun c25 => ?_) (fun c25 => ?_)
      · replace h := Eq.mp (if_pos c25) h
        exact B168 _ _ _ _ _ hJ46 _ hJ135 _ h
      · replace h := Eq.mp (if_neg c25) h
        refine sr_aload_n C 0 rfl rfl d_M_findWay_157 ?_
        refine sr_iload C 5 rfl d_M_findWay_158 ?_
        refine sr_iload C 6 rfl d_M_findWay_160 ?_
        refine sr_callVI C [sm_I _, sm_I _] (P_M_roadOf l h) ok_129 sm_l61 rfl rfl rfl rfl ⟨Nat.le_of_ble_eq_true rfl, Nat.le_of_ble_eq_true rfl⟩ (Nat.le_of_ble_eq_true rfl) ⟨Nat.zero_le _, Nat.zero_le _⟩ d_M_findWay_162 (fun r27 μ26 h => ?_)
        refine sr_if_ne C (tgt := 174) d_M_findWay_165 (by decide) (fun c28 => ?_) (fun c28 => ?_)
        · replace h := Eq.mp (if_neg c28) h
          refine sr_mask C [0, 1, 2, 3, 4, 6] rfl ?_
          exact B174 _ _ _ _ hJ46 _ h
        · replace h := Eq.mp (if_pos c28) h
          exact B168 _ _ _ _ _ hJ46 _ hJ135 _ h
  have B122 : ∀ (x3 : Int32) (x5 : Int32) (s0 : Int32) (s1 : Int32) (J46 : Int32 → Int32 → sm_Mem → Prop) (hJ46 : ∀ (x3 : Int32) (x4 : Int32) (μ : sm_Mem), J46 x3 x4 μ → sm_W p l e { frames := 59, cells := 0, slots := 0, locals := 2243 } s m args below meth c A Q G 7 0 0 46 [] [(0, sm_R 61), (1, sm_I p0), (2, sm_I p1), (3, sm_I x3), (4, sm_I x4)] μ) (μ : sm_Mem), w_M_findWay_122 K J46 p0 p1 x3 x5 s0 s1 μ → sm_W p l e { frames := 59, cells := 0, slots := 0, locals := 2243 } s m args below meth c A Q G 7 0 0 122 [sm_I s0, sm_I s1] [(0, sm_R 61), (1, sm_I p0), (2, sm_I p1), (3, sm_I x3), (5, sm_I x5)] μ := by
    intro x3 x5 s0 s1 J46 hJ46 μ h
    refine sr_iand C d_M_findWay_122 ?_
    replace h := h _ rfl
    refine sr_istore C (by decide) d_M_findWay_123 ?_
    refine sr_aload_n C 1 rfl rfl d_M_findWay_125 ?_
    refine sr_getR C sm_F7 16 q_601 sm_l61 (r := 67) rfl (by decide) d_M_findWay_126 ?_
    refine sr_iload_n C 4 rfl rfl d_M_findWay_129 ?_
    obtain ⟨g17, h⟩ := h
    refine sr_iald C sm_l67 g17 d_M_findWay_130 ?_
    refine sr_iconst C (v := 1) d_M_findWay_131 (by decide) ?_
    refine sr_iadd C d_M_findWay_132 ?_
    replace h := h _ rfl
    refine sr_istore C (by decide) d_M_findWay_133 ?_
    refine sr_mask C [2, 3, 4, 5, 1, 6, 0] rfl ?_
    exact B135 _ _ _ _ _ hJ46 _ h
  have B71 : ∀ (x3 : Int32) (x4 : Int32) (s0 : Int32) (J46 : Int32 → Int32 → sm_Mem → Prop) (hJ46 : ∀ (x3 : Int32) (x4 : Int32) (μ : sm_Mem), J46 x3 x4 μ → sm_W p l e { frames := 59, cells := 0, slots := 0, locals := 2243 } s m args below meth c A Q G 7 0 0 46 [] [(0, sm_R 61), (1, sm_I p0), (2, sm_I p1), (3, sm_I x3), (4, sm_I x4)] μ) (μ : sm_Mem), w_M_findWay_71 K J46 p0 p1 x3 x4 s0 μ → sm_W p l e { frames := 59, cells := 0, slots := 0, locals := 2243 } s m args below meth c A Q G 7 0 0 71 [sm_I s0] [(0, sm_R 61), (1, sm_I p0), (2, sm_I p1), (3, sm_I x3), (4, sm_I x4)] μ := by
    intro x3 x4 s0 J46 hJ46 μ h
    refine sr_istore C (by decide) d_M_findWay_71 ?_
    refine sr_iload C 0 rfl d_M_findWay_73 ?_
    refine sr_iload_n C 3 rfl rfl d_M_findWay_75 ?_
    refine sr_icmp_eq C (tgt := 84) d_M_findWay_76 (by decide) (fun c10 => ?_) (fun c10 => ?_)
    · replace h := Eq.mp (if_pos c10) h
      refine sr_mask C [1, 2, 3, 4, 5] rfl ?_
      exact B84 _ _ _ hJ46 _ h
    · replace h := Eq.mp (if_neg c10) h
      refine sr_iload_n C 4 rfl rfl d_M_findWay_79 ?_
      refine sr_iconst C (v := 5) d_M_findWay_80 (by decide) ?_
      refine sr_icmp_ne C (tgt := 97) d_M_findWay_81 (by decide) (fun c12 => ?_) (fun c12 => ?_)
      · replace h := Eq.mp (if_neg c12) h
        refine sr_iload C 5 rfl d_M_findWay_97 ?_
        refine sr_aload_n C 1 rfl rfl d_M_findWay_99 ?_
        refine sr_getR C sm_F7 16 q_601 sm_l61 (r := 67) rfl (by decide) d_M_findWay_100 ?_
        refine sr_iload_n C 4 rfl rfl d_M_findWay_103 ?_
        obtain ⟨g13, h⟩ := h
        refine sr_iald C sm_l67 g13 d_M_findWay_104 ?_
        refine sr_if_ge C (tgt := 112) d_M_findWay_105 (by decide) (fun c14 => ?_) (fun c14 => ?_)
        · replace h := Eq.mp (if_pos c14) h
          refine sr_iconst C (v := 1) d_M_findWay_112 (by decide) ?_
          refine sr_aload_n C 1 rfl rfl d_M_findWay_113 ?_
          refine sr_getR C sm_F7 16 q_601 sm_l61 (r := 67) rfl (by decide) d_M_findWay_114 ?_
          refine sr_iload_n C 4 rfl rfl d_M_findWay_117 ?_
          obtain ⟨g15, h⟩ := h
          refine sr_iald C sm_l67 g15 d_M_findWay_118 ?_
          refine sr_ishl C d_M_findWay_119 ?_
          refine sr_iconst C (v := (-1)) d_M_findWay_120 (by decide) ?_
          refine sr_ixor C d_M_findWay_121 ?_
          refine sr_mask C [1, 2, 3, 4, 0] rfl ?_
          exact B122 _ _ _ _ _ hJ46 _ h
        · replace h := Eq.mp (if_neg c14) h
          refine sr_iconst C (v := (-1)) d_M_findWay_108 (by decide) ?_
          refine sr_goto C (tgt := 122) (by decide) d_M_findWay_109 ?_
          refine sr_mask C [1, 2, 3, 4, 0] rfl ?_
          exact B122 _ _ _ _ _ hJ46 _ h
      · replace h := Eq.mp (if_pos c12) h
        refine sr_mask C [1, 2, 3, 4, 5] rfl ?_
        exact B84 _ _ _ hJ46 _ h
  have B46 : ∀ (x3 : Int32) (x4 : Int32) (μ : sm_Mem), w_M_findWay_46 K p0 p1 x3 x4 μ → sm_W p l e { frames := 59, cells := 0, slots := 0, locals := 2243 } s m args below meth c A Q G 7 0 0 46 [] [(0, sm_R 61), (1, sm_I p0), (2, sm_I p1), (3, sm_I x3), (4, sm_I x4)] μ := by
    intro x3 x4 μ h
    refine sm_lp2_sound (P := fun x3 x4 μ => sm_W p l e { frames := 59, cells := 0, slots := 0, locals := 2243 } s m args below meth c A Q G 7 0 0 46 [] [(0, sm_R 61), (1, sm_I p0), (2, sm_I p1), (3, sm_I x3), (4, sm_I x4)] μ) (fun J46 x3 x4 μ hJ46 h => ?_) h
    refine sr_iload_n C 3 rfl rfl d_M_findWay_46 ?_
    refine sr_if_lt C (tgt := 229) d_M_findWay_47 (by decide) (fun c7 => ?_) (fun c7 => ?_)
    · replace h := Eq.mp (if_pos c7) h
      exact hR _ _ _ d_M_findWay_229 h
    · replace h := Eq.mp (if_neg c7) h
      refine sr_iload_n C 3 rfl rfl d_M_findWay_50 ?_
      refine sr_if_ne C (tgt := 63) d_M_findWay_51 (by decide) (fun c8 => ?_) (fun c8 => ?_)
      · replace h := Eq.mp (if_neg c8) h
        refine sr_aload_n C 0 rfl rfl d_M_findWay_63 ?_
        refine sr_getR C sm_F7 16 q_601 sm_l61 (r := 67) rfl (by decide) d_M_findWay_64 ?_
        refine sr_iload_n C 3 rfl rfl d_M_findWay_67 ?_
        refine sr_iconst C (v := 1) d_M_findWay_68 (by decide) ?_
        refine sr_isub C d_M_findWay_69 ?_
        obtain ⟨g9, h⟩ := h
        refine sr_iald C sm_l67 g9 d_M_findWay_70 ?_
        exact B71 _ _ _ _ hJ46 _ h
      · replace h := Eq.mp (if_pos c8) h
        refine sr_aload_n C 0 rfl rfl d_M_findWay_54 ?_
        refine sr_iload_n C 1 rfl rfl d_M_findWay_55 ?_
        refine sr_iconst C (v := 3) d_M_findWay_56 (by decide) ?_
        refine sr_callVI C [sm_I _, sm_I _] (P_M_its l h) ok_101 sm_l61 rfl rfl rfl rfl ⟨Nat.le_of_ble_eq_true rfl, Nat.le_of_ble_eq_true rfl⟩ (Nat.le_of_ble_eq_true rfl) ⟨Nat.zero_le _, Nat.zero_le _⟩ d_M_findWay_57 (fun r30 μ29 h => ?_)
        refine sr_goto C (tgt := 71) (by decide) d_M_findWay_60 ?_
        exact B71 _ _ _ _ hJ46 _ h
  have B25 : ∀ (x3 : Int32) (x4 : Int32) (x5 : Int32) (μ : sm_Mem), w_M_findWay_25 K p0 p1 x3 x4 x5 μ → sm_W p l e { frames := 59, cells := 0, slots := 0, locals := 2243 } s m args below meth c A Q G 7 0 0 25 [] [(0, sm_R 61), (1, sm_I p0), (2, sm_I p1), (3, sm_I x3), (4, sm_I x4), (5, sm_I x5)] μ := by
    intro x3 x4 x5 μ h
    refine sm_lp1_sound (P := fun x5 μ => sm_W p l e { frames := 59, cells := 0, slots := 0, locals := 2243 } s m args below meth c A Q G 7 0 0 25 [] [(0, sm_R 61), (1, sm_I p0), (2, sm_I p1), (3, sm_I x3), (4, sm_I x4), (5, sm_I x5)] μ) (fun J25 x5 μ hJ25 h => ?_) h
    refine sr_iload C 5 rfl d_M_findWay_25 ?_
    refine sr_bipush C (v := 6) d_M_findWay_27 (by decide) ?_
    refine sr_icmp_ge C (tgt := 46) d_M_findWay_29 (by decide) (fun c6 => ?_) (fun c6 => ?_)
    · replace h := Eq.mp (if_pos c6) h
      refine sr_mask C [0, 1, 2, 3, 4] rfl ?_
      exact B46 _ _ _ h
    · replace h := Eq.mp (if_neg c6) h
      refine sr_aload_n C 0 rfl rfl d_M_findWay_32 ?_
      refine sr_getR C sm_F7 16 q_601 sm_l61 (r := 67) rfl (by decide) d_M_findWay_33 ?_
      refine sr_iload C 5 rfl d_M_findWay_36 ?_
      refine sr_iconst C (v := (-1)) d_M_findWay_38 (by decide) ?_
      obtain ⟨g31, h⟩ := h
      refine sr_iast C sm_l67 g31 d_M_findWay_39 ?_
      replace h := h _ rfl
      refine sr_iinc C 5 rfl (by decide) d_M_findWay_40 rfl ?_
      refine sr_goto C (tgt := 25) (by decide) d_M_findWay_43 ?_
      refine sr_mask C [1, 2, 3, 4, 5, 0] rfl ?_
      exact hJ25 _ _ h
  refine sr_iconst C (v := 0) d_M_findWay_0 (by decide) ?_
  refine sr_istore_n C rfl (by decide) d_M_findWay_1 ?_
  refine sr_iconst C (v := 1) d_M_findWay_2 (by decide) ?_
  refine sr_aload_n C 1 rfl rfl d_M_findWay_3 ?_
  refine sr_iload_n C 2 rfl rfl d_M_findWay_4 ?_
  refine sr_iconst C (v := 3) d_M_findWay_5 (by decide) ?_
  refine sr_callVI C [sm_I _, sm_I _] (P_M_its l h) ok_101 sm_l61 rfl rfl rfl rfl ⟨Nat.le_of_ble_eq_true rfl, Nat.le_of_ble_eq_true rfl⟩ (Nat.le_of_ble_eq_true rfl) ⟨Nat.zero_le _, Nat.zero_le _⟩ d_M_findWay_6 (fun r2 μ1 h => ?_)
  refine sr_ishl C d_M_findWay_9 ?_
  replace h := h _ rfl
  refine sr_istore C (by decide) d_M_findWay_10 ?_
  refine sr_aload_n C 2 rfl rfl d_M_findWay_12 ?_
  refine sr_iconst C (v := (-1)) d_M_findWay_13 (by decide) ?_
  refine sr_putI C sm_F7 17 q_599 sm_l61 rfl rfl (by decide) rfl d_M_findWay_14 ?_
  replace h := h _ rfl
  refine sr_aload_n C 2 rfl rfl d_M_findWay_17 ?_
  refine sr_iload_n C 4 rfl rfl d_M_findWay_18 ?_
  refine sr_putI C sm_F7 18 q_600 sm_l61 rfl rfl (by decide) rfl d_M_findWay_19 ?_
  replace h := h _ rfl
  refine sr_iconst C (v := 0) d_M_findWay_22 (by decide) ?_
  refine sr_istore C (by decide) d_M_findWay_23 ?_
  refine sr_mask C [3, 4, 5, 2, 1, 0] rfl ?_
  exact B25 _ _ _ _ h
theorem d_M_way_0 : decode prog_10_method_63_code 0 = .ok (.aload_n 0, 1) := by decide +kernel
theorem d_M_way_1 : decode prog_10_method_63_code 1 = .ok (.iload_n 1, 1) := by decide +kernel
theorem d_M_way_2 : decode prog_10_method_63_code 2 = .ok (.invokevirtual 75, 3) := by decide +kernel
theorem d_M_way_5 : decode prog_10_method_63_code 5 = .ok (.ifCond .eq 20, 3) := by decide +kernel
theorem d_M_way_8 : decode prog_10_method_63_code 8 = .ok (.aload_n 0, 1) := by decide +kernel
theorem d_M_way_9 : decode prog_10_method_63_code 9 = .ok (.iload_n 2, 1) := by decide +kernel
theorem d_M_way_10 : decode prog_10_method_63_code 10 = .ok (.invokevirtual 54, 3) := by decide +kernel
theorem d_M_way_13 : decode prog_10_method_63_code 13 = .ok (.ifCond .eq 12, 3) := by decide +kernel
theorem d_M_way_16 : decode prog_10_method_63_code 16 = .ok (.iload_n 3, 1) := by decide +kernel
theorem d_M_way_17 : decode prog_10_method_63_code 17 = .ok (.iconst 0, 1) := by decide +kernel
theorem d_M_way_18 : decode prog_10_method_63_code 18 = .ok (.iconst 1, 1) := by decide +kernel
theorem d_M_way_19 : decode prog_10_method_63_code 19 = .ok (.invokestatic 44, 3) := by decide +kernel
theorem d_M_way_22 : decode prog_10_method_63_code 22 = .ok (.ifCond .ne 10, 3) := by decide +kernel
theorem d_M_way_25 : decode prog_10_method_63_code 25 = .ok (.aload_n 0, 1) := by decide +kernel
theorem d_M_way_26 : decode prog_10_method_63_code 26 = .ok (.ldc 48, 2) := by decide +kernel
theorem d_M_way_28 : decode prog_10_method_63_code 28 = .ok (.invokevirtual 49, 3) := by decide +kernel
theorem d_M_way_31 : decode prog_10_method_63_code 31 = .ok (.ireturn, 1) := by decide +kernel
theorem d_M_way_32 : decode prog_10_method_63_code 32 = .ok (.aload_n 0, 1) := by decide +kernel
theorem d_M_way_33 : decode prog_10_method_63_code 33 = .ok (.iload_n 1, 1) := by decide +kernel
theorem d_M_way_34 : decode prog_10_method_63_code 34 = .ok (.iload_n 2, 1) := by decide +kernel
theorem d_M_way_35 : decode prog_10_method_63_code 35 = .ok (.invokevirtual 212, 3) := by decide +kernel
theorem d_M_way_38 : decode prog_10_method_63_code 38 = .ok (.aload_n 0, 1) := by decide +kernel
theorem d_M_way_39 : decode prog_10_method_63_code 39 = .ok (.getfield 203, 3) := by decide +kernel
theorem d_M_way_42 : decode prog_10_method_63_code 42 = .ok (.ifCond .ge 10, 3) := by decide +kernel
theorem d_M_way_45 : decode prog_10_method_63_code 45 = .ok (.aload_n 0, 1) := by decide +kernel
theorem d_M_way_46 : decode prog_10_method_63_code 46 = .ok (.ldc 196, 2) := by decide +kernel
theorem d_M_way_48 : decode prog_10_method_63_code 48 = .ok (.invokevirtual 49, 3) := by decide +kernel
theorem d_M_way_51 : decode prog_10_method_63_code 51 = .ok (.ireturn, 1) := by decide +kernel
theorem d_M_way_52 : decode prog_10_method_63_code 52 = .ok (.iload_n 3, 1) := by decide +kernel
theorem d_M_way_53 : decode prog_10_method_63_code 53 = .ok (.ifCond .ne 10, 3) := by decide +kernel
theorem d_M_way_56 : decode prog_10_method_63_code 56 = .ok (.aload_n 0, 1) := by decide +kernel
theorem d_M_way_57 : decode prog_10_method_63_code 57 = .ok (.getfield 203, 3) := by decide +kernel
theorem d_M_way_60 : decode prog_10_method_63_code 60 = .ok (.goto 7, 3) := by decide +kernel
theorem d_M_way_63 : decode prog_10_method_63_code 63 = .ok (.aload_n 0, 1) := by decide +kernel
theorem d_M_way_64 : decode prog_10_method_63_code 64 = .ok (.getfield 206, 3) := by decide +kernel
theorem d_M_way_67 : decode prog_10_method_63_code 67 = .ok (.ireturn, 1) := by decide +kernel
def w_M_way_25 (K : Int32 → sm_Mem → Prop) (p0 : Int32) (p1 : Int32) (p2 : Int32) (μ : sm_Mem) : Prop := w_M_errs (fun r5 μ4 => K r5 μ4) (-1000000001) μ
def w_M_way (K : Int32 → sm_Mem → Prop) (p0 : Int32) (p1 : Int32) (p2 : Int32) (μ : sm_Mem) : Prop := w_M_isNote (fun r2 μ1 => if r2 = 0 then w_M_way_25 K p0 p1 p2 μ1 else w_M_isPlace (fun r7 μ6 => if r7 = 0 then w_M_way_25 K p0 p1 p2 μ6 else w_M_in (fun r10 μ9 => if r10 = 0 then w_M_way_25 K p0 p1 p2 μ9 else w_M_findWay (fun μ12 => if 0 ≤ (μ12 61 17) then (if p2 = 0 then K (μ12 61 17) μ12 else K (μ12 61 18) μ12) else w_M_errs (fun r16 μ15 => K r16 μ15) (-1000000002) μ12) p0 p1 μ9) p2 0 1 μ6) p1 μ1) p0 μ
set_option maxHeartbeats 4000000 in
set_option maxRecDepth 100000 in
theorem P_M_way (l : Launch) {K : Int32 → sm_Mem → Prop} {p0 : Int32} {p1 : Int32} {p2 : Int32} {μ : sm_Mem} (h : w_M_way K p0 p1 p2 μ) : sm_MI l ⟨"SnowMoneyModel", "way", "(III)I"⟩ prog_10_method_63_code 4 (some .int) { frames := 60, cells := 0, slots := 0, locals := 2269 } [sm_R 61, sm_I p0, sm_I p1, sm_I p2] μ K := by
  refine sm_ofI (by decide +kernel) (fun _ => Nat.le_of_ble_eq_true rfl) ?_
  intro p e s m args below meth c A Q G C hR
  have B25 : ∀ (μ : sm_Mem), w_M_way_25 K p0 p1 p2 μ → sm_W p l e { frames := 60, cells := 0, slots := 0, locals := 2269 } s m args below meth c A Q G 4 0 0 25 [] [(0, sm_R 61)] μ := by
    intro μ h
    refine sr_aload_n C 0 rfl rfl d_M_way_25 ?_
    refine sr_ldc C q_441 d_M_way_26 ?_
    refine sr_callVI C [sm_I _] (P_M_errs l h) ok_97 sm_l61 rfl rfl rfl rfl ⟨Nat.le_of_ble_eq_true rfl, Nat.le_of_ble_eq_true rfl⟩ (Nat.le_of_ble_eq_true rfl) ⟨Nat.zero_le _, Nat.zero_le _⟩ d_M_way_28 (fun r5 μ4 h => ?_)
    exact hR _ _ _ _ d_M_way_31 rfl h
  refine sr_aload_n C 0 rfl rfl d_M_way_0 ?_
  refine sr_iload_n C 1 rfl rfl d_M_way_1 ?_
  refine sr_callVI C [sm_I _] (P_M_isNote l h) ok_104 sm_l61 rfl rfl rfl rfl ⟨Nat.le_of_ble_eq_true rfl, Nat.le_of_ble_eq_true rfl⟩ (Nat.le_of_ble_eq_true rfl) ⟨Nat.zero_le _, Nat.zero_le _⟩ d_M_way_2 (fun r2 μ1 h => ?_)
  refine sr_if_eq C (tgt := 25) d_M_way_5 (by decide) (fun c3 => ?_) (fun c3 => ?_)
  · replace h := Eq.mp (if_pos c3) h
    refine sr_mask C [0] rfl ?_
    exact B25 _ h
  · replace h := Eq.mp (if_neg c3) h
    refine sr_aload_n C 0 rfl rfl d_M_way_8 ?_
    refine sr_iload_n C 2 rfl rfl d_M_way_9 ?_
    refine sr_callVI C [sm_I _] (P_M_isPlace l h) ok_98 sm_l61 rfl rfl rfl rfl ⟨Nat.le_of_ble_eq_true rfl, Nat.le_of_ble_eq_true rfl⟩ (Nat.le_of_ble_eq_true rfl) ⟨Nat.zero_le _, Nat.zero_le _⟩ d_M_way_10 (fun r7 μ6 h => ?_)
    refine sr_if_eq C (tgt := 25) d_M_way_13 (by decide) (fun c8 => ?_) (fun c8 => ?_)
    · replace h := Eq.mp (if_pos c8) h
      refine sr_mask C [0] rfl ?_
      exact B25 _ h
    · replace h := Eq.mp (if_neg c8) h
      refine sr_iload_n C 3 rfl rfl d_M_way_16 ?_
      refine sr_iconst C (v := 0) d_M_way_17 (by decide) ?_
      refine sr_iconst C (v := 1) d_M_way_18 (by decide) ?_
      refine sr_callSI C [sm_I _, sm_I _, sm_I _] (P_M_in l h) ok_96 rfl rfl rfl ⟨Nat.le_of_ble_eq_true rfl, Nat.le_of_ble_eq_true rfl⟩ (Nat.le_of_ble_eq_true rfl) ⟨Nat.zero_le _, Nat.zero_le _⟩ d_M_way_19 (fun r10 μ9 h => ?_)
      refine sr_if_ne C (tgt := 32) d_M_way_22 (by decide) (fun c11 => ?_) (fun c11 => ?_)
      · replace h := Eq.mp (if_neg c11) h
        refine sr_aload_n C 0 rfl rfl d_M_way_32 ?_
        refine sr_iload_n C 1 rfl rfl d_M_way_33 ?_
        refine sr_iload_n C 2 rfl rfl d_M_way_34 ?_
        refine sr_callVV C [sm_I _, sm_I _] (P_M_findWay l h) ok_133 sm_l61 rfl rfl rfl rfl ⟨Nat.le_of_ble_eq_true rfl, Nat.le_of_ble_eq_true rfl⟩ (Nat.le_of_ble_eq_true rfl) ⟨Nat.zero_le _, Nat.zero_le _⟩ d_M_way_35 (fun μ12 h => ?_)
        refine sr_aload_n C 0 rfl rfl d_M_way_38 ?_
        refine sr_getI C sm_F7 17 q_599 sm_l61 rfl (by decide) d_M_way_39 ?_
        refine sr_if_ge C (tgt := 52) d_M_way_42 (by decide) (fun c13 => ?_) (fun c13 => ?_)
        · replace h := Eq.mp (if_pos c13) h
          refine sr_iload_n C 3 rfl rfl d_M_way_52 ?_
          refine sr_if_ne C (tgt := 63) d_M_way_53 (by decide) (fun c14 => ?_) (fun c14 => ?_)
          · replace h := Eq.mp (if_neg c14) h
            refine sr_aload_n C 0 rfl rfl d_M_way_63 ?_
            refine sr_getI C sm_F7 18 q_600 sm_l61 rfl (by decide) d_M_way_64 ?_
            exact hR _ _ _ _ d_M_way_67 rfl h
          · replace h := Eq.mp (if_pos c14) h
            refine sr_aload_n C 0 rfl rfl d_M_way_56 ?_
            refine sr_getI C sm_F7 17 q_599 sm_l61 rfl (by decide) d_M_way_57 ?_
            refine sr_goto C (tgt := 67) (by decide) d_M_way_60 ?_
            exact hR _ _ _ _ d_M_way_67 rfl h
        · replace h := Eq.mp (if_neg c13) h
          refine sr_aload_n C 0 rfl rfl d_M_way_45 ?_
          refine sr_ldc C q_587 d_M_way_46 ?_
          refine sr_callVI C [sm_I _] (P_M_errs l h) ok_97 sm_l61 rfl rfl rfl rfl ⟨Nat.le_of_ble_eq_true rfl, Nat.le_of_ble_eq_true rfl⟩ (Nat.le_of_ble_eq_true rfl) ⟨Nat.zero_le _, Nat.zero_le _⟩ d_M_way_48 (fun r16 μ15 h => ?_)
          exact hR _ _ _ _ d_M_way_51 rfl h
      · replace h := Eq.mp (if_pos c11) h
        refine sr_mask C [0] rfl ?_
        exact B25 _ h
theorem d_M_hasThen_0 : decode prog_10_method_65_code 0 = .ok (.aload_n 0, 1) := by decide +kernel
theorem d_M_hasThen_1 : decode prog_10_method_65_code 1 = .ok (.aload_n 0, 1) := by decide +kernel
theorem d_M_hasThen_2 : decode prog_10_method_65_code 2 = .ok (.getfield 7, 3) := by decide +kernel
theorem d_M_hasThen_5 : decode prog_10_method_65_code 5 = .ok (.aload_n 0, 1) := by decide +kernel
theorem d_M_hasThen_6 : decode prog_10_method_65_code 6 = .ok (.getfield 16, 3) := by decide +kernel
theorem d_M_hasThen_9 : decode prog_10_method_65_code 9 = .ok (.invokevirtual 161, 3) := by decide +kernel
theorem d_M_hasThen_12 : decode prog_10_method_65_code 12 = .ok (.aload_n 0, 1) := by decide +kernel
theorem d_M_hasThen_13 : decode prog_10_method_65_code 13 = .ok (.iload_n 1, 1) := by decide +kernel
theorem d_M_hasThen_14 : decode prog_10_method_65_code 14 = .ok (.iconst 0, 1) := by decide +kernel
theorem d_M_hasThen_15 : decode prog_10_method_65_code 15 = .ok (.iload_n 2, 1) := by decide +kernel
theorem d_M_hasThen_16 : decode prog_10_method_65_code 16 = .ok (.invokevirtual 71, 3) := by decide +kernel
theorem d_M_hasThen_19 : decode prog_10_method_65_code 19 = .ok (.aload_n 0, 1) := by decide +kernel
theorem d_M_hasThen_20 : decode prog_10_method_65_code 20 = .ok (.iload_n 3, 1) := by decide +kernel
theorem d_M_hasThen_21 : decode prog_10_method_65_code 21 = .ok (.invokevirtual 179, 3) := by decide +kernel
theorem d_M_hasThen_24 : decode prog_10_method_65_code 24 = .ok (.aload_n 0, 1) := by decide +kernel
theorem d_M_hasThen_25 : decode prog_10_method_65_code 25 = .ok (.iload_n 1, 1) := by decide +kernel
theorem d_M_hasThen_26 : decode prog_10_method_65_code 26 = .ok (.iconst 2, 1) := by decide +kernel
theorem d_M_hasThen_27 : decode prog_10_method_65_code 27 = .ok (.invokevirtual 62, 3) := by decide +kernel
theorem d_M_hasThen_30 : decode prog_10_method_65_code 30 = .ok (.iload 4, 2) := by decide +kernel
theorem d_M_hasThen_32 : decode prog_10_method_65_code 32 = .ok (.if_icmp .ne 7, 3) := by decide +kernel
theorem d_M_hasThen_35 : decode prog_10_method_65_code 35 = .ok (.iconst 1, 1) := by decide +kernel
theorem d_M_hasThen_36 : decode prog_10_method_65_code 36 = .ok (.goto 4, 3) := by decide +kernel
theorem d_M_hasThen_39 : decode prog_10_method_65_code 39 = .ok (.iconst 0, 1) := by decide +kernel
theorem d_M_hasThen_40 : decode prog_10_method_65_code 40 = .ok (.istore 5, 2) := by decide +kernel
theorem d_M_hasThen_42 : decode prog_10_method_65_code 42 = .ok (.aload_n 0, 1) := by decide +kernel
theorem d_M_hasThen_43 : decode prog_10_method_65_code 43 = .ok (.aload_n 0, 1) := by decide +kernel
theorem d_M_hasThen_44 : decode prog_10_method_65_code 44 = .ok (.getfield 16, 3) := by decide +kernel
theorem d_M_hasThen_47 : decode prog_10_method_65_code 47 = .ok (.aload_n 0, 1) := by decide +kernel
theorem d_M_hasThen_48 : decode prog_10_method_65_code 48 = .ok (.getfield 7, 3) := by decide +kernel
theorem d_M_hasThen_51 : decode prog_10_method_65_code 51 = .ok (.invokevirtual 161, 3) := by decide +kernel
theorem d_M_hasThen_54 : decode prog_10_method_65_code 54 = .ok (.iload 5, 2) := by decide +kernel
theorem d_M_hasThen_56 : decode prog_10_method_65_code 56 = .ok (.ireturn, 1) := by decide +kernel
def w_M_hasThen_40 (K : Int32 → sm_Mem → Prop) (p0 : Int32) (p1 : Int32) (p2 : Int32) (p3 : Int32) (s0 : Int32) (μ : sm_Mem) : Prop := w_M_moveAll (fun μ7 => (s0 = 0 ∨ s0 = 1) ∧ K s0 μ7) 64 62 μ
def w_M_hasThen (K : Int32 → sm_Mem → Prop) (p0 : Int32) (p1 : Int32) (p2 : Int32) (p3 : Int32) (μ : sm_Mem) : Prop := w_M_moveAll (fun μ1 => w_M_gets (fun μ2 => w_M_passes (fun μ3 => w_M_its (fun r5 μ4 => if r5 = p3 then w_M_hasThen_40 K p0 p1 p2 p3 1 μ4 else w_M_hasThen_40 K p0 p1 p2 p3 0 μ4) p0 2 μ3) p2 μ2) p0 0 p1 μ1) 62 64 μ
set_option maxHeartbeats 4000000 in
set_option maxRecDepth 100000 in
theorem P_M_hasThen (l : Launch) {K : Int32 → sm_Mem → Prop} {p0 : Int32} {p1 : Int32} {p2 : Int32} {p3 : Int32} {μ : sm_Mem} (h : w_M_hasThen K p0 p1 p2 p3 μ) : sm_MI l ⟨"SnowMoneyModel", "hasThen", "(IIII)Z"⟩ prog_10_method_65_code 6 (some .boolean) { frames := 61, cells := 0, slots := 0, locals := 2281 } [sm_R 61, sm_I p0, sm_I p1, sm_I p2, sm_I p3] μ K := by
  refine sm_ofI (by decide +kernel) (fun _ => Nat.le_of_ble_eq_true rfl) ?_
  intro p e s m args below meth c A Q G C hR
  have B40 : ∀ (s0 : Int32) (μ : sm_Mem), w_M_hasThen_40 K p0 p1 p2 p3 s0 μ → sm_W p l e { frames := 61, cells := 0, slots := 0, locals := 2281 } s m args below meth c A Q G 6 0 0 40 [sm_I s0] [(0, sm_R 61)] μ := by
    intro s0 μ h
    refine sr_istore C (by decide) d_M_hasThen_40 ?_
    refine sr_aload_n C 1 rfl rfl d_M_hasThen_42 ?_
    refine sr_aload_n C 1 rfl rfl d_M_hasThen_43 ?_
    refine sr_getR C sm_F7 2 q_582 sm_l61 (r := 64) rfl (by decide) d_M_hasThen_44 ?_
    refine sr_aload_n C 1 rfl rfl d_M_hasThen_47 ?_
    refine sr_getR C sm_F7 0 q_435 sm_l61 (r := 62) rfl (by decide) d_M_hasThen_48 ?_
    refine sr_callVV C [sm_R _, sm_R _] (P_M_moveAll l h) ok_123 sm_l61 rfl rfl rfl rfl ⟨Nat.le_of_ble_eq_true rfl, Nat.le_of_ble_eq_true rfl⟩ (Nat.le_of_ble_eq_true rfl) ⟨Nat.zero_le _, Nat.zero_le _⟩ d_M_hasThen_51 (fun μ7 h => ?_)
    refine sr_iload C 0 rfl d_M_hasThen_54 ?_
    obtain ⟨g8, h⟩ := h
    exact hR _ _ _ _ d_M_hasThen_56 (sm_narZ g8) h
  refine sr_aload_n C 0 rfl rfl d_M_hasThen_0 ?_
  refine sr_aload_n C 0 rfl rfl d_M_hasThen_1 ?_
  refine sr_getR C sm_F7 0 q_435 sm_l61 (r := 62) rfl (by decide) d_M_hasThen_2 ?_
  refine sr_aload_n C 0 rfl rfl d_M_hasThen_5 ?_
  refine sr_getR C sm_F7 2 q_582 sm_l61 (r := 64) rfl (by decide) d_M_hasThen_6 ?_
  refine sr_callVV C [sm_R _, sm_R _] (P_M_moveAll l h) ok_123 sm_l61 rfl rfl rfl rfl ⟨Nat.le_of_ble_eq_true rfl, Nat.le_of_ble_eq_true rfl⟩ (Nat.le_of_ble_eq_true rfl) ⟨Nat.zero_le _, Nat.zero_le _⟩ d_M_hasThen_9 (fun μ1 h => ?_)
  refine sr_aload_n C 0 rfl rfl d_M_hasThen_12 ?_
  refine sr_iload_n C 1 rfl rfl d_M_hasThen_13 ?_
  refine sr_iconst C (v := 0) d_M_hasThen_14 (by decide) ?_
  refine sr_iload_n C 2 rfl rfl d_M_hasThen_15 ?_
  refine sr_callVV C [sm_I _, sm_I _, sm_I _] (P_M_gets l h) ok_103 sm_l61 rfl rfl rfl rfl ⟨Nat.le_of_ble_eq_true rfl, Nat.le_of_ble_eq_true rfl⟩ (Nat.le_of_ble_eq_true rfl) ⟨Nat.zero_le _, Nat.zero_le _⟩ d_M_hasThen_16 (fun μ2 h => ?_)
  refine sr_aload_n C 0 rfl rfl d_M_hasThen_19 ?_
  refine sr_iload_n C 3 rfl rfl d_M_hasThen_20 ?_
  refine sr_callVV C [sm_I _] (P_M_passes l h) ok_124 sm_l61 rfl rfl rfl rfl ⟨Nat.le_of_ble_eq_true rfl, Nat.le_of_ble_eq_true rfl⟩ (Nat.le_of_ble_eq_true rfl) ⟨Nat.zero_le _, Nat.zero_le _⟩ d_M_hasThen_21 (fun μ3 h => ?_)
  refine sr_aload_n C 0 rfl rfl d_M_hasThen_24 ?_
  refine sr_iload_n C 1 rfl rfl d_M_hasThen_25 ?_
  refine sr_iconst C (v := 2) d_M_hasThen_26 (by decide) ?_
  refine sr_callVI C [sm_I _, sm_I _] (P_M_its l h) ok_101 sm_l61 rfl rfl rfl rfl ⟨Nat.le_of_ble_eq_true rfl, Nat.le_of_ble_eq_true rfl⟩ (Nat.le_of_ble_eq_true rfl) ⟨Nat.zero_le _, Nat.zero_le _⟩ d_M_hasThen_27 (fun r5 μ4 h => ?_)
  refine sr_iload C 4 rfl d_M_hasThen_30 ?_
  refine sr_icmp_ne C (tgt := 39) d_M_hasThen_32 (by decide) (fun c6 => ?_) (fun c6 => ?_)
  · replace h := Eq.mp (if_neg c6) h
    refine sr_iconst C (v := 0) d_M_hasThen_39 (by decide) ?_
    refine sr_mask C [0] rfl ?_
    exact B40 _ _ h
  · replace h := Eq.mp (if_pos c6) h
    refine sr_iconst C (v := 1) d_M_hasThen_35 (by decide) ?_
    refine sr_goto C (tgt := 40) (by decide) d_M_hasThen_36 ?_
    refine sr_mask C [0] rfl ?_
    exact B40 _ _ h
theorem d_M_isSheet_0 : decode prog_10_method_64_code 0 = .ok (.iload_n 0, 1) := by decide +kernel
theorem d_M_isSheet_1 : decode prog_10_method_64_code 1 = .ok (.iconst 0, 1) := by decide +kernel
theorem d_M_isSheet_2 : decode prog_10_method_64_code 2 = .ok (.iconst 3, 1) := by decide +kernel
theorem d_M_isSheet_3 : decode prog_10_method_64_code 3 = .ok (.invokestatic 44, 3) := by decide +kernel
theorem d_M_isSheet_6 : decode prog_10_method_64_code 6 = .ok (.ireturn, 1) := by decide +kernel
def w_M_isSheet (K : Int32 → sm_Mem → Prop) (p0 : Int32) (μ : sm_Mem) : Prop := w_M_in (fun r2 μ1 => (r2 = 0 ∨ r2 = 1) ∧ K r2 μ1) p0 0 3 μ
set_option maxHeartbeats 4000000 in
set_option maxRecDepth 100000 in
theorem P_M_isSheet (l : Launch) {K : Int32 → sm_Mem → Prop} {p0 : Int32} {μ : sm_Mem} (h : w_M_isSheet K p0 μ) : sm_MI l ⟨"SnowMoneyModel", "isSheet", "(I)Z"⟩ prog_10_method_64_code 1 (some .boolean) { frames := 1, cells := 0, slots := 0, locals := 22 } [sm_I p0] μ K := by
  refine sm_ofI (by decide +kernel) (fun _ => Nat.le_of_ble_eq_true rfl) ?_
  intro p e s m args below meth c A Q G C hR
  refine sr_iload_n C 0 rfl rfl d_M_isSheet_0 ?_
  refine sr_iconst C (v := 0) d_M_isSheet_1 (by decide) ?_
  refine sr_iconst C (v := 3) d_M_isSheet_2 (by decide) ?_
  refine sr_callSI C [sm_I _, sm_I _, sm_I _] (P_M_in l h) ok_96 rfl rfl rfl ⟨Nat.le_of_ble_eq_true rfl, Nat.le_of_ble_eq_true rfl⟩ (Nat.le_of_ble_eq_true rfl) ⟨Nat.zero_le _, Nat.zero_le _⟩ d_M_isSheet_3 (fun r2 μ1 h => ?_)
  obtain ⟨g3, h⟩ := h
  exact hR _ _ _ _ d_M_isSheet_6 (sm_narZ g3) h
theorem d_M_forgers_0 : decode prog_10_method_66_code 0 = .ok (.iload_n 1, 1) := by decide +kernel
theorem d_M_forgers_1 : decode prog_10_method_66_code 1 = .ok (.invokestatic 215, 3) := by decide +kernel
theorem d_M_forgers_4 : decode prog_10_method_66_code 4 = .ok (.ifCond .eq 12, 3) := by decide +kernel
theorem d_M_forgers_7 : decode prog_10_method_66_code 7 = .ok (.iload_n 2, 1) := by decide +kernel
theorem d_M_forgers_8 : decode prog_10_method_66_code 8 = .ok (.iconst 0, 1) := by decide +kernel
theorem d_M_forgers_9 : decode prog_10_method_66_code 9 = .ok (.iconst 1, 1) := by decide +kernel
theorem d_M_forgers_10 : decode prog_10_method_66_code 10 = .ok (.invokestatic 44, 3) := by decide +kernel
theorem d_M_forgers_13 : decode prog_10_method_66_code 13 = .ok (.ifCond .ne 10, 3) := by decide +kernel
theorem d_M_forgers_16 : decode prog_10_method_66_code 16 = .ok (.aload_n 0, 1) := by decide +kernel
theorem d_M_forgers_17 : decode prog_10_method_66_code 17 = .ok (.ldc 48, 2) := by decide +kernel
theorem d_M_forgers_19 : decode prog_10_method_66_code 19 = .ok (.invokevirtual 49, 3) := by decide +kernel
theorem d_M_forgers_22 : decode prog_10_method_66_code 22 = .ok (.ireturn, 1) := by decide +kernel
theorem d_M_forgers_23 : decode prog_10_method_66_code 23 = .ok (.aload_n 0, 1) := by decide +kernel
theorem d_M_forgers_24 : decode prog_10_method_66_code 24 = .ok (.getfield 7, 3) := by decide +kernel
theorem d_M_forgers_27 : decode prog_10_method_66_code 27 = .ok (.bipush 7, 2) := by decide +kernel
theorem d_M_forgers_29 : decode prog_10_method_66_code 29 = .ok (.iaload, 1) := by decide +kernel
theorem d_M_forgers_30 : decode prog_10_method_66_code 30 = .ok (.istore_n 3, 1) := by decide +kernel
theorem d_M_forgers_31 : decode prog_10_method_66_code 31 = .ok (.aload_n 0, 1) := by decide +kernel
theorem d_M_forgers_32 : decode prog_10_method_66_code 32 = .ok (.getfield 28, 3) := by decide +kernel
theorem d_M_forgers_35 : decode prog_10_method_66_code 35 = .ok (.iload_n 1, 1) := by decide +kernel
theorem d_M_forgers_36 : decode prog_10_method_66_code 36 = .ok (.iaload, 1) := by decide +kernel
theorem d_M_forgers_37 : decode prog_10_method_66_code 37 = .ok (.ifCond .eq 39, 3) := by decide +kernel
theorem d_M_forgers_40 : decode prog_10_method_66_code 40 = .ok (.aload_n 0, 1) := by decide +kernel
theorem d_M_forgers_41 : decode prog_10_method_66_code 41 = .ok (.getfield 31, 3) := by decide +kernel
theorem d_M_forgers_44 : decode prog_10_method_66_code 44 = .ok (.iload_n 1, 1) := by decide +kernel
theorem d_M_forgers_45 : decode prog_10_method_66_code 45 = .ok (.iaload, 1) := by decide +kernel
theorem d_M_forgers_46 : decode prog_10_method_66_code 46 = .ok (.iload_n 3, 1) := by decide +kernel
theorem d_M_forgers_47 : decode prog_10_method_66_code 47 = .ok (.iconst 1, 1) := by decide +kernel
theorem d_M_forgers_48 : decode prog_10_method_66_code 48 = .ok (.iadd, 1) := by decide +kernel
theorem d_M_forgers_49 : decode prog_10_method_66_code 49 = .ok (.if_icmp .ne 27, 3) := by decide +kernel
theorem d_M_forgers_52 : decode prog_10_method_66_code 52 = .ok (.iload_n 3, 1) := by decide +kernel
theorem d_M_forgers_53 : decode prog_10_method_66_code 53 = .ok (.ifCond .eq 23, 3) := by decide +kernel
theorem d_M_forgers_56 : decode prog_10_method_66_code 56 = .ok (.aload_n 0, 1) := by decide +kernel
theorem d_M_forgers_57 : decode prog_10_method_66_code 57 = .ok (.getfield 34, 3) := by decide +kernel
theorem d_M_forgers_60 : decode prog_10_method_66_code 60 = .ok (.bipush 40, 2) := by decide +kernel
theorem d_M_forgers_62 : decode prog_10_method_66_code 62 = .ok (.iload_n 1, 1) := by decide +kernel
theorem d_M_forgers_63 : decode prog_10_method_66_code 63 = .ok (.imul, 1) := by decide +kernel
theorem d_M_forgers_64 : decode prog_10_method_66_code 64 = .ok (.iload_n 3, 1) := by decide +kernel
theorem d_M_forgers_65 : decode prog_10_method_66_code 65 = .ok (.iadd, 1) := by decide +kernel
theorem d_M_forgers_66 : decode prog_10_method_66_code 66 = .ok (.iaload, 1) := by decide +kernel
theorem d_M_forgers_67 : decode prog_10_method_66_code 67 = .ok (.iconst 0, 1) := by decide +kernel
theorem d_M_forgers_68 : decode prog_10_method_66_code 68 = .ok (.bipush 60, 2) := by decide +kernel
theorem d_M_forgers_70 : decode prog_10_method_66_code 70 = .ok (.invokestatic 44, 3) := by decide +kernel
theorem d_M_forgers_73 : decode prog_10_method_66_code 73 = .ok (.ifCond .ne 10, 3) := by decide +kernel
theorem d_M_forgers_76 : decode prog_10_method_66_code 76 = .ok (.aload_n 0, 1) := by decide +kernel
theorem d_M_forgers_77 : decode prog_10_method_66_code 77 = .ok (.ldc 196, 2) := by decide +kernel
theorem d_M_forgers_79 : decode prog_10_method_66_code 79 = .ok (.invokevirtual 49, 3) := by decide +kernel
theorem d_M_forgers_82 : decode prog_10_method_66_code 82 = .ok (.ireturn, 1) := by decide +kernel
theorem d_M_forgers_83 : decode prog_10_method_66_code 83 = .ok (.bipush 8, 2) := by decide +kernel
theorem d_M_forgers_85 : decode prog_10_method_66_code 85 = .ok (.istore 4, 2) := by decide +kernel
theorem d_M_forgers_87 : decode prog_10_method_66_code 87 = .ok (.iconst 0, 1) := by decide +kernel
theorem d_M_forgers_88 : decode prog_10_method_66_code 88 = .ok (.istore 5, 2) := by decide +kernel
theorem d_M_forgers_90 : decode prog_10_method_66_code 90 = .ok (.iconst 0, 1) := by decide +kernel
theorem d_M_forgers_91 : decode prog_10_method_66_code 91 = .ok (.istore 6, 2) := by decide +kernel
theorem d_M_forgers_93 : decode prog_10_method_66_code 93 = .ok (.iload 6, 2) := by decide +kernel
theorem d_M_forgers_95 : decode prog_10_method_66_code 95 = .ok (.iload_n 3, 1) := by decide +kernel
theorem d_M_forgers_96 : decode prog_10_method_66_code 96 = .ok (.if_icmp .ge 122, 3) := by decide +kernel
theorem d_M_forgers_99 : decode prog_10_method_66_code 99 = .ok (.iconst 0, 1) := by decide +kernel
theorem d_M_forgers_100 : decode prog_10_method_66_code 100 = .ok (.istore 7, 2) := by decide +kernel
theorem d_M_forgers_102 : decode prog_10_method_66_code 102 = .ok (.iconst 0, 1) := by decide +kernel
theorem d_M_forgers_103 : decode prog_10_method_66_code 103 = .ok (.istore 8, 2) := by decide +kernel
theorem d_M_forgers_105 : decode prog_10_method_66_code 105 = .ok (.iload 8, 2) := by decide +kernel
theorem d_M_forgers_107 : decode prog_10_method_66_code 107 = .ok (.bipush 6, 2) := by decide +kernel
theorem d_M_forgers_109 : decode prog_10_method_66_code 109 = .ok (.if_icmp .gt 87, 3) := by decide +kernel
theorem d_M_forgers_112 : decode prog_10_method_66_code 112 = .ok (.aload_n 0, 1) := by decide +kernel
theorem d_M_forgers_113 : decode prog_10_method_66_code 113 = .ok (.iload 6, 2) := by decide +kernel
theorem d_M_forgers_115 : decode prog_10_method_66_code 115 = .ok (.iload 8, 2) := by decide +kernel
theorem d_M_forgers_117 : decode prog_10_method_66_code 117 = .ok (.aload_n 0, 1) := by decide +kernel
theorem d_M_forgers_118 : decode prog_10_method_66_code 118 = .ok (.getfield 34, 3) := by decide +kernel
theorem d_M_forgers_121 : decode prog_10_method_66_code 121 = .ok (.bipush 40, 2) := by decide +kernel
theorem d_M_forgers_123 : decode prog_10_method_66_code 123 = .ok (.iload_n 1, 1) := by decide +kernel
theorem d_M_forgers_124 : decode prog_10_method_66_code 124 = .ok (.imul, 1) := by decide +kernel
theorem d_M_forgers_125 : decode prog_10_method_66_code 125 = .ok (.iload_n 3, 1) := by decide +kernel
theorem d_M_forgers_126 : decode prog_10_method_66_code 126 = .ok (.iadd, 1) := by decide +kernel
theorem d_M_forgers_127 : decode prog_10_method_66_code 127 = .ok (.iaload, 1) := by decide +kernel
theorem d_M_forgers_128 : decode prog_10_method_66_code 128 = .ok (.aload_n 0, 1) := by decide +kernel
theorem d_M_forgers_129 : decode prog_10_method_66_code 129 = .ok (.getfield 34, 3) := by decide +kernel
theorem d_M_forgers_132 : decode prog_10_method_66_code 132 = .ok (.bipush 40, 2) := by decide +kernel
theorem d_M_forgers_134 : decode prog_10_method_66_code 134 = .ok (.iload_n 1, 1) := by decide +kernel
theorem d_M_forgers_135 : decode prog_10_method_66_code 135 = .ok (.imul, 1) := by decide +kernel
theorem d_M_forgers_136 : decode prog_10_method_66_code 136 = .ok (.iload 6, 2) := by decide +kernel
theorem d_M_forgers_138 : decode prog_10_method_66_code 138 = .ok (.iadd, 1) := by decide +kernel
theorem d_M_forgers_139 : decode prog_10_method_66_code 139 = .ok (.iaload, 1) := by decide +kernel
theorem d_M_forgers_140 : decode prog_10_method_66_code 140 = .ok (.invokevirtual 218, 3) := by decide +kernel
theorem d_M_forgers_143 : decode prog_10_method_66_code 143 = .ok (.istore 9, 2) := by decide +kernel
theorem d_M_forgers_145 : decode prog_10_method_66_code 145 = .ok (.iload 7, 2) := by decide +kernel
theorem d_M_forgers_147 : decode prog_10_method_66_code 147 = .ok (.iload 9, 2) := by decide +kernel
theorem d_M_forgers_149 : decode prog_10_method_66_code 149 = .ok (.ifCond .eq 7, 3) := by decide +kernel
theorem d_M_forgers_152 : decode prog_10_method_66_code 152 = .ok (.iconst 1, 1) := by decide +kernel
theorem d_M_forgers_153 : decode prog_10_method_66_code 153 = .ok (.goto 4, 3) := by decide +kernel
theorem d_M_forgers_156 : decode prog_10_method_66_code 156 = .ok (.iconst 0, 1) := by decide +kernel
theorem d_M_forgers_157 : decode prog_10_method_66_code 157 = .ok (.iadd, 1) := by decide +kernel
theorem d_M_forgers_158 : decode prog_10_method_66_code 158 = .ok (.istore 7, 2) := by decide +kernel
theorem d_M_forgers_160 : decode prog_10_method_66_code 160 = .ok (.iload 5, 2) := by decide +kernel
theorem d_M_forgers_162 : decode prog_10_method_66_code 162 = .ok (.iload 9, 2) := by decide +kernel
theorem d_M_forgers_164 : decode prog_10_method_66_code 164 = .ok (.ifCond .eq 22, 3) := by decide +kernel
theorem d_M_forgers_167 : decode prog_10_method_66_code 167 = .ok (.iload 8, 2) := by decide +kernel
theorem d_M_forgers_169 : decode prog_10_method_66_code 169 = .ok (.iconst 2, 1) := by decide +kernel
theorem d_M_forgers_170 : decode prog_10_method_66_code 170 = .ok (.if_icmp .eq 9, 3) := by decide +kernel
theorem d_M_forgers_173 : decode prog_10_method_66_code 173 = .ok (.iload 8, 2) := by decide +kernel
theorem d_M_forgers_175 : decode prog_10_method_66_code 175 = .ok (.iconst 5, 1) := by decide +kernel
theorem d_M_forgers_176 : decode prog_10_method_66_code 176 = .ok (.if_icmp .ne 10, 3) := by decide +kernel
theorem d_M_forgers_179 : decode prog_10_method_66_code 179 = .ok (.iconst 1, 1) := by decide +kernel
theorem d_M_forgers_180 : decode prog_10_method_66_code 180 = .ok (.iload 6, 2) := by decide +kernel
theorem d_M_forgers_182 : decode prog_10_method_66_code 182 = .ok (.ishl, 1) := by decide +kernel
theorem d_M_forgers_183 : decode prog_10_method_66_code 183 = .ok (.goto 4, 3) := by decide +kernel
theorem d_M_forgers_186 : decode prog_10_method_66_code 186 = .ok (.iconst 0, 1) := by decide +kernel
theorem d_M_forgers_187 : decode prog_10_method_66_code 187 = .ok (.ior, 1) := by decide +kernel
theorem d_M_forgers_188 : decode prog_10_method_66_code 188 = .ok (.istore 5, 2) := by decide +kernel
theorem d_M_forgers_190 : decode prog_10_method_66_code 190 = .ok (.iinc 8 1, 3) := by decide +kernel
theorem d_M_forgers_193 : decode prog_10_method_66_code 193 = .ok (.goto (-88), 3) := by decide +kernel
theorem d_M_forgers_196 : decode prog_10_method_66_code 196 = .ok (.iload 7, 2) := by decide +kernel
theorem d_M_forgers_198 : decode prog_10_method_66_code 198 = .ok (.iload 4, 2) := by decide +kernel
theorem d_M_forgers_200 : decode prog_10_method_66_code 200 = .ok (.if_icmp .ge 8, 3) := by decide +kernel
theorem d_M_forgers_203 : decode prog_10_method_66_code 203 = .ok (.iload 7, 2) := by decide +kernel
theorem d_M_forgers_205 : decode prog_10_method_66_code 205 = .ok (.goto 5, 3) := by decide +kernel
theorem d_M_forgers_208 : decode prog_10_method_66_code 208 = .ok (.iload 4, 2) := by decide +kernel
theorem d_M_forgers_210 : decode prog_10_method_66_code 210 = .ok (.istore 4, 2) := by decide +kernel
theorem d_M_forgers_212 : decode prog_10_method_66_code 212 = .ok (.iinc 6 1, 3) := by decide +kernel
theorem d_M_forgers_215 : decode prog_10_method_66_code 215 = .ok (.goto (-122), 3) := by decide +kernel
theorem d_M_forgers_218 : decode prog_10_method_66_code 218 = .ok (.iload_n 2, 1) := by decide +kernel
theorem d_M_forgers_219 : decode prog_10_method_66_code 219 = .ok (.ifCond .ne 8, 3) := by decide +kernel
theorem d_M_forgers_222 : decode prog_10_method_66_code 222 = .ok (.iload 4, 2) := by decide +kernel
theorem d_M_forgers_224 : decode prog_10_method_66_code 224 = .ok (.goto 5, 3) := by decide +kernel
theorem d_M_forgers_227 : decode prog_10_method_66_code 227 = .ok (.iload 5, 2) := by decide +kernel
theorem d_M_forgers_229 : decode prog_10_method_66_code 229 = .ok (.ireturn, 1) := by decide +kernel
def w_M_forgers_16 (K : Int32 → sm_Mem → Prop) (p0 : Int32) (p1 : Int32) (μ : sm_Mem) : Prop := w_M_errs (fun r5 μ4 => K r5 μ4) (-1000000001) μ
def w_M_forgers_76 (K : Int32 → sm_Mem → Prop) (p0 : Int32) (p1 : Int32) (μ : sm_Mem) : Prop := w_M_errs (fun r13 μ12 => K r13 μ12) (-1000000002) μ
def w_M_forgers_210 (K : Int32 → sm_Mem → Prop) (J93 : Int32 → Int32 → Int32 → sm_Mem → Prop) (p0 : Int32) (p1 : Int32) (x3 : Int32) (x5 : Int32) (x6 : Int32) (s0 : Int32) (μ : sm_Mem) : Prop := J93 s0 x5 (x6 + 1) μ
def w_M_forgers_187 (K : Int32 → sm_Mem → Prop) (J93 : Int32 → Int32 → Int32 → sm_Mem → Prop) (J105 : Int32 → Int32 → Int32 → sm_Mem → Prop) (p0 : Int32) (p1 : Int32) (x3 : Int32) (x4 : Int32) (x6 : Int32) (x7 : Int32) (x8 : Int32) (s0 : Int32) (s1 : Int32) (μ : sm_Mem) : Prop := ∀ v32 : Int32, v32 = (s1 ||| s0) → J105 v32 x7 (x8 + 1) μ
def w_M_forgers_186 (K : Int32 → sm_Mem → Prop) (J93 : Int32 → Int32 → Int32 → sm_Mem → Prop) (J105 : Int32 → Int32 → Int32 → sm_Mem → Prop) (p0 : Int32) (p1 : Int32) (x3 : Int32) (x4 : Int32) (x6 : Int32) (x7 : Int32) (x8 : Int32) (s0 : Int32) (μ : sm_Mem) : Prop := w_M_forgers_187 K J93 J105 p0 p1 x3 x4 x6 x7 x8 0 s0 μ
def w_M_forgers_179 (K : Int32 → sm_Mem → Prop) (J93 : Int32 → Int32 → Int32 → sm_Mem → Prop) (J105 : Int32 → Int32 → Int32 → sm_Mem → Prop) (p0 : Int32) (p1 : Int32) (x3 : Int32) (x4 : Int32) (x6 : Int32) (x7 : Int32) (x8 : Int32) (s0 : Int32) (μ : sm_Mem) : Prop := w_M_forgers_187 K J93 J105 p0 p1 x3 x4 x6 x7 x8 (1 <<< (x6 &&& 31)) s0 μ
def w_M_forgers_157 (K : Int32 → sm_Mem → Prop) (J93 : Int32 → Int32 → Int32 → sm_Mem → Prop) (J105 : Int32 → Int32 → Int32 → sm_Mem → Prop) (p0 : Int32) (p1 : Int32) (x3 : Int32) (x4 : Int32) (x5 : Int32) (x6 : Int32) (x8 : Int32) (x9 : Int32) (s0 : Int32) (s1 : Int32) (μ : sm_Mem) : Prop := ∀ v30 : Int32, v30 = (s1 + s0) → if x9 = 0 then w_M_forgers_186 K J93 J105 p0 p1 x3 x4 x6 v30 x8 x5 μ else (if x8 = 2 then w_M_forgers_179 K J93 J105 p0 p1 x3 x4 x6 v30 x8 x5 μ else (if x8 = 5 then w_M_forgers_179 K J93 J105 p0 p1 x3 x4 x6 v30 x8 x5 μ else w_M_forgers_186 K J93 J105 p0 p1 x3 x4 x6 v30 x8 x5 μ))
def w_M_forgers_105 (K : Int32 → sm_Mem → Prop) (J93 : Int32 → Int32 → Int32 → sm_Mem → Prop) (p0 : Int32) (p1 : Int32) (x3 : Int32) (x4 : Int32) (x5 : Int32) (x6 : Int32) (x7 : Int32) (x8 : Int32) (μ : sm_Mem) : Prop := sm_lp3 (fun J105 x5 x7 x8 μ => if 6 < x8 then (if x4 ≤ x7 then w_M_forgers_210 K J93 p0 p1 x3 x5 x6 x4 μ else w_M_forgers_210 K J93 p0 p1 x3 x5 x6 x7 μ) else (vp_in ((40 * p0) + x3) 160 ∧ vp_in ((40 * p0) + x6) 160 ∧ w_M_hasThen (fun r28 μ27 => if r28 = 0 then w_M_forgers_157 K J93 J105 p0 p1 x3 x4 x5 x6 x8 r28 0 x7 μ27 else w_M_forgers_157 K J93 J105 p0 p1 x3 x4 x5 x6 x8 r28 1 x7 μ27) x6 x8 (μ 70 ((40 * p0) + x3).toNatClampNeg) (μ 70 ((40 * p0) + x6).toNatClampNeg) μ)) x5 x7 x8 μ
def w_M_forgers_93 (K : Int32 → sm_Mem → Prop) (p0 : Int32) (p1 : Int32) (x3 : Int32) (x4 : Int32) (x5 : Int32) (x6 : Int32) (μ : sm_Mem) : Prop := sm_lp3 (fun J93 x4 x5 x6 μ => if x3 ≤ x6 then (if p1 = 0 then K x4 μ else K x5 μ) else w_M_forgers_105 K J93 p0 p1 x3 x4 x5 x6 0 0 μ) x4 x5 x6 μ
def w_M_forgers (K : Int32 → sm_Mem → Prop) (p0 : Int32) (p1 : Int32) (μ : sm_Mem) : Prop := w_M_isSheet (fun r2 μ1 => if r2 = 0 then w_M_forgers_16 K p0 p1 μ1 else (w_M_in (fun r7 μ6 => if r7 = 0 then w_M_forgers_16 K p0 p1 μ6 else (∀ v9 : Int32, v9 = (μ6 62 7) → vp_in p0 4 ∧ if (μ6 68 p0.toNatClampNeg) = 0 then w_M_forgers_76 K p0 p1 μ6 else (vp_in p0 4 ∧ if (μ6 69 p0.toNatClampNeg) = (v9 + 1) then (if v9 = 0 then w_M_forgers_76 K p0 p1 μ6 else (vp_in ((40 * p0) + v9) 160 ∧ w_M_in (fun r19 μ18 => if r19 = 0 then w_M_forgers_76 K p0 p1 μ18 else w_M_forgers_93 K p0 p1 v9 8 0 0 μ18) (μ6 70 ((40 * p0) + v9).toNatClampNeg) 0 60 μ6)) else w_M_forgers_76 K p0 p1 μ6))) p1 0 1 μ1)) p0 μ
set_option maxHeartbeats 4000000 in
set_option maxRecDepth 100000 in
theorem P_M_forgers (l : Launch) {K : Int32 → sm_Mem → Prop} {p0 : Int32} {p1 : Int32} {μ : sm_Mem} (h : w_M_forgers K p0 p1 μ) : sm_MI l ⟨"SnowMoneyModel", "forgers", "(II)I"⟩ prog_10_method_66_code 10 (some .int) { frames := 62, cells := 0, slots := 0, locals := 2306 } [sm_R 61, sm_I p0, sm_I p1] μ K := by
  refine sm_ofI (by decide +kernel) (fun _ => Nat.le_of_ble_eq_true rfl) ?_
  intro p e s m args below meth c A Q G C hR
  have B16 : ∀ (μ : sm_Mem), w_M_forgers_16 K p0 p1 μ → sm_W p l e { frames := 62, cells := 0, slots := 0, locals := 2306 } s m args below meth c A Q G 10 0 0 16 [] [(0, sm_R 61)] μ := by
    intro μ h
    refine sr_aload_n C 0 rfl rfl d_M_forgers_16 ?_
    refine sr_ldc C q_441 d_M_forgers_17 ?_
    refine sr_callVI C [sm_I _] (P_M_errs l h) ok_97 sm_l61 rfl rfl rfl rfl ⟨Nat.le_of_ble_eq_true rfl, Nat.le_of_ble_eq_true rfl⟩ (Nat.le_of_ble_eq_true rfl) ⟨Nat.zero_le _, Nat.zero_le _⟩ d_M_forgers_19 (fun r5 μ4 h => ?_)
    exact hR _ _ _ _ d_M_forgers_22 rfl h
  have B76 : ∀ (μ : sm_Mem), w_M_forgers_76 K p0 p1 μ → sm_W p l e { frames := 62, cells := 0, slots := 0, locals := 2306 } s m args below meth c A Q G 10 0 0 76 [] [(0, sm_R 61)] μ := by
    intro μ h
    refine sr_aload_n C 0 rfl rfl d_M_forgers_76 ?_
    refine sr_ldc C q_587 d_M_forgers_77 ?_
    refine sr_callVI C [sm_I _] (P_M_errs l h) ok_97 sm_l61 rfl rfl rfl rfl ⟨Nat.le_of_ble_eq_true rfl, Nat.le_of_ble_eq_true rfl⟩ (Nat.le_of_ble_eq_true rfl) ⟨Nat.zero_le _, Nat.zero_le _⟩ d_M_forgers_79 (fun r13 μ12 h => ?_)
    exact hR _ _ _ _ d_M_forgers_82 rfl h
  have B210 : ∀ (x3 : Int32) (x5 : Int32) (x6 : Int32) (s0 : Int32) (J93 : Int32 → Int32 → Int32 → sm_Mem → Prop) (hJ93 : ∀ (x4 : Int32) (x5 : Int32) (x6 : Int32) (μ : sm_Mem), J93 x4 x5 x6 μ → sm_W p l e { frames := 62, cells := 0, slots := 0, locals := 2306 } s m args below meth c A Q G 10 0 0 93 [] [(0, sm_R 61), (1, sm_I p0), (2, sm_I p1), (3, sm_I x3), (4, sm_I x4), (5, sm_I x5), (6, sm_I x6)] μ) (μ : sm_Mem), w_M_forgers_210 K J93 p0 p1 x3 x5 x6 s0 μ → sm_W p l e { frames := 62, cells := 0, slots := 0, locals := 2306 } s m args below meth c A Q G 10 0 0 210 [sm_I s0] [(0, sm_R 61), (1, sm_I p0), (2, sm_I p1), (3, sm_I x3), (5, sm_I x5), (6, sm_I x6)] μ := by
    intro x3 x5 x6 s0 J93 hJ93 μ h
    refine sr_istore C (by decide) d_M_forgers_210 ?_
    refine sr_iinc C 6 rfl (by decide) d_M_forgers_212 rfl ?_
    refine sr_goto C (tgt := 93) (by decide) d_M_forgers_215 ?_
    refine sr_mask C [2, 3, 4, 5, 1, 6, 0] rfl ?_
    exact hJ93 _ _ _ _ h
  have B187 : ∀ (x3 : Int32) (x4 : Int32) (x6 : Int32) (x7 : Int32) (x8 : Int32) (s0 : Int32) (s1 : Int32) (J93 : Int32 → Int32 → Int32 → sm_Mem → Prop) (hJ93 : ∀ (x4 : Int32) (x5 : Int32) (x6 : Int32) (μ : sm_Mem), J93 x4 x5 x6 μ → sm_W p l e { frames := 62, cells := 0, slots := 0, locals := 2306 } s m args below meth c A Q G 10 0 0 93 [] [(0, sm_R 61), (1, sm_I p0), (2, sm_I p1), (3, sm_I x3), (4, sm_I x4), (5, sm_I x5), (6, sm_I x6)] μ) (J105 : Int32 → Int32 → Int32 → sm_Mem → Prop) (hJ105 : ∀ (x5 : Int32) (x7 : Int32) (x8 : Int32) (μ : sm_Mem), J105 x5 x7 x8 μ → sm_W p l e { frames := 62, cells := 0, slots := 0, locals := 2306 } s m args below meth c A Q G 10 0 0 105 [] [(0, sm_R 61), (1, sm_I p0), (2, sm_I p1), (3, sm_I x3), (4, sm_I x4), (5, sm_I x5), (6, sm_I x6), (7, sm_I x7), (8, sm_I x8)] μ) (μ : sm_Mem), w_M_forgers_187 K J93 J105 p0 p1 x3 x4 x6 x7 x8 s0 s1 μ → sm_W p l e { frames := 62, cells := 0, slots := 0, locals := 2306 } s m args below meth c A Q G 10 0 0 187 [sm_I s0, sm_I s1] [(0, sm_R 61), (1, sm_I p0), (2, sm_I p1), (3, sm_I x3), (4, sm_I x4), (6, sm_I x6), (7, sm_I x7), (8, sm_I x8)] μ := by
    intro x3 x4 x6 x7 x8 s0 s1 J93 hJ93 J105 hJ105 μ h
    refine sr_ior C d_M_forgers_187 ?_
    replace h := h _ rfl
    refine sr_istore C (by decide) d_M_forgers_188 ?_
    refine sr_iinc C 8 rfl (by decide) d_M_forgers_190 rfl ?_
    refine sr_goto C (tgt := 105) (by decide) d_M_forgers_193 ?_
    refine sr_mask C [2, 3, 4, 5, 6, 1, 7, 8, 0] rfl ?_
    exact hJ105 _ _ _ _ h
  have B186 : ∀ (x3 : Int32) (x4 : Int32) (x6 : Int32) (x7 : Int32) (x8 : Int32) (s0 : Int32) (J93 : Int32 → Int32 → Int32 → sm_Mem → Prop) (hJ93 : ∀ (x4 : Int32) (x5 : Int32) (x6 : Int32) (μ : sm_Mem), J93 x4 x5 x6 μ → sm_W p l e { frames := 62, cells := 0, slots := 0, locals := 2306 } s m args below meth c A Q G 10 0 0 93 [] [(0, sm_R 61), (1, sm_I p0), (2, sm_I p1), (3, sm_I x3), (4, sm_I x4), (5, sm_I x5), (6, sm_I x6)] μ) (J105 : Int32 → Int32 → Int32 → sm_Mem → Prop) (hJ105 : ∀ (x5 : Int32) (x7 : Int32) (x8 : Int32) (μ : sm_Mem), J105 x5 x7 x8 μ → sm_W p l e { frames := 62, cells := 0, slots := 0, locals := 2306 } s m args below meth c A Q G 10 0 0 105 [] [(0, sm_R 61), (1, sm_I p0), (2, sm_I p1), (3, sm_I x3), (4, sm_I x4), (5, sm_I x5), (6, sm_I x6), (7, sm_I x7), (8, sm_I x8)] μ) (μ : sm_Mem), w_M_forgers_186 K J93 J105 p0 p1 x3 x4 x6 x7 x8 s0 μ → sm_W p l e { frames := 62, cells := 0, slots := 0, locals := 2306 } s m args below meth c A Q G 10 0 0 186 [sm_I s0] [(0, sm_R 61), (1, sm_I p0), (2, sm_I p1), (3, sm_I x3), (4, sm_I x4), (6, sm_I x6), (7, sm_I x7), (8, sm_I x8)] μ := by
    intro x3 x4 x6 x7 x8 s0 J93 hJ93 J105 hJ105 μ h
    refine sr_iconst C (v := 0) d_M_forgers_186 (by decide) ?_
    exact B187 _ _ _ _ _ _ _ _ hJ93 _ hJ105 _ h
  have B179 : ∀ (x3 : Int32) (x4 : Int32) (x6 : Int32) (x7 : Int32) (x8 : Int32) (s0 : Int32) (J93 : Int32 → Int32 → Int32 → sm_Mem → Prop) (hJ93 : ∀ (x4 : Int32) (x5 : Int32) (x6 : Int32) (μ : sm_Mem), J93 x4 x5 x6 μ → sm_W p l e { frames := 62, cells := 0, slots := 0, locals := 2306 } s m args below meth c A Q G 10 0 0 93 [] [(0, sm_R 61), (1, sm_I p0), (2, sm_I p1), (3, sm_I x3), (4, sm_I x4), (5, sm_I x5), (6, sm_I x6)] μ) (J105 : Int32 → Int32 → Int32 → sm_Mem → Prop) (hJ105 : ∀ (x5 : Int32) (x7 : Int32) (x8 : Int32) (μ : sm_Mem), J105 x5 x7 x8 μ → sm_W p l e { frames := 62, cells := 0, slots := 0, locals := 2306 } s m args below meth c A Q G 10 0 0 105 [] [(0, sm_R 61), (1, sm_I p0), (2, sm_I p1), (3, sm_I x3), (4, sm_I x4), (5, sm_I x5), (6, sm_I x6), (7, sm_I x7), (8, sm_I x8)] μ) (μ : sm_Mem), w_M_forgers_179 K J93 J105 p0 p1 x3 x4 x6 x7 x8 s0 μ → sm_W p l e { frames := 62, cells := 0, slots := 0, locals := 2306 } s m args below meth c A Q G 10 0 0 179 [sm_I s0] [(0, sm_R 61), (1, sm_I p0), (2, sm_I p1), (3, sm_I x3), (4, sm_I x4), (6, sm_I x6), (7, sm_I x7), (8, sm_I x8)] μ := by
    intro x3 x4 x6 x7 x8 s0 J93 hJ93 J105 hJ105 μ h
    refine sr_iconst C (v := 1) d_M_forgers_179 (by decide) ?_
    refine sr_iload C 5 rfl d_M_forgers_180 ?_
    refine sr_ishl C d_M_forgers_182 ?_
    refine sr_goto C (tgt := 187) (by decide) d_M_forgers_183 ?_
    exact B187 _ _ _ _ _ _ _ _ hJ93 _ hJ105 _ h
  have B157 : ∀ (x3 : Int32) (x4 : Int32) (x5 : Int32) (x6 : Int32) (x8 : Int32) (x9 : Int32) (s0 : Int32) (s1 : Int32) (J93 : Int32 → Int32 → Int32 → sm_Mem → Prop) (hJ93 : ∀ (x4 : Int32) (x5 : Int32) (x6 : Int32) (μ : sm_Mem), J93 x4 x5 x6 μ → sm_W p l e { frames := 62, cells := 0, slots := 0, locals := 2306 } s m args below meth c A Q G 10 0 0 93 [] [(0, sm_R 61), (1, sm_I p0), (2, sm_I p1), (3, sm_I x3), (4, sm_I x4), (5, sm_I x5), (6, sm_I x6)] μ) (J105 : Int32 → Int32 → Int32 → sm_Mem → Prop) (hJ105 : ∀ (x5 : Int32) (x7 : Int32) (x8 : Int32) (μ : sm_Mem), J105 x5 x7 x8 μ → sm_W p l e { frames := 62, cells := 0, slots := 0, locals := 2306 } s m args below meth c A Q G 10 0 0 105 [] [(0, sm_R 61), (1, sm_I p0), (2, sm_I p1), (3, sm_I x3), (4, sm_I x4), (5, sm_I x5), (6, sm_I x6), (7, sm_I x7), (8, sm_I x8)] μ) (μ : sm_Mem), w_M_forgers_157 K J93 J105 p0 p1 x3 x4 x5 x6 x8 x9 s0 s1 μ → sm_W p l e { frames := 62, cells := 0, slots := 0, locals := 2306 } s m args below meth c A Q G 10 0 0 157 [sm_I s0, sm_I s1] [(0, sm_R 61), (1, sm_I p0), (2, sm_I p1), (3, sm_I x3), (4, sm_I x4), (5, sm_I x5), (6, sm_I x6), (8, sm_I x8), (9, sm_I x9)] μ := by
    intro x3 x4 x5 x6 x8 x9 s0 s1 J93 hJ93 J105 hJ105 μ h
    refine sr_iadd C d_M_forgers_157 ?_
    replace h := h _ rfl
    refine sr_istore C (by decide) d_M_forgers_158 ?_
    refine sr_iload C 6 rfl d_M_forgers_160 ?_
    refine sr_iload C 9 rfl d_M_forgers_162 ?_
    refine sr_if_eq C (tgt := 186) d_M_forgers_164 (by decide) (fun c31 => ?_) (fun c31 => ?_)
    · replace h := Eq.mp (if_pos c31) h
      refine sr_mask C [1, 2, 3, 4, 5, 7, 0, 8] rfl ?_
      exact B186 _ _ _ _ _ _ _ hJ93 _ hJ105 _ h
    · replace h := Eq.mp (if_neg c31) h
      refine sr_iload C 8 rfl d_M_forgers_167 ?_
      refine sr_iconst C (v := 2) d_M_forgers_169 (by decide) ?_
      refine sr_icmp_eq C (tgt := 179) d_M_forgers_170 (by decide) (fun c33 => ?_) (fun c33 => ?_)
      · replace h := Eq.mp (if_pos c33) h
        refine sr_mask C [1, 2, 3, 4, 5, 7, 0, 8] rfl ?_
        exact B179 _ _ _ _ _ _ _ hJ93 _ hJ105 _ h
      · replace h := Eq.mp (if_neg c33) h
        refine sr_iload C 8 rfl d_M_forgers_173 ?_
        refine sr_iconst C (v := 5) d_M_forgers_175 (by decide) ?_
        refine sr_icmp_ne C (tgt := 186) d_M_forgers_176 (by decide) (fun c34 => ?_) (fun c34 => ?_)
        · replace h := Eq.mp (if_neg c34) h
          refine sr_mask C [1, 2, 3, 4, 5, 7, 0, 8] rfl ?_
          exact B186 _ _ _ _ _ _ _ hJ93 _ hJ105 _ h
        · replace h := Eq.mp (if_pos c34) h
          refine sr_mask C [1, 2, 3, 4, 5, 7, 0, 8] rfl ?_
          exact B179 _ _ _ _ _ _ _ hJ93 _ hJ105 _ h
  have B105 : ∀ (x3 : Int32) (x4 : Int32) (x5 : Int32) (x6 : Int32) (x7 : Int32) (x8 : Int32) (J93 : Int32 → Int32 → Int32 → sm_Mem → Prop) (hJ93 : ∀ (x4 : Int32) (x5 : Int32) (x6 : Int32) (μ : sm_Mem), J93 x4 x5 x6 μ → sm_W p l e { frames := 62, cells := 0, slots := 0, locals := 2306 } s m args below meth c A Q G 10 0 0 93 [] [(0, sm_R 61), (1, sm_I p0), (2, sm_I p1), (3, sm_I x3), (4, sm_I x4), (5, sm_I x5), (6, sm_I x6)] μ) (μ : sm_Mem), w_M_forgers_105 K J93 p0 p1 x3 x4 x5 x6 x7 x8 μ → sm_W p l e { frames := 62, cells := 0, slots := 0, locals := 2306 } s m args below meth c A Q G 10 0 0 105 [] [(0, sm_R 61), (1, sm_I p0), (2, sm_I p1), (3, sm_I x3), (4, sm_I x4), (5, sm_I x5), (6, sm_I x6), (7, sm_I x7), (8, sm_I x8)] μ := by
    intro x3 x4 x5 x6 x7 x8 J93 hJ93 μ h
    refine sm_lp3_sound (P := fun x5 x7 x8 μ => sm_W p l e { frames := 62, cells := 0, slots := 0, locals := 2306 } s m args below meth c A Q G 10 0 0 105 [] [(0, sm_R 61), (1, sm_I p0), (2, sm_I p1), (3, sm_I x3), (4, sm_I x4), (5, sm_I x5), (6, sm_I x6), (7, sm_I x7), (8, sm_I x8)] μ) (fun J105 x5 x7 x8 μ hJ105 h => ?_) h
    refine sr_iload C 8 rfl d_M_forgers_105 ?_
    refine sr_bipush C (v := 6) d_M_forgers_107 (by decide) ?_
    refine sr_icmp_gt C (tgt := 196) d_M_forgers_109 (by decide) (fun c23 => ?_) (fun c23 => ?_)
    · replace h := Eq.mp (if_pos c23) h
      refine sr_iload C 7 rfl d_M_forgers_196 ?_
      refine sr_iload C 4 rfl d_M_forgers_198 ?_
      refine sr_icmp_ge C (tgt := 208) d_M_forgers_200 (by decide) (fun c24 => ?_) (fun c24 => ?_)
      · replace h := Eq.mp (if_pos c24) h
        refine sr_iload C 4 rfl d_M_forgers_208 ?_
        refine sr_mask C [0, 1, 2, 3, 5, 6] rfl ?_
        exact B210 _ _ _ _ _ hJ93 _ h
      · replace h := Eq.mp (if_neg c24) h
        refine sr_iload C 7 rfl d_M_forgers_203 ?_
        refine sr_goto C (tgt := 210) (by decide) d_M_forgers_205 ?_
        refine sr_mask C [0, 1, 2, 3, 5, 6] rfl ?_
        exact B210 _ _ _ _ _ hJ93 _ h
    · replace h := Eq.mp (if_neg c23) h
      refine sr_aload_n C 0 rfl rfl d_M_forgers_112 ?_
      refine sr_iload C 6 rfl d_M_forgers_113 ?_
      refine sr_iload C 8 rfl d_M_forgers_115 ?_
      refine sr_aload_n C 0 rfl rfl d_M_forgers_117 ?_
      refine sr_getR C sm_F7 21 q_611 sm_l61 (r := 70) rfl (by decide) d_M_forgers_118 ?_
      refine sr_bipush C (v := 40) d_M_forgers_121 (by decide) ?_
      refine sr_iload_n C 1 rfl rfl d_M_forgers_123 ?_
      refine sr_imul C d_M_forgers_124 ?_
      refine sr_iload_n C 3 rfl rfl d_M_forgers_125 ?_
      refine sr_iadd C d_M_forgers_126 ?_
      obtain ⟨g25, h⟩ := h
      refine sr_iald C sm_l70 g25 d_M_forgers_127 ?_
      refine sr_aload_n C 0 rfl rfl d_M_forgers_128 ?_
      refine sr_getR C sm_F7 21 q_611 sm_l61 (r := 70) rfl (by decide) d_M_forgers_129 ?_
      refine sr_bipush C (v := 40) d_M_forgers_132 (by decide) ?_
      refine sr_iload_n C 1 rfl rfl d_M_forgers_134 ?_
      refine sr_imul C d_M_forgers_135 ?_
      refine sr_iload C 6 rfl d_M_forgers_136 ?_
      refine sr_iadd C d_M_forgers_138 ?_
      obtain ⟨g26, h⟩ := h
      refine sr_iald C sm_l70 g26 d_M_forgers_139 ?_
      refine sr_callVI C [sm_I _, sm_I _, sm_I _, sm_I _] (P_M_hasThen l h) ok_136 sm_l61 rfl rfl rfl rfl ⟨Nat.le_of_ble_eq_true rfl, Nat.le_of_ble_eq_true rfl⟩ (Nat.le_of_ble_eq_true rfl) ⟨Nat.zero_le _, Nat.zero_le _⟩ d_M_forgers_140 (fun r28 μ27 h => ?_)
      refine sr_istore C (by decide) d_M_forgers_143 ?_
      refine sr_iload C 8 rfl d_M_forgers_145 ?_
      refine sr_iload C 0 rfl d_M_forgers_147 ?_
      refine sr_if_eq C (tgt := 156) d_M_forgers_149 (by decide) (fun c29 => ?_) (fun c29 => ?_)
      · replace h := Eq.mp (if_pos c29) h
        refine sr_iconst C (v := 0) d_M_forgers_156 (by decide) ?_
        refine sr_mask C [1, 2, 3, 4, 5, 6, 7, 9, 0] rfl ?_
        exact B157 _ _ _ _ _ _ _ _ _ hJ93 _ hJ105 _ h
      · replace h := Eq.mp (if_neg c29) h
        refine sr_iconst C (v := 1) d_M_forgers_152 (by decide) ?_
        refine sr_goto C (tgt := 157) (by decide) d_M_forgers_153 ?_
        refine sr_mask C [1, 2, 3, 4, 5, 6, 7, 9, 0] rfl ?_
        exact B157 _ _ _ _ _ _ _ _ _ hJ93 _ hJ105 _ h
  have B93 : ∀ (x3 : Int32) (x4 : Int32) (x5 : Int32) (x6 : Int32) (μ : sm_Mem), w_M_forgers_93 K p0 p1 x3 x4 x5 x6 μ → sm_W p l e { frames := 62, cells := 0, slots := 0, locals := 2306 } s m args below meth c A Q G 10 0 0 93 [] [(0, sm_R 61), (1, sm_I p0), (2, sm_I p1), (3, sm_I x3), (4, sm_I x4), (5, sm_I x5), (6, sm_I x6)] μ := by
    intro x3 x4 x5 x6 μ h
    refine sm_lp3_sound (P := fun x4 x5 x6 μ => sm_W p l e { frames := 62, cells := 0, slots := 0, locals := 2306 } s m args below meth c A Q G 10 0 0 93 [] [(0, sm_R 61), (1, sm_I p0), (2, sm_I p1), (3, sm_I x3), (4, sm_I x4), (5, sm_I x5), (6, sm_I x6)] μ) (fun J93 x4 x5 x6 μ hJ93 h => ?_) h
    refine sr_iload C 6 rfl d_M_forgers_93 ?_
    refine sr_iload_n C 3 rfl rfl d_M_forgers_95 ?_
    refine sr_icmp_ge C (tgt := 218) d_M_forgers_96 (by decide) (fun c21 => ?_) (fun c21 => ?_)
    · replace h := Eq.mp (if_pos c21) h
      refine sr_iload_n C 2 rfl rfl d_M_forgers_218 ?_
      refine sr_if_ne C (tgt := 227) d_M_forgers_219 (by decide) (fun c22 => ?_) (fun c22 => ?_)
      · replace h := Eq.mp (if_neg c22) h
        refine sr_iload C 5 rfl d_M_forgers_227 ?_
        exact hR _ _ _ _ d_M_forgers_229 rfl h
      · replace h := Eq.mp (if_pos c22) h
        refine sr_iload C 4 rfl d_M_forgers_222 ?_
        refine sr_goto C (tgt := 229) (by decide) d_M_forgers_224 ?_
        exact hR _ _ _ _ d_M_forgers_229 rfl h
    · replace h := Eq.mp (if_neg c21) h
      refine sr_iconst C (v := 0) d_M_forgers_99 (by decide) ?_
      refine sr_istore C (by decide) d_M_forgers_100 ?_
      refine sr_iconst C (v := 0) d_M_forgers_102 (by decide) ?_
      refine sr_istore C (by decide) d_M_forgers_103 ?_
      refine sr_mask C [2, 3, 4, 5, 6, 7, 8, 1, 0] rfl ?_
      exact B105 _ _ _ _ _ _ _ hJ93 _ h
  refine sr_iload_n C 1 rfl rfl d_M_forgers_0 ?_
  refine sr_callSI C [sm_I _] (P_M_isSheet l h) ok_135 rfl rfl rfl ⟨Nat.le_of_ble_eq_true rfl, Nat.le_of_ble_eq_true rfl⟩ (Nat.le_of_ble_eq_true rfl) ⟨Nat.zero_le _, Nat.zero_le _⟩ d_M_forgers_1 (fun r2 μ1 h => ?_)
  refine sr_if_eq C (tgt := 16) d_M_forgers_4 (by decide) (fun c3 => ?_) (fun c3 => ?_)
  · replace h := Eq.mp (if_pos c3) h
    refine sr_mask C [0] rfl ?_
    exact B16 _ h
  · replace h := Eq.mp (if_neg c3) h
    refine sr_iload_n C 2 rfl rfl d_M_forgers_7 ?_
    refine sr_iconst C (v := 0) d_M_forgers_8 (by decide) ?_
    refine sr_iconst C (v := 1) d_M_forgers_9 (by decide) ?_
    refine sr_callSI C [sm_I _, sm_I _, sm_I _] (P_M_in l h) ok_96 rfl rfl rfl ⟨Nat.le_of_ble_eq_true rfl, Nat.le_of_ble_eq_true rfl⟩ (Nat.le_of_ble_eq_true rfl) ⟨Nat.zero_le _, Nat.zero_le _⟩ d_M_forgers_10 (fun r7 μ6 h => ?_)
    refine sr_if_ne C (tgt := 23) d_M_forgers_13 (by decide) (fun c8 => ?_) (fun c8 => ?_)
    · replace h := Eq.mp (if_neg c8) h
      refine sr_aload_n C 0 rfl rfl d_M_forgers_23 ?_
      refine sr_getR C sm_F7 0 q_435 sm_l61 (r := 62) rfl (by decide) d_M_forgers_24 ?_
      refine sr_bipush C (v := 7) d_M_forgers_27 (by decide) ?_
      refine sr_ialdJ C sm_l62 (j := 7) (sm_vin (by decide)) (by decide) d_M_forgers_29 ?_
      replace h := h _ rfl
      refine sr_istore_n C rfl (by decide) d_M_forgers_30 ?_
      refine sr_aload_n C 1 rfl rfl d_M_forgers_31 ?_
      refine sr_getR C sm_F7 19 q_609 sm_l61 (r := 68) rfl (by decide) d_M_forgers_32 ?_
      refine sr_iload_n C 2 rfl rfl d_M_forgers_35 ?_
      obtain ⟨g10, h⟩ := h
      refine sr_iald C sm_l68 g10 d_M_forgers_36 ?_
      refine sr_if_eq C (tgt := 76) d_M_forgers_37 (by decide) (fun c11 => ?_) (fun c11 => ?_)
      · replace h := Eq.mp (if_pos c11) h
        refine sr_mask C [1] rfl ?_
        exact B76 _ h
      · replace h := Eq.mp (if_neg c11) h
        refine sr_aload_n C 1 rfl rfl d_M_forgers_40 ?_
        refine sr_getR C sm_F7 20 q_610 sm_l61 (r := 69) rfl (by decide) d_M_forgers_41 ?_
        refine sr_iload_n C 2 rfl rfl d_M_forgers_44 ?_
        obtain ⟨g14, h⟩ := h
        refine sr_iald C sm_l69 g14 d_M_forgers_45 ?_
        refine sr_iload_n C 0 rfl rfl d_M_forgers_46 ?_
        refine sr_iconst C (v := 1) d_M_forgers_47 (by decide) ?_
        refine sr_iadd C d_M_forgers_48 ?_
        refine sr_icmp_ne C (tgt := 76) d_M_forgers_49 (by decide) (fun c15 => ?_) (fun c15 => ?_)
        · replace h := Eq.mp (if_neg c15) h
          refine sr_mask C [1] rfl ?_
          exact B76 _ h
        · replace h := Eq.mp (if_pos c15) h
          refine sr_iload_n C 0 rfl rfl d_M_forgers_52 ?_
          refine sr_if_eq C (tgt := 76) d_M_forgers_53 (by decide) (fun c16 => ?_) (fun c16 => ?_)
          · replace h := Eq.mp (if_pos c16) h
            refine sr_mask C [1] rfl ?_
            exact B76 _ h
          · replace h := Eq.mp (if_neg c16) h
            refine sr_aload_n C 1 rfl rfl d_M_forgers_56 ?_
            refine sr_getR C sm_F7 21 q_611 sm_l61 (r := 70) rfl (by decide) d_M_forgers_57 ?_
            refine sr_bipush C (v := 40) d_M_forgers_60 (by decide) ?_
            refine sr_iload_n C 2 rfl rfl d_M_forgers_62 ?_
            refine sr_imul C d_M_forgers_63 ?_
            refine sr_iload_n C 0 rfl rfl d_M_forgers_64 ?_
            refine sr_iadd C d_M_forgers_65 ?_
            obtain ⟨g17, h⟩ := h
            refine sr_iald C sm_l70 g17 d_M_forgers_66 ?_
            refine sr_iconst C (v := 0) d_M_forgers_67 (by decide) ?_
            refine sr_bipush C (v := 60) d_M_forgers_68 (by decide) ?_
            refine sr_callSI C [sm_I _, sm_I _, sm_I _] (P_M_in l h) ok_96 rfl rfl rfl ⟨Nat.le_of_ble_eq_true rfl, Nat.le_of_ble_eq_true rfl⟩ (Nat.le_of_ble_eq_true rfl) ⟨Nat.zero_le _, Nat.zero_le _⟩ d_M_forgers_70 (fun r19 μ18 h => ?_)
            refine sr_if_ne C (tgt := 83) d_M_forgers_73 (by decide) (fun c20 => ?_) (fun c20 => ?_)
            · replace h := Eq.mp (if_neg c20) h
              refine sr_bipush C (v := 8) d_M_forgers_83 (by decide) ?_
              refine sr_istore C (by decide) d_M_forgers_85 ?_
              refine sr_iconst C (v := 0) d_M_forgers_87 (by decide) ?_
              refine sr_istore C (by decide) d_M_forgers_88 ?_
              refine sr_iconst C (v := 0) d_M_forgers_90 (by decide) ?_
              refine sr_istore C (by decide) d_M_forgers_91 ?_
              refine sr_mask C [4, 5, 6, 3, 2, 1, 0] rfl ?_
              exact B93 _ _ _ _ _ h
            · replace h := Eq.mp (if_pos c20) h
              refine sr_mask C [1] rfl ?_
              exact B76 _ h
    · replace h := Eq.mp (if_pos c8) h
      refine sr_mask C [0] rfl ?_
      exact B16 _ h
theorem d_M_richest_0 : decode prog_10_method_67_code 0 = .ok (.iload_n 1, 1) := by decide +kernel
theorem d_M_richest_1 : decode prog_10_method_67_code 1 = .ok (.iconst 0, 1) := by decide +kernel
theorem d_M_richest_2 : decode prog_10_method_67_code 2 = .ok (.bipush 60, 2) := by decide +kernel
theorem d_M_richest_4 : decode prog_10_method_67_code 4 = .ok (.invokestatic 44, 3) := by decide +kernel
theorem d_M_richest_7 : decode prog_10_method_67_code 7 = .ok (.ifCond .eq 12, 3) := by decide +kernel
theorem d_M_richest_10 : decode prog_10_method_67_code 10 = .ok (.iload_n 2, 1) := by decide +kernel
theorem d_M_richest_11 : decode prog_10_method_67_code 11 = .ok (.iconst 0, 1) := by decide +kernel
theorem d_M_richest_12 : decode prog_10_method_67_code 12 = .ok (.iconst 1, 1) := by decide +kernel
theorem d_M_richest_13 : decode prog_10_method_67_code 13 = .ok (.invokestatic 44, 3) := by decide +kernel
theorem d_M_richest_16 : decode prog_10_method_67_code 16 = .ok (.ifCond .ne 10, 3) := by decide +kernel
theorem d_M_richest_19 : decode prog_10_method_67_code 19 = .ok (.aload_n 0, 1) := by decide +kernel
theorem d_M_richest_20 : decode prog_10_method_67_code 20 = .ok (.ldc 48, 2) := by decide +kernel
theorem d_M_richest_22 : decode prog_10_method_67_code 22 = .ok (.invokevirtual 49, 3) := by decide +kernel
theorem d_M_richest_25 : decode prog_10_method_67_code 25 = .ok (.ireturn, 1) := by decide +kernel
theorem d_M_richest_26 : decode prog_10_method_67_code 26 = .ok (.iconst 0, 1) := by decide +kernel
theorem d_M_richest_27 : decode prog_10_method_67_code 27 = .ok (.istore_n 3, 1) := by decide +kernel
theorem d_M_richest_28 : decode prog_10_method_67_code 28 = .ok (.iconst (-1), 1) := by decide +kernel
theorem d_M_richest_29 : decode prog_10_method_67_code 29 = .ok (.istore 4, 2) := by decide +kernel
theorem d_M_richest_31 : decode prog_10_method_67_code 31 = .ok (.aload_n 0, 1) := by decide +kernel
theorem d_M_richest_32 : decode prog_10_method_67_code 32 = .ok (.aload_n 0, 1) := by decide +kernel
theorem d_M_richest_33 : decode prog_10_method_67_code 33 = .ok (.getfield 7, 3) := by decide +kernel
theorem d_M_richest_36 : decode prog_10_method_67_code 36 = .ok (.aload_n 0, 1) := by decide +kernel
theorem d_M_richest_37 : decode prog_10_method_67_code 37 = .ok (.getfield 16, 3) := by decide +kernel
theorem d_M_richest_40 : decode prog_10_method_67_code 40 = .ok (.invokevirtual 161, 3) := by decide +kernel
theorem d_M_richest_43 : decode prog_10_method_67_code 43 = .ok (.aload_n 0, 1) := by decide +kernel
theorem d_M_richest_44 : decode prog_10_method_67_code 44 = .ok (.iload_n 1, 1) := by decide +kernel
theorem d_M_richest_45 : decode prog_10_method_67_code 45 = .ok (.invokevirtual 179, 3) := by decide +kernel
theorem d_M_richest_48 : decode prog_10_method_67_code 48 = .ok (.iconst 0, 1) := by decide +kernel
theorem d_M_richest_49 : decode prog_10_method_67_code 49 = .ok (.istore 5, 2) := by decide +kernel
theorem d_M_richest_51 : decode prog_10_method_67_code 51 = .ok (.iload 5, 2) := by decide +kernel
theorem d_M_richest_53 : decode prog_10_method_67_code 53 = .ok (.iconst 4, 1) := by decide +kernel
theorem d_M_richest_54 : decode prog_10_method_67_code 54 = .ok (.if_icmp .ge 47, 3) := by decide +kernel
theorem d_M_richest_57 : decode prog_10_method_67_code 57 = .ok (.aload_n 0, 1) := by decide +kernel
theorem d_M_richest_58 : decode prog_10_method_67_code 58 = .ok (.iload 5, 2) := by decide +kernel
theorem d_M_richest_60 : decode prog_10_method_67_code 60 = .ok (.invokevirtual 197, 3) := by decide +kernel
theorem d_M_richest_63 : decode prog_10_method_67_code 63 = .ok (.istore 6, 2) := by decide +kernel
theorem d_M_richest_65 : decode prog_10_method_67_code 65 = .ok (.iload 6, 2) := by decide +kernel
theorem d_M_richest_67 : decode prog_10_method_67_code 67 = .ok (.iload 4, 2) := by decide +kernel
theorem d_M_richest_69 : decode prog_10_method_67_code 69 = .ok (.if_icmp .le 8, 3) := by decide +kernel
theorem d_M_richest_72 : decode prog_10_method_67_code 72 = .ok (.iload 5, 2) := by decide +kernel
theorem d_M_richest_74 : decode prog_10_method_67_code 74 = .ok (.goto 4, 3) := by decide +kernel
theorem d_M_richest_77 : decode prog_10_method_67_code 77 = .ok (.iload_n 3, 1) := by decide +kernel
theorem d_M_richest_78 : decode prog_10_method_67_code 78 = .ok (.istore_n 3, 1) := by decide +kernel
theorem d_M_richest_79 : decode prog_10_method_67_code 79 = .ok (.iload 6, 2) := by decide +kernel
theorem d_M_richest_81 : decode prog_10_method_67_code 81 = .ok (.iload 4, 2) := by decide +kernel
theorem d_M_richest_83 : decode prog_10_method_67_code 83 = .ok (.if_icmp .le 8, 3) := by decide +kernel
theorem d_M_richest_86 : decode prog_10_method_67_code 86 = .ok (.iload 6, 2) := by decide +kernel
theorem d_M_richest_88 : decode prog_10_method_67_code 88 = .ok (.goto 5, 3) := by decide +kernel
theorem d_M_richest_91 : decode prog_10_method_67_code 91 = .ok (.iload 4, 2) := by decide +kernel
theorem d_M_richest_93 : decode prog_10_method_67_code 93 = .ok (.istore 4, 2) := by decide +kernel
theorem d_M_richest_95 : decode prog_10_method_67_code 95 = .ok (.iinc 5 1, 3) := by decide +kernel
theorem d_M_richest_98 : decode prog_10_method_67_code 98 = .ok (.goto (-47), 3) := by decide +kernel
theorem d_M_richest_101 : decode prog_10_method_67_code 101 = .ok (.aload_n 0, 1) := by decide +kernel
theorem d_M_richest_102 : decode prog_10_method_67_code 102 = .ok (.aload_n 0, 1) := by decide +kernel
theorem d_M_richest_103 : decode prog_10_method_67_code 103 = .ok (.getfield 16, 3) := by decide +kernel
theorem d_M_richest_106 : decode prog_10_method_67_code 106 = .ok (.aload_n 0, 1) := by decide +kernel
theorem d_M_richest_107 : decode prog_10_method_67_code 107 = .ok (.getfield 7, 3) := by decide +kernel
theorem d_M_richest_110 : decode prog_10_method_67_code 110 = .ok (.invokevirtual 161, 3) := by decide +kernel
theorem d_M_richest_113 : decode prog_10_method_67_code 113 = .ok (.iload_n 2, 1) := by decide +kernel
theorem d_M_richest_114 : decode prog_10_method_67_code 114 = .ok (.ifCond .ne 7, 3) := by decide +kernel
theorem d_M_richest_117 : decode prog_10_method_67_code 117 = .ok (.iload_n 3, 1) := by decide +kernel
theorem d_M_richest_118 : decode prog_10_method_67_code 118 = .ok (.goto 5, 3) := by decide +kernel
theorem d_M_richest_121 : decode prog_10_method_67_code 121 = .ok (.iload 4, 2) := by decide +kernel
theorem d_M_richest_123 : decode prog_10_method_67_code 123 = .ok (.ireturn, 1) := by decide +kernel
def w_M_richest_19 (K : Int32 → sm_Mem → Prop) (p0 : Int32) (p1 : Int32) (μ : sm_Mem) : Prop := w_M_errs (fun r5 μ4 => K r5 μ4) (-1000000001) μ
def w_M_richest_93 (K : Int32 → sm_Mem → Prop) (J51 : Int32 → Int32 → Int32 → sm_Mem → Prop) (p0 : Int32) (p1 : Int32) (x3 : Int32) (x5 : Int32) (s0 : Int32) (μ : sm_Mem) : Prop := J51 x3 s0 (x5 + 1) μ
def w_M_richest_78 (K : Int32 → sm_Mem → Prop) (J51 : Int32 → Int32 → Int32 → sm_Mem → Prop) (p0 : Int32) (p1 : Int32) (x4 : Int32) (x5 : Int32) (x6 : Int32) (s0 : Int32) (μ : sm_Mem) : Prop := if x6 ≤ x4 then w_M_richest_93 K J51 p0 p1 s0 x5 x4 μ else w_M_richest_93 K J51 p0 p1 s0 x5 x6 μ
def w_M_richest_51 (K : Int32 → sm_Mem → Prop) (p0 : Int32) (p1 : Int32) (x3 : Int32) (x4 : Int32) (x5 : Int32) (μ : sm_Mem) : Prop := sm_lp3 (fun J51 x3 x4 x5 μ => if 4 ≤ x5 then w_M_moveAll (fun μ12 => if p1 = 0 then K x3 μ12 else K x4 μ12) 64 62 μ else w_M_worthOf (fun r15 μ14 => if r15 ≤ x4 then w_M_richest_78 K J51 p0 p1 x4 x5 r15 x3 μ14 else w_M_richest_78 K J51 p0 p1 x4 x5 r15 x5 μ14) x5 μ) x3 x4 x5 μ
def w_M_richest (K : Int32 → sm_Mem → Prop) (p0 : Int32) (p1 : Int32) (μ : sm_Mem) : Prop := w_M_in (fun r2 μ1 => if r2 = 0 then w_M_richest_19 K p0 p1 μ1 else w_M_in (fun r7 μ6 => if r7 = 0 then w_M_richest_19 K p0 p1 μ6 else w_M_moveAll (fun μ9 => w_M_passes (fun μ10 => w_M_richest_51 K p0 p1 0 (-1) 0 μ10) p0 μ9) 62 64 μ6) p1 0 1 μ1) p0 0 60 μ
set_option maxHeartbeats 4000000 in
set_option maxRecDepth 100000 in
theorem P_M_richest (l : Launch) {K : Int32 → sm_Mem → Prop} {p0 : Int32} {p1 : Int32} {μ : sm_Mem} (h : w_M_richest K p0 p1 μ) : sm_MI l ⟨"SnowMoneyModel", "richest", "(II)I"⟩ prog_10_method_67_code 7 (some .int) { frames := 61, cells := 0, slots := 0, locals := 2281 } [sm_R 61, sm_I p0, sm_I p1] μ K := by
  refine sm_ofI (by decide +kernel) (fun _ => Nat.le_of_ble_eq_true rfl) ?_
  intro p e s m args below meth c A Q G C hR
  have B19 : ∀ (μ : sm_Mem), w_M_richest_19 K p0 p1 μ → sm_W p l e { frames := 61, cells := 0, slots := 0, locals := 2281 } s m args below meth c A Q G 7 0 0 19 [] [(0, sm_R 61)] μ := by
    intro μ h
    refine sr_aload_n C 0 rfl rfl d_M_richest_19 ?_
    refine sr_ldc C q_441 d_M_richest_20 ?_
    refine sr_callVI C [sm_I _] (P_M_errs l h) ok_97 sm_l61 rfl rfl rfl rfl ⟨Nat.le_of_ble_eq_true rfl, Nat.le_of_ble_eq_true rfl⟩ (Nat.le_of_ble_eq_true rfl) ⟨Nat.zero_le _, Nat.zero_le _⟩ d_M_richest_22 (fun r5 μ4 h => ?_)
    exact hR _ _ _ _ d_M_richest_25 rfl h
  have B93 : ∀ (x3 : Int32) (x5 : Int32) (s0 : Int32) (J51 : Int32 → Int32 → Int32 → sm_Mem → Prop) (hJ51 : ∀ (x3 : Int32) (x4 : Int32) (x5 : Int32) (μ : sm_Mem), J51 x3 x4 x5 μ → sm_W p l e { frames := 61, cells := 0, slots := 0, locals := 2281 } s m args below meth c A Q G 7 0 0 51 [] [(0, sm_R 61), (2, sm_I p1), (3, sm_I x3), (4, sm_I x4), (5, sm_I x5)] μ) (μ : sm_Mem), w_M_richest_93 K J51 p0 p1 x3 x5 s0 μ → sm_W p l e { frames := 61, cells := 0, slots := 0, locals := 2281 } s m args below meth c A Q G 7 0 0 93 [sm_I s0] [(0, sm_R 61), (2, sm_I p1), (3, sm_I x3), (5, sm_I x5)] μ := by
    intro x3 x5 s0 J51 hJ51 μ h
    refine sr_istore C (by decide) d_M_richest_93 ?_
    refine sr_iinc C 4 rfl (by decide) d_M_richest_95 rfl ?_
    refine sr_goto C (tgt := 51) (by decide) d_M_richest_98 ?_
    refine sr_mask C [2, 3, 4, 1, 0] rfl ?_
    exact hJ51 _ _ _ _ h
  have B78 : ∀ (x4 : Int32) (x5 : Int32) (x6 : Int32) (s0 : Int32) (J51 : Int32 → Int32 → Int32 → sm_Mem → Prop) (hJ51 : ∀ (x3 : Int32) (x4 : Int32) (x5 : Int32) (μ : sm_Mem), J51 x3 x4 x5 μ → sm_W p l e { frames := 61, cells := 0, slots := 0, locals := 2281 } s m args below meth c A Q G 7 0 0 51 [] [(0, sm_R 61), (2, sm_I p1), (3, sm_I x3), (4, sm_I x4), (5, sm_I x5)] μ) (μ : sm_Mem), w_M_richest_78 K J51 p0 p1 x4 x5 x6 s0 μ → sm_W p l e { frames := 61, cells := 0, slots := 0, locals := 2281 } s m args below meth c A Q G 7 0 0 78 [sm_I s0] [(0, sm_R 61), (2, sm_I p1), (4, sm_I x4), (5, sm_I x5), (6, sm_I x6)] μ := by
    intro x4 x5 x6 s0 J51 hJ51 μ h
    refine sr_istore_n C rfl (by decide) d_M_richest_78 ?_
    refine sr_iload C 5 rfl d_M_richest_79 ?_
    refine sr_iload C 3 rfl d_M_richest_81 ?_
    refine sr_icmp_le C (tgt := 91) d_M_richest_83 (by decide) (fun c17 => ?_) (fun c17 => ?_)
    · replace h := Eq.mp (if_pos c17) h
      refine sr_iload C 3 rfl d_M_richest_91 ?_
      refine sr_mask C [1, 2, 0, 4] rfl ?_
      exact B93 _ _ _ _ hJ51 _ h
    · replace h := Eq.mp (if_neg c17) h
      refine sr_iload C 5 rfl d_M_richest_86 ?_
      refine sr_goto C (tgt := 93) (by decide) d_M_richest_88 ?_
      refine sr_mask C [1, 2, 0, 4] rfl ?_
      exact B93 _ _ _ _ hJ51 _ h
  have B51 : ∀ (x3 : Int32) (x4 : Int32) (x5 : Int32) (μ : sm_Mem), w_M_richest_51 K p0 p1 x3 x4 x5 μ → sm_W p l e { frames := 61, cells := 0, slots := 0, locals := 2281 } s m args below meth c A Q G 7 0 0 51 [] [(0, sm_R 61), (2, sm_I p1), (3, sm_I x3), (4, sm_I x4), (5, sm_I x5)] μ := by
    intro x3 x4 x5 μ h
    refine sm_lp3_sound (P := fun x3 x4 x5 μ => sm_W p l e { frames := 61, cells := 0, slots := 0, locals := 2281 } s m args below meth c A Q G 7 0 0 51 [] [(0, sm_R 61), (2, sm_I p1), (3, sm_I x3), (4, sm_I x4), (5, sm_I x5)] μ) (fun J51 x3 x4 x5 μ hJ51 h => ?_) h
    refine sr_iload C 4 rfl d_M_richest_51 ?_
    refine sr_iconst C (v := 4) d_M_richest_53 (by decide) ?_
    refine sr_icmp_ge C (tgt := 101) d_M_richest_54 (by decide) (fun c11 => ?_) (fun c11 => ?_)
    · replace h := Eq.mp (if_pos c11) h
      refine sr_aload_n C 0 rfl rfl d_M_richest_101 ?_
      refine sr_aload_n C 0 rfl rfl d_M_richest_102 ?_
      refine sr_getR C sm_F7 2 q_582 sm_l61 (r := 64) rfl (by decide) d_M_richest_103 ?_
      refine sr_aload_n C 0 rfl rfl d_M_richest_106 ?_
      refine sr_getR C sm_F7 0 q_435 sm_l61 (r := 62) rfl (by decide) d_M_richest_107 ?_
      refine sr_callVV C [sm_R _, sm_R _] (P_M_moveAll l h) ok_123 sm_l61 rfl rfl rfl rfl ⟨Nat.le_of_ble_eq_true rfl, Nat.le_of_ble_eq_true rfl⟩ (Nat.le_of_ble_eq_true rfl) ⟨Nat.zero_le _, Nat.zero_le _⟩ d_M_richest_110 (fun μ12 h => ?_)
      refine sr_iload_n C 1 rfl rfl d_M_richest_113 ?_
      refine sr_if_ne C (tgt := 121) d_M_richest_114 (by decide) (fun c13 => ?_) (fun c13 => ?_)
      · replace h := Eq.mp (if_neg c13) h
        refine sr_iload C 3 rfl d_M_richest_121 ?_
        exact hR _ _ _ _ d_M_richest_123 rfl h
      · replace h := Eq.mp (if_pos c13) h
        refine sr_iload_n C 2 rfl rfl d_M_richest_117 ?_
        refine sr_goto C (tgt := 123) (by decide) d_M_richest_118 ?_
        exact hR _ _ _ _ d_M_richest_123 rfl h
    · replace h := Eq.mp (if_neg c11) h
      refine sr_aload_n C 0 rfl rfl d_M_richest_57 ?_
      refine sr_iload C 4 rfl d_M_richest_58 ?_
      refine sr_callVI C [sm_I _] (P_M_worthOf l h) ok_131 sm_l61 rfl rfl rfl rfl ⟨Nat.le_of_ble_eq_true rfl, Nat.le_of_ble_eq_true rfl⟩ (Nat.le_of_ble_eq_true rfl) ⟨Nat.zero_le _, Nat.zero_le _⟩ d_M_richest_60 (fun r15 μ14 h => ?_)
      refine sr_istore C (by decide) d_M_richest_63 ?_
      refine sr_iload C 0 rfl d_M_richest_65 ?_
      refine sr_iload C 4 rfl d_M_richest_67 ?_
      refine sr_icmp_le C (tgt := 77) d_M_richest_69 (by decide) (fun c16 => ?_) (fun c16 => ?_)
      · replace h := Eq.mp (if_pos c16) h
        refine sr_iload_n C 3 rfl rfl d_M_richest_77 ?_
        refine sr_mask C [1, 2, 4, 5, 0] rfl ?_
        exact B78 _ _ _ _ _ hJ51 _ h
      · replace h := Eq.mp (if_neg c16) h
        refine sr_iload C 5 rfl d_M_richest_72 ?_
        refine sr_goto C (tgt := 78) (by decide) d_M_richest_74 ?_
        refine sr_mask C [1, 2, 4, 5, 0] rfl ?_
        exact B78 _ _ _ _ _ hJ51 _ h
  refine sr_iload_n C 1 rfl rfl d_M_richest_0 ?_
  refine sr_iconst C (v := 0) d_M_richest_1 (by decide) ?_
  refine sr_bipush C (v := 60) d_M_richest_2 (by decide) ?_
  refine sr_callSI C [sm_I _, sm_I _, sm_I _] (P_M_in l h) ok_96 rfl rfl rfl ⟨Nat.le_of_ble_eq_true rfl, Nat.le_of_ble_eq_true rfl⟩ (Nat.le_of_ble_eq_true rfl) ⟨Nat.zero_le _, Nat.zero_le _⟩ d_M_richest_4 (fun r2 μ1 h => ?_)
  refine sr_if_eq C (tgt := 19) d_M_richest_7 (by decide) (fun c3 => ?_) (fun c3 => ?_)
  · replace h := Eq.mp (if_pos c3) h
    refine sr_mask C [0] rfl ?_
    exact B19 _ h
  · replace h := Eq.mp (if_neg c3) h
    refine sr_iload_n C 2 rfl rfl d_M_richest_10 ?_
    refine sr_iconst C (v := 0) d_M_richest_11 (by decide) ?_
    refine sr_iconst C (v := 1) d_M_richest_12 (by decide) ?_
    refine sr_callSI C [sm_I _, sm_I _, sm_I _] (P_M_in l h) ok_96 rfl rfl rfl ⟨Nat.le_of_ble_eq_true rfl, Nat.le_of_ble_eq_true rfl⟩ (Nat.le_of_ble_eq_true rfl) ⟨Nat.zero_le _, Nat.zero_le _⟩ d_M_richest_13 (fun r7 μ6 h => ?_)
    refine sr_if_ne C (tgt := 26) d_M_richest_16 (by decide) (fun c8 => ?_) (fun c8 => ?_)
    · replace h := Eq.mp (if_neg c8) h
      refine sr_iconst C (v := 0) d_M_richest_26 (by decide) ?_
      refine sr_istore_n C rfl (by decide) d_M_richest_27 ?_
      refine sr_iconst C (v := (-1)) d_M_richest_28 (by decide) ?_
      refine sr_istore C (by decide) d_M_richest_29 ?_
      refine sr_aload_n C 2 rfl rfl d_M_richest_31 ?_
      refine sr_aload_n C 2 rfl rfl d_M_richest_32 ?_
      refine sr_getR C sm_F7 0 q_435 sm_l61 (r := 62) rfl (by decide) d_M_richest_33 ?_
      refine sr_aload_n C 2 rfl rfl d_M_richest_36 ?_
      refine sr_getR C sm_F7 2 q_582 sm_l61 (r := 64) rfl (by decide) d_M_richest_37 ?_
      refine sr_callVV C [sm_R _, sm_R _] (P_M_moveAll l h) ok_123 sm_l61 rfl rfl rfl rfl ⟨Nat.le_of_ble_eq_true rfl, Nat.le_of_ble_eq_true rfl⟩ (Nat.le_of_ble_eq_true rfl) ⟨Nat.zero_le _, Nat.zero_le _⟩ d_M_richest_40 (fun μ9 h => ?_)
      refine sr_aload_n C 2 rfl rfl d_M_richest_43 ?_
      refine sr_iload_n C 3 rfl rfl d_M_richest_44 ?_
      refine sr_callVV C [sm_I _] (P_M_passes l h) ok_124 sm_l61 rfl rfl rfl rfl ⟨Nat.le_of_ble_eq_true rfl, Nat.le_of_ble_eq_true rfl⟩ (Nat.le_of_ble_eq_true rfl) ⟨Nat.zero_le _, Nat.zero_le _⟩ d_M_richest_45 (fun μ10 h => ?_)
      refine sr_iconst C (v := 0) d_M_richest_48 (by decide) ?_
      refine sr_istore C (by decide) d_M_richest_49 ?_
      refine sr_mask C [3, 5, 2, 1, 0] rfl ?_
      exact B51 _ _ _ _ h
    · replace h := Eq.mp (if_pos c8) h
      refine sr_mask C [0] rfl ?_
      exact B19 _ h
theorem d_M_warmer_0 : decode prog_10_method_68_code 0 = .ok (.iload_n 1, 1) := by decide +kernel
theorem d_M_warmer_1 : decode prog_10_method_68_code 1 = .ok (.iconst 0, 1) := by decide +kernel
theorem d_M_warmer_2 : decode prog_10_method_68_code 2 = .ok (.bipush 9, 2) := by decide +kernel
theorem d_M_warmer_4 : decode prog_10_method_68_code 4 = .ok (.invokestatic 44, 3) := by decide +kernel
theorem d_M_warmer_7 : decode prog_10_method_68_code 7 = .ok (.ifCond .eq 13, 3) := by decide +kernel
theorem d_M_warmer_10 : decode prog_10_method_68_code 10 = .ok (.iload_n 2, 1) := by decide +kernel
theorem d_M_warmer_11 : decode prog_10_method_68_code 11 = .ok (.iconst 0, 1) := by decide +kernel
theorem d_M_warmer_12 : decode prog_10_method_68_code 12 = .ok (.bipush 60, 2) := by decide +kernel
theorem d_M_warmer_14 : decode prog_10_method_68_code 14 = .ok (.invokestatic 44, 3) := by decide +kernel
theorem d_M_warmer_17 : decode prog_10_method_68_code 17 = .ok (.ifCond .ne 10, 3) := by decide +kernel
theorem d_M_warmer_20 : decode prog_10_method_68_code 20 = .ok (.aload_n 0, 1) := by decide +kernel
theorem d_M_warmer_21 : decode prog_10_method_68_code 21 = .ok (.ldc 48, 2) := by decide +kernel
theorem d_M_warmer_23 : decode prog_10_method_68_code 23 = .ok (.invokevirtual 49, 3) := by decide +kernel
theorem d_M_warmer_26 : decode prog_10_method_68_code 26 = .ok (.ireturn, 1) := by decide +kernel
theorem d_M_warmer_27 : decode prog_10_method_68_code 27 = .ok (.aload_n 0, 1) := by decide +kernel
theorem d_M_warmer_28 : decode prog_10_method_68_code 28 = .ok (.aload_n 0, 1) := by decide +kernel
theorem d_M_warmer_29 : decode prog_10_method_68_code 29 = .ok (.getfield 7, 3) := by decide +kernel
theorem d_M_warmer_32 : decode prog_10_method_68_code 32 = .ok (.aload_n 0, 1) := by decide +kernel
theorem d_M_warmer_33 : decode prog_10_method_68_code 33 = .ok (.getfield 16, 3) := by decide +kernel
theorem d_M_warmer_36 : decode prog_10_method_68_code 36 = .ok (.invokevirtual 161, 3) := by decide +kernel
theorem d_M_warmer_39 : decode prog_10_method_68_code 39 = .ok (.aload_n 0, 1) := by decide +kernel
theorem d_M_warmer_40 : decode prog_10_method_68_code 40 = .ok (.iload_n 1, 1) := by decide +kernel
theorem d_M_warmer_41 : decode prog_10_method_68_code 41 = .ok (.putfield 165, 3) := by decide +kernel
theorem d_M_warmer_44 : decode prog_10_method_68_code 44 = .ok (.aload_n 0, 1) := by decide +kernel
theorem d_M_warmer_45 : decode prog_10_method_68_code 45 = .ok (.iload_n 2, 1) := by decide +kernel
theorem d_M_warmer_46 : decode prog_10_method_68_code 46 = .ok (.invokevirtual 179, 3) := by decide +kernel
theorem d_M_warmer_49 : decode prog_10_method_68_code 49 = .ok (.aload_n 0, 1) := by decide +kernel
theorem d_M_warmer_50 : decode prog_10_method_68_code 50 = .ok (.iconst 0, 1) := by decide +kernel
theorem d_M_warmer_51 : decode prog_10_method_68_code 51 = .ok (.putfield 165, 3) := by decide +kernel
theorem d_M_warmer_54 : decode prog_10_method_68_code 54 = .ok (.aload_n 0, 1) := by decide +kernel
theorem d_M_warmer_55 : decode prog_10_method_68_code 55 = .ok (.invokevirtual 183, 3) := by decide +kernel
theorem d_M_warmer_58 : decode prog_10_method_68_code 58 = .ok (.istore_n 3, 1) := by decide +kernel
theorem d_M_warmer_59 : decode prog_10_method_68_code 59 = .ok (.aload_n 0, 1) := by decide +kernel
theorem d_M_warmer_60 : decode prog_10_method_68_code 60 = .ok (.aload_n 0, 1) := by decide +kernel
theorem d_M_warmer_61 : decode prog_10_method_68_code 61 = .ok (.getfield 16, 3) := by decide +kernel
theorem d_M_warmer_64 : decode prog_10_method_68_code 64 = .ok (.aload_n 0, 1) := by decide +kernel
theorem d_M_warmer_65 : decode prog_10_method_68_code 65 = .ok (.getfield 7, 3) := by decide +kernel
theorem d_M_warmer_68 : decode prog_10_method_68_code 68 = .ok (.invokevirtual 161, 3) := by decide +kernel
theorem d_M_warmer_71 : decode prog_10_method_68_code 71 = .ok (.iload_n 3, 1) := by decide +kernel
theorem d_M_warmer_72 : decode prog_10_method_68_code 72 = .ok (.ireturn, 1) := by decide +kernel
def w_M_warmer_20 (K : Int32 → sm_Mem → Prop) (p0 : Int32) (p1 : Int32) (μ : sm_Mem) : Prop := w_M_errs (fun r5 μ4 => K r5 μ4) (-1000000001) μ
def w_M_warmer (K : Int32 → sm_Mem → Prop) (p0 : Int32) (p1 : Int32) (μ : sm_Mem) : Prop := w_M_in (fun r2 μ1 => if r2 = 0 then w_M_warmer_20 K p0 p1 μ1 else (w_M_in (fun r7 μ6 => if r7 = 0 then w_M_warmer_20 K p0 p1 μ6 else (w_M_moveAll (fun μ9 => ∀ μ10 : sm_Mem, μ10 = sm_st μ9 61 15 p0 → w_M_passes (fun μ11 => ∀ μ12 : sm_Mem, μ12 = sm_st μ11 61 15 0 → w_M_snowOfAll (fun r14 μ13 => w_M_moveAll (fun μ15 => K r14 μ15) 64 62 μ13) μ12) p1 μ10) 62 64 μ6)) p1 0 60 μ1)) p0 0 9 μ
set_option maxHeartbeats 4000000 in
set_option maxRecDepth 100000 in
theorem P_M_warmer (l : Launch) {K : Int32 → sm_Mem → Prop} {p0 : Int32} {p1 : Int32} {μ : sm_Mem} (h : w_M_warmer K p0 p1 μ) : sm_MI l ⟨"SnowMoneyModel", "warmer", "(II)I"⟩ prog_10_method_68_code 4 (some .int) { frames := 61, cells := 0, slots := 0, locals := 2281 } [sm_R 61, sm_I p0, sm_I p1] μ K := by
  refine sm_ofI (by decide +kernel) (fun _ => Nat.le_of_ble_eq_true rfl) ?_
  intro p e s m args below meth c A Q G C hR
  have B20 : ∀ (μ : sm_Mem), w_M_warmer_20 K p0 p1 μ → sm_W p l e { frames := 61, cells := 0, slots := 0, locals := 2281 } s m args below meth c A Q G 4 0 0 20 [] [(0, sm_R 61)] μ := by
    intro μ h
    refine sr_aload_n C 0 rfl rfl d_M_warmer_20 ?_
    refine sr_ldc C q_441 d_M_warmer_21 ?_
    refine sr_callVI C [sm_I _] (P_M_errs l h) ok_97 sm_l61 rfl rfl rfl rfl ⟨Nat.le_of_ble_eq_true rfl, Nat.le_of_ble_eq_true rfl⟩ (Nat.le_of_ble_eq_true rfl) ⟨Nat.zero_le _, Nat.zero_le _⟩ d_M_warmer_23 (fun r5 μ4 h => ?_)
    exact hR _ _ _ _ d_M_warmer_26 rfl h
  refine sr_iload_n C 1 rfl rfl d_M_warmer_0 ?_
  refine sr_iconst C (v := 0) d_M_warmer_1 (by decide) ?_
  refine sr_bipush C (v := 9) d_M_warmer_2 (by decide) ?_
  refine sr_callSI C [sm_I _, sm_I _, sm_I _] (P_M_in l h) ok_96 rfl rfl rfl ⟨Nat.le_of_ble_eq_true rfl, Nat.le_of_ble_eq_true rfl⟩ (Nat.le_of_ble_eq_true rfl) ⟨Nat.zero_le _, Nat.zero_le _⟩ d_M_warmer_4 (fun r2 μ1 h => ?_)
  refine sr_if_eq C (tgt := 20) d_M_warmer_7 (by decide) (fun c3 => ?_) (fun c3 => ?_)
  · replace h := Eq.mp (if_pos c3) h
    refine sr_mask C [0] rfl ?_
    exact B20 _ h
  · replace h := Eq.mp (if_neg c3) h
    refine sr_iload_n C 2 rfl rfl d_M_warmer_10 ?_
    refine sr_iconst C (v := 0) d_M_warmer_11 (by decide) ?_
    refine sr_bipush C (v := 60) d_M_warmer_12 (by decide) ?_
    refine sr_callSI C [sm_I _, sm_I _, sm_I _] (P_M_in l h) ok_96 rfl rfl rfl ⟨Nat.le_of_ble_eq_true rfl, Nat.le_of_ble_eq_true rfl⟩ (Nat.le_of_ble_eq_true rfl) ⟨Nat.zero_le _, Nat.zero_le _⟩ d_M_warmer_14 (fun r7 μ6 h => ?_)
    refine sr_if_ne C (tgt := 27) d_M_warmer_17 (by decide) (fun c8 => ?_) (fun c8 => ?_)
    · replace h := Eq.mp (if_neg c8) h
      refine sr_aload_n C 0 rfl rfl d_M_warmer_27 ?_
      refine sr_aload_n C 0 rfl rfl d_M_warmer_28 ?_
      refine sr_getR C sm_F7 0 q_435 sm_l61 (r := 62) rfl (by decide) d_M_warmer_29 ?_
      refine sr_aload_n C 0 rfl rfl d_M_warmer_32 ?_
      refine sr_getR C sm_F7 2 q_582 sm_l61 (r := 64) rfl (by decide) d_M_warmer_33 ?_
      refine sr_callVV C [sm_R _, sm_R _] (P_M_moveAll l h) ok_123 sm_l61 rfl rfl rfl rfl ⟨Nat.le_of_ble_eq_true rfl, Nat.le_of_ble_eq_true rfl⟩ (Nat.le_of_ble_eq_true rfl) ⟨Nat.zero_le _, Nat.zero_le _⟩ d_M_warmer_36 (fun μ9 h => ?_)
      refine sr_aload_n C 0 rfl rfl d_M_warmer_39 ?_
      refine sr_iload_n C 1 rfl rfl d_M_warmer_40 ?_
      refine sr_putI C sm_F7 15 q_483 sm_l61 rfl rfl (by decide) rfl d_M_warmer_41 ?_
      replace h := h _ rfl
      refine sr_aload_n C 0 rfl rfl d_M_warmer_44 ?_
      refine sr_iload_n C 2 rfl rfl d_M_warmer_45 ?_
      refine sr_callVV C [sm_I _] (P_M_passes l h) ok_124 sm_l61 rfl rfl rfl rfl ⟨Nat.le_of_ble_eq_true rfl, Nat.le_of_ble_eq_true rfl⟩ (Nat.le_of_ble_eq_true rfl) ⟨Nat.zero_le _, Nat.zero_le _⟩ d_M_warmer_46 (fun μ11 h => ?_)
      refine sr_aload_n C 0 rfl rfl d_M_warmer_49 ?_
      refine sr_iconst C (v := 0) d_M_warmer_50 (by decide) ?_
      refine sr_putI C sm_F7 15 q_483 sm_l61 rfl rfl (by decide) rfl d_M_warmer_51 ?_
      replace h := h _ rfl
      refine sr_aload_n C 0 rfl rfl d_M_warmer_54 ?_
      refine sr_callVI C [] (P_M_snowOfAll l h) ok_125 sm_l61 rfl rfl rfl rfl ⟨Nat.le_of_ble_eq_true rfl, Nat.le_of_ble_eq_true rfl⟩ (Nat.le_of_ble_eq_true rfl) ⟨Nat.zero_le _, Nat.zero_le _⟩ d_M_warmer_55 (fun r14 μ13 h => ?_)
      refine sr_istore_n C rfl (by decide) d_M_warmer_58 ?_
      refine sr_aload_n C 1 rfl rfl d_M_warmer_59 ?_
      refine sr_aload_n C 1 rfl rfl d_M_warmer_60 ?_
      refine sr_getR C sm_F7 2 q_582 sm_l61 (r := 64) rfl (by decide) d_M_warmer_61 ?_
      refine sr_aload_n C 1 rfl rfl d_M_warmer_64 ?_
      refine sr_getR C sm_F7 0 q_435 sm_l61 (r := 62) rfl (by decide) d_M_warmer_65 ?_
      refine sr_callVV C [sm_R _, sm_R _] (P_M_moveAll l h) ok_123 sm_l61 rfl rfl rfl rfl ⟨Nat.le_of_ble_eq_true rfl, Nat.le_of_ble_eq_true rfl⟩ (Nat.le_of_ble_eq_true rfl) ⟨Nat.zero_le _, Nat.zero_le _⟩ d_M_warmer_68 (fun μ15 h => ?_)
      refine sr_iload_n C 0 rfl rfl d_M_warmer_71 ?_
      exact hR _ _ _ _ d_M_warmer_72 rfl h
    · replace h := Eq.mp (if_pos c8) h
      refine sr_mask C [0] rfl ?_
      exact B20 _ h
theorem d_M_divisor_0 : decode prog_10_method_69_code 0 = .ok (.iload_n 0, 1) := by decide +kernel
theorem d_M_divisor_1 : decode prog_10_method_69_code 1 = .ok (.istore_n 2, 1) := by decide +kernel
theorem d_M_divisor_2 : decode prog_10_method_69_code 2 = .ok (.iload_n 1, 1) := by decide +kernel
theorem d_M_divisor_3 : decode prog_10_method_69_code 3 = .ok (.istore_n 3, 1) := by decide +kernel
theorem d_M_divisor_4 : decode prog_10_method_69_code 4 = .ok (.iload_n 3, 1) := by decide +kernel
theorem d_M_divisor_5 : decode prog_10_method_69_code 5 = .ok (.ifCond .eq 16, 3) := by decide +kernel
theorem d_M_divisor_8 : decode prog_10_method_69_code 8 = .ok (.iload_n 2, 1) := by decide +kernel
theorem d_M_divisor_9 : decode prog_10_method_69_code 9 = .ok (.iload_n 3, 1) := by decide +kernel
theorem d_M_divisor_10 : decode prog_10_method_69_code 10 = .ok (.irem, 1) := by decide +kernel
theorem d_M_divisor_11 : decode prog_10_method_69_code 11 = .ok (.istore 4, 2) := by decide +kernel
theorem d_M_divisor_13 : decode prog_10_method_69_code 13 = .ok (.iload_n 3, 1) := by decide +kernel
theorem d_M_divisor_14 : decode prog_10_method_69_code 14 = .ok (.istore_n 2, 1) := by decide +kernel
theorem d_M_divisor_15 : decode prog_10_method_69_code 15 = .ok (.iload 4, 2) := by decide +kernel
theorem d_M_divisor_17 : decode prog_10_method_69_code 17 = .ok (.istore_n 3, 1) := by decide +kernel
theorem d_M_divisor_18 : decode prog_10_method_69_code 18 = .ok (.goto (-14), 3) := by decide +kernel
theorem d_M_divisor_21 : decode prog_10_method_69_code 21 = .ok (.iload_n 2, 1) := by decide +kernel
theorem d_M_divisor_22 : decode prog_10_method_69_code 22 = .ok (.ireturn, 1) := by decide +kernel
def w_M_divisor_4 (K : Int32 → sm_Mem → Prop) (p0 : Int32) (p1 : Int32) (x2 : Int32) (x3 : Int32) (μ : sm_Mem) : Prop := sm_lp2 (fun J4 x2 x3 μ => if x3 = 0 then K x2 μ else ((¬ x3 = 0) ∧ ∀ v3 : Int32, v3 = (x2 % x3) → J4 x3 v3 μ)) x2 x3 μ
def w_M_divisor (K : Int32 → sm_Mem → Prop) (p0 : Int32) (p1 : Int32) (μ : sm_Mem) : Prop := w_M_divisor_4 K p0 p1 p0 p1 μ
set_option maxHeartbeats 4000000 in
set_option maxRecDepth 100000 in
theorem P_M_divisor (l : Launch) {K : Int32 → sm_Mem → Prop} {p0 : Int32} {p1 : Int32} {μ : sm_Mem} (h : w_M_divisor K p0 p1 μ) : sm_MI l ⟨"SnowMoneyModel", "divisor", "(II)I"⟩ prog_10_method_69_code 5 (some .int) { frames := 0, cells := 0, slots := 0, locals := 0 } [sm_I p0, sm_I p1] μ K := by
  refine sm_ofI (by decide +kernel) (fun _ => Nat.le_of_ble_eq_true rfl) ?_
  intro p e s m args below meth c A Q G C hR
  have B4 : ∀ (x2 : Int32) (x3 : Int32) (μ : sm_Mem), w_M_divisor_4 K p0 p1 x2 x3 μ → sm_W p l e { frames := 0, cells := 0, slots := 0, locals := 0 } s m args below meth c A Q G 5 0 0 4 [] [(2, sm_I x2), (3, sm_I x3)] μ := by
    intro x2 x3 μ h
    refine sm_lp2_sound (P := fun x2 x3 μ => sm_W p l e { frames := 0, cells := 0, slots := 0, locals := 0 } s m args below meth c A Q G 5 0 0 4 [] [(2, sm_I x2), (3, sm_I x3)] μ) (fun J4 x2 x3 μ hJ4 h => ?_) h
    refine sr_iload_n C 1 rfl rfl d_M_divisor_4 ?_
    refine sr_if_eq C (tgt := 21) d_M_divisor_5 (by decide) (fun c1 => ?_) (fun c1 => ?_)
    · replace h := Eq.mp (if_pos c1) h
      refine sr_iload_n C 0 rfl rfl d_M_divisor_21 ?_
      exact hR _ _ _ _ d_M_divisor_22 rfl h
    · replace h := Eq.mp (if_neg c1) h
      refine sr_iload_n C 0 rfl rfl d_M_divisor_8 ?_
      refine sr_iload_n C 1 rfl rfl d_M_divisor_9 ?_
      obtain ⟨g2, h⟩ := h
      refine sr_irem C g2 d_M_divisor_10 ?_
      replace h := h _ rfl
      refine sr_istore C (by decide) d_M_divisor_11 ?_
      refine sr_iload_n C 2 rfl rfl d_M_divisor_13 ?_
      refine sr_istore_n C rfl (by decide) d_M_divisor_14 ?_
      refine sr_iload C 1 rfl d_M_divisor_15 ?_
      refine sr_istore_n C rfl (by decide) d_M_divisor_17 ?_
      refine sr_goto C (tgt := 4) (by decide) d_M_divisor_18 ?_
      refine sr_mask C [1, 0] rfl ?_
      exact hJ4 _ _ _ h
  refine sr_iload_n C 0 rfl rfl d_M_divisor_0 ?_
  refine sr_istore_n C rfl (by decide) d_M_divisor_1 ?_
  refine sr_iload_n C 2 rfl rfl d_M_divisor_2 ?_
  refine sr_istore_n C rfl (by decide) d_M_divisor_3 ?_
  refine sr_mask C [1, 0] rfl ?_
  exact B4 _ _ _ h
theorem d_M_odds_0 : decode prog_10_method_70_code 0 = .ok (.aload_n 0, 1) := by decide +kernel
theorem d_M_odds_1 : decode prog_10_method_70_code 1 = .ok (.iload_n 1, 1) := by decide +kernel
theorem d_M_odds_2 : decode prog_10_method_70_code 2 = .ok (.invokevirtual 75, 3) := by decide +kernel
theorem d_M_odds_5 : decode prog_10_method_70_code 5 = .ok (.ifCond .eq 22, 3) := by decide +kernel
theorem d_M_odds_8 : decode prog_10_method_70_code 8 = .ok (.iload_n 2, 1) := by decide +kernel
theorem d_M_odds_9 : decode prog_10_method_70_code 9 = .ok (.iconst 0, 1) := by decide +kernel
theorem d_M_odds_10 : decode prog_10_method_70_code 10 = .ok (.bipush 60, 2) := by decide +kernel
theorem d_M_odds_12 : decode prog_10_method_70_code 12 = .ok (.invokestatic 44, 3) := by decide +kernel
theorem d_M_odds_15 : decode prog_10_method_70_code 15 = .ok (.ifCond .eq 12, 3) := by decide +kernel
theorem d_M_odds_18 : decode prog_10_method_70_code 18 = .ok (.iload_n 3, 1) := by decide +kernel
theorem d_M_odds_19 : decode prog_10_method_70_code 19 = .ok (.iconst 0, 1) := by decide +kernel
theorem d_M_odds_20 : decode prog_10_method_70_code 20 = .ok (.iconst 1, 1) := by decide +kernel
theorem d_M_odds_21 : decode prog_10_method_70_code 21 = .ok (.invokestatic 44, 3) := by decide +kernel
theorem d_M_odds_24 : decode prog_10_method_70_code 24 = .ok (.ifCond .ne 10, 3) := by decide +kernel
theorem d_M_odds_27 : decode prog_10_method_70_code 27 = .ok (.aload_n 0, 1) := by decide +kernel
theorem d_M_odds_28 : decode prog_10_method_70_code 28 = .ok (.ldc 48, 2) := by decide +kernel
theorem d_M_odds_30 : decode prog_10_method_70_code 30 = .ok (.invokevirtual 49, 3) := by decide +kernel
theorem d_M_odds_33 : decode prog_10_method_70_code 33 = .ok (.ireturn, 1) := by decide +kernel
theorem d_M_odds_34 : decode prog_10_method_70_code 34 = .ok (.iconst 0, 1) := by decide +kernel
theorem d_M_odds_35 : decode prog_10_method_70_code 35 = .ok (.istore 4, 2) := by decide +kernel
theorem d_M_odds_37 : decode prog_10_method_70_code 37 = .ok (.aload_n 0, 1) := by decide +kernel
theorem d_M_odds_38 : decode prog_10_method_70_code 38 = .ok (.aload_n 0, 1) := by decide +kernel
theorem d_M_odds_39 : decode prog_10_method_70_code 39 = .ok (.getfield 7, 3) := by decide +kernel
theorem d_M_odds_42 : decode prog_10_method_70_code 42 = .ok (.aload_n 0, 1) := by decide +kernel
theorem d_M_odds_43 : decode prog_10_method_70_code 43 = .ok (.getfield 16, 3) := by decide +kernel
theorem d_M_odds_46 : decode prog_10_method_70_code 46 = .ok (.invokevirtual 161, 3) := by decide +kernel
theorem d_M_odds_49 : decode prog_10_method_70_code 49 = .ok (.iconst 0, 1) := by decide +kernel
theorem d_M_odds_50 : decode prog_10_method_70_code 50 = .ok (.istore 5, 2) := by decide +kernel
theorem d_M_odds_52 : decode prog_10_method_70_code 52 = .ok (.iload 5, 2) := by decide +kernel
theorem d_M_odds_54 : decode prog_10_method_70_code 54 = .ok (.bipush 9, 2) := by decide +kernel
theorem d_M_odds_56 : decode prog_10_method_70_code 56 = .ok (.if_icmp .gt 54, 3) := by decide +kernel
theorem d_M_odds_59 : decode prog_10_method_70_code 59 = .ok (.aload_n 0, 1) := by decide +kernel
theorem d_M_odds_60 : decode prog_10_method_70_code 60 = .ok (.getfield 7, 3) := by decide +kernel
theorem d_M_odds_63 : decode prog_10_method_70_code 63 = .ok (.bipush 8, 2) := by decide +kernel
theorem d_M_odds_65 : decode prog_10_method_70_code 65 = .ok (.iload 5, 2) := by decide +kernel
theorem d_M_odds_67 : decode prog_10_method_70_code 67 = .ok (.iastore, 1) := by decide +kernel
theorem d_M_odds_68 : decode prog_10_method_70_code 68 = .ok (.aload_n 0, 1) := by decide +kernel
theorem d_M_odds_69 : decode prog_10_method_70_code 69 = .ok (.iload_n 2, 1) := by decide +kernel
theorem d_M_odds_70 : decode prog_10_method_70_code 70 = .ok (.invokevirtual 179, 3) := by decide +kernel
theorem d_M_odds_73 : decode prog_10_method_70_code 73 = .ok (.iload 4, 2) := by decide +kernel
theorem d_M_odds_75 : decode prog_10_method_70_code 75 = .ok (.aload_n 0, 1) := by decide +kernel
theorem d_M_odds_76 : decode prog_10_method_70_code 76 = .ok (.iload_n 1, 1) := by decide +kernel
theorem d_M_odds_77 : decode prog_10_method_70_code 77 = .ok (.iconst 2, 1) := by decide +kernel
theorem d_M_odds_78 : decode prog_10_method_70_code 78 = .ok (.invokevirtual 62, 3) := by decide +kernel
theorem d_M_odds_81 : decode prog_10_method_70_code 81 = .ok (.ifCond .le 7, 3) := by decide +kernel
theorem d_M_odds_84 : decode prog_10_method_70_code 84 = .ok (.iconst 1, 1) := by decide +kernel
theorem d_M_odds_85 : decode prog_10_method_70_code 85 = .ok (.goto 4, 3) := by decide +kernel
theorem d_M_odds_88 : decode prog_10_method_70_code 88 = .ok (.iconst 0, 1) := by decide +kernel
theorem d_M_odds_89 : decode prog_10_method_70_code 89 = .ok (.iadd, 1) := by decide +kernel
theorem d_M_odds_90 : decode prog_10_method_70_code 90 = .ok (.istore 4, 2) := by decide +kernel
theorem d_M_odds_92 : decode prog_10_method_70_code 92 = .ok (.aload_n 0, 1) := by decide +kernel
theorem d_M_odds_93 : decode prog_10_method_70_code 93 = .ok (.aload_n 0, 1) := by decide +kernel
theorem d_M_odds_94 : decode prog_10_method_70_code 94 = .ok (.getfield 16, 3) := by decide +kernel
theorem d_M_odds_97 : decode prog_10_method_70_code 97 = .ok (.aload_n 0, 1) := by decide +kernel
theorem d_M_odds_98 : decode prog_10_method_70_code 98 = .ok (.getfield 7, 3) := by decide +kernel
theorem d_M_odds_101 : decode prog_10_method_70_code 101 = .ok (.invokevirtual 161, 3) := by decide +kernel
theorem d_M_odds_104 : decode prog_10_method_70_code 104 = .ok (.iinc 5 1, 3) := by decide +kernel
theorem d_M_odds_107 : decode prog_10_method_70_code 107 = .ok (.goto (-55), 3) := by decide +kernel
theorem d_M_odds_110 : decode prog_10_method_70_code 110 = .ok (.iload 4, 2) := by decide +kernel
theorem d_M_odds_112 : decode prog_10_method_70_code 112 = .ok (.bipush 10, 2) := by decide +kernel
theorem d_M_odds_114 : decode prog_10_method_70_code 114 = .ok (.invokestatic 222, 3) := by decide +kernel
theorem d_M_odds_117 : decode prog_10_method_70_code 117 = .ok (.istore 5, 2) := by decide +kernel
theorem d_M_odds_119 : decode prog_10_method_70_code 119 = .ok (.iload_n 3, 1) := by decide +kernel
theorem d_M_odds_120 : decode prog_10_method_70_code 120 = .ok (.ifCond .ne 11, 3) := by decide +kernel
theorem d_M_odds_123 : decode prog_10_method_70_code 123 = .ok (.iload 4, 2) := by decide +kernel
theorem d_M_odds_125 : decode prog_10_method_70_code 125 = .ok (.iload 5, 2) := by decide +kernel
theorem d_M_odds_127 : decode prog_10_method_70_code 127 = .ok (.idiv, 1) := by decide +kernel
theorem d_M_odds_128 : decode prog_10_method_70_code 128 = .ok (.goto 8, 3) := by decide +kernel
theorem d_M_odds_131 : decode prog_10_method_70_code 131 = .ok (.bipush 10, 2) := by decide +kernel
theorem d_M_odds_133 : decode prog_10_method_70_code 133 = .ok (.iload 5, 2) := by decide +kernel
theorem d_M_odds_135 : decode prog_10_method_70_code 135 = .ok (.idiv, 1) := by decide +kernel
theorem d_M_odds_136 : decode prog_10_method_70_code 136 = .ok (.ireturn, 1) := by decide +kernel
def w_M_odds_27 (K : Int32 → sm_Mem → Prop) (p0 : Int32) (p1 : Int32) (p2 : Int32) (μ : sm_Mem) : Prop := w_M_errs (fun r5 μ4 => K r5 μ4) (-1000000001) μ
def w_M_odds_89 (K : Int32 → sm_Mem → Prop) (J52 : Int32 → Int32 → sm_Mem → Prop) (p0 : Int32) (p1 : Int32) (p2 : Int32) (x5 : Int32) (s0 : Int32) (s1 : Int32) (μ : sm_Mem) : Prop := ∀ v24 : Int32, v24 = (s1 + s0) → w_M_moveAll (fun μ25 => J52 v24 (x5 + 1) μ25) 64 62 μ
def w_M_odds_52 (K : Int32 → sm_Mem → Prop) (p0 : Int32) (p1 : Int32) (p2 : Int32) (x4 : Int32) (x5 : Int32) (μ : sm_Mem) : Prop := sm_lp2 (fun J52 x4 x5 μ => if 9 < x5 then (w_M_divisor (fun r15 μ14 => if p2 = 0 then ((¬ r15 = 0) ∧ K (x4 / r15) μ14) else ((¬ r15 = 0) ∧ K (10 / r15) μ14)) x4 10 μ) else (∀ μ19 : sm_Mem, μ19 = sm_st μ 62 8 x5 → w_M_passes (fun μ20 => w_M_its (fun r22 μ21 => if r22 ≤ 0 then w_M_odds_89 K J52 p0 p1 p2 x5 0 x4 μ21 else w_M_odds_89 K J52 p0 p1 p2 x5 1 x4 μ21) p0 2 μ20) p1 μ19)) x4 x5 μ
def w_M_odds (K : Int32 → sm_Mem → Prop) (p0 : Int32) (p1 : Int32) (p2 : Int32) (μ : sm_Mem) : Prop := w_M_isNote (fun r2 μ1 => if r2 = 0 then w_M_odds_27 K p0 p1 p2 μ1 else w_M_in (fun r7 μ6 => if r7 = 0 then w_M_odds_27 K p0 p1 p2 μ6 else w_M_in (fun r10 μ9 => if r10 = 0 then w_M_odds_27 K p0 p1 p2 μ9 else w_M_moveAll (fun μ12 => w_M_odds_52 K p0 p1 p2 0 0 μ12) 62 64 μ9) p2 0 1 μ6) p1 0 60 μ1) p0 μ
set_option maxHeartbeats 4000000 in
set_option maxRecDepth 100000 in
theorem P_M_odds (l : Launch) {K : Int32 → sm_Mem → Prop} {p0 : Int32} {p1 : Int32} {p2 : Int32} {μ : sm_Mem} (h : w_M_odds K p0 p1 p2 μ) : sm_MI l ⟨"SnowMoneyModel", "odds", "(III)I"⟩ prog_10_method_70_code 6 (some .int) { frames := 61, cells := 0, slots := 0, locals := 2281 } [sm_R 61, sm_I p0, sm_I p1, sm_I p2] μ K := by
  refine sm_ofI (by decide +kernel) (fun _ => Nat.le_of_ble_eq_true rfl) ?_
  intro p e s m args below meth c A Q G C hR
  have B27 : ∀ (μ : sm_Mem), w_M_odds_27 K p0 p1 p2 μ → sm_W p l e { frames := 61, cells := 0, slots := 0, locals := 2281 } s m args below meth c A Q G 6 0 0 27 [] [(0, sm_R 61)] μ := by
    intro μ h
    refine sr_aload_n C 0 rfl rfl d_M_odds_27 ?_
    refine sr_ldc C q_441 d_M_odds_28 ?_
    refine sr_callVI C [sm_I _] (P_M_errs l h) ok_97 sm_l61 rfl rfl rfl rfl ⟨Nat.le_of_ble_eq_true rfl, Nat.le_of_ble_eq_true rfl⟩ (Nat.le_of_ble_eq_true rfl) ⟨Nat.zero_le _, Nat.zero_le _⟩ d_M_odds_30 (fun r5 μ4 h => ?_)
    exact hR _ _ _ _ d_M_odds_33 rfl h
  have B89 : ∀ (x5 : Int32) (s0 : Int32) (s1 : Int32) (J52 : Int32 → Int32 → sm_Mem → Prop) (hJ52 : ∀ (x4 : Int32) (x5 : Int32) (μ : sm_Mem), J52 x4 x5 μ → sm_W p l e { frames := 61, cells := 0, slots := 0, locals := 2281 } s m args below meth c A Q G 6 0 0 52 [] [(0, sm_R 61), (1, sm_I p0), (2, sm_I p1), (3, sm_I p2), (4, sm_I x4), (5, sm_I x5)] μ) (μ : sm_Mem), w_M_odds_89 K J52 p0 p1 p2 x5 s0 s1 μ → sm_W p l e { frames := 61, cells := 0, slots := 0, locals := 2281 } s m args below meth c A Q G 6 0 0 89 [sm_I s0, sm_I s1] [(0, sm_R 61), (1, sm_I p0), (2, sm_I p1), (3, sm_I p2), (5, sm_I x5)] μ := by
    intro x5 s0 s1 J52 hJ52 μ h
    refine sr_iadd C d_M_odds_89 ?_
    replace h := h _ rfl
    refine sr_istore C (by decide) d_M_odds_90 ?_
    refine sr_aload_n C 1 rfl rfl d_M_odds_92 ?_
    refine sr_aload_n C 1 rfl rfl d_M_odds_93 ?_
    refine sr_getR C sm_F7 2 q_582 sm_l61 (r := 64) rfl (by decide) d_M_odds_94 ?_
    refine sr_aload_n C 1 rfl rfl d_M_odds_97 ?_
    refine sr_getR C sm_F7 0 q_435 sm_l61 (r := 62) rfl (by decide) d_M_odds_98 ?_
    refine sr_callVV C [sm_R _, sm_R _] (P_M_moveAll l h) ok_123 sm_l61 rfl rfl rfl rfl ⟨Nat.le_of_ble_eq_true rfl, Nat.le_of_ble_eq_true rfl⟩ (Nat.le_of_ble_eq_true rfl) ⟨Nat.zero_le _, Nat.zero_le _⟩ d_M_odds_101 (fun μ25 h => ?_)
    refine sr_iinc C 5 rfl (by decide) d_M_odds_104 rfl ?_
    refine sr_goto C (tgt := 52) (by decide) d_M_odds_107 ?_
    refine sr_mask C [2, 3, 4, 5, 1, 0] rfl ?_
    exact hJ52 _ _ _ h
  have B52 : ∀ (x4 : Int32) (x5 : Int32) (μ : sm_Mem), w_M_odds_52 K p0 p1 p2 x4 x5 μ → sm_W p l e { frames := 61, cells := 0, slots := 0, locals := 2281 } s m args below meth c A Q G 6 0 0 52 [] [(0, sm_R 61), (1, sm_I p0), (2, sm_I p1), (3, sm_I p2), (4, sm_I x4), (5, sm_I x5)] μ := by
    intro x4 x5 μ h
    refine sm_lp2_sound (P := fun x4 x5 μ => sm_W p l e { frames := 61, cells := 0, slots := 0, locals := 2281 } s m args below meth c A Q G 6 0 0 52 [] [(0, sm_R 61), (1, sm_I p0), (2, sm_I p1), (3, sm_I p2), (4, sm_I x4), (5, sm_I x5)] μ) (fun J52 x4 x5 μ hJ52 h => ?_) h
    refine sr_iload C 5 rfl d_M_odds_52 ?_
    refine sr_bipush C (v := 9) d_M_odds_54 (by decide) ?_
    refine sr_icmp_gt C (tgt := 110) d_M_odds_56 (by decide) (fun c13 => ?_) (fun c13 => ?_)
    · replace h := Eq.mp (if_pos c13) h
      refine sr_iload C 4 rfl d_M_odds_110 ?_
      refine sr_bipush C (v := 10) d_M_odds_112 (by decide) ?_
      refine sr_callSI C [sm_I _, sm_I _] (P_M_divisor l h) ok_137 rfl rfl rfl ⟨Nat.le_of_ble_eq_true rfl, Nat.le_of_ble_eq_true rfl⟩ (Nat.le_of_ble_eq_true rfl) ⟨Nat.zero_le _, Nat.zero_le _⟩ d_M_odds_114 (fun r15 μ14 h => ?_)
      refine sr_istore C (by decide) d_M_odds_117 ?_
      refine sr_iload_n C 4 rfl rfl d_M_odds_119 ?_
      refine sr_if_ne C (tgt := 131) d_M_odds_120 (by decide) (fun c16 => ?_) (fun c16 => ?_)
      · replace h := Eq.mp (if_neg c16) h
        refine sr_bipush C (v := 10) d_M_odds_131 (by decide) ?_
        refine sr_iload C 0 rfl d_M_odds_133 ?_
        obtain ⟨g17, h⟩ := h
        refine sr_idiv C g17 d_M_odds_135 ?_
        exact hR _ _ _ _ d_M_odds_136 rfl h
      · replace h := Eq.mp (if_pos c16) h
        refine sr_iload C 5 rfl d_M_odds_123 ?_
        refine sr_iload C 0 rfl d_M_odds_125 ?_
        obtain ⟨g18, h⟩ := h
        refine sr_idiv C g18 d_M_odds_127 ?_
        refine sr_goto C (tgt := 136) (by decide) d_M_odds_128 ?_
        exact hR _ _ _ _ d_M_odds_136 rfl h
    · replace h := Eq.mp (if_neg c13) h
      refine sr_aload_n C 0 rfl rfl d_M_odds_59 ?_
      refine sr_getR C sm_F7 0 q_435 sm_l61 (r := 62) rfl (by decide) d_M_odds_60 ?_
      refine sr_bipush C (v := 8) d_M_odds_63 (by decide) ?_
      refine sr_iload C 5 rfl d_M_odds_65 ?_
      refine sr_iastJ C sm_l62 (j := 8) (sm_vin (by decide)) (by decide) d_M_odds_67 ?_
      replace h := h _ rfl
      refine sr_aload_n C 0 rfl rfl d_M_odds_68 ?_
      refine sr_iload_n C 2 rfl rfl d_M_odds_69 ?_
      refine sr_callVV C [sm_I _] (P_M_passes l h) ok_124 sm_l61 rfl rfl rfl rfl ⟨Nat.le_of_ble_eq_true rfl, Nat.le_of_ble_eq_true rfl⟩ (Nat.le_of_ble_eq_true rfl) ⟨Nat.zero_le _, Nat.zero_le _⟩ d_M_odds_70 (fun μ20 h => ?_)
      refine sr_iload C 4 rfl d_M_odds_73 ?_
      refine sr_aload_n C 0 rfl rfl d_M_odds_75 ?_
      refine sr_iload_n C 1 rfl rfl d_M_odds_76 ?_
      refine sr_iconst C (v := 2) d_M_odds_77 (by decide) ?_
      refine sr_callVI C [sm_I _, sm_I _] (P_M_its l h) ok_101 sm_l61 rfl rfl rfl rfl ⟨Nat.le_of_ble_eq_true rfl, Nat.le_of_ble_eq_true rfl⟩ (Nat.le_of_ble_eq_true rfl) ⟨Nat.zero_le _, Nat.zero_le _⟩ d_M_odds_78 (fun r22 μ21 h => ?_)
      refine sr_if_le C (tgt := 88) d_M_odds_81 (by decide) (fun c23 => ?_) (fun c23 => ?_)
      · replace h := Eq.mp (if_pos c23) h
        refine sr_iconst C (v := 0) d_M_odds_88 (by decide) ?_
        refine sr_mask C [0, 1, 2, 3, 5] rfl ?_
        exact B89 _ _ _ _ hJ52 _ h
      · replace h := Eq.mp (if_neg c23) h
        refine sr_iconst C (v := 1) d_M_odds_84 (by decide) ?_
        refine sr_goto C (tgt := 89) (by decide) d_M_odds_85 ?_
        refine sr_mask C [0, 1, 2, 3, 5] rfl ?_
        exact B89 _ _ _ _ hJ52 _ h
  refine sr_aload_n C 0 rfl rfl d_M_odds_0 ?_
  refine sr_iload_n C 1 rfl rfl d_M_odds_1 ?_
  refine sr_callVI C [sm_I _] (P_M_isNote l h) ok_104 sm_l61 rfl rfl rfl rfl ⟨Nat.le_of_ble_eq_true rfl, Nat.le_of_ble_eq_true rfl⟩ (Nat.le_of_ble_eq_true rfl) ⟨Nat.zero_le _, Nat.zero_le _⟩ d_M_odds_2 (fun r2 μ1 h => ?_)
  refine sr_if_eq C (tgt := 27) d_M_odds_5 (by decide) (fun c3 => ?_) (fun c3 => ?_)
  · replace h := Eq.mp (if_pos c3) h
    refine sr_mask C [0] rfl ?_
    exact B27 _ h
  · replace h := Eq.mp (if_neg c3) h
    refine sr_iload_n C 2 rfl rfl d_M_odds_8 ?_
    refine sr_iconst C (v := 0) d_M_odds_9 (by decide) ?_
    refine sr_bipush C (v := 60) d_M_odds_10 (by decide) ?_
    refine sr_callSI C [sm_I _, sm_I _, sm_I _] (P_M_in l h) ok_96 rfl rfl rfl ⟨Nat.le_of_ble_eq_true rfl, Nat.le_of_ble_eq_true rfl⟩ (Nat.le_of_ble_eq_true rfl) ⟨Nat.zero_le _, Nat.zero_le _⟩ d_M_odds_12 (fun r7 μ6 h => ?_)
    refine sr_if_eq C (tgt := 27) d_M_odds_15 (by decide) (fun c8 => ?_) (fun c8 => ?_)
    · replace h := Eq.mp (if_pos c8) h
      refine sr_mask C [0] rfl ?_
      exact B27 _ h
    · replace h := Eq.mp (if_neg c8) h
      refine sr_iload_n C 3 rfl rfl d_M_odds_18 ?_
      refine sr_iconst C (v := 0) d_M_odds_19 (by decide) ?_
      refine sr_iconst C (v := 1) d_M_odds_20 (by decide) ?_
      refine sr_callSI C [sm_I _, sm_I _, sm_I _] (P_M_in l h) ok_96 rfl rfl rfl ⟨Nat.le_of_ble_eq_true rfl, Nat.le_of_ble_eq_true rfl⟩ (Nat.le_of_ble_eq_true rfl) ⟨Nat.zero_le _, Nat.zero_le _⟩ d_M_odds_21 (fun r10 μ9 h => ?_)
      refine sr_if_ne C (tgt := 34) d_M_odds_24 (by decide) (fun c11 => ?_) (fun c11 => ?_)
      · replace h := Eq.mp (if_neg c11) h
        refine sr_iconst C (v := 0) d_M_odds_34 (by decide) ?_
        refine sr_istore C (by decide) d_M_odds_35 ?_
        refine sr_aload_n C 1 rfl rfl d_M_odds_37 ?_
        refine sr_aload_n C 1 rfl rfl d_M_odds_38 ?_
        refine sr_getR C sm_F7 0 q_435 sm_l61 (r := 62) rfl (by decide) d_M_odds_39 ?_
        refine sr_aload_n C 1 rfl rfl d_M_odds_42 ?_
        refine sr_getR C sm_F7 2 q_582 sm_l61 (r := 64) rfl (by decide) d_M_odds_43 ?_
        refine sr_callVV C [sm_R _, sm_R _] (P_M_moveAll l h) ok_123 sm_l61 rfl rfl rfl rfl ⟨Nat.le_of_ble_eq_true rfl, Nat.le_of_ble_eq_true rfl⟩ (Nat.le_of_ble_eq_true rfl) ⟨Nat.zero_le _, Nat.zero_le _⟩ d_M_odds_46 (fun μ12 h => ?_)
        refine sr_iconst C (v := 0) d_M_odds_49 (by decide) ?_
        refine sr_istore C (by decide) d_M_odds_50 ?_
        refine sr_mask C [2, 3, 4, 5, 1, 0] rfl ?_
        exact B52 _ _ _ h
      · replace h := Eq.mp (if_pos c11) h
        refine sr_mask C [0] rfl ?_
        exact B27 _ h
theorem d_M_seed_0 : decode prog_10_method_71_code 0 = .ok (.aload_n 0, 1) := by decide +kernel
theorem d_M_seed_1 : decode prog_10_method_71_code 1 = .ok (.getfield 7, 3) := by decide +kernel
theorem d_M_seed_4 : decode prog_10_method_71_code 4 = .ok (.iconst 1, 1) := by decide +kernel
theorem d_M_seed_5 : decode prog_10_method_71_code 5 = .ok (.iaload, 1) := by decide +kernel
theorem d_M_seed_6 : decode prog_10_method_71_code 6 = .ok (.istore_n 2, 1) := by decide +kernel
theorem d_M_seed_7 : decode prog_10_method_71_code 7 = .ok (.aload_n 0, 1) := by decide +kernel
theorem d_M_seed_8 : decode prog_10_method_71_code 8 = .ok (.getfield 7, 3) := by decide +kernel
theorem d_M_seed_11 : decode prog_10_method_71_code 11 = .ok (.iconst 1, 1) := by decide +kernel
theorem d_M_seed_12 : decode prog_10_method_71_code 12 = .ok (.iload_n 1, 1) := by decide +kernel
theorem d_M_seed_13 : decode prog_10_method_71_code 13 = .ok (.iastore, 1) := by decide +kernel
theorem d_M_seed_14 : decode prog_10_method_71_code 14 = .ok (.iload_n 2, 1) := by decide +kernel
theorem d_M_seed_15 : decode prog_10_method_71_code 15 = .ok (.ireturn, 1) := by decide +kernel
def w_M_seed (K : Int32 → sm_Mem → Prop) (p0 : Int32) (μ : sm_Mem) : Prop := ∀ v1 : Int32, v1 = (μ 62 1) → ∀ μ2 : sm_Mem, μ2 = sm_st μ 62 1 p0 → K v1 μ2
set_option maxHeartbeats 4000000 in
set_option maxRecDepth 100000 in
theorem P_M_seed (l : Launch) {K : Int32 → sm_Mem → Prop} {p0 : Int32} {μ : sm_Mem} (h : w_M_seed K p0 μ) : sm_MI l ⟨"SnowMoneyModel", "seed", "(I)I"⟩ prog_10_method_71_code 3 (some .int) { frames := 0, cells := 0, slots := 0, locals := 0 } [sm_R 61, sm_I p0] μ K := by
  refine sm_ofI (by decide +kernel) (fun _ => Nat.le_of_ble_eq_true rfl) ?_
  intro p e s m args below meth c A Q G C hR
  refine sr_aload_n C 0 rfl rfl d_M_seed_0 ?_
  refine sr_getR C sm_F7 0 q_435 sm_l61 (r := 62) rfl (by decide) d_M_seed_1 ?_
  refine sr_iconst C (v := 1) d_M_seed_4 (by decide) ?_
  refine sr_ialdJ C sm_l62 (j := 1) (sm_vin (by decide)) (by decide) d_M_seed_5 ?_
  replace h := h _ rfl
  refine sr_istore_n C rfl (by decide) d_M_seed_6 ?_
  refine sr_aload_n C 1 rfl rfl d_M_seed_7 ?_
  refine sr_getR C sm_F7 0 q_435 sm_l61 (r := 62) rfl (by decide) d_M_seed_8 ?_
  refine sr_iconst C (v := 1) d_M_seed_11 (by decide) ?_
  refine sr_iload_n C 2 rfl rfl d_M_seed_12 ?_
  refine sr_iastJ C sm_l62 (j := 1) (sm_vin (by decide)) (by decide) d_M_seed_13 ?_
  replace h := h _ rfl
  refine sr_iload_n C 0 rfl rfl d_M_seed_14 ?_
  exact hR _ _ _ _ d_M_seed_15 rfl h
theorem d_M_ran_0 : decode prog_10_method_72_code 0 = .ok (.aload_n 0, 1) := by decide +kernel
theorem d_M_ran_1 : decode prog_10_method_72_code 1 = .ok (.getfield 225, 3) := by decide +kernel
theorem d_M_ran_4 : decode prog_10_method_72_code 4 = .ok (.bipush 40, 2) := by decide +kernel
theorem d_M_ran_6 : decode prog_10_method_72_code 6 = .ok (.if_icmp .ge 23, 3) := by decide +kernel
theorem d_M_ran_9 : decode prog_10_method_72_code 9 = .ok (.aload_n 0, 1) := by decide +kernel
theorem d_M_ran_10 : decode prog_10_method_72_code 10 = .ok (.getfield 40, 3) := by decide +kernel
theorem d_M_ran_13 : decode prog_10_method_72_code 13 = .ok (.aload_n 0, 1) := by decide +kernel
theorem d_M_ran_14 : decode prog_10_method_72_code 14 = .ok (.getfield 225, 3) := by decide +kernel
theorem d_M_ran_17 : decode prog_10_method_72_code 17 = .ok (.iload_n 1, 1) := by decide +kernel
theorem d_M_ran_18 : decode prog_10_method_72_code 18 = .ok (.iastore, 1) := by decide +kernel
theorem d_M_ran_19 : decode prog_10_method_72_code 19 = .ok (.aload_n 0, 1) := by decide +kernel
theorem d_M_ran_20 : decode prog_10_method_72_code 20 = .ok (.dup, 1) := by decide +kernel
theorem d_M_ran_21 : decode prog_10_method_72_code 21 = .ok (.getfield 225, 3) := by decide +kernel
theorem d_M_ran_24 : decode prog_10_method_72_code 24 = .ok (.iconst 1, 1) := by decide +kernel
theorem d_M_ran_25 : decode prog_10_method_72_code 25 = .ok (.iadd, 1) := by decide +kernel
theorem d_M_ran_26 : decode prog_10_method_72_code 26 = .ok (.putfield 225, 3) := by decide +kernel
theorem d_M_ran_29 : decode prog_10_method_72_code 29 = .ok (.return_, 1) := by decide +kernel
def w_M_ran (K : sm_Mem → Prop) (p0 : Int32) (μ : sm_Mem) : Prop := if 40 ≤ (μ 61 24) then K μ else (vp_in (μ 61 24) 40 ∧ ∀ μ3 : sm_Mem, μ3 = sm_st μ 72 ((μ 61 24).toNatClampNeg) p0 → ∀ μ4 : sm_Mem, μ4 = sm_st μ3 61 24 ((μ3 61 24) + 1) → K μ4)
set_option maxHeartbeats 4000000 in
set_option maxRecDepth 100000 in
theorem P_M_ran (l : Launch) {K : sm_Mem → Prop} {p0 : Int32} {μ : sm_Mem} (h : w_M_ran K p0 μ) : sm_MV l ⟨"SnowMoneyModel", "ran", "(I)V"⟩ prog_10_method_72_code 2 { frames := 0, cells := 0, slots := 0, locals := 0 } [sm_R 61, sm_I p0] μ K := by
  refine sm_ofV (by decide +kernel) (fun _ => Nat.le_of_ble_eq_true rfl) ?_
  intro p e s m args below meth c A Q G C hR
  refine sr_aload_n C 0 rfl rfl d_M_ran_0 ?_
  refine sr_getI C sm_F7 24 q_619 sm_l61 rfl (by decide) d_M_ran_1 ?_
  refine sr_bipush C (v := 40) d_M_ran_4 (by decide) ?_
  refine sr_icmp_ge C (tgt := 29) d_M_ran_6 (by decide) (fun c1 => ?_) (fun c1 => ?_)
  · replace h := Eq.mp (if_pos c1) h
    exact hR _ _ _ d_M_ran_29 h
  · replace h := Eq.mp (if_neg c1) h
    refine sr_aload_n C 0 rfl rfl d_M_ran_9 ?_
    refine sr_getR C sm_F7 23 q_643 sm_l61 (r := 72) rfl (by decide) d_M_ran_10 ?_
    refine sr_aload_n C 0 rfl rfl d_M_ran_13 ?_
    refine sr_getI C sm_F7 24 q_619 sm_l61 rfl (by decide) d_M_ran_14 ?_
    refine sr_iload_n C 1 rfl rfl d_M_ran_17 ?_
    obtain ⟨g2, h⟩ := h
    refine sr_iast C sm_l72 g2 d_M_ran_18 ?_
    replace h := h _ rfl
    refine sr_aload_n C 0 rfl rfl d_M_ran_19 ?_
    refine sr_dup C rfl d_M_ran_20 ?_
    refine sr_getI C sm_F7 24 q_619 sm_l61 rfl (by decide) d_M_ran_21 ?_
    refine sr_iconst C (v := 1) d_M_ran_24 (by decide) ?_
    refine sr_iadd C d_M_ran_25 ?_
    refine sr_putI C sm_F7 24 q_619 sm_l61 rfl rfl (by decide) rfl d_M_ran_26 ?_
    replace h := h _ rfl
    exact hR _ _ _ d_M_ran_29 h
theorem d_M_fallsIn_0 : decode prog_10_method_73_code 0 = .ok (.iload_n 1, 1) := by decide +kernel
theorem d_M_fallsIn_1 : decode prog_10_method_73_code 1 = .ok (.ifCond .ne 16, 3) := by decide +kernel
theorem d_M_fallsIn_4 : decode prog_10_method_73_code 4 = .ok (.aload_n 0, 1) := by decide +kernel
theorem d_M_fallsIn_5 : decode prog_10_method_73_code 5 = .ok (.bipush 10, 2) := by decide +kernel
theorem d_M_fallsIn_7 : decode prog_10_method_73_code 7 = .ok (.invokevirtual 228, 3) := by decide +kernel
theorem d_M_fallsIn_10 : decode prog_10_method_73_code 10 = .ok (.iload_n 2, 1) := by decide +kernel
theorem d_M_fallsIn_11 : decode prog_10_method_73_code 11 = .ok (.aload_n 0, 1) := by decide +kernel
theorem d_M_fallsIn_12 : decode prog_10_method_73_code 12 = .ok (.getfield 231, 3) := by decide +kernel
theorem d_M_fallsIn_15 : decode prog_10_method_73_code 15 = .ok (.iadd, 1) := by decide +kernel
theorem d_M_fallsIn_16 : decode prog_10_method_73_code 16 = .ok (.ireturn, 1) := by decide +kernel
theorem d_M_fallsIn_17 : decode prog_10_method_73_code 17 = .ok (.iload_n 1, 1) := by decide +kernel
theorem d_M_fallsIn_18 : decode prog_10_method_73_code 18 = .ok (.iconst 1, 1) := by decide +kernel
theorem d_M_fallsIn_19 : decode prog_10_method_73_code 19 = .ok (.if_icmp .ne 18, 3) := by decide +kernel
theorem d_M_fallsIn_22 : decode prog_10_method_73_code 22 = .ok (.aload_n 0, 1) := by decide +kernel
theorem d_M_fallsIn_23 : decode prog_10_method_73_code 23 = .ok (.bipush 20, 2) := by decide +kernel
theorem d_M_fallsIn_25 : decode prog_10_method_73_code 25 = .ok (.invokevirtual 228, 3) := by decide +kernel
theorem d_M_fallsIn_28 : decode prog_10_method_73_code 28 = .ok (.aload_n 0, 1) := by decide +kernel
theorem d_M_fallsIn_29 : decode prog_10_method_73_code 29 = .ok (.iconst 0, 1) := by decide +kernel
theorem d_M_fallsIn_30 : decode prog_10_method_73_code 30 = .ok (.iload_n 2, 1) := by decide +kernel
theorem d_M_fallsIn_31 : decode prog_10_method_73_code 31 = .ok (.invokevirtual 234, 3) := by decide +kernel
theorem d_M_fallsIn_34 : decode prog_10_method_73_code 34 = .ok (.iconst 3, 1) := by decide +kernel
theorem d_M_fallsIn_35 : decode prog_10_method_73_code 35 = .ok (.imul, 1) := by decide +kernel
theorem d_M_fallsIn_36 : decode prog_10_method_73_code 36 = .ok (.ireturn, 1) := by decide +kernel
theorem d_M_fallsIn_37 : decode prog_10_method_73_code 37 = .ok (.aload_n 0, 1) := by decide +kernel
theorem d_M_fallsIn_38 : decode prog_10_method_73_code 38 = .ok (.iload_n 1, 1) := by decide +kernel
theorem d_M_fallsIn_39 : decode prog_10_method_73_code 39 = .ok (.invokestatic 84, 3) := by decide +kernel
theorem d_M_fallsIn_42 : decode prog_10_method_73_code 42 = .ok (.iload_n 2, 1) := by decide +kernel
theorem d_M_fallsIn_43 : decode prog_10_method_73_code 43 = .ok (.invokevirtual 234, 3) := by decide +kernel
theorem d_M_fallsIn_46 : decode prog_10_method_73_code 46 = .ok (.ireturn, 1) := by decide +kernel
def w_M_fallsIn (F : Nat → (Int32 → sm_Mem → Prop) → Int32 → Int32 → sm_Mem → Prop) (K : Int32 → sm_Mem → Prop) (p0 : Int32) (p1 : Int32) (μ : sm_Mem) : Prop := if p0 = 0 then w_M_ran (fun μ10 => K (p1 + (μ10 61 26)) μ10) 10 μ else (if p0 = 1 then w_M_ran (fun μ7 => F 0 (fun r9 μ8 => K (r9 * 3) μ8) 0 p1 μ7) 20 μ else w_M_above (fun r4 μ3 => F 0 (fun r6 μ5 => K r6 μ5) r4 p1 μ3) p0 μ)
set_option maxHeartbeats 4000000 in
set_option maxRecDepth 100000 in
theorem P_M_fallsIn (l : Launch) {F : Nat → (Int32 → sm_Mem → Prop) → Int32 → Int32 → sm_Mem → Prop} {n : Nat} (hF0 : ∀ {K : Int32 → sm_Mem → Prop} {p0 : Int32} {p1 : Int32} {μ : sm_Mem}, F 0 K p0 p1 μ → sm_MI l ⟨"SnowMoneyModel", "fallsIn", "(II)I"⟩ prog_10_method_73_code 3 (some .int) { frames := n + 3, cells := 0, slots := 0, locals := n * 60 + 80 } [sm_R 61, sm_I p0, sm_I p1] μ K) {K : Int32 → sm_Mem → Prop} {p0 : Int32} {p1 : Int32} {μ : sm_Mem} (h : w_M_fallsIn F K p0 p1 μ) : sm_MI l ⟨"SnowMoneyModel", "fallsIn", "(II)I"⟩ prog_10_method_73_code 3 (some .int) { frames := n + 1 + 3, cells := 0, slots := 0, locals := (n + 1) * 60 + 80 } [sm_R 61, sm_I p0, sm_I p1] μ K := by
  refine sm_ofI (by decide +kernel) (fun _ => Nat.le_of_ble_eq_true rfl) ?_
  intro p e s m args below meth c A Q G C hR
  refine sr_iload_n C 1 rfl rfl d_M_fallsIn_0 ?_
  refine sr_if_ne C (tgt := 17) d_M_fallsIn_1 (by decide) (fun c1 => ?_) (fun c1 => ?_)
  · replace h := Eq.mp (if_neg c1) h
    refine sr_iload_n C 1 rfl rfl d_M_fallsIn_17 ?_
    refine sr_iconst C (v := 1) d_M_fallsIn_18 (by decide) ?_
    refine sr_icmp_ne C (tgt := 37) d_M_fallsIn_19 (by decide) (fun c2 => ?_) (fun c2 => ?_)
    · replace h := Eq.mp (if_neg c2) h
      refine sr_aload_n C 0 rfl rfl d_M_fallsIn_37 ?_
      refine sr_iload_n C 1 rfl rfl d_M_fallsIn_38 ?_
      refine sr_callSI C [sm_I _] (P_M_above l h) ok_122 rfl rfl rfl ⟨by dsimp only; omega, by dsimp only; omega⟩ (Nat.le_of_ble_eq_true rfl) ⟨Nat.zero_le _, Nat.zero_le _⟩ d_M_fallsIn_39 (fun r4 μ3 h => ?_)
      refine sr_iload_n C 2 rfl rfl d_M_fallsIn_42 ?_
      refine sr_callVI C [sm_I _, sm_I _] (hF0 h) ok_138 sm_l61 rfl rfl rfl rfl ⟨by dsimp only; omega, by dsimp only; omega⟩ (Nat.le_of_ble_eq_true rfl) ⟨Nat.zero_le _, Nat.zero_le _⟩ d_M_fallsIn_43 (fun r6 μ5 h => ?_)
      exact hR _ _ _ _ d_M_fallsIn_46 rfl h
    · replace h := Eq.mp (if_pos c2) h
      refine sr_aload_n C 0 rfl rfl d_M_fallsIn_22 ?_
      refine sr_bipush C (v := 20) d_M_fallsIn_23 (by decide) ?_
      refine sr_callVV C [sm_I _] (P_M_ran l h) ok_142 sm_l61 rfl rfl rfl rfl ⟨by dsimp only; omega, by dsimp only; omega⟩ (Nat.le_of_ble_eq_true rfl) ⟨Nat.zero_le _, Nat.zero_le _⟩ d_M_fallsIn_25 (fun μ7 h => ?_)
      refine sr_aload_n C 0 rfl rfl d_M_fallsIn_28 ?_
      refine sr_iconst C (v := 0) d_M_fallsIn_29 (by decide) ?_
      refine sr_iload_n C 2 rfl rfl d_M_fallsIn_30 ?_
      refine sr_callVI C [sm_I _, sm_I _] (hF0 h) ok_138 sm_l61 rfl rfl rfl rfl ⟨by dsimp only; omega, by dsimp only; omega⟩ (Nat.le_of_ble_eq_true rfl) ⟨Nat.zero_le _, Nat.zero_le _⟩ d_M_fallsIn_31 (fun r9 μ8 h => ?_)
      refine sr_iconst C (v := 3) d_M_fallsIn_34 (by decide) ?_
      refine sr_imul C d_M_fallsIn_35 ?_
      exact hR _ _ _ _ d_M_fallsIn_36 rfl h
  · replace h := Eq.mp (if_pos c1) h
    refine sr_aload_n C 0 rfl rfl d_M_fallsIn_4 ?_
    refine sr_bipush C (v := 10) d_M_fallsIn_5 (by decide) ?_
    refine sr_callVV C [sm_I _] (P_M_ran l h) ok_142 sm_l61 rfl rfl rfl rfl ⟨by dsimp only; omega, by dsimp only; omega⟩ (Nat.le_of_ble_eq_true rfl) ⟨Nat.zero_le _, Nat.zero_le _⟩ d_M_fallsIn_7 (fun μ10 h => ?_)
    refine sr_iload_n C 2 rfl rfl d_M_fallsIn_10 ?_
    refine sr_aload_n C 0 rfl rfl d_M_fallsIn_11 ?_
    refine sr_getI C sm_F7 26 q_621 sm_l61 rfl (by decide) d_M_fallsIn_12 ?_
    refine sr_iadd C d_M_fallsIn_15 ?_
    exact hR _ _ _ _ d_M_fallsIn_16 rfl h
def wg_f : Nat → Nat → (Int32 → sm_Mem → Prop) → Int32 → Int32 → sm_Mem → Prop
  | 0, _ => fun _ _ _ _ => False
  | n + 1, 0 => w_M_fallsIn (wg_f n)
  | _ + 1, _ => fun _ _ _ _ => False
theorem PG_f (l : Launch) : ∀ n : Nat, (∀ {K : Int32 → sm_Mem → Prop} {p0 : Int32} {p1 : Int32} {μ : sm_Mem}, wg_f n 0 K p0 p1 μ → sm_MI l ⟨"SnowMoneyModel", "fallsIn", "(II)I"⟩ prog_10_method_73_code 3 (some .int) { frames := n + 3, cells := 0, slots := 0, locals := n * 60 + 80 } [sm_R 61, sm_I p0, sm_I p1] μ K)
  | 0 => fun h => h.elim
  | n + 1 => fun h => P_M_fallsIn l (F := wg_f n) (n := n) (PG_f l n) h
theorem PG_f_0 (l : Launch) (n : Nat) {K : Int32 → sm_Mem → Prop} {p0 : Int32} {p1 : Int32} {μ : sm_Mem} (h : wg_f n 0 K p0 p1 μ) : sm_MI l ⟨"SnowMoneyModel", "fallsIn", "(II)I"⟩ prog_10_method_73_code 3 (some .int) { frames := n + 3, cells := 0, slots := 0, locals := n * 60 + 80 } [sm_R 61, sm_I p0, sm_I p1] μ K := (PG_f l n) h
theorem d_M_paysIn_0 : decode prog_10_method_74_code 0 = .ok (.iload_n 1, 1) := by decide +kernel
theorem d_M_paysIn_1 : decode prog_10_method_74_code 1 = .ok (.ifCond .ne 16, 3) := by decide +kernel
theorem d_M_paysIn_4 : decode prog_10_method_74_code 4 = .ok (.aload_n 0, 1) := by decide +kernel
theorem d_M_paysIn_5 : decode prog_10_method_74_code 5 = .ok (.bipush 12, 2) := by decide +kernel
theorem d_M_paysIn_7 : decode prog_10_method_74_code 7 = .ok (.invokevirtual 228, 3) := by decide +kernel
theorem d_M_paysIn_10 : decode prog_10_method_74_code 10 = .ok (.iload_n 2, 1) := by decide +kernel
theorem d_M_paysIn_11 : decode prog_10_method_74_code 11 = .ok (.aload_n 0, 1) := by decide +kernel
theorem d_M_paysIn_12 : decode prog_10_method_74_code 12 = .ok (.getfield 237, 3) := by decide +kernel
theorem d_M_paysIn_15 : decode prog_10_method_74_code 15 = .ok (.isub, 1) := by decide +kernel
theorem d_M_paysIn_16 : decode prog_10_method_74_code 16 = .ok (.ireturn, 1) := by decide +kernel
theorem d_M_paysIn_17 : decode prog_10_method_74_code 17 = .ok (.iload_n 1, 1) := by decide +kernel
theorem d_M_paysIn_18 : decode prog_10_method_74_code 18 = .ok (.iconst 3, 1) := by decide +kernel
theorem d_M_paysIn_19 : decode prog_10_method_74_code 19 = .ok (.if_icmp .ne 17, 3) := by decide +kernel
theorem d_M_paysIn_22 : decode prog_10_method_74_code 22 = .ok (.aload_n 0, 1) := by decide +kernel
theorem d_M_paysIn_23 : decode prog_10_method_74_code 23 = .ok (.bipush 40, 2) := by decide +kernel
theorem d_M_paysIn_25 : decode prog_10_method_74_code 25 = .ok (.invokevirtual 228, 3) := by decide +kernel
theorem d_M_paysIn_28 : decode prog_10_method_74_code 28 = .ok (.aload_n 0, 1) := by decide +kernel
theorem d_M_paysIn_29 : decode prog_10_method_74_code 29 = .ok (.iconst 0, 1) := by decide +kernel
theorem d_M_paysIn_30 : decode prog_10_method_74_code 30 = .ok (.iload_n 2, 1) := by decide +kernel
theorem d_M_paysIn_31 : decode prog_10_method_74_code 31 = .ok (.invokevirtual 240, 3) := by decide +kernel
theorem d_M_paysIn_34 : decode prog_10_method_74_code 34 = .ok (.ineg, 1) := by decide +kernel
theorem d_M_paysIn_35 : decode prog_10_method_74_code 35 = .ok (.ireturn, 1) := by decide +kernel
theorem d_M_paysIn_36 : decode prog_10_method_74_code 36 = .ok (.iload_n 1, 1) := by decide +kernel
theorem d_M_paysIn_37 : decode prog_10_method_74_code 37 = .ok (.bipush 6, 2) := by decide +kernel
theorem d_M_paysIn_39 : decode prog_10_method_74_code 39 = .ok (.if_icmp .ne 21, 3) := by decide +kernel
theorem d_M_paysIn_42 : decode prog_10_method_74_code 42 = .ok (.aload_n 0, 1) := by decide +kernel
theorem d_M_paysIn_43 : decode prog_10_method_74_code 43 = .ok (.bipush 70, 2) := by decide +kernel
theorem d_M_paysIn_45 : decode prog_10_method_74_code 45 = .ok (.invokevirtual 228, 3) := by decide +kernel
theorem d_M_paysIn_48 : decode prog_10_method_74_code 48 = .ok (.aload_n 0, 1) := by decide +kernel
theorem d_M_paysIn_49 : decode prog_10_method_74_code 49 = .ok (.iconst 3, 1) := by decide +kernel
theorem d_M_paysIn_50 : decode prog_10_method_74_code 50 = .ok (.iload_n 2, 1) := by decide +kernel
theorem d_M_paysIn_51 : decode prog_10_method_74_code 51 = .ok (.invokevirtual 240, 3) := by decide +kernel
theorem d_M_paysIn_54 : decode prog_10_method_74_code 54 = .ok (.aload_n 0, 1) := by decide +kernel
theorem d_M_paysIn_55 : decode prog_10_method_74_code 55 = .ok (.getfield 231, 3) := by decide +kernel
theorem d_M_paysIn_58 : decode prog_10_method_74_code 58 = .ok (.ixor, 1) := by decide +kernel
theorem d_M_paysIn_59 : decode prog_10_method_74_code 59 = .ok (.ireturn, 1) := by decide +kernel
theorem d_M_paysIn_60 : decode prog_10_method_74_code 60 = .ok (.aload_n 0, 1) := by decide +kernel
theorem d_M_paysIn_61 : decode prog_10_method_74_code 61 = .ok (.iload_n 1, 1) := by decide +kernel
theorem d_M_paysIn_62 : decode prog_10_method_74_code 62 = .ok (.invokestatic 84, 3) := by decide +kernel
theorem d_M_paysIn_65 : decode prog_10_method_74_code 65 = .ok (.iload_n 2, 1) := by decide +kernel
theorem d_M_paysIn_66 : decode prog_10_method_74_code 66 = .ok (.invokevirtual 240, 3) := by decide +kernel
theorem d_M_paysIn_69 : decode prog_10_method_74_code 69 = .ok (.ireturn, 1) := by decide +kernel
def w_M_paysIn (F : Nat → (Int32 → sm_Mem → Prop) → Int32 → Int32 → sm_Mem → Prop) (K : Int32 → sm_Mem → Prop) (p0 : Int32) (p1 : Int32) (μ : sm_Mem) : Prop := if p0 = 0 then w_M_ran (fun μ14 => K (p1 - (μ14 61 27)) μ14) 12 μ else (if p0 = 3 then w_M_ran (fun μ11 => F 0 (fun r13 μ12 => K (-r13) μ12) 0 p1 μ11) 40 μ else (if p0 = 6 then w_M_ran (fun μ8 => F 0 (fun r10 μ9 => K (r10 ^^^ (μ9 61 26)) μ9) 3 p1 μ8) 70 μ else w_M_above (fun r5 μ4 => F 0 (fun r7 μ6 => K r7 μ6) r5 p1 μ4) p0 μ))
set_option maxHeartbeats 4000000 in
set_option maxRecDepth 100000 in
theorem P_M_paysIn (l : Launch) {F : Nat → (Int32 → sm_Mem → Prop) → Int32 → Int32 → sm_Mem → Prop} {n : Nat} (hF0 : ∀ {K : Int32 → sm_Mem → Prop} {p0 : Int32} {p1 : Int32} {μ : sm_Mem}, F 0 K p0 p1 μ → sm_MI l ⟨"SnowMoneyModel", "paysIn", "(II)I"⟩ prog_10_method_74_code 3 (some .int) { frames := n + 3, cells := 0, slots := 0, locals := n * 60 + 80 } [sm_R 61, sm_I p0, sm_I p1] μ K) {K : Int32 → sm_Mem → Prop} {p0 : Int32} {p1 : Int32} {μ : sm_Mem} (h : w_M_paysIn F K p0 p1 μ) : sm_MI l ⟨"SnowMoneyModel", "paysIn", "(II)I"⟩ prog_10_method_74_code 3 (some .int) { frames := n + 1 + 3, cells := 0, slots := 0, locals := (n + 1) * 60 + 80 } [sm_R 61, sm_I p0, sm_I p1] μ K := by
  refine sm_ofI (by decide +kernel) (fun _ => Nat.le_of_ble_eq_true rfl) ?_
  intro p e s m args below meth c A Q G C hR
  refine sr_iload_n C 1 rfl rfl d_M_paysIn_0 ?_
  refine sr_if_ne C (tgt := 17) d_M_paysIn_1 (by decide) (fun c1 => ?_) (fun c1 => ?_)
  · replace h := Eq.mp (if_neg c1) h
    refine sr_iload_n C 1 rfl rfl d_M_paysIn_17 ?_
    refine sr_iconst C (v := 3) d_M_paysIn_18 (by decide) ?_
    refine sr_icmp_ne C (tgt := 36) d_M_paysIn_19 (by decide) (fun c2 => ?_) (fun c2 => ?_)
    · replace h := Eq.mp (if_neg c2) h
      refine sr_iload_n C 1 rfl rfl d_M_paysIn_36 ?_
      refine sr_bipush C (v := 6) d_M_paysIn_37 (by decide) ?_
      refine sr_icmp_ne C (tgt := 60) d_M_paysIn_39 (by decide) (fun c3 => ?_) (fun c3 => ?_)
      · replace h := Eq.mp (if_neg c3) h
        refine sr_aload_n C 0 rfl rfl d_M_paysIn_60 ?_
        refine sr_iload_n C 1 rfl rfl d_M_paysIn_61 ?_
        refine sr_callSI C [sm_I _] (P_M_above l h) ok_122 rfl rfl rfl ⟨by dsimp only; omega, by dsimp only; omega⟩ (Nat.le_of_ble_eq_true rfl) ⟨Nat.zero_le _, Nat.zero_le _⟩ d_M_paysIn_62 (fun r5 μ4 h => ?_)
        refine sr_iload_n C 2 rfl rfl d_M_paysIn_65 ?_
        refine sr_callVI C [sm_I _, sm_I _] (hF0 h) ok_140 sm_l61 rfl rfl rfl rfl ⟨by dsimp only; omega, by dsimp only; omega⟩ (Nat.le_of_ble_eq_true rfl) ⟨Nat.zero_le _, Nat.zero_le _⟩ d_M_paysIn_66 (fun r7 μ6 h => ?_)
        exact hR _ _ _ _ d_M_paysIn_69 rfl h
      · replace h := Eq.mp (if_pos c3) h
        refine sr_aload_n C 0 rfl rfl d_M_paysIn_42 ?_
        refine sr_bipush C (v := 70) d_M_paysIn_43 (by decide) ?_
        refine sr_callVV C [sm_I _] (P_M_ran l h) ok_142 sm_l61 rfl rfl rfl rfl ⟨by dsimp only; omega, by dsimp only; omega⟩ (Nat.le_of_ble_eq_true rfl) ⟨Nat.zero_le _, Nat.zero_le _⟩ d_M_paysIn_45 (fun μ8 h => ?_)
        refine sr_aload_n C 0 rfl rfl d_M_paysIn_48 ?_
        refine sr_iconst C (v := 3) d_M_paysIn_49 (by decide) ?_
        refine sr_iload_n C 2 rfl rfl d_M_paysIn_50 ?_
        refine sr_callVI C [sm_I _, sm_I _] (hF0 h) ok_140 sm_l61 rfl rfl rfl rfl ⟨by dsimp only; omega, by dsimp only; omega⟩ (Nat.le_of_ble_eq_true rfl) ⟨Nat.zero_le _, Nat.zero_le _⟩ d_M_paysIn_51 (fun r10 μ9 h => ?_)
        refine sr_aload_n C 0 rfl rfl d_M_paysIn_54 ?_
        refine sr_getI C sm_F7 26 q_621 sm_l61 rfl (by decide) d_M_paysIn_55 ?_
        refine sr_ixor C d_M_paysIn_58 ?_
        exact hR _ _ _ _ d_M_paysIn_59 rfl h
    · replace h := Eq.mp (if_pos c2) h
      refine sr_aload_n C 0 rfl rfl d_M_paysIn_22 ?_
      refine sr_bipush C (v := 40) d_M_paysIn_23 (by decide) ?_
      refine sr_callVV C [sm_I _] (P_M_ran l h) ok_142 sm_l61 rfl rfl rfl rfl ⟨by dsimp only; omega, by dsimp only; omega⟩ (Nat.le_of_ble_eq_true rfl) ⟨Nat.zero_le _, Nat.zero_le _⟩ d_M_paysIn_25 (fun μ11 h => ?_)
      refine sr_aload_n C 0 rfl rfl d_M_paysIn_28 ?_
      refine sr_iconst C (v := 0) d_M_paysIn_29 (by decide) ?_
      refine sr_iload_n C 2 rfl rfl d_M_paysIn_30 ?_
      refine sr_callVI C [sm_I _, sm_I _] (hF0 h) ok_140 sm_l61 rfl rfl rfl rfl ⟨by dsimp only; omega, by dsimp only; omega⟩ (Nat.le_of_ble_eq_true rfl) ⟨Nat.zero_le _, Nat.zero_le _⟩ d_M_paysIn_31 (fun r13 μ12 h => ?_)
      refine sr_ineg C d_M_paysIn_34 ?_
      exact hR _ _ _ _ d_M_paysIn_35 rfl h
  · replace h := Eq.mp (if_pos c1) h
    refine sr_aload_n C 0 rfl rfl d_M_paysIn_4 ?_
    refine sr_bipush C (v := 12) d_M_paysIn_5 (by decide) ?_
    refine sr_callVV C [sm_I _] (P_M_ran l h) ok_142 sm_l61 rfl rfl rfl rfl ⟨by dsimp only; omega, by dsimp only; omega⟩ (Nat.le_of_ble_eq_true rfl) ⟨Nat.zero_le _, Nat.zero_le _⟩ d_M_paysIn_7 (fun μ14 h => ?_)
    refine sr_iload_n C 2 rfl rfl d_M_paysIn_10 ?_
    refine sr_aload_n C 0 rfl rfl d_M_paysIn_11 ?_
    refine sr_getI C sm_F7 27 q_622 sm_l61 rfl (by decide) d_M_paysIn_12 ?_
    refine sr_isub C d_M_paysIn_15 ?_
    exact hR _ _ _ _ d_M_paysIn_16 rfl h
def wg_p : Nat → Nat → (Int32 → sm_Mem → Prop) → Int32 → Int32 → sm_Mem → Prop
  | 0, _ => fun _ _ _ _ => False
  | n + 1, 0 => w_M_paysIn (wg_p n)
  | _ + 1, _ => fun _ _ _ _ => False
theorem PG_p (l : Launch) : ∀ n : Nat, (∀ {K : Int32 → sm_Mem → Prop} {p0 : Int32} {p1 : Int32} {μ : sm_Mem}, wg_p n 0 K p0 p1 μ → sm_MI l ⟨"SnowMoneyModel", "paysIn", "(II)I"⟩ prog_10_method_74_code 3 (some .int) { frames := n + 3, cells := 0, slots := 0, locals := n * 60 + 80 } [sm_R 61, sm_I p0, sm_I p1] μ K)
  | 0 => fun h => h.elim
  | n + 1 => fun h => P_M_paysIn l (F := wg_p n) (n := n) (PG_p l n) h
theorem PG_p_0 (l : Launch) (n : Nat) {K : Int32 → sm_Mem → Prop} {p0 : Int32} {p1 : Int32} {μ : sm_Mem} (h : wg_p n 0 K p0 p1 μ) : sm_MI l ⟨"SnowMoneyModel", "paysIn", "(II)I"⟩ prog_10_method_74_code 3 (some .int) { frames := n + 3, cells := 0, slots := 0, locals := n * 60 + 80 } [sm_R 61, sm_I p0, sm_I p1] μ K := (PG_p l n) h
theorem d_M_meltsIn_0 : decode prog_10_method_75_code 0 = .ok (.iload_n 1, 1) := by decide +kernel
theorem d_M_meltsIn_1 : decode prog_10_method_75_code 1 = .ok (.ifCond .ne 21, 3) := by decide +kernel
theorem d_M_meltsIn_4 : decode prog_10_method_75_code 4 = .ok (.aload_n 0, 1) := by decide +kernel
theorem d_M_meltsIn_5 : decode prog_10_method_75_code 5 = .ok (.bipush 11, 2) := by decide +kernel
theorem d_M_meltsIn_7 : decode prog_10_method_75_code 7 = .ok (.invokevirtual 228, 3) := by decide +kernel
theorem d_M_meltsIn_10 : decode prog_10_method_75_code 10 = .ok (.aload_n 0, 1) := by decide +kernel
theorem d_M_meltsIn_11 : decode prog_10_method_75_code 11 = .ok (.aload_n 0, 1) := by decide +kernel
theorem d_M_meltsIn_12 : decode prog_10_method_75_code 12 = .ok (.getfield 243, 3) := by decide +kernel
theorem d_M_meltsIn_15 : decode prog_10_method_75_code 15 = .ok (.iload_n 2, 1) := by decide +kernel
theorem d_M_meltsIn_16 : decode prog_10_method_75_code 16 = .ok (.invokevirtual 234, 3) := by decide +kernel
theorem d_M_meltsIn_19 : decode prog_10_method_75_code 19 = .ok (.iconst 2, 1) := by decide +kernel
theorem d_M_meltsIn_20 : decode prog_10_method_75_code 20 = .ok (.imul, 1) := by decide +kernel
theorem d_M_meltsIn_21 : decode prog_10_method_75_code 21 = .ok (.ireturn, 1) := by decide +kernel
theorem d_M_meltsIn_22 : decode prog_10_method_75_code 22 = .ok (.iload_n 1, 1) := by decide +kernel
theorem d_M_meltsIn_23 : decode prog_10_method_75_code 23 = .ok (.iconst 2, 1) := by decide +kernel
theorem d_M_meltsIn_24 : decode prog_10_method_75_code 24 = .ok (.if_icmp .ne 28, 3) := by decide +kernel
theorem d_M_meltsIn_27 : decode prog_10_method_75_code 27 = .ok (.aload_n 0, 1) := by decide +kernel
theorem d_M_meltsIn_28 : decode prog_10_method_75_code 28 = .ok (.bipush 30, 2) := by decide +kernel
theorem d_M_meltsIn_30 : decode prog_10_method_75_code 30 = .ok (.invokevirtual 228, 3) := by decide +kernel
theorem d_M_meltsIn_33 : decode prog_10_method_75_code 33 = .ok (.aload_n 0, 1) := by decide +kernel
theorem d_M_meltsIn_34 : decode prog_10_method_75_code 34 = .ok (.iconst 0, 1) := by decide +kernel
theorem d_M_meltsIn_35 : decode prog_10_method_75_code 35 = .ok (.iload_n 2, 1) := by decide +kernel
theorem d_M_meltsIn_36 : decode prog_10_method_75_code 36 = .ok (.invokevirtual 246, 3) := by decide +kernel
theorem d_M_meltsIn_39 : decode prog_10_method_75_code 39 = .ok (.istore_n 3, 1) := by decide +kernel
theorem d_M_meltsIn_40 : decode prog_10_method_75_code 40 = .ok (.iload_n 3, 1) := by decide +kernel
theorem d_M_meltsIn_41 : decode prog_10_method_75_code 41 = .ok (.aload_n 0, 1) := by decide +kernel
theorem d_M_meltsIn_42 : decode prog_10_method_75_code 42 = .ok (.aload_n 0, 1) := by decide +kernel
theorem d_M_meltsIn_43 : decode prog_10_method_75_code 43 = .ok (.getfield 243, 3) := by decide +kernel
theorem d_M_meltsIn_46 : decode prog_10_method_75_code 46 = .ok (.iconst 1, 1) := by decide +kernel
theorem d_M_meltsIn_47 : decode prog_10_method_75_code 47 = .ok (.invokevirtual 240, 3) := by decide +kernel
theorem d_M_meltsIn_50 : decode prog_10_method_75_code 50 = .ok (.isub, 1) := by decide +kernel
theorem d_M_meltsIn_51 : decode prog_10_method_75_code 51 = .ok (.ireturn, 1) := by decide +kernel
theorem d_M_meltsIn_52 : decode prog_10_method_75_code 52 = .ok (.iload_n 1, 1) := by decide +kernel
theorem d_M_meltsIn_53 : decode prog_10_method_75_code 53 = .ok (.iconst 5, 1) := by decide +kernel
theorem d_M_meltsIn_54 : decode prog_10_method_75_code 54 = .ok (.if_icmp .ne 18, 3) := by decide +kernel
theorem d_M_meltsIn_57 : decode prog_10_method_75_code 57 = .ok (.aload_n 0, 1) := by decide +kernel
theorem d_M_meltsIn_58 : decode prog_10_method_75_code 58 = .ok (.bipush 60, 2) := by decide +kernel
theorem d_M_meltsIn_60 : decode prog_10_method_75_code 60 = .ok (.invokevirtual 228, 3) := by decide +kernel
theorem d_M_meltsIn_63 : decode prog_10_method_75_code 63 = .ok (.aload_n 0, 1) := by decide +kernel
theorem d_M_meltsIn_64 : decode prog_10_method_75_code 64 = .ok (.iconst 2, 1) := by decide +kernel
theorem d_M_meltsIn_65 : decode prog_10_method_75_code 65 = .ok (.iload_n 2, 1) := by decide +kernel
theorem d_M_meltsIn_66 : decode prog_10_method_75_code 66 = .ok (.iconst 1, 1) := by decide +kernel
theorem d_M_meltsIn_67 : decode prog_10_method_75_code 67 = .ok (.iadd, 1) := by decide +kernel
theorem d_M_meltsIn_68 : decode prog_10_method_75_code 68 = .ok (.invokevirtual 246, 3) := by decide +kernel
theorem d_M_meltsIn_71 : decode prog_10_method_75_code 71 = .ok (.ireturn, 1) := by decide +kernel
theorem d_M_meltsIn_72 : decode prog_10_method_75_code 72 = .ok (.aload_n 0, 1) := by decide +kernel
theorem d_M_meltsIn_73 : decode prog_10_method_75_code 73 = .ok (.iload_n 1, 1) := by decide +kernel
theorem d_M_meltsIn_74 : decode prog_10_method_75_code 74 = .ok (.invokestatic 84, 3) := by decide +kernel
theorem d_M_meltsIn_77 : decode prog_10_method_75_code 77 = .ok (.iload_n 2, 1) := by decide +kernel
theorem d_M_meltsIn_78 : decode prog_10_method_75_code 78 = .ok (.invokevirtual 246, 3) := by decide +kernel
theorem d_M_meltsIn_81 : decode prog_10_method_75_code 81 = .ok (.ireturn, 1) := by decide +kernel
def w_M_meltsIn (F : Nat → (Int32 → sm_Mem → Prop) → Int32 → Int32 → sm_Mem → Prop) (K : Int32 → sm_Mem → Prop) (p0 : Int32) (p1 : Int32) (μ : sm_Mem) : Prop := if p0 = 0 then w_M_ran (fun μ16 => wg_f 8 0 (fun r18 μ17 => K (r18 * 2) μ17) (μ16 61 25) p1 μ16) 11 μ else (if p0 = 2 then w_M_ran (fun μ11 => F 0 (fun r13 μ12 => wg_p 8 0 (fun r15 μ14 => K (r13 - r15) μ14) (μ12 61 25) 1 μ12) 0 p1 μ11) 30 μ else (if p0 = 5 then w_M_ran (fun μ8 => F 0 (fun r10 μ9 => K r10 μ9) 2 (p1 + 1) μ8) 60 μ else w_M_above (fun r5 μ4 => F 0 (fun r7 μ6 => K r7 μ6) r5 p1 μ4) p0 μ))
set_option maxHeartbeats 4000000 in
set_option maxRecDepth 100000 in
theorem P_M_meltsIn (l : Launch) {F : Nat → (Int32 → sm_Mem → Prop) → Int32 → Int32 → sm_Mem → Prop} {n : Nat} (hF0 : ∀ {K : Int32 → sm_Mem → Prop} {p0 : Int32} {p1 : Int32} {μ : sm_Mem}, F 0 K p0 p1 μ → sm_MI l ⟨"SnowMoneyModel", "meltsIn", "(II)I"⟩ prog_10_method_75_code 4 (some .int) { frames := n + 16, cells := 0, slots := 0, locals := n * 60 + 1000 } [sm_R 61, sm_I p0, sm_I p1] μ K) {K : Int32 → sm_Mem → Prop} {p0 : Int32} {p1 : Int32} {μ : sm_Mem} (h : w_M_meltsIn F K p0 p1 μ) : sm_MI l ⟨"SnowMoneyModel", "meltsIn", "(II)I"⟩ prog_10_method_75_code 4 (some .int) { frames := n + 1 + 16, cells := 0, slots := 0, locals := (n + 1) * 60 + 1000 } [sm_R 61, sm_I p0, sm_I p1] μ K := by
  refine sm_ofI (by decide +kernel) (fun _ => Nat.le_of_ble_eq_true rfl) ?_
  intro p e s m args below meth c A Q G C hR
  refine sr_iload_n C 1 rfl rfl d_M_meltsIn_0 ?_
  refine sr_if_ne C (tgt := 22) d_M_meltsIn_1 (by decide) (fun c1 => ?_) (fun c1 => ?_)
  · replace h := Eq.mp (if_neg c1) h
    refine sr_iload_n C 1 rfl rfl d_M_meltsIn_22 ?_
    refine sr_iconst C (v := 2) d_M_meltsIn_23 (by decide) ?_
    refine sr_icmp_ne C (tgt := 52) d_M_meltsIn_24 (by decide) (fun c2 => ?_) (fun c2 => ?_)
    · replace h := Eq.mp (if_neg c2) h
      refine sr_iload_n C 1 rfl rfl d_M_meltsIn_52 ?_
      refine sr_iconst C (v := 5) d_M_meltsIn_53 (by decide) ?_
      refine sr_icmp_ne C (tgt := 72) d_M_meltsIn_54 (by decide) (fun c3 => ?_) (fun c3 => ?_)
      · replace h := Eq.mp (if_neg c3) h
        refine sr_aload_n C 0 rfl rfl d_M_meltsIn_72 ?_
        refine sr_iload_n C 1 rfl rfl d_M_meltsIn_73 ?_
        refine sr_callSI C [sm_I _] (P_M_above l h) ok_122 rfl rfl rfl ⟨by dsimp only; omega, by dsimp only; omega⟩ (Nat.le_of_ble_eq_true rfl) ⟨Nat.zero_le _, Nat.zero_le _⟩ d_M_meltsIn_74 (fun r5 μ4 h => ?_)
        refine sr_iload_n C 2 rfl rfl d_M_meltsIn_77 ?_
        refine sr_callVI C [sm_I _, sm_I _] (hF0 h) ok_139 sm_l61 rfl rfl rfl rfl ⟨by dsimp only; omega, by dsimp only; omega⟩ (Nat.le_of_ble_eq_true rfl) ⟨Nat.zero_le _, Nat.zero_le _⟩ d_M_meltsIn_78 (fun r7 μ6 h => ?_)
        exact hR _ _ _ _ d_M_meltsIn_81 rfl h
      · replace h := Eq.mp (if_pos c3) h
        refine sr_aload_n C 0 rfl rfl d_M_meltsIn_57 ?_
        refine sr_bipush C (v := 60) d_M_meltsIn_58 (by decide) ?_
        refine sr_callVV C [sm_I _] (P_M_ran l h) ok_142 sm_l61 rfl rfl rfl rfl ⟨by dsimp only; omega, by dsimp only; omega⟩ (Nat.le_of_ble_eq_true rfl) ⟨Nat.zero_le _, Nat.zero_le _⟩ d_M_meltsIn_60 (fun μ8 h => ?_)
        refine sr_aload_n C 0 rfl rfl d_M_meltsIn_63 ?_
        refine sr_iconst C (v := 2) d_M_meltsIn_64 (by decide) ?_
        refine sr_iload_n C 2 rfl rfl d_M_meltsIn_65 ?_
        refine sr_iconst C (v := 1) d_M_meltsIn_66 (by decide) ?_
        refine sr_iadd C d_M_meltsIn_67 ?_
        refine sr_callVI C [sm_I _, sm_I _] (hF0 h) ok_139 sm_l61 rfl rfl rfl rfl ⟨by dsimp only; omega, by dsimp only; omega⟩ (Nat.le_of_ble_eq_true rfl) ⟨Nat.zero_le _, Nat.zero_le _⟩ d_M_meltsIn_68 (fun r10 μ9 h => ?_)
        exact hR _ _ _ _ d_M_meltsIn_71 rfl h
    · replace h := Eq.mp (if_pos c2) h
      refine sr_aload_n C 0 rfl rfl d_M_meltsIn_27 ?_
      refine sr_bipush C (v := 30) d_M_meltsIn_28 (by decide) ?_
      refine sr_callVV C [sm_I _] (P_M_ran l h) ok_142 sm_l61 rfl rfl rfl rfl ⟨by dsimp only; omega, by dsimp only; omega⟩ (Nat.le_of_ble_eq_true rfl) ⟨Nat.zero_le _, Nat.zero_le _⟩ d_M_meltsIn_30 (fun μ11 h => ?_)
      refine sr_aload_n C 0 rfl rfl d_M_meltsIn_33 ?_
      refine sr_iconst C (v := 0) d_M_meltsIn_34 (by decide) ?_
      refine sr_iload_n C 2 rfl rfl d_M_meltsIn_35 ?_
      refine sr_callVI C [sm_I _, sm_I _] (hF0 h) ok_139 sm_l61 rfl rfl rfl rfl ⟨by dsimp only; omega, by dsimp only; omega⟩ (Nat.le_of_ble_eq_true rfl) ⟨Nat.zero_le _, Nat.zero_le _⟩ d_M_meltsIn_36 (fun r13 μ12 h => ?_)
      refine sr_istore_n C rfl (by decide) d_M_meltsIn_39 ?_
      refine sr_iload_n C 0 rfl rfl d_M_meltsIn_40 ?_
      refine sr_aload_n C 1 rfl rfl d_M_meltsIn_41 ?_
      refine sr_aload_n C 1 rfl rfl d_M_meltsIn_42 ?_
      refine sr_getI C sm_F7 25 q_620 sm_l61 rfl (by decide) d_M_meltsIn_43 ?_
      refine sr_iconst C (v := 1) d_M_meltsIn_46 (by decide) ?_
      refine sr_callVI C [sm_I _, sm_I _] (PG_p_0 l 8 h) ok_140 sm_l61 rfl rfl rfl rfl ⟨by dsimp only; omega, by dsimp only; omega⟩ (Nat.le_of_ble_eq_true rfl) ⟨Nat.zero_le _, Nat.zero_le _⟩ d_M_meltsIn_47 (fun r15 μ14 h => ?_)
      refine sr_isub C d_M_meltsIn_50 ?_
      exact hR _ _ _ _ d_M_meltsIn_51 rfl h
  · replace h := Eq.mp (if_pos c1) h
    refine sr_aload_n C 0 rfl rfl d_M_meltsIn_4 ?_
    refine sr_bipush C (v := 11) d_M_meltsIn_5 (by decide) ?_
    refine sr_callVV C [sm_I _] (P_M_ran l h) ok_142 sm_l61 rfl rfl rfl rfl ⟨by dsimp only; omega, by dsimp only; omega⟩ (Nat.le_of_ble_eq_true rfl) ⟨Nat.zero_le _, Nat.zero_le _⟩ d_M_meltsIn_7 (fun μ16 h => ?_)
    refine sr_aload_n C 0 rfl rfl d_M_meltsIn_10 ?_
    refine sr_aload_n C 0 rfl rfl d_M_meltsIn_11 ?_
    refine sr_getI C sm_F7 25 q_620 sm_l61 rfl (by decide) d_M_meltsIn_12 ?_
    refine sr_iload_n C 2 rfl rfl d_M_meltsIn_15 ?_
    refine sr_callVI C [sm_I _, sm_I _] (PG_f_0 l 8 h) ok_138 sm_l61 rfl rfl rfl rfl ⟨by dsimp only; omega, by dsimp only; omega⟩ (Nat.le_of_ble_eq_true rfl) ⟨Nat.zero_le _, Nat.zero_le _⟩ d_M_meltsIn_16 (fun r18 μ17 h => ?_)
    refine sr_iconst C (v := 2) d_M_meltsIn_19 (by decide) ?_
    refine sr_imul C d_M_meltsIn_20 ?_
    exact hR _ _ _ _ d_M_meltsIn_21 rfl h
def wg_m : Nat → Nat → (Int32 → sm_Mem → Prop) → Int32 → Int32 → sm_Mem → Prop
  | 0, _ => fun _ _ _ _ => False
  | n + 1, 0 => w_M_meltsIn (wg_m n)
  | _ + 1, _ => fun _ _ _ _ => False
theorem PG_m (l : Launch) : ∀ n : Nat, (∀ {K : Int32 → sm_Mem → Prop} {p0 : Int32} {p1 : Int32} {μ : sm_Mem}, wg_m n 0 K p0 p1 μ → sm_MI l ⟨"SnowMoneyModel", "meltsIn", "(II)I"⟩ prog_10_method_75_code 4 (some .int) { frames := n + 16, cells := 0, slots := 0, locals := n * 60 + 1000 } [sm_R 61, sm_I p0, sm_I p1] μ K)
  | 0 => fun h => h.elim
  | n + 1 => fun h => P_M_meltsIn l (F := wg_m n) (n := n) (PG_m l n) h
theorem PG_m_0 (l : Launch) (n : Nat) {K : Int32 → sm_Mem → Prop} {p0 : Int32} {p1 : Int32} {μ : sm_Mem} (h : wg_m n 0 K p0 p1 μ) : sm_MI l ⟨"SnowMoneyModel", "meltsIn", "(II)I"⟩ prog_10_method_75_code 4 (some .int) { frames := n + 16, cells := 0, slots := 0, locals := n * 60 + 1000 } [sm_R 61, sm_I p0, sm_I p1] μ K := (PG_m l n) h
theorem d_M_ringsIn_0 : decode prog_10_method_76_code 0 = .ok (.iload_n 1, 1) := by decide +kernel
theorem d_M_ringsIn_1 : decode prog_10_method_76_code 1 = .ok (.ifCond .ne 31, 3) := by decide +kernel
theorem d_M_ringsIn_4 : decode prog_10_method_76_code 4 = .ok (.aload_n 0, 1) := by decide +kernel
theorem d_M_ringsIn_5 : decode prog_10_method_76_code 5 = .ok (.bipush 13, 2) := by decide +kernel
theorem d_M_ringsIn_7 : decode prog_10_method_76_code 7 = .ok (.invokevirtual 228, 3) := by decide +kernel
theorem d_M_ringsIn_10 : decode prog_10_method_76_code 10 = .ok (.aload_n 0, 1) := by decide +kernel
theorem d_M_ringsIn_11 : decode prog_10_method_76_code 11 = .ok (.aload_n 0, 1) := by decide +kernel
theorem d_M_ringsIn_12 : decode prog_10_method_76_code 12 = .ok (.getfield 243, 3) := by decide +kernel
theorem d_M_ringsIn_15 : decode prog_10_method_76_code 15 = .ok (.iload_n 2, 1) := by decide +kernel
theorem d_M_ringsIn_16 : decode prog_10_method_76_code 16 = .ok (.invokevirtual 246, 3) := by decide +kernel
theorem d_M_ringsIn_19 : decode prog_10_method_76_code 19 = .ok (.istore_n 3, 1) := by decide +kernel
theorem d_M_ringsIn_20 : decode prog_10_method_76_code 20 = .ok (.iload_n 3, 1) := by decide +kernel
theorem d_M_ringsIn_21 : decode prog_10_method_76_code 21 = .ok (.aload_n 0, 1) := by decide +kernel
theorem d_M_ringsIn_22 : decode prog_10_method_76_code 22 = .ok (.aload_n 0, 1) := by decide +kernel
theorem d_M_ringsIn_23 : decode prog_10_method_76_code 23 = .ok (.getfield 243, 3) := by decide +kernel
theorem d_M_ringsIn_26 : decode prog_10_method_76_code 26 = .ok (.iload_n 2, 1) := by decide +kernel
theorem d_M_ringsIn_27 : decode prog_10_method_76_code 27 = .ok (.invokevirtual 240, 3) := by decide +kernel
theorem d_M_ringsIn_30 : decode prog_10_method_76_code 30 = .ok (.ixor, 1) := by decide +kernel
theorem d_M_ringsIn_31 : decode prog_10_method_76_code 31 = .ok (.ireturn, 1) := by decide +kernel
theorem d_M_ringsIn_32 : decode prog_10_method_76_code 32 = .ok (.iload_n 1, 1) := by decide +kernel
theorem d_M_ringsIn_33 : decode prog_10_method_76_code 33 = .ok (.iconst 4, 1) := by decide +kernel
theorem d_M_ringsIn_34 : decode prog_10_method_76_code 34 = .ok (.if_icmp .ne 28, 3) := by decide +kernel
theorem d_M_ringsIn_37 : decode prog_10_method_76_code 37 = .ok (.aload_n 0, 1) := by decide +kernel
theorem d_M_ringsIn_38 : decode prog_10_method_76_code 38 = .ok (.bipush 50, 2) := by decide +kernel
theorem d_M_ringsIn_40 : decode prog_10_method_76_code 40 = .ok (.invokevirtual 228, 3) := by decide +kernel
theorem d_M_ringsIn_43 : decode prog_10_method_76_code 43 = .ok (.aload_n 0, 1) := by decide +kernel
theorem d_M_ringsIn_44 : decode prog_10_method_76_code 44 = .ok (.iconst 1, 1) := by decide +kernel
theorem d_M_ringsIn_45 : decode prog_10_method_76_code 45 = .ok (.iload_n 2, 1) := by decide +kernel
theorem d_M_ringsIn_46 : decode prog_10_method_76_code 46 = .ok (.invokevirtual 249, 3) := by decide +kernel
theorem d_M_ringsIn_49 : decode prog_10_method_76_code 49 = .ok (.istore_n 3, 1) := by decide +kernel
theorem d_M_ringsIn_50 : decode prog_10_method_76_code 50 = .ok (.iload_n 3, 1) := by decide +kernel
theorem d_M_ringsIn_51 : decode prog_10_method_76_code 51 = .ok (.aload_n 0, 1) := by decide +kernel
theorem d_M_ringsIn_52 : decode prog_10_method_76_code 52 = .ok (.aload_n 0, 1) := by decide +kernel
theorem d_M_ringsIn_53 : decode prog_10_method_76_code 53 = .ok (.getfield 243, 3) := by decide +kernel
theorem d_M_ringsIn_56 : decode prog_10_method_76_code 56 = .ok (.iconst 2, 1) := by decide +kernel
theorem d_M_ringsIn_57 : decode prog_10_method_76_code 57 = .ok (.invokevirtual 234, 3) := by decide +kernel
theorem d_M_ringsIn_60 : decode prog_10_method_76_code 60 = .ok (.isub, 1) := by decide +kernel
theorem d_M_ringsIn_61 : decode prog_10_method_76_code 61 = .ok (.ireturn, 1) := by decide +kernel
theorem d_M_ringsIn_62 : decode prog_10_method_76_code 62 = .ok (.iload_n 1, 1) := by decide +kernel
theorem d_M_ringsIn_63 : decode prog_10_method_76_code 63 = .ok (.bipush 6, 2) := by decide +kernel
theorem d_M_ringsIn_65 : decode prog_10_method_76_code 65 = .ok (.if_icmp .ne 28, 3) := by decide +kernel
theorem d_M_ringsIn_68 : decode prog_10_method_76_code 68 = .ok (.aload_n 0, 1) := by decide +kernel
theorem d_M_ringsIn_69 : decode prog_10_method_76_code 69 = .ok (.bipush 71, 2) := by decide +kernel
theorem d_M_ringsIn_71 : decode prog_10_method_76_code 71 = .ok (.invokevirtual 228, 3) := by decide +kernel
theorem d_M_ringsIn_74 : decode prog_10_method_76_code 74 = .ok (.aload_n 0, 1) := by decide +kernel
theorem d_M_ringsIn_75 : decode prog_10_method_76_code 75 = .ok (.aload_n 0, 1) := by decide +kernel
theorem d_M_ringsIn_76 : decode prog_10_method_76_code 76 = .ok (.getfield 243, 3) := by decide +kernel
theorem d_M_ringsIn_79 : decode prog_10_method_76_code 79 = .ok (.iload_n 2, 1) := by decide +kernel
theorem d_M_ringsIn_80 : decode prog_10_method_76_code 80 = .ok (.invokevirtual 246, 3) := by decide +kernel
theorem d_M_ringsIn_83 : decode prog_10_method_76_code 83 = .ok (.istore_n 3, 1) := by decide +kernel
theorem d_M_ringsIn_84 : decode prog_10_method_76_code 84 = .ok (.iload_n 3, 1) := by decide +kernel
theorem d_M_ringsIn_85 : decode prog_10_method_76_code 85 = .ok (.aload_n 0, 1) := by decide +kernel
theorem d_M_ringsIn_86 : decode prog_10_method_76_code 86 = .ok (.iconst 3, 1) := by decide +kernel
theorem d_M_ringsIn_87 : decode prog_10_method_76_code 87 = .ok (.iload_n 2, 1) := by decide +kernel
theorem d_M_ringsIn_88 : decode prog_10_method_76_code 88 = .ok (.invokevirtual 249, 3) := by decide +kernel
theorem d_M_ringsIn_91 : decode prog_10_method_76_code 91 = .ok (.isub, 1) := by decide +kernel
theorem d_M_ringsIn_92 : decode prog_10_method_76_code 92 = .ok (.ireturn, 1) := by decide +kernel
theorem d_M_ringsIn_93 : decode prog_10_method_76_code 93 = .ok (.aload_n 0, 1) := by decide +kernel
theorem d_M_ringsIn_94 : decode prog_10_method_76_code 94 = .ok (.iload_n 1, 1) := by decide +kernel
theorem d_M_ringsIn_95 : decode prog_10_method_76_code 95 = .ok (.invokestatic 84, 3) := by decide +kernel
theorem d_M_ringsIn_98 : decode prog_10_method_76_code 98 = .ok (.iload_n 2, 1) := by decide +kernel
theorem d_M_ringsIn_99 : decode prog_10_method_76_code 99 = .ok (.invokevirtual 249, 3) := by decide +kernel
theorem d_M_ringsIn_102 : decode prog_10_method_76_code 102 = .ok (.ireturn, 1) := by decide +kernel
def w_M_ringsIn (F : Nat → (Int32 → sm_Mem → Prop) → Int32 → Int32 → sm_Mem → Prop) (K : Int32 → sm_Mem → Prop) (p0 : Int32) (p1 : Int32) (μ : sm_Mem) : Prop := if p0 = 0 then w_M_ran (fun μ18 => wg_m 8 0 (fun r20 μ19 => wg_p 8 0 (fun r22 μ21 => K (r20 ^^^ r22) μ21) (μ19 61 25) p1 μ19) (μ18 61 25) p1 μ18) 13 μ else (if p0 = 4 then w_M_ran (fun μ13 => F 0 (fun r15 μ14 => wg_f 8 0 (fun r17 μ16 => K (r15 - r17) μ16) (μ14 61 25) 2 μ14) 1 p1 μ13) 50 μ else (if p0 = 6 then w_M_ran (fun μ8 => wg_m 8 0 (fun r10 μ9 => F 0 (fun r12 μ11 => K (r10 - r12) μ11) 3 p1 μ9) (μ8 61 25) p1 μ8) 71 μ else w_M_above (fun r5 μ4 => F 0 (fun r7 μ6 => K r7 μ6) r5 p1 μ4) p0 μ))
set_option maxHeartbeats 4000000 in
set_option maxRecDepth 100000 in
theorem P_M_ringsIn (l : Launch) {F : Nat → (Int32 → sm_Mem → Prop) → Int32 → Int32 → sm_Mem → Prop} {n : Nat} (hF0 : ∀ {K : Int32 → sm_Mem → Prop} {p0 : Int32} {p1 : Int32} {μ : sm_Mem}, F 0 K p0 p1 μ → sm_MI l ⟨"SnowMoneyModel", "ringsIn", "(II)I"⟩ prog_10_method_76_code 4 (some .int) { frames := n + 40, cells := 0, slots := 0, locals := n * 60 + 3000 } [sm_R 61, sm_I p0, sm_I p1] μ K) {K : Int32 → sm_Mem → Prop} {p0 : Int32} {p1 : Int32} {μ : sm_Mem} (h : w_M_ringsIn F K p0 p1 μ) : sm_MI l ⟨"SnowMoneyModel", "ringsIn", "(II)I"⟩ prog_10_method_76_code 4 (some .int) { frames := n + 1 + 40, cells := 0, slots := 0, locals := (n + 1) * 60 + 3000 } [sm_R 61, sm_I p0, sm_I p1] μ K := by
  refine sm_ofI (by decide +kernel) (fun _ => Nat.le_of_ble_eq_true rfl) ?_
  intro p e s m args below meth c A Q G C hR
  refine sr_iload_n C 1 rfl rfl d_M_ringsIn_0 ?_
  refine sr_if_ne C (tgt := 32) d_M_ringsIn_1 (by decide) (fun c1 => ?_) (fun c1 => ?_)
  · replace h := Eq.mp (if_neg c1) h
    refine sr_iload_n C 1 rfl rfl d_M_ringsIn_32 ?_
    refine sr_iconst C (v := 4) d_M_ringsIn_33 (by decide) ?_
    refine sr_icmp_ne C (tgt := 62) d_M_ringsIn_34 (by decide) (fun c2 => ?_) (fun c2 => ?_)
    · replace h := Eq.mp (if_neg c2) h
      refine sr_iload_n C 1 rfl rfl d_M_ringsIn_62 ?_
      refine sr_bipush C (v := 6) d_M_ringsIn_63 (by decide) ?_
      refine sr_icmp_ne C (tgt := 93) d_M_ringsIn_65 (by decide) (fun c3 => ?_) (fun c3 => ?_)
      · replace h := Eq.mp (if_neg c3) h
        refine sr_aload_n C 0 rfl rfl d_M_ringsIn_93 ?_
        refine sr_iload_n C 1 rfl rfl d_M_ringsIn_94 ?_
        refine sr_callSI C [sm_I _] (P_M_above l h) ok_122 rfl rfl rfl ⟨by dsimp only; omega, by dsimp only; omega⟩ (Nat.le_of_ble_eq_true rfl) ⟨Nat.zero_le _, Nat.zero_le _⟩ d_M_ringsIn_95 (fun r5 μ4 h => ?_)
        refine sr_iload_n C 2 rfl rfl d_M_ringsIn_98 ?_
        refine sr_callVI C [sm_I _, sm_I _] (hF0 h) ok_141 sm_l61 rfl rfl rfl rfl ⟨by dsimp only; omega, by dsimp only; omega⟩ (Nat.le_of_ble_eq_true rfl) ⟨Nat.zero_le _, Nat.zero_le _⟩ d_M_ringsIn_99 (fun r7 μ6 h => ?_)
        exact hR _ _ _ _ d_M_ringsIn_102 rfl h
      · replace h := Eq.mp (if_pos c3) h
        refine sr_aload_n C 0 rfl rfl d_M_ringsIn_68 ?_
        refine sr_bipush C (v := 71) d_M_ringsIn_69 (by decide) ?_
        refine sr_callVV C [sm_I _] (P_M_ran l h) ok_142 sm_l61 rfl rfl rfl rfl ⟨by dsimp only; omega, by dsimp only; omega⟩ (Nat.le_of_ble_eq_true rfl) ⟨Nat.zero_le _, Nat.zero_le _⟩ d_M_ringsIn_71 (fun μ8 h => ?_)
        refine sr_aload_n C 0 rfl rfl d_M_ringsIn_74 ?_
        refine sr_aload_n C 0 rfl rfl d_M_ringsIn_75 ?_
        refine sr_getI C sm_F7 25 q_620 sm_l61 rfl (by decide) d_M_ringsIn_76 ?_
        refine sr_iload_n C 2 rfl rfl d_M_ringsIn_79 ?_
        refine sr_callVI C [sm_I _, sm_I _] (PG_m_0 l 8 h) ok_139 sm_l61 rfl rfl rfl rfl ⟨by dsimp only; omega, by dsimp only; omega⟩ (Nat.le_of_ble_eq_true rfl) ⟨Nat.zero_le _, Nat.zero_le _⟩ d_M_ringsIn_80 (fun r10 μ9 h => ?_)
        refine sr_istore_n C rfl (by decide) d_M_ringsIn_83 ?_
        refine sr_iload_n C 0 rfl rfl d_M_ringsIn_84 ?_
        refine sr_aload_n C 1 rfl rfl d_M_ringsIn_85 ?_
        refine sr_iconst C (v := 3) d_M_ringsIn_86 (by decide) ?_
        refine sr_iload_n C 3 rfl rfl d_M_ringsIn_87 ?_
        refine sr_callVI C [sm_I _, sm_I _] (hF0 h) ok_141 sm_l61 rfl rfl rfl rfl ⟨by dsimp only; omega, by dsimp only; omega⟩ (Nat.le_of_ble_eq_true rfl) ⟨Nat.zero_le _, Nat.zero_le _⟩ d_M_ringsIn_88 (fun r12 μ11 h => ?_)
        refine sr_isub C d_M_ringsIn_91 ?_
        exact hR _ _ _ _ d_M_ringsIn_92 rfl h
    · replace h := Eq.mp (if_pos c2) h
      refine sr_aload_n C 0 rfl rfl d_M_ringsIn_37 ?_
      refine sr_bipush C (v := 50) d_M_ringsIn_38 (by decide) ?_
      refine sr_callVV C [sm_I _] (P_M_ran l h) ok_142 sm_l61 rfl rfl rfl rfl ⟨by dsimp only; omega, by dsimp only; omega⟩ (Nat.le_of_ble_eq_true rfl) ⟨Nat.zero_le _, Nat.zero_le _⟩ d_M_ringsIn_40 (fun μ13 h => ?_)
      refine sr_aload_n C 0 rfl rfl d_M_ringsIn_43 ?_
      refine sr_iconst C (v := 1) d_M_ringsIn_44 (by decide) ?_
      refine sr_iload_n C 2 rfl rfl d_M_ringsIn_45 ?_
      refine sr_callVI C [sm_I _, sm_I _] (hF0 h) ok_141 sm_l61 rfl rfl rfl rfl ⟨by dsimp only; omega, by dsimp only; omega⟩ (Nat.le_of_ble_eq_true rfl) ⟨Nat.zero_le _, Nat.zero_le _⟩ d_M_ringsIn_46 (fun r15 μ14 h => ?_)
      refine sr_istore_n C rfl (by decide) d_M_ringsIn_49 ?_
      refine sr_iload_n C 0 rfl rfl d_M_ringsIn_50 ?_
      refine sr_aload_n C 1 rfl rfl d_M_ringsIn_51 ?_
      refine sr_aload_n C 1 rfl rfl d_M_ringsIn_52 ?_
      refine sr_getI C sm_F7 25 q_620 sm_l61 rfl (by decide) d_M_ringsIn_53 ?_
      refine sr_iconst C (v := 2) d_M_ringsIn_56 (by decide) ?_
      refine sr_callVI C [sm_I _, sm_I _] (PG_f_0 l 8 h) ok_138 sm_l61 rfl rfl rfl rfl ⟨by dsimp only; omega, by dsimp only; omega⟩ (Nat.le_of_ble_eq_true rfl) ⟨Nat.zero_le _, Nat.zero_le _⟩ d_M_ringsIn_57 (fun r17 μ16 h => ?_)
      refine sr_isub C d_M_ringsIn_60 ?_
      exact hR _ _ _ _ d_M_ringsIn_61 rfl h
  · replace h := Eq.mp (if_pos c1) h
    refine sr_aload_n C 0 rfl rfl d_M_ringsIn_4 ?_
    refine sr_bipush C (v := 13) d_M_ringsIn_5 (by decide) ?_
    refine sr_callVV C [sm_I _] (P_M_ran l h) ok_142 sm_l61 rfl rfl rfl rfl ⟨by dsimp only; omega, by dsimp only; omega⟩ (Nat.le_of_ble_eq_true rfl) ⟨Nat.zero_le _, Nat.zero_le _⟩ d_M_ringsIn_7 (fun μ18 h => ?_)
    refine sr_aload_n C 0 rfl rfl d_M_ringsIn_10 ?_
    refine sr_aload_n C 0 rfl rfl d_M_ringsIn_11 ?_
    refine sr_getI C sm_F7 25 q_620 sm_l61 rfl (by decide) d_M_ringsIn_12 ?_
    refine sr_iload_n C 2 rfl rfl d_M_ringsIn_15 ?_
    refine sr_callVI C [sm_I _, sm_I _] (PG_m_0 l 8 h) ok_139 sm_l61 rfl rfl rfl rfl ⟨by dsimp only; omega, by dsimp only; omega⟩ (Nat.le_of_ble_eq_true rfl) ⟨Nat.zero_le _, Nat.zero_le _⟩ d_M_ringsIn_16 (fun r20 μ19 h => ?_)
    refine sr_istore_n C rfl (by decide) d_M_ringsIn_19 ?_
    refine sr_iload_n C 0 rfl rfl d_M_ringsIn_20 ?_
    refine sr_aload_n C 1 rfl rfl d_M_ringsIn_21 ?_
    refine sr_aload_n C 1 rfl rfl d_M_ringsIn_22 ?_
    refine sr_getI C sm_F7 25 q_620 sm_l61 rfl (by decide) d_M_ringsIn_23 ?_
    refine sr_iload_n C 3 rfl rfl d_M_ringsIn_26 ?_
    refine sr_callVI C [sm_I _, sm_I _] (PG_p_0 l 8 h) ok_140 sm_l61 rfl rfl rfl rfl ⟨by dsimp only; omega, by dsimp only; omega⟩ (Nat.le_of_ble_eq_true rfl) ⟨Nat.zero_le _, Nat.zero_le _⟩ d_M_ringsIn_27 (fun r22 μ21 h => ?_)
    refine sr_ixor C d_M_ringsIn_30 ?_
    exact hR _ _ _ _ d_M_ringsIn_31 rfl h
def wg_r : Nat → Nat → (Int32 → sm_Mem → Prop) → Int32 → Int32 → sm_Mem → Prop
  | 0, _ => fun _ _ _ _ => False
  | n + 1, 0 => w_M_ringsIn (wg_r n)
  | _ + 1, _ => fun _ _ _ _ => False
theorem PG_r (l : Launch) : ∀ n : Nat, (∀ {K : Int32 → sm_Mem → Prop} {p0 : Int32} {p1 : Int32} {μ : sm_Mem}, wg_r n 0 K p0 p1 μ → sm_MI l ⟨"SnowMoneyModel", "ringsIn", "(II)I"⟩ prog_10_method_76_code 4 (some .int) { frames := n + 40, cells := 0, slots := 0, locals := n * 60 + 3000 } [sm_R 61, sm_I p0, sm_I p1] μ K)
  | 0 => fun h => h.elim
  | n + 1 => fun h => P_M_ringsIn l (F := wg_r n) (n := n) (PG_r l n) h
theorem PG_r_0 (l : Launch) (n : Nat) {K : Int32 → sm_Mem → Prop} {p0 : Int32} {p1 : Int32} {μ : sm_Mem} (h : wg_r n 0 K p0 p1 μ) : sm_MI l ⟨"SnowMoneyModel", "ringsIn", "(II)I"⟩ prog_10_method_76_code 4 (some .int) { frames := n + 40, cells := 0, slots := 0, locals := n * 60 + 3000 } [sm_R 61, sm_I p0, sm_I p1] μ K := (PG_r l n) h
theorem d_M_voice_0 : decode prog_10_method_77_code 0 = .ok (.aload_n 0, 1) := by decide +kernel
theorem d_M_voice_1 : decode prog_10_method_77_code 1 = .ok (.iload_n 1, 1) := by decide +kernel
theorem d_M_voice_2 : decode prog_10_method_77_code 2 = .ok (.invokevirtual 75, 3) := by decide +kernel
theorem d_M_voice_5 : decode prog_10_method_77_code 5 = .ok (.ifCond .eq 12, 3) := by decide +kernel
theorem d_M_voice_8 : decode prog_10_method_77_code 8 = .ok (.iload_n 2, 1) := by decide +kernel
theorem d_M_voice_9 : decode prog_10_method_77_code 9 = .ok (.iconst 0, 1) := by decide +kernel
theorem d_M_voice_10 : decode prog_10_method_77_code 10 = .ok (.iconst 3, 1) := by decide +kernel
theorem d_M_voice_11 : decode prog_10_method_77_code 11 = .ok (.invokestatic 44, 3) := by decide +kernel
theorem d_M_voice_14 : decode prog_10_method_77_code 14 = .ok (.ifCond .ne 10, 3) := by decide +kernel
theorem d_M_voice_17 : decode prog_10_method_77_code 17 = .ok (.aload_n 0, 1) := by decide +kernel
theorem d_M_voice_18 : decode prog_10_method_77_code 18 = .ok (.ldc 48, 2) := by decide +kernel
theorem d_M_voice_20 : decode prog_10_method_77_code 20 = .ok (.invokevirtual 49, 3) := by decide +kernel
theorem d_M_voice_23 : decode prog_10_method_77_code 23 = .ok (.ireturn, 1) := by decide +kernel
theorem d_M_voice_24 : decode prog_10_method_77_code 24 = .ok (.aload_n 0, 1) := by decide +kernel
theorem d_M_voice_25 : decode prog_10_method_77_code 25 = .ok (.iconst 0, 1) := by decide +kernel
theorem d_M_voice_26 : decode prog_10_method_77_code 26 = .ok (.putfield 225, 3) := by decide +kernel
theorem d_M_voice_29 : decode prog_10_method_77_code 29 = .ok (.aload_n 0, 1) := by decide +kernel
theorem d_M_voice_30 : decode prog_10_method_77_code 30 = .ok (.aload_n 0, 1) := by decide +kernel
theorem d_M_voice_31 : decode prog_10_method_77_code 31 = .ok (.iload_n 1, 1) := by decide +kernel
theorem d_M_voice_32 : decode prog_10_method_77_code 32 = .ok (.iconst 0, 1) := by decide +kernel
theorem d_M_voice_33 : decode prog_10_method_77_code 33 = .ok (.invokevirtual 62, 3) := by decide +kernel
theorem d_M_voice_36 : decode prog_10_method_77_code 36 = .ok (.putfield 243, 3) := by decide +kernel
theorem d_M_voice_39 : decode prog_10_method_77_code 39 = .ok (.aload_n 0, 1) := by decide +kernel
theorem d_M_voice_40 : decode prog_10_method_77_code 40 = .ok (.iload_n 1, 1) := by decide +kernel
theorem d_M_voice_41 : decode prog_10_method_77_code 41 = .ok (.putfield 231, 3) := by decide +kernel
theorem d_M_voice_44 : decode prog_10_method_77_code 44 = .ok (.aload_n 0, 1) := by decide +kernel
theorem d_M_voice_45 : decode prog_10_method_77_code 45 = .ok (.aload_n 0, 1) := by decide +kernel
theorem d_M_voice_46 : decode prog_10_method_77_code 46 = .ok (.iload_n 1, 1) := by decide +kernel
theorem d_M_voice_47 : decode prog_10_method_77_code 47 = .ok (.iconst 1, 1) := by decide +kernel
theorem d_M_voice_48 : decode prog_10_method_77_code 48 = .ok (.invokevirtual 62, 3) := by decide +kernel
theorem d_M_voice_51 : decode prog_10_method_77_code 51 = .ok (.putfield 237, 3) := by decide +kernel
theorem d_M_voice_54 : decode prog_10_method_77_code 54 = .ok (.iload_n 2, 1) := by decide +kernel
theorem d_M_voice_55 : decode prog_10_method_77_code 55 = .ok (.tableswitch 55 0 2 #[25, 35, 45], 25) := by decide +kernel
theorem d_M_voice_80 : decode prog_10_method_77_code 80 = .ok (.aload_n 0, 1) := by decide +kernel
theorem d_M_voice_81 : decode prog_10_method_77_code 81 = .ok (.aload_n 0, 1) := by decide +kernel
theorem d_M_voice_82 : decode prog_10_method_77_code 82 = .ok (.getfield 243, 3) := by decide +kernel
theorem d_M_voice_85 : decode prog_10_method_77_code 85 = .ok (.iload_n 3, 1) := by decide +kernel
theorem d_M_voice_86 : decode prog_10_method_77_code 86 = .ok (.invokevirtual 234, 3) := by decide +kernel
theorem d_M_voice_89 : decode prog_10_method_77_code 89 = .ok (.ireturn, 1) := by decide +kernel
theorem d_M_voice_90 : decode prog_10_method_77_code 90 = .ok (.aload_n 0, 1) := by decide +kernel
theorem d_M_voice_91 : decode prog_10_method_77_code 91 = .ok (.aload_n 0, 1) := by decide +kernel
theorem d_M_voice_92 : decode prog_10_method_77_code 92 = .ok (.getfield 243, 3) := by decide +kernel
theorem d_M_voice_95 : decode prog_10_method_77_code 95 = .ok (.iload_n 3, 1) := by decide +kernel
theorem d_M_voice_96 : decode prog_10_method_77_code 96 = .ok (.invokevirtual 246, 3) := by decide +kernel
theorem d_M_voice_99 : decode prog_10_method_77_code 99 = .ok (.ireturn, 1) := by decide +kernel
theorem d_M_voice_100 : decode prog_10_method_77_code 100 = .ok (.aload_n 0, 1) := by decide +kernel
theorem d_M_voice_101 : decode prog_10_method_77_code 101 = .ok (.aload_n 0, 1) := by decide +kernel
theorem d_M_voice_102 : decode prog_10_method_77_code 102 = .ok (.getfield 243, 3) := by decide +kernel
theorem d_M_voice_105 : decode prog_10_method_77_code 105 = .ok (.iload_n 3, 1) := by decide +kernel
theorem d_M_voice_106 : decode prog_10_method_77_code 106 = .ok (.invokevirtual 240, 3) := by decide +kernel
theorem d_M_voice_109 : decode prog_10_method_77_code 109 = .ok (.ireturn, 1) := by decide +kernel
theorem d_M_voice_110 : decode prog_10_method_77_code 110 = .ok (.aload_n 0, 1) := by decide +kernel
theorem d_M_voice_111 : decode prog_10_method_77_code 111 = .ok (.aload_n 0, 1) := by decide +kernel
theorem d_M_voice_112 : decode prog_10_method_77_code 112 = .ok (.getfield 243, 3) := by decide +kernel
theorem d_M_voice_115 : decode prog_10_method_77_code 115 = .ok (.iload_n 3, 1) := by decide +kernel
theorem d_M_voice_116 : decode prog_10_method_77_code 116 = .ok (.invokevirtual 249, 3) := by decide +kernel
theorem d_M_voice_119 : decode prog_10_method_77_code 119 = .ok (.ireturn, 1) := by decide +kernel
def w_M_voice_17 (K : Int32 → sm_Mem → Prop) (p0 : Int32) (p1 : Int32) (p2 : Int32) (μ : sm_Mem) : Prop := w_M_errs (fun r5 μ4 => K r5 μ4) (-1000000001) μ
def w_M_voice (K : Int32 → sm_Mem → Prop) (p0 : Int32) (p1 : Int32) (p2 : Int32) (μ : sm_Mem) : Prop := w_M_isNote (fun r2 μ1 => if r2 = 0 then w_M_voice_17 K p0 p1 p2 μ1 else (w_M_in (fun r7 μ6 => if r7 = 0 then w_M_voice_17 K p0 p1 p2 μ6 else (∀ μ9 : sm_Mem, μ9 = sm_st μ6 61 24 0 → w_M_its (fun r11 μ10 => ∀ μ12 : sm_Mem, μ12 = sm_st μ10 61 25 r11 → ∀ μ13 : sm_Mem, μ13 = sm_st μ12 61 26 p0 → w_M_its (fun r15 μ14 => ∀ μ16 : sm_Mem, μ16 = sm_st μ14 61 27 r15 → ∀ v17 : Int32, v17 = p1 → if v17 = 0 then wg_f 8 0 (fun r20 μ19 => K r20 μ19) (μ16 61 25) p2 μ16 else (if v17 = 1 then wg_m 8 0 (fun r23 μ22 => K r23 μ22) (μ16 61 25) p2 μ16 else (if v17 = 2 then wg_p 8 0 (fun r26 μ25 => K r26 μ25) (μ16 61 25) p2 μ16 else wg_r 8 0 (fun r28 μ27 => K r28 μ27) (μ16 61 25) p2 μ16))) p0 1 μ13) p0 0 μ9)) p1 0 3 μ1)) p0 μ
set_option maxHeartbeats 4000000 in
set_option maxRecDepth 100000 in
theorem P_M_voice (l : Launch) {K : Int32 → sm_Mem → Prop} {p0 : Int32} {p1 : Int32} {p2 : Int32} {μ : sm_Mem} (h : w_M_voice K p0 p1 p2 μ) : sm_MI l ⟨"SnowMoneyModel", "voice", "(III)I"⟩ prog_10_method_77_code 4 (some .int) { frames := 49, cells := 0, slots := 0, locals := 3503 } [sm_R 61, sm_I p0, sm_I p1, sm_I p2] μ K := by
  refine sm_ofI (by decide +kernel) (fun _ => Nat.le_of_ble_eq_true rfl) ?_
  intro p e s m args below meth c A Q G C hR
  have B17 : ∀ (μ : sm_Mem), w_M_voice_17 K p0 p1 p2 μ → sm_W p l e { frames := 49, cells := 0, slots := 0, locals := 3503 } s m args below meth c A Q G 4 0 0 17 [] [(0, sm_R 61)] μ := by
    intro μ h
    refine sr_aload_n C 0 rfl rfl d_M_voice_17 ?_
    refine sr_ldc C q_441 d_M_voice_18 ?_
    refine sr_callVI C [sm_I _] (P_M_errs l h) ok_97 sm_l61 rfl rfl rfl rfl ⟨Nat.le_of_ble_eq_true rfl, Nat.le_of_ble_eq_true rfl⟩ (Nat.le_of_ble_eq_true rfl) ⟨Nat.zero_le _, Nat.zero_le _⟩ d_M_voice_20 (fun r5 μ4 h => ?_)
    exact hR _ _ _ _ d_M_voice_23 rfl h
  refine sr_aload_n C 0 rfl rfl d_M_voice_0 ?_
  refine sr_iload_n C 1 rfl rfl d_M_voice_1 ?_
  refine sr_callVI C [sm_I _] (P_M_isNote l h) ok_104 sm_l61 rfl rfl rfl rfl ⟨Nat.le_of_ble_eq_true rfl, Nat.le_of_ble_eq_true rfl⟩ (Nat.le_of_ble_eq_true rfl) ⟨Nat.zero_le _, Nat.zero_le _⟩ d_M_voice_2 (fun r2 μ1 h => ?_)
  refine sr_if_eq C (tgt := 17) d_M_voice_5 (by decide) (fun c3 => ?_) (fun c3 => ?_)
  · replace h := Eq.mp (if_pos c3) h
    refine sr_mask C [0] rfl ?_
    exact B17 _ h
  · replace h := Eq.mp (if_neg c3) h
    refine sr_iload_n C 2 rfl rfl d_M_voice_8 ?_
    refine sr_iconst C (v := 0) d_M_voice_9 (by decide) ?_
    refine sr_iconst C (v := 3) d_M_voice_10 (by decide) ?_
    refine sr_callSI C [sm_I _, sm_I _, sm_I _] (P_M_in l h) ok_96 rfl rfl rfl ⟨Nat.le_of_ble_eq_true rfl, Nat.le_of_ble_eq_true rfl⟩ (Nat.le_of_ble_eq_true rfl) ⟨Nat.zero_le _, Nat.zero_le _⟩ d_M_voice_11 (fun r7 μ6 h => ?_)
    refine sr_if_ne C (tgt := 24) d_M_voice_14 (by decide) (fun c8 => ?_) (fun c8 => ?_)
    · replace h := Eq.mp (if_neg c8) h
      refine sr_aload_n C 0 rfl rfl d_M_voice_24 ?_
      refine sr_iconst C (v := 0) d_M_voice_25 (by decide) ?_
      refine sr_putI C sm_F7 24 q_619 sm_l61 rfl rfl (by decide) rfl d_M_voice_26 ?_
      replace h := h _ rfl
      refine sr_aload_n C 0 rfl rfl d_M_voice_29 ?_
      refine sr_aload_n C 0 rfl rfl d_M_voice_30 ?_
      refine sr_iload_n C 1 rfl rfl d_M_voice_31 ?_
      refine sr_iconst C (v := 0) d_M_voice_32 (by decide) ?_
      refine sr_callVI C [sm_I _, sm_I _] (P_M_its l h) ok_101 sm_l61 rfl rfl rfl rfl ⟨Nat.le_of_ble_eq_true rfl, Nat.le_of_ble_eq_true rfl⟩ (Nat.le_of_ble_eq_true rfl) ⟨Nat.zero_le _, Nat.zero_le _⟩ d_M_voice_33 (fun r11 μ10 h => ?_)
      refine sr_putI C sm_F7 25 q_620 sm_l61 rfl rfl (by decide) rfl d_M_voice_36 ?_
      replace h := h _ rfl
      refine sr_aload_n C 0 rfl rfl d_M_voice_39 ?_
      refine sr_iload_n C 1 rfl rfl d_M_voice_40 ?_
      refine sr_putI C sm_F7 26 q_621 sm_l61 rfl rfl (by decide) rfl d_M_voice_41 ?_
      replace h := h _ rfl
      refine sr_aload_n C 0 rfl rfl d_M_voice_44 ?_
      refine sr_aload_n C 0 rfl rfl d_M_voice_45 ?_
      refine sr_iload_n C 1 rfl rfl d_M_voice_46 ?_
      refine sr_iconst C (v := 1) d_M_voice_47 (by decide) ?_
      refine sr_callVI C [sm_I _, sm_I _] (P_M_its l h) ok_101 sm_l61 rfl rfl rfl rfl ⟨Nat.le_of_ble_eq_true rfl, Nat.le_of_ble_eq_true rfl⟩ (Nat.le_of_ble_eq_true rfl) ⟨Nat.zero_le _, Nat.zero_le _⟩ d_M_voice_48 (fun r15 μ14 h => ?_)
      refine sr_putI C sm_F7 27 q_622 sm_l61 rfl rfl (by decide) rfl d_M_voice_51 ?_
      replace h := h _ rfl
      refine sr_iload_n C 2 rfl rfl d_M_voice_54 ?_
      refine sm_name (fun v17 ev17 => ?_)
      replace h := h v17 ev17
      by_cases c18 : v17 = 0
      · replace h := Eq.mp (if_pos c18) h
        refine sr_tableIn C (tgt := 80) (off := 25) d_M_voice_55 (by rw [c18]; decide) (by rw [c18]; decide) (by rw [c18]; decide) (by decide) ?_
        refine sr_aload_n C 0 rfl rfl d_M_voice_80 ?_
        refine sr_aload_n C 0 rfl rfl d_M_voice_81 ?_
        refine sr_getI C sm_F7 25 q_620 sm_l61 rfl (by decide) d_M_voice_82 ?_
        refine sr_iload_n C 3 rfl rfl d_M_voice_85 ?_
        refine sr_callVI C [sm_I _, sm_I _] (PG_f_0 l 8 h) ok_138 sm_l61 rfl rfl rfl rfl ⟨Nat.le_of_ble_eq_true rfl, Nat.le_of_ble_eq_true rfl⟩ (Nat.le_of_ble_eq_true rfl) ⟨Nat.zero_le _, Nat.zero_le _⟩ d_M_voice_86 (fun r20 μ19 h => ?_)
        exact hR _ _ _ _ d_M_voice_89 rfl h
      · replace h := Eq.mp (if_neg c18) h
        by_cases c21 : v17 = 1
        · replace h := Eq.mp (if_pos c21) h
          refine sr_tableIn C (tgt := 90) (off := 35) d_M_voice_55 (by rw [c21]; decide) (by rw [c21]; decide) (by rw [c21]; decide) (by decide) ?_
          refine sr_aload_n C 0 rfl rfl d_M_voice_90 ?_
          refine sr_aload_n C 0 rfl rfl d_M_voice_91 ?_
          refine sr_getI C sm_F7 25 q_620 sm_l61 rfl (by decide) d_M_voice_92 ?_
          refine sr_iload_n C 3 rfl rfl d_M_voice_95 ?_
          refine sr_callVI C [sm_I _, sm_I _] (PG_m_0 l 8 h) ok_139 sm_l61 rfl rfl rfl rfl ⟨Nat.le_of_ble_eq_true rfl, Nat.le_of_ble_eq_true rfl⟩ (Nat.le_of_ble_eq_true rfl) ⟨Nat.zero_le _, Nat.zero_le _⟩ d_M_voice_96 (fun r23 μ22 h => ?_)
          exact hR _ _ _ _ d_M_voice_99 rfl h
        · replace h := Eq.mp (if_neg c21) h
          by_cases c24 : v17 = 2
          · replace h := Eq.mp (if_pos c24) h
            refine sr_tableIn C (tgt := 100) (off := 45) d_M_voice_55 (by rw [c24]; decide) (by rw [c24]; decide) (by rw [c24]; decide) (by decide) ?_
            refine sr_aload_n C 0 rfl rfl d_M_voice_100 ?_
            refine sr_aload_n C 0 rfl rfl d_M_voice_101 ?_
            refine sr_getI C sm_F7 25 q_620 sm_l61 rfl (by decide) d_M_voice_102 ?_
            refine sr_iload_n C 3 rfl rfl d_M_voice_105 ?_
            refine sr_callVI C [sm_I _, sm_I _] (PG_p_0 l 8 h) ok_140 sm_l61 rfl rfl rfl rfl ⟨Nat.le_of_ble_eq_true rfl, Nat.le_of_ble_eq_true rfl⟩ (Nat.le_of_ble_eq_true rfl) ⟨Nat.zero_le _, Nat.zero_le _⟩ d_M_voice_106 (fun r26 μ25 h => ?_)
            exact hR _ _ _ _ d_M_voice_109 rfl h
          · replace h := Eq.mp (if_neg c24) h
            have i0 := sm_ne c18 (z := 0) (by decide)
            have i1 := sm_ne c21 (z := 1) (by decide)
            have i2 := sm_ne c24 (z := 2) (by decide)
            refine sr_tableOut C (tgt := 110) d_M_voice_55 (by omega) (by decide) ?_
            refine sr_aload_n C 0 rfl rfl d_M_voice_110 ?_
            refine sr_aload_n C 0 rfl rfl d_M_voice_111 ?_
            refine sr_getI C sm_F7 25 q_620 sm_l61 rfl (by decide) d_M_voice_112 ?_
            refine sr_iload_n C 3 rfl rfl d_M_voice_115 ?_
            refine sr_callVI C [sm_I _, sm_I _] (PG_r_0 l 8 h) ok_141 sm_l61 rfl rfl rfl rfl ⟨Nat.le_of_ble_eq_true rfl, Nat.le_of_ble_eq_true rfl⟩ (Nat.le_of_ble_eq_true rfl) ⟨Nat.zero_le _, Nat.zero_le _⟩ d_M_voice_116 (fun r28 μ27 h => ?_)
            exact hR _ _ _ _ d_M_voice_119 rfl h
    · replace h := Eq.mp (if_pos c8) h
      refine sr_mask C [0] rfl ?_
      exact B17 _ h
theorem d_M_trace_0 : decode prog_10_method_78_code 0 = .ok (.iload_n 1, 1) := by decide +kernel
theorem d_M_trace_1 : decode prog_10_method_78_code 1 = .ok (.iconst 0, 1) := by decide +kernel
theorem d_M_trace_2 : decode prog_10_method_78_code 2 = .ok (.aload_n 0, 1) := by decide +kernel
theorem d_M_trace_3 : decode prog_10_method_78_code 3 = .ok (.getfield 225, 3) := by decide +kernel
theorem d_M_trace_6 : decode prog_10_method_78_code 6 = .ok (.iconst 1, 1) := by decide +kernel
theorem d_M_trace_7 : decode prog_10_method_78_code 7 = .ok (.isub, 1) := by decide +kernel
theorem d_M_trace_8 : decode prog_10_method_78_code 8 = .ok (.invokestatic 44, 3) := by decide +kernel
theorem d_M_trace_11 : decode prog_10_method_78_code 11 = .ok (.ifCond .eq 12, 3) := by decide +kernel
theorem d_M_trace_14 : decode prog_10_method_78_code 14 = .ok (.aload_n 0, 1) := by decide +kernel
theorem d_M_trace_15 : decode prog_10_method_78_code 15 = .ok (.getfield 40, 3) := by decide +kernel
theorem d_M_trace_18 : decode prog_10_method_78_code 18 = .ok (.iload_n 1, 1) := by decide +kernel
theorem d_M_trace_19 : decode prog_10_method_78_code 19 = .ok (.iaload, 1) := by decide +kernel
theorem d_M_trace_20 : decode prog_10_method_78_code 20 = .ok (.goto 9, 3) := by decide +kernel
theorem d_M_trace_23 : decode prog_10_method_78_code 23 = .ok (.aload_n 0, 1) := by decide +kernel
theorem d_M_trace_24 : decode prog_10_method_78_code 24 = .ok (.ldc 196, 2) := by decide +kernel
theorem d_M_trace_26 : decode prog_10_method_78_code 26 = .ok (.invokevirtual 49, 3) := by decide +kernel
theorem d_M_trace_29 : decode prog_10_method_78_code 29 = .ok (.ireturn, 1) := by decide +kernel
def w_M_trace (K : Int32 → sm_Mem → Prop) (p0 : Int32) (μ : sm_Mem) : Prop := w_M_in (fun r2 μ1 => if r2 = 0 then w_M_errs (fun r5 μ4 => K r5 μ4) (-1000000002) μ1 else (vp_in p0 40 ∧ K (μ1 72 p0.toNatClampNeg) μ1)) p0 0 ((μ 61 24) - 1) μ
set_option maxHeartbeats 4000000 in
set_option maxRecDepth 100000 in
theorem P_M_trace (l : Launch) {K : Int32 → sm_Mem → Prop} {p0 : Int32} {μ : sm_Mem} (h : w_M_trace K p0 μ) : sm_MI l ⟨"SnowMoneyModel", "trace", "(I)I"⟩ prog_10_method_78_code 2 (some .int) { frames := 1, cells := 0, slots := 0, locals := 22 } [sm_R 61, sm_I p0] μ K := by
  refine sm_ofI (by decide +kernel) (fun _ => Nat.le_of_ble_eq_true rfl) ?_
  intro p e s m args below meth c A Q G C hR
  refine sr_iload_n C 1 rfl rfl d_M_trace_0 ?_
  refine sr_iconst C (v := 0) d_M_trace_1 (by decide) ?_
  refine sr_aload_n C 0 rfl rfl d_M_trace_2 ?_
  refine sr_getI C sm_F7 24 q_619 sm_l61 rfl (by decide) d_M_trace_3 ?_
  refine sr_iconst C (v := 1) d_M_trace_6 (by decide) ?_
  refine sr_isub C d_M_trace_7 ?_
  refine sr_callSI C [sm_I _, sm_I _, sm_I _] (P_M_in l h) ok_96 rfl rfl rfl ⟨Nat.le_of_ble_eq_true rfl, Nat.le_of_ble_eq_true rfl⟩ (Nat.le_of_ble_eq_true rfl) ⟨Nat.zero_le _, Nat.zero_le _⟩ d_M_trace_8 (fun r2 μ1 h => ?_)
  refine sr_if_eq C (tgt := 23) d_M_trace_11 (by decide) (fun c3 => ?_) (fun c3 => ?_)
  · replace h := Eq.mp (if_pos c3) h
    refine sr_aload_n C 0 rfl rfl d_M_trace_23 ?_
    refine sr_ldc C q_587 d_M_trace_24 ?_
    refine sr_callVI C [sm_I _] (P_M_errs l h) ok_97 sm_l61 rfl rfl rfl rfl ⟨Nat.le_of_ble_eq_true rfl, Nat.le_of_ble_eq_true rfl⟩ (Nat.le_of_ble_eq_true rfl) ⟨Nat.zero_le _, Nat.zero_le _⟩ d_M_trace_26 (fun r5 μ4 h => ?_)
    exact hR _ _ _ _ d_M_trace_29 rfl h
  · replace h := Eq.mp (if_neg c3) h
    refine sr_aload_n C 0 rfl rfl d_M_trace_14 ?_
    refine sr_getR C sm_F7 23 q_643 sm_l61 (r := 72) rfl (by decide) d_M_trace_15 ?_
    refine sr_iload_n C 1 rfl rfl d_M_trace_18 ?_
    obtain ⟨g6, h⟩ := h
    refine sr_iald C sm_l72 g6 d_M_trace_19 ?_
    refine sr_goto C (tgt := 29) (by decide) d_M_trace_20 ?_
    exact hR _ _ _ _ d_M_trace_29 rfl h
theorem d_M_sheet_0 : decode prog_10_method_80_code 0 = .ok (.iload_n 1, 1) := by decide +kernel
theorem d_M_sheet_1 : decode prog_10_method_80_code 1 = .ok (.invokestatic 215, 3) := by decide +kernel
theorem d_M_sheet_4 : decode prog_10_method_80_code 4 = .ok (.ifCond .eq 25, 3) := by decide +kernel
theorem d_M_sheet_7 : decode prog_10_method_80_code 7 = .ok (.iload_n 2, 1) := by decide +kernel
theorem d_M_sheet_8 : decode prog_10_method_80_code 8 = .ok (.ifCond .eq 28, 3) := by decide +kernel
theorem d_M_sheet_11 : decode prog_10_method_80_code 11 = .ok (.iload_n 2, 1) := by decide +kernel
theorem d_M_sheet_12 : decode prog_10_method_80_code 12 = .ok (.bipush 8, 2) := by decide +kernel
theorem d_M_sheet_14 : decode prog_10_method_80_code 14 = .ok (.if_icmp .eq 22, 3) := by decide +kernel
theorem d_M_sheet_17 : decode prog_10_method_80_code 17 = .ok (.iload_n 2, 1) := by decide +kernel
theorem d_M_sheet_18 : decode prog_10_method_80_code 18 = .ok (.bipush 16, 2) := by decide +kernel
theorem d_M_sheet_20 : decode prog_10_method_80_code 20 = .ok (.if_icmp .eq 16, 3) := by decide +kernel
theorem d_M_sheet_23 : decode prog_10_method_80_code 23 = .ok (.iload_n 2, 1) := by decide +kernel
theorem d_M_sheet_24 : decode prog_10_method_80_code 24 = .ok (.bipush 32, 2) := by decide +kernel
theorem d_M_sheet_26 : decode prog_10_method_80_code 26 = .ok (.if_icmp .eq 10, 3) := by decide +kernel
theorem d_M_sheet_29 : decode prog_10_method_80_code 29 = .ok (.aload_n 0, 1) := by decide +kernel
theorem d_M_sheet_30 : decode prog_10_method_80_code 30 = .ok (.ldc 48, 2) := by decide +kernel
theorem d_M_sheet_32 : decode prog_10_method_80_code 32 = .ok (.invokevirtual 49, 3) := by decide +kernel
theorem d_M_sheet_35 : decode prog_10_method_80_code 35 = .ok (.ireturn, 1) := by decide +kernel
theorem d_M_sheet_36 : decode prog_10_method_80_code 36 = .ok (.iload_n 2, 1) := by decide +kernel
theorem d_M_sheet_37 : decode prog_10_method_80_code 37 = .ok (.ifCond .eq 14, 3) := by decide +kernel
theorem d_M_sheet_40 : decode prog_10_method_80_code 40 = .ok (.iload_n 3, 1) := by decide +kernel
theorem d_M_sheet_41 : decode prog_10_method_80_code 41 = .ok (.ifCond .ge 10, 3) := by decide +kernel
theorem d_M_sheet_44 : decode prog_10_method_80_code 44 = .ok (.aload_n 0, 1) := by decide +kernel
theorem d_M_sheet_45 : decode prog_10_method_80_code 45 = .ok (.ldc 178, 2) := by decide +kernel
theorem d_M_sheet_47 : decode prog_10_method_80_code 47 = .ok (.invokevirtual 49, 3) := by decide +kernel
theorem d_M_sheet_50 : decode prog_10_method_80_code 50 = .ok (.ireturn, 1) := by decide +kernel
theorem d_M_sheet_51 : decode prog_10_method_80_code 51 = .ok (.iload_n 2, 1) := by decide +kernel
theorem d_M_sheet_52 : decode prog_10_method_80_code 52 = .ok (.ifCond .eq 16, 3) := by decide +kernel
theorem d_M_sheet_55 : decode prog_10_method_80_code 55 = .ok (.iload_n 3, 1) := by decide +kernel
theorem d_M_sheet_56 : decode prog_10_method_80_code 56 = .ok (.bipush 40, 2) := by decide +kernel
theorem d_M_sheet_58 : decode prog_10_method_80_code 58 = .ok (.if_icmp .le 10, 3) := by decide +kernel
theorem d_M_sheet_61 : decode prog_10_method_80_code 61 = .ok (.aload_n 0, 1) := by decide +kernel
theorem d_M_sheet_62 : decode prog_10_method_80_code 62 = .ok (.ldc 48, 2) := by decide +kernel
theorem d_M_sheet_64 : decode prog_10_method_80_code 64 = .ok (.invokevirtual 49, 3) := by decide +kernel
theorem d_M_sheet_67 : decode prog_10_method_80_code 67 = .ok (.ireturn, 1) := by decide +kernel
theorem d_M_sheet_68 : decode prog_10_method_80_code 68 = .ok (.aload_n 0, 1) := by decide +kernel
theorem d_M_sheet_69 : decode prog_10_method_80_code 69 = .ok (.getfield 28, 3) := by decide +kernel
theorem d_M_sheet_72 : decode prog_10_method_80_code 72 = .ok (.iload_n 1, 1) := by decide +kernel
theorem d_M_sheet_73 : decode prog_10_method_80_code 73 = .ok (.iload_n 2, 1) := by decide +kernel
theorem d_M_sheet_74 : decode prog_10_method_80_code 74 = .ok (.iastore, 1) := by decide +kernel
theorem d_M_sheet_75 : decode prog_10_method_80_code 75 = .ok (.aload_n 0, 1) := by decide +kernel
theorem d_M_sheet_76 : decode prog_10_method_80_code 76 = .ok (.getfield 31, 3) := by decide +kernel
theorem d_M_sheet_79 : decode prog_10_method_80_code 79 = .ok (.iload_n 1, 1) := by decide +kernel
theorem d_M_sheet_80 : decode prog_10_method_80_code 80 = .ok (.iload_n 2, 1) := by decide +kernel
theorem d_M_sheet_81 : decode prog_10_method_80_code 81 = .ok (.ifCond .ne 7, 3) := by decide +kernel
theorem d_M_sheet_84 : decode prog_10_method_80_code 84 = .ok (.iconst 0, 1) := by decide +kernel
theorem d_M_sheet_85 : decode prog_10_method_80_code 85 = .ok (.goto 4, 3) := by decide +kernel
theorem d_M_sheet_88 : decode prog_10_method_80_code 88 = .ok (.iload_n 3, 1) := by decide +kernel
theorem d_M_sheet_89 : decode prog_10_method_80_code 89 = .ok (.iastore, 1) := by decide +kernel
theorem d_M_sheet_90 : decode prog_10_method_80_code 90 = .ok (.iconst 0, 1) := by decide +kernel
theorem d_M_sheet_91 : decode prog_10_method_80_code 91 = .ok (.istore 4, 2) := by decide +kernel
theorem d_M_sheet_93 : decode prog_10_method_80_code 93 = .ok (.iload 4, 2) := by decide +kernel
theorem d_M_sheet_95 : decode prog_10_method_80_code 95 = .ok (.bipush 40, 2) := by decide +kernel
theorem d_M_sheet_97 : decode prog_10_method_80_code 97 = .ok (.if_icmp .ge 22, 3) := by decide +kernel
theorem d_M_sheet_100 : decode prog_10_method_80_code 100 = .ok (.aload_n 0, 1) := by decide +kernel
theorem d_M_sheet_101 : decode prog_10_method_80_code 101 = .ok (.getfield 34, 3) := by decide +kernel
theorem d_M_sheet_104 : decode prog_10_method_80_code 104 = .ok (.bipush 40, 2) := by decide +kernel
theorem d_M_sheet_106 : decode prog_10_method_80_code 106 = .ok (.iload_n 1, 1) := by decide +kernel
theorem d_M_sheet_107 : decode prog_10_method_80_code 107 = .ok (.imul, 1) := by decide +kernel
theorem d_M_sheet_108 : decode prog_10_method_80_code 108 = .ok (.iload 4, 2) := by decide +kernel
theorem d_M_sheet_110 : decode prog_10_method_80_code 110 = .ok (.iadd, 1) := by decide +kernel
theorem d_M_sheet_111 : decode prog_10_method_80_code 111 = .ok (.iconst 0, 1) := by decide +kernel
theorem d_M_sheet_112 : decode prog_10_method_80_code 112 = .ok (.iastore, 1) := by decide +kernel
theorem d_M_sheet_113 : decode prog_10_method_80_code 113 = .ok (.iinc 4 1, 3) := by decide +kernel
theorem d_M_sheet_116 : decode prog_10_method_80_code 116 = .ok (.goto (-23), 3) := by decide +kernel
theorem d_M_sheet_119 : decode prog_10_method_80_code 119 = .ok (.iconst 1, 1) := by decide +kernel
theorem d_M_sheet_120 : decode prog_10_method_80_code 120 = .ok (.ireturn, 1) := by decide +kernel
def w_M_sheet_29 (K : Int32 → sm_Mem → Prop) (p0 : Int32) (p1 : Int32) (p2 : Int32) (μ : sm_Mem) : Prop := w_M_errs (fun r5 μ4 => K r5 μ4) (-1000000001) μ
def w_M_sheet_93 (K : Int32 → sm_Mem → Prop) (p0 : Int32) (p1 : Int32) (p2 : Int32) (x4 : Int32) (μ : sm_Mem) : Prop := sm_lp1 (fun J93 x4 μ => if 40 ≤ x4 then K 1 μ else (vp_in ((40 * p0) + x4) 160 ∧ ∀ μ16 : sm_Mem, μ16 = sm_st μ 70 (((40 * p0) + x4).toNatClampNeg) 0 → J93 (x4 + 1) μ16)) x4 μ
def w_M_sheet_89 (K : Int32 → sm_Mem → Prop) (p0 : Int32) (p1 : Int32) (p2 : Int32) (s0 : Int32) (s1 : Int32) (μ : sm_Mem) : Prop := vp_in s1 4 ∧ ∀ μ13 : sm_Mem, μ13 = sm_st μ 69 (s1.toNatClampNeg) s0 → w_M_sheet_93 K p0 p1 p2 0 μ13
def w_M_sheet_68 (K : Int32 → sm_Mem → Prop) (p0 : Int32) (p1 : Int32) (p2 : Int32) (μ : sm_Mem) : Prop := vp_in p0 4 ∧ ∀ μ10 : sm_Mem, μ10 = sm_st μ 68 (p0.toNatClampNeg) p1 → if p1 = 0 then w_M_sheet_89 K p0 p1 p2 0 p0 μ10 else w_M_sheet_89 K p0 p1 p2 p2 p0 μ10
def w_M_sheet_51 (K : Int32 → sm_Mem → Prop) (p0 : Int32) (p1 : Int32) (p2 : Int32) (μ : sm_Mem) : Prop := if p1 = 0 then w_M_sheet_68 K p0 p1 p2 μ else (if p2 ≤ 40 then w_M_sheet_68 K p0 p1 p2 μ else w_M_errs (fun r19 μ18 => K r19 μ18) (-1000000001) μ)
def w_M_sheet_36 (K : Int32 → sm_Mem → Prop) (p0 : Int32) (p1 : Int32) (p2 : Int32) (μ : sm_Mem) : Prop := if p1 = 0 then w_M_sheet_51 K p0 p1 p2 μ else (if 0 ≤ p2 then w_M_sheet_51 K p0 p1 p2 μ else w_M_errs (fun r22 μ21 => K r22 μ21) (-1000000003) μ)
def w_M_sheet (K : Int32 → sm_Mem → Prop) (p0 : Int32) (p1 : Int32) (p2 : Int32) (μ : sm_Mem) : Prop := w_M_isSheet (fun r2 μ1 => if r2 = 0 then w_M_sheet_29 K p0 p1 p2 μ1 else (if p1 = 0 then w_M_sheet_36 K p0 p1 p2 μ1 else (if p1 = 8 then w_M_sheet_36 K p0 p1 p2 μ1 else (if p1 = 16 then w_M_sheet_36 K p0 p1 p2 μ1 else (if p1 = 32 then w_M_sheet_36 K p0 p1 p2 μ1 else w_M_sheet_29 K p0 p1 p2 μ1))))) p0 μ
set_option maxHeartbeats 4000000 in
set_option maxRecDepth 100000 in
theorem P_M_sheet (l : Launch) {K : Int32 → sm_Mem → Prop} {p0 : Int32} {p1 : Int32} {p2 : Int32} {μ : sm_Mem} (h : w_M_sheet K p0 p1 p2 μ) : sm_MI l ⟨"SnowMoneyModel", "sheet", "(III)I"⟩ prog_10_method_80_code 5 (some .int) { frames := 2, cells := 0, slots := 0, locals := 42 } [sm_R 61, sm_I p0, sm_I p1, sm_I p2] μ K := by
  refine sm_ofI (by decide +kernel) (fun _ => Nat.le_of_ble_eq_true rfl) ?_
  intro p e s m args below meth c A Q G C hR
  have B29 : ∀ (μ : sm_Mem), w_M_sheet_29 K p0 p1 p2 μ → sm_W p l e { frames := 2, cells := 0, slots := 0, locals := 42 } s m args below meth c A Q G 5 0 0 29 [] [(0, sm_R 61)] μ := by
    intro μ h
    refine sr_aload_n C 0 rfl rfl d_M_sheet_29 ?_
    refine sr_ldc C q_441 d_M_sheet_30 ?_
    refine sr_callVI C [sm_I _] (P_M_errs l h) ok_97 sm_l61 rfl rfl rfl rfl ⟨Nat.le_of_ble_eq_true rfl, Nat.le_of_ble_eq_true rfl⟩ (Nat.le_of_ble_eq_true rfl) ⟨Nat.zero_le _, Nat.zero_le _⟩ d_M_sheet_32 (fun r5 μ4 h => ?_)
    exact hR _ _ _ _ d_M_sheet_35 rfl h
  have B93 : ∀ (x4 : Int32) (μ : sm_Mem), w_M_sheet_93 K p0 p1 p2 x4 μ → sm_W p l e { frames := 2, cells := 0, slots := 0, locals := 42 } s m args below meth c A Q G 5 0 0 93 [] [(0, sm_R 61), (1, sm_I p0), (4, sm_I x4)] μ := by
    intro x4 μ h
    refine sm_lp1_sound (P := fun x4 μ => sm_W p l e { frames := 2, cells := 0, slots := 0, locals := 42 } s m args below meth c A Q G 5 0 0 93 [] [(0, sm_R 61), (1, sm_I p0), (4, sm_I x4)] μ) (fun J93 x4 μ hJ93 h => ?_) h
    refine sr_iload C 2 rfl d_M_sheet_93 ?_
    refine sr_bipush C (v := 40) d_M_sheet_95 (by decide) ?_
    refine sr_icmp_ge C (tgt := 119) d_M_sheet_97 (by decide) (fun c14 => ?_) (fun c14 => ?_)
    · replace h := Eq.mp (if_pos c14) h
      refine sr_iconst C (v := 1) d_M_sheet_119 (by decide) ?_
      exact hR _ _ _ _ d_M_sheet_120 rfl h
    · replace h := Eq.mp (if_neg c14) h
      refine sr_aload_n C 0 rfl rfl d_M_sheet_100 ?_
      refine sr_getR C sm_F7 21 q_611 sm_l61 (r := 70) rfl (by decide) d_M_sheet_101 ?_
      refine sr_bipush C (v := 40) d_M_sheet_104 (by decide) ?_
      refine sr_iload_n C 1 rfl rfl d_M_sheet_106 ?_
      refine sr_imul C d_M_sheet_107 ?_
      refine sr_iload C 2 rfl d_M_sheet_108 ?_
      refine sr_iadd C d_M_sheet_110 ?_
      refine sr_iconst C (v := 0) d_M_sheet_111 (by decide) ?_
      obtain ⟨g15, h⟩ := h
      refine sr_iast C sm_l70 g15 d_M_sheet_112 ?_
      replace h := h _ rfl
      refine sr_iinc C 2 rfl (by decide) d_M_sheet_113 rfl ?_
      refine sr_goto C (tgt := 93) (by decide) d_M_sheet_116 ?_
      refine sr_mask C [1, 2, 0] rfl ?_
      exact hJ93 _ _ h
  have B89 : ∀ (s0 : Int32) (s1 : Int32) (μ : sm_Mem), w_M_sheet_89 K p0 p1 p2 s0 s1 μ → sm_W p l e { frames := 2, cells := 0, slots := 0, locals := 42 } s m args below meth c A Q G 5 0 0 89 [sm_I s0, sm_I s1, sm_R 69] [(0, sm_R 61), (1, sm_I p0)] μ := by
    intro s0 s1 μ h
    obtain ⟨g12, h⟩ := h
    refine sr_iast C sm_l69 g12 d_M_sheet_89 ?_
    replace h := h _ rfl
    refine sr_iconst C (v := 0) d_M_sheet_90 (by decide) ?_
    refine sr_istore C (by decide) d_M_sheet_91 ?_
    refine sr_mask C [1, 2, 0] rfl ?_
    exact B93 _ _ h
  have B68 : ∀ (μ : sm_Mem), w_M_sheet_68 K p0 p1 p2 μ → sm_W p l e { frames := 2, cells := 0, slots := 0, locals := 42 } s m args below meth c A Q G 5 0 0 68 [] [(0, sm_R 61), (1, sm_I p0), (2, sm_I p1), (3, sm_I p2)] μ := by
    intro μ h
    refine sr_aload_n C 0 rfl rfl d_M_sheet_68 ?_
    refine sr_getR C sm_F7 19 q_609 sm_l61 (r := 68) rfl (by decide) d_M_sheet_69 ?_
    refine sr_iload_n C 1 rfl rfl d_M_sheet_72 ?_
    refine sr_iload_n C 2 rfl rfl d_M_sheet_73 ?_
    obtain ⟨g9, h⟩ := h
    refine sr_iast C sm_l68 g9 d_M_sheet_74 ?_
    replace h := h _ rfl
    refine sr_aload_n C 0 rfl rfl d_M_sheet_75 ?_
    refine sr_getR C sm_F7 20 q_610 sm_l61 (r := 69) rfl (by decide) d_M_sheet_76 ?_
    refine sr_iload_n C 1 rfl rfl d_M_sheet_79 ?_
    refine sr_iload_n C 2 rfl rfl d_M_sheet_80 ?_
    refine sr_if_ne C (tgt := 88) d_M_sheet_81 (by decide) (fun c11 => ?_) (fun c11 => ?_)
    · replace h := Eq.mp (if_neg c11) h
      refine sr_iload_n C 3 rfl rfl d_M_sheet_88 ?_
      refine sr_mask C [0, 1] rfl ?_
      exact B89 _ _ _ h
    · replace h := Eq.mp (if_pos c11) h
      refine sr_iconst C (v := 0) d_M_sheet_84 (by decide) ?_
      refine sr_goto C (tgt := 89) (by decide) d_M_sheet_85 ?_
      refine sr_mask C [0, 1] rfl ?_
      exact B89 _ _ _ h
  have B51 : ∀ (μ : sm_Mem), w_M_sheet_51 K p0 p1 p2 μ → sm_W p l e { frames := 2, cells := 0, slots := 0, locals := 42 } s m args below meth c A Q G 5 0 0 51 [] [(0, sm_R 61), (1, sm_I p0), (2, sm_I p1), (3, sm_I p2)] μ := by
    intro μ h
    refine sr_iload_n C 2 rfl rfl d_M_sheet_51 ?_
    refine sr_if_eq C (tgt := 68) d_M_sheet_52 (by decide) (fun c8 => ?_) (fun c8 => ?_)
    · replace h := Eq.mp (if_pos c8) h
      exact B68 _ h
    · replace h := Eq.mp (if_neg c8) h
      refine sr_iload_n C 3 rfl rfl d_M_sheet_55 ?_
      refine sr_bipush C (v := 40) d_M_sheet_56 (by decide) ?_
      refine sr_icmp_le C (tgt := 68) d_M_sheet_58 (by decide) (fun c17 => ?_) (fun c17 => ?_)
      · replace h := Eq.mp (if_pos c17) h
        exact B68 _ h
      · replace h := Eq.mp (if_neg c17) h
        refine sr_aload_n C 0 rfl rfl d_M_sheet_61 ?_
        refine sr_ldc C q_441 d_M_sheet_62 ?_
        refine sr_callVI C [sm_I _] (P_M_errs l h) ok_97 sm_l61 rfl rfl rfl rfl ⟨Nat.le_of_ble_eq_true rfl, Nat.le_of_ble_eq_true rfl⟩ (Nat.le_of_ble_eq_true rfl) ⟨Nat.zero_le _, Nat.zero_le _⟩ d_M_sheet_64 (fun r19 μ18 h => ?_)
        exact hR _ _ _ _ d_M_sheet_67 rfl h
  have B36 : ∀ (μ : sm_Mem), w_M_sheet_36 K p0 p1 p2 μ → sm_W p l e { frames := 2, cells := 0, slots := 0, locals := 42 } s m args below meth c A Q G 5 0 0 36 [] [(0, sm_R 61), (1, sm_I p0), (2, sm_I p1), (3, sm_I p2)] μ := by
    intro μ h
    refine sr_iload_n C 2 rfl rfl d_M_sheet_36 ?_
    refine sr_if_eq C (tgt := 51) d_M_sheet_37 (by decide) (fun c7 => ?_) (fun c7 => ?_)
    · replace h := Eq.mp (if_pos c7) h
      exact B51 _ h
    · replace h := Eq.mp (if_neg c7) h
      refine sr_iload_n C 3 rfl rfl d_M_sheet_40 ?_
      refine sr_if_ge C (tgt := 51) d_M_sheet_41 (by decide) (fun c20 => ?_) (fun c20 => ?_)
      · replace h := Eq.mp (if_pos c20) h
        exact B51 _ h
      · replace h := Eq.mp (if_neg c20) h
        refine sr_aload_n C 0 rfl rfl d_M_sheet_44 ?_
        refine sr_ldc C q_564 d_M_sheet_45 ?_
        refine sr_callVI C [sm_I _] (P_M_errs l h) ok_97 sm_l61 rfl rfl rfl rfl ⟨Nat.le_of_ble_eq_true rfl, Nat.le_of_ble_eq_true rfl⟩ (Nat.le_of_ble_eq_true rfl) ⟨Nat.zero_le _, Nat.zero_le _⟩ d_M_sheet_47 (fun r22 μ21 h => ?_)
        exact hR _ _ _ _ d_M_sheet_50 rfl h
  refine sr_iload_n C 1 rfl rfl d_M_sheet_0 ?_
  refine sr_callSI C [sm_I _] (P_M_isSheet l h) ok_135 rfl rfl rfl ⟨Nat.le_of_ble_eq_true rfl, Nat.le_of_ble_eq_true rfl⟩ (Nat.le_of_ble_eq_true rfl) ⟨Nat.zero_le _, Nat.zero_le _⟩ d_M_sheet_1 (fun r2 μ1 h => ?_)
  refine sr_if_eq C (tgt := 29) d_M_sheet_4 (by decide) (fun c3 => ?_) (fun c3 => ?_)
  · replace h := Eq.mp (if_pos c3) h
    refine sr_mask C [0] rfl ?_
    exact B29 _ h
  · replace h := Eq.mp (if_neg c3) h
    refine sr_iload_n C 2 rfl rfl d_M_sheet_7 ?_
    refine sr_if_eq C (tgt := 36) d_M_sheet_8 (by decide) (fun c6 => ?_) (fun c6 => ?_)
    · replace h := Eq.mp (if_pos c6) h
      exact B36 _ h
    · replace h := Eq.mp (if_neg c6) h
      refine sr_iload_n C 2 rfl rfl d_M_sheet_11 ?_
      refine sr_bipush C (v := 8) d_M_sheet_12 (by decide) ?_
      refine sr_icmp_eq C (tgt := 36) d_M_sheet_14 (by decide) (fun c23 => ?_) (fun c23 => ?_)
      · replace h := Eq.mp (if_pos c23) h
        exact B36 _ h
      · replace h := Eq.mp (if_neg c23) h
        refine sr_iload_n C 2 rfl rfl d_M_sheet_17 ?_
        refine sr_bipush C (v := 16) d_M_sheet_18 (by decide) ?_
        refine sr_icmp_eq C (tgt := 36) d_M_sheet_20 (by decide) (fun c24 => ?_) (fun c24 => ?_)
        · replace h := Eq.mp (if_pos c24) h
          exact B36 _ h
        · replace h := Eq.mp (if_neg c24) h
          refine sr_iload_n C 2 rfl rfl d_M_sheet_23 ?_
          refine sr_bipush C (v := 32) d_M_sheet_24 (by decide) ?_
          refine sr_icmp_eq C (tgt := 36) d_M_sheet_26 (by decide) (fun c25 => ?_) (fun c25 => ?_)
          · replace h := Eq.mp (if_pos c25) h
            exact B36 _ h
          · replace h := Eq.mp (if_neg c25) h
            refine sr_mask C [0] rfl ?_
            exact B29 _ h
theorem d_M_narrow_0 : decode prog_10_method_79_code 0 = .ok (.iload_n 0, 1) := by decide +kernel
theorem d_M_narrow_1 : decode prog_10_method_79_code 1 = .ok (.bipush 8, 2) := by decide +kernel
theorem d_M_narrow_3 : decode prog_10_method_79_code 3 = .ok (.if_icmp .ne 8, 3) := by decide +kernel
theorem d_M_narrow_6 : decode prog_10_method_79_code 6 = .ok (.iload_n 1, 1) := by decide +kernel
theorem d_M_narrow_7 : decode prog_10_method_79_code 7 = .ok (.i2b, 1) := by decide +kernel
theorem d_M_narrow_8 : decode prog_10_method_79_code 8 = .ok (.goto 15, 3) := by decide +kernel
theorem d_M_narrow_11 : decode prog_10_method_79_code 11 = .ok (.iload_n 0, 1) := by decide +kernel
theorem d_M_narrow_12 : decode prog_10_method_79_code 12 = .ok (.bipush 16, 2) := by decide +kernel
theorem d_M_narrow_14 : decode prog_10_method_79_code 14 = .ok (.if_icmp .ne 8, 3) := by decide +kernel
theorem d_M_narrow_17 : decode prog_10_method_79_code 17 = .ok (.iload_n 1, 1) := by decide +kernel
theorem d_M_narrow_18 : decode prog_10_method_79_code 18 = .ok (.i2s, 1) := by decide +kernel
theorem d_M_narrow_19 : decode prog_10_method_79_code 19 = .ok (.goto 4, 3) := by decide +kernel
theorem d_M_narrow_22 : decode prog_10_method_79_code 22 = .ok (.iload_n 1, 1) := by decide +kernel
theorem d_M_narrow_23 : decode prog_10_method_79_code 23 = .ok (.ireturn, 1) := by decide +kernel
def w_M_narrow (K : Int32 → sm_Mem → Prop) (p0 : Int32) (p1 : Int32) (μ : sm_Mem) : Prop := if p0 = 8 then K p1.toInt8.toInt32 μ else (if p0 = 16 then K p1.toInt16.toInt32 μ else K p1 μ)
set_option maxHeartbeats 4000000 in
set_option maxRecDepth 100000 in
theorem P_M_narrow (l : Launch) {K : Int32 → sm_Mem → Prop} {p0 : Int32} {p1 : Int32} {μ : sm_Mem} (h : w_M_narrow K p0 p1 μ) : sm_MI l ⟨"SnowMoneyModel", "narrow", "(II)I"⟩ prog_10_method_79_code 2 (some .int) { frames := 0, cells := 0, slots := 0, locals := 0 } [sm_I p0, sm_I p1] μ K := by
  refine sm_ofI (by decide +kernel) (fun _ => Nat.le_of_ble_eq_true rfl) ?_
  intro p e s m args below meth c A Q G C hR
  refine sr_iload_n C 0 rfl rfl d_M_narrow_0 ?_
  refine sr_bipush C (v := 8) d_M_narrow_1 (by decide) ?_
  refine sr_icmp_ne C (tgt := 11) d_M_narrow_3 (by decide) (fun c1 => ?_) (fun c1 => ?_)
  · replace h := Eq.mp (if_neg c1) h
    refine sr_iload_n C 0 rfl rfl d_M_narrow_11 ?_
    refine sr_bipush C (v := 16) d_M_narrow_12 (by decide) ?_
    refine sr_icmp_ne C (tgt := 22) d_M_narrow_14 (by decide) (fun c2 => ?_) (fun c2 => ?_)
    · replace h := Eq.mp (if_neg c2) h
      refine sr_iload_n C 1 rfl rfl d_M_narrow_22 ?_
      exact hR _ _ _ _ d_M_narrow_23 rfl h
    · replace h := Eq.mp (if_pos c2) h
      refine sr_iload_n C 1 rfl rfl d_M_narrow_17 ?_
      refine sr_i2s C d_M_narrow_18 ?_
      refine sr_goto C (tgt := 23) (by decide) d_M_narrow_19 ?_
      exact hR _ _ _ _ d_M_narrow_23 rfl h
  · replace h := Eq.mp (if_pos c1) h
    refine sr_iload_n C 1 rfl rfl d_M_narrow_6 ?_
    refine sr_i2b C d_M_narrow_7 ?_
    refine sr_goto C (tgt := 23) (by decide) d_M_narrow_8 ?_
    exact hR _ _ _ _ d_M_narrow_23 rfl h
theorem d_M_put_0 : decode prog_10_method_81_code 0 = .ok (.iload_n 1, 1) := by decide +kernel
theorem d_M_put_1 : decode prog_10_method_81_code 1 = .ok (.invokestatic 215, 3) := by decide +kernel
theorem d_M_put_4 : decode prog_10_method_81_code 4 = .ok (.ifCond .ne 10, 3) := by decide +kernel
theorem d_M_put_7 : decode prog_10_method_81_code 7 = .ok (.aload_n 0, 1) := by decide +kernel
theorem d_M_put_8 : decode prog_10_method_81_code 8 = .ok (.ldc 48, 2) := by decide +kernel
theorem d_M_put_10 : decode prog_10_method_81_code 10 = .ok (.invokevirtual 49, 3) := by decide +kernel
theorem d_M_put_13 : decode prog_10_method_81_code 13 = .ok (.ireturn, 1) := by decide +kernel
theorem d_M_put_14 : decode prog_10_method_81_code 14 = .ok (.aload_n 0, 1) := by decide +kernel
theorem d_M_put_15 : decode prog_10_method_81_code 15 = .ok (.getfield 28, 3) := by decide +kernel
theorem d_M_put_18 : decode prog_10_method_81_code 18 = .ok (.iload_n 1, 1) := by decide +kernel
theorem d_M_put_19 : decode prog_10_method_81_code 19 = .ok (.iaload, 1) := by decide +kernel
theorem d_M_put_20 : decode prog_10_method_81_code 20 = .ok (.ifCond .ne 10, 3) := by decide +kernel
theorem d_M_put_23 : decode prog_10_method_81_code 23 = .ok (.aload_n 0, 1) := by decide +kernel
theorem d_M_put_24 : decode prog_10_method_81_code 24 = .ok (.ldc 196, 2) := by decide +kernel
theorem d_M_put_26 : decode prog_10_method_81_code 26 = .ok (.invokevirtual 49, 3) := by decide +kernel
theorem d_M_put_29 : decode prog_10_method_81_code 29 = .ok (.ireturn, 1) := by decide +kernel
theorem d_M_put_30 : decode prog_10_method_81_code 30 = .ok (.iload_n 2, 1) := by decide +kernel
theorem d_M_put_31 : decode prog_10_method_81_code 31 = .ok (.iconst 0, 1) := by decide +kernel
theorem d_M_put_32 : decode prog_10_method_81_code 32 = .ok (.aload_n 0, 1) := by decide +kernel
theorem d_M_put_33 : decode prog_10_method_81_code 33 = .ok (.getfield 31, 3) := by decide +kernel
theorem d_M_put_36 : decode prog_10_method_81_code 36 = .ok (.iload_n 1, 1) := by decide +kernel
theorem d_M_put_37 : decode prog_10_method_81_code 37 = .ok (.iaload, 1) := by decide +kernel
theorem d_M_put_38 : decode prog_10_method_81_code 38 = .ok (.iconst 1, 1) := by decide +kernel
theorem d_M_put_39 : decode prog_10_method_81_code 39 = .ok (.isub, 1) := by decide +kernel
theorem d_M_put_40 : decode prog_10_method_81_code 40 = .ok (.invokestatic 44, 3) := by decide +kernel
theorem d_M_put_43 : decode prog_10_method_81_code 43 = .ok (.ifCond .ne 10, 3) := by decide +kernel
theorem d_M_put_46 : decode prog_10_method_81_code 46 = .ok (.aload_n 0, 1) := by decide +kernel
theorem d_M_put_47 : decode prog_10_method_81_code 47 = .ok (.ldc 48, 2) := by decide +kernel
theorem d_M_put_49 : decode prog_10_method_81_code 49 = .ok (.invokevirtual 49, 3) := by decide +kernel
theorem d_M_put_52 : decode prog_10_method_81_code 52 = .ok (.ireturn, 1) := by decide +kernel
theorem d_M_put_53 : decode prog_10_method_81_code 53 = .ok (.aload_n 0, 1) := by decide +kernel
theorem d_M_put_54 : decode prog_10_method_81_code 54 = .ok (.getfield 34, 3) := by decide +kernel
theorem d_M_put_57 : decode prog_10_method_81_code 57 = .ok (.bipush 40, 2) := by decide +kernel
theorem d_M_put_59 : decode prog_10_method_81_code 59 = .ok (.iload_n 1, 1) := by decide +kernel
theorem d_M_put_60 : decode prog_10_method_81_code 60 = .ok (.imul, 1) := by decide +kernel
theorem d_M_put_61 : decode prog_10_method_81_code 61 = .ok (.iload_n 2, 1) := by decide +kernel
theorem d_M_put_62 : decode prog_10_method_81_code 62 = .ok (.iadd, 1) := by decide +kernel
theorem d_M_put_63 : decode prog_10_method_81_code 63 = .ok (.aload_n 0, 1) := by decide +kernel
theorem d_M_put_64 : decode prog_10_method_81_code 64 = .ok (.getfield 28, 3) := by decide +kernel
theorem d_M_put_67 : decode prog_10_method_81_code 67 = .ok (.iload_n 1, 1) := by decide +kernel
theorem d_M_put_68 : decode prog_10_method_81_code 68 = .ok (.iaload, 1) := by decide +kernel
theorem d_M_put_69 : decode prog_10_method_81_code 69 = .ok (.iload_n 3, 1) := by decide +kernel
theorem d_M_put_70 : decode prog_10_method_81_code 70 = .ok (.invokestatic 252, 3) := by decide +kernel
theorem d_M_put_73 : decode prog_10_method_81_code 73 = .ok (.iastore, 1) := by decide +kernel
theorem d_M_put_74 : decode prog_10_method_81_code 74 = .ok (.iconst 1, 1) := by decide +kernel
theorem d_M_put_75 : decode prog_10_method_81_code 75 = .ok (.ireturn, 1) := by decide +kernel
def w_M_put (K : Int32 → sm_Mem → Prop) (p0 : Int32) (p1 : Int32) (p2 : Int32) (μ : sm_Mem) : Prop := w_M_isSheet (fun r2 μ1 => if r2 = 0 then w_M_errs (fun r20 μ19 => K r20 μ19) (-1000000001) μ1 else (vp_in p0 4 ∧ if (μ1 68 p0.toNatClampNeg) = 0 then w_M_errs (fun r18 μ17 => K r18 μ17) (-1000000002) μ1 else (vp_in p0 4 ∧ w_M_in (fun r8 μ7 => if r8 = 0 then w_M_errs (fun r16 μ15 => K r16 μ15) (-1000000001) μ7 else (vp_in p0 4 ∧ w_M_narrow (fun r12 μ11 => vp_in ((40 * p0) + p1) 160 ∧ ∀ μ14 : sm_Mem, μ14 = sm_st μ11 70 (((40 * p0) + p1).toNatClampNeg) r12 → K 1 μ14) (μ7 68 p0.toNatClampNeg) p2 μ7)) p1 0 ((μ1 69 p0.toNatClampNeg) - 1) μ1))) p0 μ
set_option maxHeartbeats 4000000 in
set_option maxRecDepth 100000 in
theorem P_M_put (l : Launch) {K : Int32 → sm_Mem → Prop} {p0 : Int32} {p1 : Int32} {p2 : Int32} {μ : sm_Mem} (h : w_M_put K p0 p1 p2 μ) : sm_MI l ⟨"SnowMoneyModel", "put", "(III)I"⟩ prog_10_method_81_code 4 (some .int) { frames := 2, cells := 0, slots := 0, locals := 42 } [sm_R 61, sm_I p0, sm_I p1, sm_I p2] μ K := by
  refine sm_ofI (by decide +kernel) (fun _ => Nat.le_of_ble_eq_true rfl) ?_
  intro p e s m args below meth c A Q G C hR
  refine sr_iload_n C 1 rfl rfl d_M_put_0 ?_
  refine sr_callSI C [sm_I _] (P_M_isSheet l h) ok_135 rfl rfl rfl ⟨Nat.le_of_ble_eq_true rfl, Nat.le_of_ble_eq_true rfl⟩ (Nat.le_of_ble_eq_true rfl) ⟨Nat.zero_le _, Nat.zero_le _⟩ d_M_put_1 (fun r2 μ1 h => ?_)
  refine sr_if_ne C (tgt := 14) d_M_put_4 (by decide) (fun c3 => ?_) (fun c3 => ?_)
  · replace h := Eq.mp (if_neg c3) h
    refine sr_aload_n C 0 rfl rfl d_M_put_14 ?_
    refine sr_getR C sm_F7 19 q_609 sm_l61 (r := 68) rfl (by decide) d_M_put_15 ?_
    refine sr_iload_n C 1 rfl rfl d_M_put_18 ?_
    obtain ⟨g4, h⟩ := h
    refine sr_iald C sm_l68 g4 d_M_put_19 ?_
    refine sr_if_ne C (tgt := 30) d_M_put_20 (by decide) (fun c5 => ?_) (fun c5 => ?_)
    · replace h := Eq.mp (if_neg c5) h
      refine sr_iload_n C 2 rfl rfl d_M_put_30 ?_
      refine sr_iconst C (v := 0) d_M_put_31 (by decide) ?_
      refine sr_aload_n C 0 rfl rfl d_M_put_32 ?_
      refine sr_getR C sm_F7 20 q_610 sm_l61 (r := 69) rfl (by decide) d_M_put_33 ?_
      refine sr_iload_n C 1 rfl rfl d_M_put_36 ?_
      obtain ⟨g6, h⟩ := h
      refine sr_iald C sm_l69 g6 d_M_put_37 ?_
      refine sr_iconst C (v := 1) d_M_put_38 (by decide) ?_
      refine sr_isub C d_M_put_39 ?_
      refine sr_callSI C [sm_I _, sm_I _, sm_I _] (P_M_in l h) ok_96 rfl rfl rfl ⟨Nat.le_of_ble_eq_true rfl, Nat.le_of_ble_eq_true rfl⟩ (Nat.le_of_ble_eq_true rfl) ⟨Nat.zero_le _, Nat.zero_le _⟩ d_M_put_40 (fun r8 μ7 h => ?_)
      refine sr_if_ne C (tgt := 53) d_M_put_43 (by decide) (fun c9 => ?_) (fun c9 => ?_)
      · replace h := Eq.mp (if_neg c9) h
        refine sr_aload_n C 0 rfl rfl d_M_put_53 ?_
        refine sr_getR C sm_F7 21 q_611 sm_l61 (r := 70) rfl (by decide) d_M_put_54 ?_
        refine sr_bipush C (v := 40) d_M_put_57 (by decide) ?_
        refine sr_iload_n C 1 rfl rfl d_M_put_59 ?_
        refine sr_imul C d_M_put_60 ?_
        refine sr_iload_n C 2 rfl rfl d_M_put_61 ?_
        refine sr_iadd C d_M_put_62 ?_
        refine sr_aload_n C 0 rfl rfl d_M_put_63 ?_
        refine sr_getR C sm_F7 19 q_609 sm_l61 (r := 68) rfl (by decide) d_M_put_64 ?_
        refine sr_iload_n C 1 rfl rfl d_M_put_67 ?_
        obtain ⟨g10, h⟩ := h
        refine sr_iald C sm_l68 g10 d_M_put_68 ?_
        refine sr_iload_n C 3 rfl rfl d_M_put_69 ?_
        refine sr_callSI C [sm_I _, sm_I _] (P_M_narrow l h) ok_143 rfl rfl rfl ⟨Nat.le_of_ble_eq_true rfl, Nat.le_of_ble_eq_true rfl⟩ (Nat.le_of_ble_eq_true rfl) ⟨Nat.zero_le _, Nat.zero_le _⟩ d_M_put_70 (fun r12 μ11 h => ?_)
        obtain ⟨g13, h⟩ := h
        refine sr_iast C sm_l70 g13 d_M_put_73 ?_
        replace h := h _ rfl
        refine sr_iconst C (v := 1) d_M_put_74 (by decide) ?_
        exact hR _ _ _ _ d_M_put_75 rfl h
      · replace h := Eq.mp (if_pos c9) h
        refine sr_aload_n C 0 rfl rfl d_M_put_46 ?_
        refine sr_ldc C q_441 d_M_put_47 ?_
        refine sr_callVI C [sm_I _] (P_M_errs l h) ok_97 sm_l61 rfl rfl rfl rfl ⟨Nat.le_of_ble_eq_true rfl, Nat.le_of_ble_eq_true rfl⟩ (Nat.le_of_ble_eq_true rfl) ⟨Nat.zero_le _, Nat.zero_le _⟩ d_M_put_49 (fun r16 μ15 h => ?_)
        exact hR _ _ _ _ d_M_put_52 rfl h
    · replace h := Eq.mp (if_pos c5) h
      refine sr_aload_n C 0 rfl rfl d_M_put_23 ?_
      refine sr_ldc C q_587 d_M_put_24 ?_
      refine sr_callVI C [sm_I _] (P_M_errs l h) ok_97 sm_l61 rfl rfl rfl rfl ⟨Nat.le_of_ble_eq_true rfl, Nat.le_of_ble_eq_true rfl⟩ (Nat.le_of_ble_eq_true rfl) ⟨Nat.zero_le _, Nat.zero_le _⟩ d_M_put_26 (fun r18 μ17 h => ?_)
      exact hR _ _ _ _ d_M_put_29 rfl h
  · replace h := Eq.mp (if_pos c3) h
    refine sr_aload_n C 0 rfl rfl d_M_put_7 ?_
    refine sr_ldc C q_441 d_M_put_8 ?_
    refine sr_callVI C [sm_I _] (P_M_errs l h) ok_97 sm_l61 rfl rfl rfl rfl ⟨Nat.le_of_ble_eq_true rfl, Nat.le_of_ble_eq_true rfl⟩ (Nat.le_of_ble_eq_true rfl) ⟨Nat.zero_le _, Nat.zero_le _⟩ d_M_put_10 (fun r20 μ19 h => ?_)
    exact hR _ _ _ _ d_M_put_13 rfl h
theorem d_M_move_0 : decode prog_10_method_82_code 0 = .ok (.iload_n 1, 1) := by decide +kernel
theorem d_M_move_1 : decode prog_10_method_82_code 1 = .ok (.invokestatic 215, 3) := by decide +kernel
theorem d_M_move_4 : decode prog_10_method_82_code 4 = .ok (.ifCond .eq 10, 3) := by decide +kernel
theorem d_M_move_7 : decode prog_10_method_82_code 7 = .ok (.iload_n 3, 1) := by decide +kernel
theorem d_M_move_8 : decode prog_10_method_82_code 8 = .ok (.invokestatic 215, 3) := by decide +kernel
theorem d_M_move_11 : decode prog_10_method_82_code 11 = .ok (.ifCond .ne 10, 3) := by decide +kernel
theorem d_M_move_14 : decode prog_10_method_82_code 14 = .ok (.aload_n 0, 1) := by decide +kernel
theorem d_M_move_15 : decode prog_10_method_82_code 15 = .ok (.ldc 48, 2) := by decide +kernel
theorem d_M_move_17 : decode prog_10_method_82_code 17 = .ok (.invokevirtual 49, 3) := by decide +kernel
theorem d_M_move_20 : decode prog_10_method_82_code 20 = .ok (.ireturn, 1) := by decide +kernel
theorem d_M_move_21 : decode prog_10_method_82_code 21 = .ok (.aload_n 0, 1) := by decide +kernel
theorem d_M_move_22 : decode prog_10_method_82_code 22 = .ok (.getfield 28, 3) := by decide +kernel
theorem d_M_move_25 : decode prog_10_method_82_code 25 = .ok (.iload_n 1, 1) := by decide +kernel
theorem d_M_move_26 : decode prog_10_method_82_code 26 = .ok (.iaload, 1) := by decide +kernel
theorem d_M_move_27 : decode prog_10_method_82_code 27 = .ok (.ifCond .eq 12, 3) := by decide +kernel
theorem d_M_move_30 : decode prog_10_method_82_code 30 = .ok (.aload_n 0, 1) := by decide +kernel
theorem d_M_move_31 : decode prog_10_method_82_code 31 = .ok (.getfield 28, 3) := by decide +kernel
theorem d_M_move_34 : decode prog_10_method_82_code 34 = .ok (.iload_n 3, 1) := by decide +kernel
theorem d_M_move_35 : decode prog_10_method_82_code 35 = .ok (.iaload, 1) := by decide +kernel
theorem d_M_move_36 : decode prog_10_method_82_code 36 = .ok (.ifCond .ne 10, 3) := by decide +kernel
theorem d_M_move_39 : decode prog_10_method_82_code 39 = .ok (.aload_n 0, 1) := by decide +kernel
theorem d_M_move_40 : decode prog_10_method_82_code 40 = .ok (.ldc 196, 2) := by decide +kernel
theorem d_M_move_42 : decode prog_10_method_82_code 42 = .ok (.invokevirtual 49, 3) := by decide +kernel
theorem d_M_move_45 : decode prog_10_method_82_code 45 = .ok (.ireturn, 1) := by decide +kernel
theorem d_M_move_46 : decode prog_10_method_82_code 46 = .ok (.aload_n 0, 1) := by decide +kernel
theorem d_M_move_47 : decode prog_10_method_82_code 47 = .ok (.getfield 28, 3) := by decide +kernel
theorem d_M_move_50 : decode prog_10_method_82_code 50 = .ok (.iload_n 1, 1) := by decide +kernel
theorem d_M_move_51 : decode prog_10_method_82_code 51 = .ok (.iaload, 1) := by decide +kernel
theorem d_M_move_52 : decode prog_10_method_82_code 52 = .ok (.aload_n 0, 1) := by decide +kernel
theorem d_M_move_53 : decode prog_10_method_82_code 53 = .ok (.getfield 28, 3) := by decide +kernel
theorem d_M_move_56 : decode prog_10_method_82_code 56 = .ok (.iload_n 3, 1) := by decide +kernel
theorem d_M_move_57 : decode prog_10_method_82_code 57 = .ok (.iaload, 1) := by decide +kernel
theorem d_M_move_58 : decode prog_10_method_82_code 58 = .ok (.if_icmp .eq 10, 3) := by decide +kernel
theorem d_M_move_61 : decode prog_10_method_82_code 61 = .ok (.aload_n 0, 1) := by decide +kernel
theorem d_M_move_62 : decode prog_10_method_82_code 62 = .ok (.ldc 87, 2) := by decide +kernel
theorem d_M_move_64 : decode prog_10_method_82_code 64 = .ok (.invokevirtual 49, 3) := by decide +kernel
theorem d_M_move_67 : decode prog_10_method_82_code 67 = .ok (.ireturn, 1) := by decide +kernel
theorem d_M_move_68 : decode prog_10_method_82_code 68 = .ok (.iload 5, 2) := by decide +kernel
theorem d_M_move_70 : decode prog_10_method_82_code 70 = .ok (.ifCond .lt 39, 3) := by decide +kernel
theorem d_M_move_73 : decode prog_10_method_82_code 73 = .ok (.iload_n 2, 1) := by decide +kernel
theorem d_M_move_74 : decode prog_10_method_82_code 74 = .ok (.ifCond .lt 35, 3) := by decide +kernel
theorem d_M_move_77 : decode prog_10_method_82_code 77 = .ok (.iload 4, 2) := by decide +kernel
theorem d_M_move_79 : decode prog_10_method_82_code 79 = .ok (.ifCond .lt 30, 3) := by decide +kernel
theorem d_M_move_82 : decode prog_10_method_82_code 82 = .ok (.iload_n 2, 1) := by decide +kernel
theorem d_M_move_83 : decode prog_10_method_82_code 83 = .ok (.aload_n 0, 1) := by decide +kernel
theorem d_M_move_84 : decode prog_10_method_82_code 84 = .ok (.getfield 31, 3) := by decide +kernel
theorem d_M_move_87 : decode prog_10_method_82_code 87 = .ok (.iload_n 1, 1) := by decide +kernel
theorem d_M_move_88 : decode prog_10_method_82_code 88 = .ok (.iaload, 1) := by decide +kernel
theorem d_M_move_89 : decode prog_10_method_82_code 89 = .ok (.iload 5, 2) := by decide +kernel
theorem d_M_move_91 : decode prog_10_method_82_code 91 = .ok (.isub, 1) := by decide +kernel
theorem d_M_move_92 : decode prog_10_method_82_code 92 = .ok (.if_icmp .gt 17, 3) := by decide +kernel
theorem d_M_move_95 : decode prog_10_method_82_code 95 = .ok (.iload 4, 2) := by decide +kernel
theorem d_M_move_97 : decode prog_10_method_82_code 97 = .ok (.aload_n 0, 1) := by decide +kernel
theorem d_M_move_98 : decode prog_10_method_82_code 98 = .ok (.getfield 31, 3) := by decide +kernel
theorem d_M_move_101 : decode prog_10_method_82_code 101 = .ok (.iload_n 3, 1) := by decide +kernel
theorem d_M_move_102 : decode prog_10_method_82_code 102 = .ok (.iaload, 1) := by decide +kernel
theorem d_M_move_103 : decode prog_10_method_82_code 103 = .ok (.iload 5, 2) := by decide +kernel
theorem d_M_move_105 : decode prog_10_method_82_code 105 = .ok (.isub, 1) := by decide +kernel
theorem d_M_move_106 : decode prog_10_method_82_code 106 = .ok (.if_icmp .le 10, 3) := by decide +kernel
theorem d_M_move_109 : decode prog_10_method_82_code 109 = .ok (.aload_n 0, 1) := by decide +kernel
theorem d_M_move_110 : decode prog_10_method_82_code 110 = .ok (.ldc 48, 2) := by decide +kernel
theorem d_M_move_112 : decode prog_10_method_82_code 112 = .ok (.invokevirtual 49, 3) := by decide +kernel
theorem d_M_move_115 : decode prog_10_method_82_code 115 = .ok (.ireturn, 1) := by decide +kernel
theorem d_M_move_116 : decode prog_10_method_82_code 116 = .ok (.iconst 0, 1) := by decide +kernel
theorem d_M_move_117 : decode prog_10_method_82_code 117 = .ok (.istore 6, 2) := by decide +kernel
theorem d_M_move_119 : decode prog_10_method_82_code 119 = .ok (.iload 6, 2) := by decide +kernel
theorem d_M_move_121 : decode prog_10_method_82_code 121 = .ok (.iload 5, 2) := by decide +kernel
theorem d_M_move_123 : decode prog_10_method_82_code 123 = .ok (.if_icmp .ge 30, 3) := by decide +kernel
theorem d_M_move_126 : decode prog_10_method_82_code 126 = .ok (.aload_n 0, 1) := by decide +kernel
theorem d_M_move_127 : decode prog_10_method_82_code 127 = .ok (.getfield 37, 3) := by decide +kernel
theorem d_M_move_130 : decode prog_10_method_82_code 130 = .ok (.iload 6, 2) := by decide +kernel
theorem d_M_move_132 : decode prog_10_method_82_code 132 = .ok (.aload_n 0, 1) := by decide +kernel
theorem d_M_move_133 : decode prog_10_method_82_code 133 = .ok (.getfield 34, 3) := by decide +kernel
theorem d_M_move_136 : decode prog_10_method_82_code 136 = .ok (.bipush 40, 2) := by decide +kernel
theorem d_M_move_138 : decode prog_10_method_82_code 138 = .ok (.iload_n 1, 1) := by decide +kernel
theorem d_M_move_139 : decode prog_10_method_82_code 139 = .ok (.imul, 1) := by decide +kernel
theorem d_M_move_140 : decode prog_10_method_82_code 140 = .ok (.iload_n 2, 1) := by decide +kernel
theorem d_M_move_141 : decode prog_10_method_82_code 141 = .ok (.iadd, 1) := by decide +kernel
theorem d_M_move_142 : decode prog_10_method_82_code 142 = .ok (.iload 6, 2) := by decide +kernel
theorem d_M_move_144 : decode prog_10_method_82_code 144 = .ok (.iadd, 1) := by decide +kernel
theorem d_M_move_145 : decode prog_10_method_82_code 145 = .ok (.iaload, 1) := by decide +kernel
theorem d_M_move_146 : decode prog_10_method_82_code 146 = .ok (.iastore, 1) := by decide +kernel
theorem d_M_move_147 : decode prog_10_method_82_code 147 = .ok (.iinc 6 1, 3) := by decide +kernel
theorem d_M_move_150 : decode prog_10_method_82_code 150 = .ok (.goto (-31), 3) := by decide +kernel
theorem d_M_move_153 : decode prog_10_method_82_code 153 = .ok (.iconst 0, 1) := by decide +kernel
theorem d_M_move_154 : decode prog_10_method_82_code 154 = .ok (.istore 6, 2) := by decide +kernel
theorem d_M_move_156 : decode prog_10_method_82_code 156 = .ok (.iload 6, 2) := by decide +kernel
theorem d_M_move_158 : decode prog_10_method_82_code 158 = .ok (.iload 5, 2) := by decide +kernel
theorem d_M_move_160 : decode prog_10_method_82_code 160 = .ok (.if_icmp .ge 31, 3) := by decide +kernel
theorem d_M_move_163 : decode prog_10_method_82_code 163 = .ok (.aload_n 0, 1) := by decide +kernel
theorem d_M_move_164 : decode prog_10_method_82_code 164 = .ok (.getfield 34, 3) := by decide +kernel
theorem d_M_move_167 : decode prog_10_method_82_code 167 = .ok (.bipush 40, 2) := by decide +kernel
theorem d_M_move_169 : decode prog_10_method_82_code 169 = .ok (.iload_n 3, 1) := by decide +kernel
theorem d_M_move_170 : decode prog_10_method_82_code 170 = .ok (.imul, 1) := by decide +kernel
theorem d_M_move_171 : decode prog_10_method_82_code 171 = .ok (.iload 4, 2) := by decide +kernel
theorem d_M_move_173 : decode prog_10_method_82_code 173 = .ok (.iadd, 1) := by decide +kernel
theorem d_M_move_174 : decode prog_10_method_82_code 174 = .ok (.iload 6, 2) := by decide +kernel
theorem d_M_move_176 : decode prog_10_method_82_code 176 = .ok (.iadd, 1) := by decide +kernel
theorem d_M_move_177 : decode prog_10_method_82_code 177 = .ok (.aload_n 0, 1) := by decide +kernel
theorem d_M_move_178 : decode prog_10_method_82_code 178 = .ok (.getfield 37, 3) := by decide +kernel
theorem d_M_move_181 : decode prog_10_method_82_code 181 = .ok (.iload 6, 2) := by decide +kernel
theorem d_M_move_183 : decode prog_10_method_82_code 183 = .ok (.iaload, 1) := by decide +kernel
theorem d_M_move_184 : decode prog_10_method_82_code 184 = .ok (.iastore, 1) := by decide +kernel
theorem d_M_move_185 : decode prog_10_method_82_code 185 = .ok (.iinc 6 1, 3) := by decide +kernel
theorem d_M_move_188 : decode prog_10_method_82_code 188 = .ok (.goto (-32), 3) := by decide +kernel
theorem d_M_move_191 : decode prog_10_method_82_code 191 = .ok (.iload 5, 2) := by decide +kernel
theorem d_M_move_193 : decode prog_10_method_82_code 193 = .ok (.ireturn, 1) := by decide +kernel
def w_M_move_14 (K : Int32 → sm_Mem → Prop) (p0 : Int32) (p1 : Int32) (p2 : Int32) (p3 : Int32) (p4 : Int32) (μ : sm_Mem) : Prop := w_M_errs (fun r5 μ4 => K r5 μ4) (-1000000001) μ
def w_M_move_39 (K : Int32 → sm_Mem → Prop) (p0 : Int32) (p1 : Int32) (p2 : Int32) (p3 : Int32) (p4 : Int32) (μ : sm_Mem) : Prop := w_M_errs (fun r12 μ11 => K r12 μ11) (-1000000002) μ
def w_M_move_109 (K : Int32 → sm_Mem → Prop) (p0 : Int32) (p1 : Int32) (p2 : Int32) (p3 : Int32) (p4 : Int32) (μ : sm_Mem) : Prop := w_M_errs (fun r20 μ19 => K r20 μ19) (-1000000001) μ
def w_M_move_156 (K : Int32 → sm_Mem → Prop) (p0 : Int32) (p1 : Int32) (p2 : Int32) (p3 : Int32) (p4 : Int32) (x6 : Int32) (μ : sm_Mem) : Prop := sm_lp1 (fun J156 x6 μ => if p4 ≤ x6 then K p4 μ else (vp_in x6 40 ∧ vp_in (((40 * p2) + p3) + x6) 160 ∧ ∀ μ31 : sm_Mem, μ31 = sm_st μ 70 ((((40 * p2) + p3) + x6).toNatClampNeg) (μ 71 x6.toNatClampNeg) → J156 (x6 + 1) μ31)) x6 μ
def w_M_move_119 (K : Int32 → sm_Mem → Prop) (p0 : Int32) (p1 : Int32) (p2 : Int32) (p3 : Int32) (p4 : Int32) (x6 : Int32) (μ : sm_Mem) : Prop := sm_lp1 (fun J119 x6 μ => if p4 ≤ x6 then w_M_move_156 K p0 p1 p2 p3 p4 0 μ else (vp_in (((40 * p0) + p1) + x6) 160 ∧ vp_in x6 40 ∧ ∀ μ34 : sm_Mem, μ34 = sm_st μ 71 (x6.toNatClampNeg) (μ 70 (((40 * p0) + p1) + x6).toNatClampNeg) → J119 (x6 + 1) μ34)) x6 μ
def w_M_move (K : Int32 → sm_Mem → Prop) (p0 : Int32) (p1 : Int32) (p2 : Int32) (p3 : Int32) (p4 : Int32) (μ : sm_Mem) : Prop := w_M_isSheet (fun r2 μ1 => if r2 = 0 then w_M_move_14 K p0 p1 p2 p3 p4 μ1 else (w_M_isSheet (fun r7 μ6 => if r7 = 0 then w_M_move_14 K p0 p1 p2 p3 p4 μ6 else (vp_in p0 4 ∧ if (μ6 68 p0.toNatClampNeg) = 0 then w_M_move_39 K p0 p1 p2 p3 p4 μ6 else (vp_in p2 4 ∧ if (μ6 68 p2.toNatClampNeg) = 0 then w_M_move_39 K p0 p1 p2 p3 p4 μ6 else (vp_in p0 4 ∧ vp_in p2 4 ∧ if (μ6 68 p0.toNatClampNeg) = (μ6 68 p2.toNatClampNeg) then (if p4 < 0 then w_M_move_109 K p0 p1 p2 p3 p4 μ6 else (if p1 < 0 then w_M_move_109 K p0 p1 p2 p3 p4 μ6 else (if p3 < 0 then w_M_move_109 K p0 p1 p2 p3 p4 μ6 else (vp_in p0 4 ∧ if ((μ6 69 p0.toNatClampNeg) - p4) < p1 then w_M_move_109 K p0 p1 p2 p3 p4 μ6 else (vp_in p2 4 ∧ if p3 ≤ ((μ6 69 p2.toNatClampNeg) - p4) then w_M_move_119 K p0 p1 p2 p3 p4 0 μ6 else w_M_move_109 K p0 p1 p2 p3 p4 μ6))))) else w_M_errs (fun r36 μ35 => K r36 μ35) (-1000000005) μ6)))) p2 μ1)) p0 μ
set_option maxHeartbeats 4000000 in
set_option maxRecDepth 100000 in
theorem P_M_move (l : Launch) {K : Int32 → sm_Mem → Prop} {p0 : Int32} {p1 : Int32} {p2 : Int32} {p3 : Int32} {p4 : Int32} {μ : sm_Mem} (h : w_M_move K p0 p1 p2 p3 p4 μ) : sm_MI l ⟨"SnowMoneyModel", "move", "(IIIII)I"⟩ prog_10_method_82_code 7 (some .int) { frames := 2, cells := 0, slots := 0, locals := 42 } [sm_R 61, sm_I p0, sm_I p1, sm_I p2, sm_I p3, sm_I p4] μ K := by
  refine sm_ofI (by decide +kernel) (fun _ => Nat.le_of_ble_eq_true rfl) ?_
  intro p e s m args below meth c A Q G C hR
  have B14 : ∀ (μ : sm_Mem), w_M_move_14 K p0 p1 p2 p3 p4 μ → sm_W p l e { frames := 2, cells := 0, slots := 0, locals := 42 } s m args below meth c A Q G 7 0 0 14 [] [(0, sm_R 61)] μ := by
    intro μ h
    refine sr_aload_n C 0 rfl rfl d_M_move_14 ?_
    refine sr_ldc C q_441 d_M_move_15 ?_
    refine sr_callVI C [sm_I _] (P_M_errs l h) ok_97 sm_l61 rfl rfl rfl rfl ⟨Nat.le_of_ble_eq_true rfl, Nat.le_of_ble_eq_true rfl⟩ (Nat.le_of_ble_eq_true rfl) ⟨Nat.zero_le _, Nat.zero_le _⟩ d_M_move_17 (fun r5 μ4 h => ?_)
    exact hR _ _ _ _ d_M_move_20 rfl h
  have B39 : ∀ (μ : sm_Mem), w_M_move_39 K p0 p1 p2 p3 p4 μ → sm_W p l e { frames := 2, cells := 0, slots := 0, locals := 42 } s m args below meth c A Q G 7 0 0 39 [] [(0, sm_R 61)] μ := by
    intro μ h
    refine sr_aload_n C 0 rfl rfl d_M_move_39 ?_
    refine sr_ldc C q_587 d_M_move_40 ?_
    refine sr_callVI C [sm_I _] (P_M_errs l h) ok_97 sm_l61 rfl rfl rfl rfl ⟨Nat.le_of_ble_eq_true rfl, Nat.le_of_ble_eq_true rfl⟩ (Nat.le_of_ble_eq_true rfl) ⟨Nat.zero_le _, Nat.zero_le _⟩ d_M_move_42 (fun r12 μ11 h => ?_)
    exact hR _ _ _ _ d_M_move_45 rfl h
  have B109 : ∀ (μ : sm_Mem), w_M_move_109 K p0 p1 p2 p3 p4 μ → sm_W p l e { frames := 2, cells := 0, slots := 0, locals := 42 } s m args below meth c A Q G 7 0 0 109 [] [(0, sm_R 61)] μ := by
    intro μ h
    refine sr_aload_n C 0 rfl rfl d_M_move_109 ?_
    refine sr_ldc C q_441 d_M_move_110 ?_
    refine sr_callVI C [sm_I _] (P_M_errs l h) ok_97 sm_l61 rfl rfl rfl rfl ⟨Nat.le_of_ble_eq_true rfl, Nat.le_of_ble_eq_true rfl⟩ (Nat.le_of_ble_eq_true rfl) ⟨Nat.zero_le _, Nat.zero_le _⟩ d_M_move_112 (fun r20 μ19 h => ?_)
    exact hR _ _ _ _ d_M_move_115 rfl h
  have B156 : ∀ (x6 : Int32) (μ : sm_Mem), w_M_move_156 K p0 p1 p2 p3 p4 x6 μ → sm_W p l e { frames := 2, cells := 0, slots := 0, locals := 42 } s m args below meth c A Q G 7 0 0 156 [] [(0, sm_R 61), (3, sm_I p2), (4, sm_I p3), (5, sm_I p4), (6, sm_I x6)] μ := by
    intro x6 μ h
    refine sm_lp1_sound (P := fun x6 μ => sm_W p l e { frames := 2, cells := 0, slots := 0, locals := 42 } s m args below meth c A Q G 7 0 0 156 [] [(0, sm_R 61), (3, sm_I p2), (4, sm_I p3), (5, sm_I p4), (6, sm_I x6)] μ) (fun J156 x6 μ hJ156 h => ?_) h
    refine sr_iload C 4 rfl d_M_move_156 ?_
    refine sr_iload C 3 rfl d_M_move_158 ?_
    refine sr_icmp_ge C (tgt := 191) d_M_move_160 (by decide) (fun c28 => ?_) (fun c28 => ?_)
    · replace h := Eq.mp (if_pos c28) h
      refine sr_iload C 3 rfl d_M_move_191 ?_
      exact hR _ _ _ _ d_M_move_193 rfl h
    · replace h := Eq.mp (if_neg c28) h
      refine sr_aload_n C 0 rfl rfl d_M_move_163 ?_
      refine sr_getR C sm_F7 21 q_611 sm_l61 (r := 70) rfl (by decide) d_M_move_164 ?_
      refine sr_bipush C (v := 40) d_M_move_167 (by decide) ?_
      refine sr_iload_n C 1 rfl rfl d_M_move_169 ?_
      refine sr_imul C d_M_move_170 ?_
      refine sr_iload C 2 rfl d_M_move_171 ?_
      refine sr_iadd C d_M_move_173 ?_
      refine sr_iload C 4 rfl d_M_move_174 ?_
      refine sr_iadd C d_M_move_176 ?_
      refine sr_aload_n C 0 rfl rfl d_M_move_177 ?_
      refine sr_getR C sm_F7 22 q_647 sm_l61 (r := 71) rfl (by decide) d_M_move_178 ?_
      refine sr_iload C 4 rfl d_M_move_181 ?_
      obtain ⟨g29, h⟩ := h
      refine sr_iald C sm_l71 g29 d_M_move_183 ?_
      obtain ⟨g30, h⟩ := h
      refine sr_iast C sm_l70 g30 d_M_move_184 ?_
      replace h := h _ rfl
      refine sr_iinc C 4 rfl (by decide) d_M_move_185 rfl ?_
      refine sr_goto C (tgt := 156) (by decide) d_M_move_188 ?_
      refine sr_mask C [1, 2, 3, 4, 0] rfl ?_
      exact hJ156 _ _ h
  have B119 : ∀ (x6 : Int32) (μ : sm_Mem), w_M_move_119 K p0 p1 p2 p3 p4 x6 μ → sm_W p l e { frames := 2, cells := 0, slots := 0, locals := 42 } s m args below meth c A Q G 7 0 0 119 [] [(0, sm_R 61), (1, sm_I p0), (2, sm_I p1), (3, sm_I p2), (4, sm_I p3), (5, sm_I p4), (6, sm_I x6)] μ := by
    intro x6 μ h
    refine sm_lp1_sound (P := fun x6 μ => sm_W p l e { frames := 2, cells := 0, slots := 0, locals := 42 } s m args below meth c A Q G 7 0 0 119 [] [(0, sm_R 61), (1, sm_I p0), (2, sm_I p1), (3, sm_I p2), (4, sm_I p3), (5, sm_I p4), (6, sm_I x6)] μ) (fun J119 x6 μ hJ119 h => ?_) h
    refine sr_iload C 6 rfl d_M_move_119 ?_
    refine sr_iload C 5 rfl d_M_move_121 ?_
    refine sr_icmp_ge C (tgt := 153) d_M_move_123 (by decide) (fun c27 => ?_) (fun c27 => ?_)
    · replace h := Eq.mp (if_pos c27) h
      refine sr_iconst C (v := 0) d_M_move_153 (by decide) ?_
      refine sr_istore C (by decide) d_M_move_154 ?_
      refine sr_mask C [1, 4, 5, 6, 0] rfl ?_
      exact B156 _ _ h
    · replace h := Eq.mp (if_neg c27) h
      refine sr_aload_n C 0 rfl rfl d_M_move_126 ?_
      refine sr_getR C sm_F7 22 q_647 sm_l61 (r := 71) rfl (by decide) d_M_move_127 ?_
      refine sr_iload C 6 rfl d_M_move_130 ?_
      refine sr_aload_n C 0 rfl rfl d_M_move_132 ?_
      refine sr_getR C sm_F7 21 q_611 sm_l61 (r := 70) rfl (by decide) d_M_move_133 ?_
      refine sr_bipush C (v := 40) d_M_move_136 (by decide) ?_
      refine sr_iload_n C 1 rfl rfl d_M_move_138 ?_
      refine sr_imul C d_M_move_139 ?_
      refine sr_iload_n C 2 rfl rfl d_M_move_140 ?_
      refine sr_iadd C d_M_move_141 ?_
      refine sr_iload C 6 rfl d_M_move_142 ?_
      refine sr_iadd C d_M_move_144 ?_
      obtain ⟨g32, h⟩ := h
      refine sr_iald C sm_l70 g32 d_M_move_145 ?_
      obtain ⟨g33, h⟩ := h
      refine sr_iast C sm_l71 g33 d_M_move_146 ?_
      replace h := h _ rfl
      refine sr_iinc C 6 rfl (by decide) d_M_move_147 rfl ?_
      refine sr_goto C (tgt := 119) (by decide) d_M_move_150 ?_
      refine sr_mask C [1, 2, 3, 4, 5, 6, 0] rfl ?_
      exact hJ119 _ _ h
  refine sr_iload_n C 1 rfl rfl d_M_move_0 ?_
  refine sr_callSI C [sm_I _] (P_M_isSheet l h) ok_135 rfl rfl rfl ⟨Nat.le_of_ble_eq_true rfl, Nat.le_of_ble_eq_true rfl⟩ (Nat.le_of_ble_eq_true rfl) ⟨Nat.zero_le _, Nat.zero_le _⟩ d_M_move_1 (fun r2 μ1 h => ?_)
  refine sr_if_eq C (tgt := 14) d_M_move_4 (by decide) (fun c3 => ?_) (fun c3 => ?_)
  · replace h := Eq.mp (if_pos c3) h
    refine sr_mask C [0] rfl ?_
    exact B14 _ h
  · replace h := Eq.mp (if_neg c3) h
    refine sr_iload_n C 3 rfl rfl d_M_move_7 ?_
    refine sr_callSI C [sm_I _] (P_M_isSheet l h) ok_135 rfl rfl rfl ⟨Nat.le_of_ble_eq_true rfl, Nat.le_of_ble_eq_true rfl⟩ (Nat.le_of_ble_eq_true rfl) ⟨Nat.zero_le _, Nat.zero_le _⟩ d_M_move_8 (fun r7 μ6 h => ?_)
    refine sr_if_ne C (tgt := 21) d_M_move_11 (by decide) (fun c8 => ?_) (fun c8 => ?_)
    · replace h := Eq.mp (if_neg c8) h
      refine sr_aload_n C 0 rfl rfl d_M_move_21 ?_
      refine sr_getR C sm_F7 19 q_609 sm_l61 (r := 68) rfl (by decide) d_M_move_22 ?_
      refine sr_iload_n C 1 rfl rfl d_M_move_25 ?_
      obtain ⟨g9, h⟩ := h
      refine sr_iald C sm_l68 g9 d_M_move_26 ?_
      refine sr_if_eq C (tgt := 39) d_M_move_27 (by decide) (fun c10 => ?_) (fun c10 => ?_)
      · replace h := Eq.mp (if_pos c10) h
        refine sr_mask C [0] rfl ?_
        exact B39 _ h
      · replace h := Eq.mp (if_neg c10) h
        refine sr_aload_n C 0 rfl rfl d_M_move_30 ?_
        refine sr_getR C sm_F7 19 q_609 sm_l61 (r := 68) rfl (by decide) d_M_move_31 ?_
        refine sr_iload_n C 3 rfl rfl d_M_move_34 ?_
        obtain ⟨g13, h⟩ := h
        refine sr_iald C sm_l68 g13 d_M_move_35 ?_
        refine sr_if_ne C (tgt := 46) d_M_move_36 (by decide) (fun c14 => ?_) (fun c14 => ?_)
        · replace h := Eq.mp (if_neg c14) h
          refine sr_aload_n C 0 rfl rfl d_M_move_46 ?_
          refine sr_getR C sm_F7 19 q_609 sm_l61 (r := 68) rfl (by decide) d_M_move_47 ?_
          refine sr_iload_n C 1 rfl rfl d_M_move_50 ?_
          obtain ⟨g15, h⟩ := h
          refine sr_iald C sm_l68 g15 d_M_move_51 ?_
          refine sr_aload_n C 0 rfl rfl d_M_move_52 ?_
          refine sr_getR C sm_F7 19 q_609 sm_l61 (r := 68) rfl (by decide) d_M_move_53 ?_
          refine sr_iload_n C 3 rfl rfl d_M_move_56 ?_
          obtain ⟨g16, h⟩ := h
          refine sr_iald C sm_l68 g16 d_M_move_57 ?_
          refine sr_icmp_eq C (tgt := 68) d_M_move_58 (by decide) (fun c17 => ?_) (fun c17 => ?_)
          · replace h := Eq.mp (if_pos c17) h
            refine sr_iload C 5 rfl d_M_move_68 ?_
            refine sr_if_lt C (tgt := 109) d_M_move_70 (by decide) (fun c18 => ?_) (fun c18 => ?_)
            · replace h := Eq.mp (if_pos c18) h
              refine sr_mask C [0] rfl ?_
              exact B109 _ h
            · replace h := Eq.mp (if_neg c18) h
              refine sr_iload_n C 2 rfl rfl d_M_move_73 ?_
              refine sr_if_lt C (tgt := 109) d_M_move_74 (by decide) (fun c21 => ?_) (fun c21 => ?_)
              · replace h := Eq.mp (if_pos c21) h
                refine sr_mask C [0] rfl ?_
                exact B109 _ h
              · replace h := Eq.mp (if_neg c21) h
                refine sr_iload C 4 rfl d_M_move_77 ?_
                refine sr_if_lt C (tgt := 109) d_M_move_79 (by decide) (fun c22 => ?_) (fun c22 => ?_)
                · replace h := Eq.mp (if_pos c22) h
                  refine sr_mask C [0] rfl ?_
                  exact B109 _ h
                · replace h := Eq.mp (if_neg c22) h
                  refine sr_iload_n C 2 rfl rfl d_M_move_82 ?_
                  refine sr_aload_n C 0 rfl rfl d_M_move_83 ?_
                  refine sr_getR C sm_F7 20 q_610 sm_l61 (r := 69) rfl (by decide) d_M_move_84 ?_
                  refine sr_iload_n C 1 rfl rfl d_M_move_87 ?_
                  obtain ⟨g23, h⟩ := h
                  refine sr_iald C sm_l69 g23 d_M_move_88 ?_
                  refine sr_iload C 5 rfl d_M_move_89 ?_
                  refine sr_isub C d_M_move_91 ?_
                  refine sr_icmp_gt C (tgt := 109) d_M_move_92 (by decide) (fun c24 => ?_) (fun c24 => ?_)
                  · replace h := Eq.mp (if_pos c24) h
                    refine sr_mask C [0] rfl ?_
                    exact B109 _ h
                  · replace h := Eq.mp (if_neg c24) h
                    refine sr_iload C 4 rfl d_M_move_95 ?_
                    refine sr_aload_n C 0 rfl rfl d_M_move_97 ?_
                    refine sr_getR C sm_F7 20 q_610 sm_l61 (r := 69) rfl (by decide) d_M_move_98 ?_
                    refine sr_iload_n C 3 rfl rfl d_M_move_101 ?_
                    obtain ⟨g25, h⟩ := h
                    refine sr_iald C sm_l69 g25 d_M_move_102 ?_
                    refine sr_iload C 5 rfl d_M_move_103 ?_
                    refine sr_isub C d_M_move_105 ?_
                    refine sr_icmp_le C (tgt := 116) d_M_move_106 (by decide) (fun c26 => ?_) (fun c26 => ?_)
                    · replace h := Eq.mp (if_pos c26) h
                      refine sr_iconst C (v := 0) d_M_move_116 (by decide) ?_
                      refine sr_istore C (by decide) d_M_move_117 ?_
                      refine sr_mask C [1, 2, 3, 4, 5, 6, 0] rfl ?_
                      exact B119 _ _ h
                    · replace h := Eq.mp (if_neg c26) h
                      refine sr_mask C [0] rfl ?_
                      exact B109 _ h
          · replace h := Eq.mp (if_neg c17) h
            refine sr_aload_n C 0 rfl rfl d_M_move_61 ?_
            refine sr_ldc C q_546 d_M_move_62 ?_
            refine sr_callVI C [sm_I _] (P_M_errs l h) ok_97 sm_l61 rfl rfl rfl rfl ⟨Nat.le_of_ble_eq_true rfl, Nat.le_of_ble_eq_true rfl⟩ (Nat.le_of_ble_eq_true rfl) ⟨Nat.zero_le _, Nat.zero_le _⟩ d_M_move_64 (fun r36 μ35 h => ?_)
            exact hR _ _ _ _ d_M_move_67 rfl h
        · replace h := Eq.mp (if_pos c14) h
          refine sr_mask C [0] rfl ?_
          exact B39 _ h
    · replace h := Eq.mp (if_pos c8) h
      refine sr_mask C [0] rfl ?_
      exact B14 _ h
theorem d_M_snows_0 : decode prog_10_method_83_code 0 = .ok (.iload_n 1, 1) := by decide +kernel
theorem d_M_snows_1 : decode prog_10_method_83_code 1 = .ok (.invokestatic 215, 3) := by decide +kernel
theorem d_M_snows_4 : decode prog_10_method_83_code 4 = .ok (.ifCond .ne 10, 3) := by decide +kernel
theorem d_M_snows_7 : decode prog_10_method_83_code 7 = .ok (.aload_n 0, 1) := by decide +kernel
theorem d_M_snows_8 : decode prog_10_method_83_code 8 = .ok (.ldc 48, 2) := by decide +kernel
theorem d_M_snows_10 : decode prog_10_method_83_code 10 = .ok (.invokevirtual 49, 3) := by decide +kernel
theorem d_M_snows_13 : decode prog_10_method_83_code 13 = .ok (.ireturn, 1) := by decide +kernel
theorem d_M_snows_14 : decode prog_10_method_83_code 14 = .ok (.aload_n 0, 1) := by decide +kernel
theorem d_M_snows_15 : decode prog_10_method_83_code 15 = .ok (.getfield 28, 3) := by decide +kernel
theorem d_M_snows_18 : decode prog_10_method_83_code 18 = .ok (.iload_n 1, 1) := by decide +kernel
theorem d_M_snows_19 : decode prog_10_method_83_code 19 = .ok (.iaload, 1) := by decide +kernel
theorem d_M_snows_20 : decode prog_10_method_83_code 20 = .ok (.ifCond .ne 10, 3) := by decide +kernel
theorem d_M_snows_23 : decode prog_10_method_83_code 23 = .ok (.aload_n 0, 1) := by decide +kernel
theorem d_M_snows_24 : decode prog_10_method_83_code 24 = .ok (.ldc 196, 2) := by decide +kernel
theorem d_M_snows_26 : decode prog_10_method_83_code 26 = .ok (.invokevirtual 49, 3) := by decide +kernel
theorem d_M_snows_29 : decode prog_10_method_83_code 29 = .ok (.ireturn, 1) := by decide +kernel
theorem d_M_snows_30 : decode prog_10_method_83_code 30 = .ok (.iconst 0, 1) := by decide +kernel
theorem d_M_snows_31 : decode prog_10_method_83_code 31 = .ok (.istore_n 2, 1) := by decide +kernel
theorem d_M_snows_32 : decode prog_10_method_83_code 32 = .ok (.iload_n 2, 1) := by decide +kernel
theorem d_M_snows_33 : decode prog_10_method_83_code 33 = .ok (.aload_n 0, 1) := by decide +kernel
theorem d_M_snows_34 : decode prog_10_method_83_code 34 = .ok (.getfield 31, 3) := by decide +kernel
theorem d_M_snows_37 : decode prog_10_method_83_code 37 = .ok (.iload_n 1, 1) := by decide +kernel
theorem d_M_snows_38 : decode prog_10_method_83_code 38 = .ok (.iaload, 1) := by decide +kernel
theorem d_M_snows_39 : decode prog_10_method_83_code 39 = .ok (.if_icmp .ge 55, 3) := by decide +kernel
theorem d_M_snows_42 : decode prog_10_method_83_code 42 = .ok (.aload_n 0, 1) := by decide +kernel
theorem d_M_snows_43 : decode prog_10_method_83_code 43 = .ok (.iload_n 2, 1) := by decide +kernel
theorem d_M_snows_44 : decode prog_10_method_83_code 44 = .ok (.invokevirtual 75, 3) := by decide +kernel
theorem d_M_snows_47 : decode prog_10_method_83_code 47 = .ok (.ifCond .eq 47, 3) := by decide +kernel
theorem d_M_snows_50 : decode prog_10_method_83_code 50 = .ok (.aload_n 0, 1) := by decide +kernel
theorem d_M_snows_51 : decode prog_10_method_83_code 51 = .ok (.getfield 34, 3) := by decide +kernel
theorem d_M_snows_54 : decode prog_10_method_83_code 54 = .ok (.bipush 40, 2) := by decide +kernel
theorem d_M_snows_56 : decode prog_10_method_83_code 56 = .ok (.iload_n 1, 1) := by decide +kernel
theorem d_M_snows_57 : decode prog_10_method_83_code 57 = .ok (.imul, 1) := by decide +kernel
theorem d_M_snows_58 : decode prog_10_method_83_code 58 = .ok (.iload_n 2, 1) := by decide +kernel
theorem d_M_snows_59 : decode prog_10_method_83_code 59 = .ok (.iadd, 1) := by decide +kernel
theorem d_M_snows_60 : decode prog_10_method_83_code 60 = .ok (.iaload, 1) := by decide +kernel
theorem d_M_snows_61 : decode prog_10_method_83_code 61 = .ok (.iconst 0, 1) := by decide +kernel
theorem d_M_snows_62 : decode prog_10_method_83_code 62 = .ok (.sipush 999, 3) := by decide +kernel
theorem d_M_snows_65 : decode prog_10_method_83_code 65 = .ok (.invokestatic 44, 3) := by decide +kernel
theorem d_M_snows_68 : decode prog_10_method_83_code 68 = .ok (.ifCond .eq 26, 3) := by decide +kernel
theorem d_M_snows_71 : decode prog_10_method_83_code 71 = .ok (.aload_n 0, 1) := by decide +kernel
theorem d_M_snows_72 : decode prog_10_method_83_code 72 = .ok (.iload_n 2, 1) := by decide +kernel
theorem d_M_snows_73 : decode prog_10_method_83_code 73 = .ok (.iconst 2, 1) := by decide +kernel
theorem d_M_snows_74 : decode prog_10_method_83_code 74 = .ok (.aload_n 0, 1) := by decide +kernel
theorem d_M_snows_75 : decode prog_10_method_83_code 75 = .ok (.getfield 34, 3) := by decide +kernel
theorem d_M_snows_78 : decode prog_10_method_83_code 78 = .ok (.bipush 40, 2) := by decide +kernel
theorem d_M_snows_80 : decode prog_10_method_83_code 80 = .ok (.iload_n 1, 1) := by decide +kernel
theorem d_M_snows_81 : decode prog_10_method_83_code 81 = .ok (.imul, 1) := by decide +kernel
theorem d_M_snows_82 : decode prog_10_method_83_code 82 = .ok (.iload_n 2, 1) := by decide +kernel
theorem d_M_snows_83 : decode prog_10_method_83_code 83 = .ok (.iadd, 1) := by decide +kernel
theorem d_M_snows_84 : decode prog_10_method_83_code 84 = .ok (.iaload, 1) := by decide +kernel
theorem d_M_snows_85 : decode prog_10_method_83_code 85 = .ok (.invokevirtual 71, 3) := by decide +kernel
theorem d_M_snows_88 : decode prog_10_method_83_code 88 = .ok (.iinc 2 1, 3) := by decide +kernel
theorem d_M_snows_91 : decode prog_10_method_83_code 91 = .ok (.goto (-59), 3) := by decide +kernel
theorem d_M_snows_94 : decode prog_10_method_83_code 94 = .ok (.iload_n 2, 1) := by decide +kernel
theorem d_M_snows_95 : decode prog_10_method_83_code 95 = .ok (.ireturn, 1) := by decide +kernel
def w_M_snows_32 (K : Int32 → sm_Mem → Prop) (p0 : Int32) (x2 : Int32) (μ : sm_Mem) : Prop := sm_lp1 (fun J32 x2 μ => vp_in p0 4 ∧ if (μ 69 p0.toNatClampNeg) ≤ x2 then K x2 μ else (w_M_isNote (fun r9 μ8 => if r9 = 0 then K x2 μ8 else (vp_in ((40 * p0) + x2) 160 ∧ w_M_in (fun r13 μ12 => if r13 = 0 then K x2 μ12 else (vp_in ((40 * p0) + x2) 160 ∧ w_M_gets (fun μ16 => J32 (x2 + 1) μ16) x2 2 (μ12 70 ((40 * p0) + x2).toNatClampNeg) μ12)) (μ8 70 ((40 * p0) + x2).toNatClampNeg) 0 999 μ8)) x2 μ)) x2 μ
def w_M_snows (K : Int32 → sm_Mem → Prop) (p0 : Int32) (μ : sm_Mem) : Prop := w_M_isSheet (fun r2 μ1 => if r2 = 0 then w_M_errs (fun r20 μ19 => K r20 μ19) (-1000000001) μ1 else (vp_in p0 4 ∧ if (μ1 68 p0.toNatClampNeg) = 0 then w_M_errs (fun r18 μ17 => K r18 μ17) (-1000000002) μ1 else w_M_snows_32 K p0 0 μ1)) p0 μ
set_option maxHeartbeats 4000000 in
set_option maxRecDepth 100000 in
theorem P_M_snows (l : Launch) {K : Int32 → sm_Mem → Prop} {p0 : Int32} {μ : sm_Mem} (h : w_M_snows K p0 μ) : sm_MI l ⟨"SnowMoneyModel", "snows", "(I)I"⟩ prog_10_method_83_code 3 (some .int) { frames := 2, cells := 0, slots := 0, locals := 43 } [sm_R 61, sm_I p0] μ K := by
  refine sm_ofI (by decide +kernel) (fun _ => Nat.le_of_ble_eq_true rfl) ?_
  intro p e s m args below meth c A Q G C hR
  have B32 : ∀ (x2 : Int32) (μ : sm_Mem), w_M_snows_32 K p0 x2 μ → sm_W p l e { frames := 2, cells := 0, slots := 0, locals := 43 } s m args below meth c A Q G 3 0 0 32 [] [(0, sm_R 61), (1, sm_I p0), (2, sm_I x2)] μ := by
    intro x2 μ h
    refine sm_lp1_sound (P := fun x2 μ => sm_W p l e { frames := 2, cells := 0, slots := 0, locals := 43 } s m args below meth c A Q G 3 0 0 32 [] [(0, sm_R 61), (1, sm_I p0), (2, sm_I x2)] μ) (fun J32 x2 μ hJ32 h => ?_) h
    refine sr_iload_n C 2 rfl rfl d_M_snows_32 ?_
    refine sr_aload_n C 0 rfl rfl d_M_snows_33 ?_
    refine sr_getR C sm_F7 20 q_610 sm_l61 (r := 69) rfl (by decide) d_M_snows_34 ?_
    refine sr_iload_n C 1 rfl rfl d_M_snows_37 ?_
    obtain ⟨g6, h⟩ := h
    refine sr_iald C sm_l69 g6 d_M_snows_38 ?_
    refine sr_icmp_ge C (tgt := 94) d_M_snows_39 (by decide) (fun c7 => ?_) (fun c7 => ?_)
    · replace h := Eq.mp (if_pos c7) h
      refine sr_iload_n C 2 rfl rfl d_M_snows_94 ?_
      exact hR _ _ _ _ d_M_snows_95 rfl h
    · replace h := Eq.mp (if_neg c7) h
      refine sr_aload_n C 0 rfl rfl d_M_snows_42 ?_
      refine sr_iload_n C 2 rfl rfl d_M_snows_43 ?_
      refine sr_callVI C [sm_I _] (P_M_isNote l h) ok_104 sm_l61 rfl rfl rfl rfl ⟨Nat.le_of_ble_eq_true rfl, Nat.le_of_ble_eq_true rfl⟩ (Nat.le_of_ble_eq_true rfl) ⟨Nat.zero_le _, Nat.zero_le _⟩ d_M_snows_44 (fun r9 μ8 h => ?_)
      refine sr_if_eq C (tgt := 94) d_M_snows_47 (by decide) (fun c10 => ?_) (fun c10 => ?_)
      · replace h := Eq.mp (if_pos c10) h
        refine sr_iload_n C 2 rfl rfl d_M_snows_94 ?_
        exact hR _ _ _ _ d_M_snows_95 rfl h
      · replace h := Eq.mp (if_neg c10) h
        refine sr_aload_n C 0 rfl rfl d_M_snows_50 ?_
        refine sr_getR C sm_F7 21 q_611 sm_l61 (r := 70) rfl (by decide) d_M_snows_51 ?_
        refine sr_bipush C (v := 40) d_M_snows_54 (by decide) ?_
        refine sr_iload_n C 1 rfl rfl d_M_snows_56 ?_
        refine sr_imul C d_M_snows_57 ?_
        refine sr_iload_n C 2 rfl rfl d_M_snows_58 ?_
        refine sr_iadd C d_M_snows_59 ?_
        obtain ⟨g11, h⟩ := h
        refine sr_iald C sm_l70 g11 d_M_snows_60 ?_
        refine sr_iconst C (v := 0) d_M_snows_61 (by decide) ?_
        refine sr_sipush C (v := 999) d_M_snows_62 (by decide) ?_
        refine sr_callSI C [sm_I _, sm_I _, sm_I _] (P_M_in l h) ok_96 rfl rfl rfl ⟨Nat.le_of_ble_eq_true rfl, Nat.le_of_ble_eq_true rfl⟩ (Nat.le_of_ble_eq_true rfl) ⟨Nat.zero_le _, Nat.zero_le _⟩ d_M_snows_65 (fun r13 μ12 h => ?_)
        refine sr_if_eq C (tgt := 94) d_M_snows_68 (by decide) (fun c14 => ?_) (fun c14 => ?_)
        · replace h := Eq.mp (if_pos c14) h
          refine sr_iload_n C 2 rfl rfl d_M_snows_94 ?_
          exact hR _ _ _ _ d_M_snows_95 rfl h
        · replace h := Eq.mp (if_neg c14) h
          refine sr_aload_n C 0 rfl rfl d_M_snows_71 ?_
          refine sr_iload_n C 2 rfl rfl d_M_snows_72 ?_
          refine sr_iconst C (v := 2) d_M_snows_73 (by decide) ?_
          refine sr_aload_n C 0 rfl rfl d_M_snows_74 ?_
          refine sr_getR C sm_F7 21 q_611 sm_l61 (r := 70) rfl (by decide) d_M_snows_75 ?_
          refine sr_bipush C (v := 40) d_M_snows_78 (by decide) ?_
          refine sr_iload_n C 1 rfl rfl d_M_snows_80 ?_
          refine sr_imul C d_M_snows_81 ?_
          refine sr_iload_n C 2 rfl rfl d_M_snows_82 ?_
          refine sr_iadd C d_M_snows_83 ?_
          obtain ⟨g15, h⟩ := h
          refine sr_iald C sm_l70 g15 d_M_snows_84 ?_
          refine sr_callVV C [sm_I _, sm_I _, sm_I _] (P_M_gets l h) ok_103 sm_l61 rfl rfl rfl rfl ⟨Nat.le_of_ble_eq_true rfl, Nat.le_of_ble_eq_true rfl⟩ (Nat.le_of_ble_eq_true rfl) ⟨Nat.zero_le _, Nat.zero_le _⟩ d_M_snows_85 (fun μ16 h => ?_)
          refine sr_iinc C 2 rfl (by decide) d_M_snows_88 rfl ?_
          refine sr_goto C (tgt := 32) (by decide) d_M_snows_91 ?_
          refine sr_mask C [1, 2, 0] rfl ?_
          exact hJ32 _ _ h
  refine sr_iload_n C 1 rfl rfl d_M_snows_0 ?_
  refine sr_callSI C [sm_I _] (P_M_isSheet l h) ok_135 rfl rfl rfl ⟨Nat.le_of_ble_eq_true rfl, Nat.le_of_ble_eq_true rfl⟩ (Nat.le_of_ble_eq_true rfl) ⟨Nat.zero_le _, Nat.zero_le _⟩ d_M_snows_1 (fun r2 μ1 h => ?_)
  refine sr_if_ne C (tgt := 14) d_M_snows_4 (by decide) (fun c3 => ?_) (fun c3 => ?_)
  · replace h := Eq.mp (if_neg c3) h
    refine sr_aload_n C 0 rfl rfl d_M_snows_14 ?_
    refine sr_getR C sm_F7 19 q_609 sm_l61 (r := 68) rfl (by decide) d_M_snows_15 ?_
    refine sr_iload_n C 1 rfl rfl d_M_snows_18 ?_
    obtain ⟨g4, h⟩ := h
    refine sr_iald C sm_l68 g4 d_M_snows_19 ?_
    refine sr_if_ne C (tgt := 30) d_M_snows_20 (by decide) (fun c5 => ?_) (fun c5 => ?_)
    · replace h := Eq.mp (if_neg c5) h
      refine sr_iconst C (v := 0) d_M_snows_30 (by decide) ?_
      refine sr_istore_n C rfl (by decide) d_M_snows_31 ?_
      refine sr_mask C [1, 2, 0] rfl ?_
      exact B32 _ _ h
    · replace h := Eq.mp (if_pos c5) h
      refine sr_aload_n C 0 rfl rfl d_M_snows_23 ?_
      refine sr_ldc C q_587 d_M_snows_24 ?_
      refine sr_callVI C [sm_I _] (P_M_errs l h) ok_97 sm_l61 rfl rfl rfl rfl ⟨Nat.le_of_ble_eq_true rfl, Nat.le_of_ble_eq_true rfl⟩ (Nat.le_of_ble_eq_true rfl) ⟨Nat.zero_le _, Nat.zero_le _⟩ d_M_snows_26 (fun r18 μ17 h => ?_)
      exact hR _ _ _ _ d_M_snows_29 rfl h
  · replace h := Eq.mp (if_pos c3) h
    refine sr_aload_n C 0 rfl rfl d_M_snows_7 ?_
    refine sr_ldc C q_441 d_M_snows_8 ?_
    refine sr_callVI C [sm_I _] (P_M_errs l h) ok_97 sm_l61 rfl rfl rfl rfl ⟨Nat.le_of_ble_eq_true rfl, Nat.le_of_ble_eq_true rfl⟩ (Nat.le_of_ble_eq_true rfl) ⟨Nat.zero_le _, Nat.zero_le _⟩ d_M_snows_10 (fun r20 μ19 h => ?_)
    exact hR _ _ _ _ d_M_snows_13 rfl h
theorem d_M_judge_0 : decode prog_10_method_84_code 0 = .ok (.iload_n 1, 1) := by decide +kernel
theorem d_M_judge_1 : decode prog_10_method_84_code 1 = .ok (.invokestatic 215, 3) := by decide +kernel
theorem d_M_judge_4 : decode prog_10_method_84_code 4 = .ok (.ifCond .ne 10, 3) := by decide +kernel
theorem d_M_judge_7 : decode prog_10_method_84_code 7 = .ok (.aload_n 0, 1) := by decide +kernel
theorem d_M_judge_8 : decode prog_10_method_84_code 8 = .ok (.ldc 48, 2) := by decide +kernel
theorem d_M_judge_10 : decode prog_10_method_84_code 10 = .ok (.invokevirtual 49, 3) := by decide +kernel
theorem d_M_judge_13 : decode prog_10_method_84_code 13 = .ok (.ireturn, 1) := by decide +kernel
theorem d_M_judge_14 : decode prog_10_method_84_code 14 = .ok (.aload_n 0, 1) := by decide +kernel
theorem d_M_judge_15 : decode prog_10_method_84_code 15 = .ok (.getfield 28, 3) := by decide +kernel
theorem d_M_judge_18 : decode prog_10_method_84_code 18 = .ok (.iload_n 1, 1) := by decide +kernel
theorem d_M_judge_19 : decode prog_10_method_84_code 19 = .ok (.iaload, 1) := by decide +kernel
theorem d_M_judge_20 : decode prog_10_method_84_code 20 = .ok (.ifCond .ne 10, 3) := by decide +kernel
theorem d_M_judge_23 : decode prog_10_method_84_code 23 = .ok (.aload_n 0, 1) := by decide +kernel
theorem d_M_judge_24 : decode prog_10_method_84_code 24 = .ok (.ldc 196, 2) := by decide +kernel
theorem d_M_judge_26 : decode prog_10_method_84_code 26 = .ok (.invokevirtual 49, 3) := by decide +kernel
theorem d_M_judge_29 : decode prog_10_method_84_code 29 = .ok (.ireturn, 1) := by decide +kernel
theorem d_M_judge_30 : decode prog_10_method_84_code 30 = .ok (.iconst 0, 1) := by decide +kernel
theorem d_M_judge_31 : decode prog_10_method_84_code 31 = .ok (.istore_n 2, 1) := by decide +kernel
theorem d_M_judge_32 : decode prog_10_method_84_code 32 = .ok (.iload_n 2, 1) := by decide +kernel
theorem d_M_judge_33 : decode prog_10_method_84_code 33 = .ok (.aload_n 0, 1) := by decide +kernel
theorem d_M_judge_34 : decode prog_10_method_84_code 34 = .ok (.getfield 7, 3) := by decide +kernel
theorem d_M_judge_37 : decode prog_10_method_84_code 37 = .ok (.bipush 7, 2) := by decide +kernel
theorem d_M_judge_39 : decode prog_10_method_84_code 39 = .ok (.iaload, 1) := by decide +kernel
theorem d_M_judge_40 : decode prog_10_method_84_code 40 = .ok (.if_icmp .ge 38, 3) := by decide +kernel
theorem d_M_judge_43 : decode prog_10_method_84_code 43 = .ok (.iload_n 2, 1) := by decide +kernel
theorem d_M_judge_44 : decode prog_10_method_84_code 44 = .ok (.aload_n 0, 1) := by decide +kernel
theorem d_M_judge_45 : decode prog_10_method_84_code 45 = .ok (.getfield 31, 3) := by decide +kernel
theorem d_M_judge_48 : decode prog_10_method_84_code 48 = .ok (.iload_n 1, 1) := by decide +kernel
theorem d_M_judge_49 : decode prog_10_method_84_code 49 = .ok (.iaload, 1) := by decide +kernel
theorem d_M_judge_50 : decode prog_10_method_84_code 50 = .ok (.if_icmp .ge 28, 3) := by decide +kernel
theorem d_M_judge_53 : decode prog_10_method_84_code 53 = .ok (.aload_n 0, 1) := by decide +kernel
theorem d_M_judge_54 : decode prog_10_method_84_code 54 = .ok (.getfield 34, 3) := by decide +kernel
theorem d_M_judge_57 : decode prog_10_method_84_code 57 = .ok (.bipush 40, 2) := by decide +kernel
theorem d_M_judge_59 : decode prog_10_method_84_code 59 = .ok (.iload_n 1, 1) := by decide +kernel
theorem d_M_judge_60 : decode prog_10_method_84_code 60 = .ok (.imul, 1) := by decide +kernel
theorem d_M_judge_61 : decode prog_10_method_84_code 61 = .ok (.iload_n 2, 1) := by decide +kernel
theorem d_M_judge_62 : decode prog_10_method_84_code 62 = .ok (.iadd, 1) := by decide +kernel
theorem d_M_judge_63 : decode prog_10_method_84_code 63 = .ok (.iaload, 1) := by decide +kernel
theorem d_M_judge_64 : decode prog_10_method_84_code 64 = .ok (.aload_n 0, 1) := by decide +kernel
theorem d_M_judge_65 : decode prog_10_method_84_code 65 = .ok (.iload_n 2, 1) := by decide +kernel
theorem d_M_judge_66 : decode prog_10_method_84_code 66 = .ok (.invokevirtual 81, 3) := by decide +kernel
theorem d_M_judge_69 : decode prog_10_method_84_code 69 = .ok (.if_icmp .ne 9, 3) := by decide +kernel
theorem d_M_judge_72 : decode prog_10_method_84_code 72 = .ok (.iinc 2 1, 3) := by decide +kernel
theorem d_M_judge_75 : decode prog_10_method_84_code 75 = .ok (.goto (-43), 3) := by decide +kernel
theorem d_M_judge_78 : decode prog_10_method_84_code 78 = .ok (.iload_n 2, 1) := by decide +kernel
theorem d_M_judge_79 : decode prog_10_method_84_code 79 = .ok (.aload_n 0, 1) := by decide +kernel
theorem d_M_judge_80 : decode prog_10_method_84_code 80 = .ok (.getfield 7, 3) := by decide +kernel
theorem d_M_judge_83 : decode prog_10_method_84_code 83 = .ok (.bipush 7, 2) := by decide +kernel
theorem d_M_judge_85 : decode prog_10_method_84_code 85 = .ok (.iaload, 1) := by decide +kernel
theorem d_M_judge_86 : decode prog_10_method_84_code 86 = .ok (.if_icmp .ne 17, 3) := by decide +kernel
theorem d_M_judge_89 : decode prog_10_method_84_code 89 = .ok (.iload_n 2, 1) := by decide +kernel
theorem d_M_judge_90 : decode prog_10_method_84_code 90 = .ok (.aload_n 0, 1) := by decide +kernel
theorem d_M_judge_91 : decode prog_10_method_84_code 91 = .ok (.getfield 31, 3) := by decide +kernel
theorem d_M_judge_94 : decode prog_10_method_84_code 94 = .ok (.iload_n 1, 1) := by decide +kernel
theorem d_M_judge_95 : decode prog_10_method_84_code 95 = .ok (.iaload, 1) := by decide +kernel
theorem d_M_judge_96 : decode prog_10_method_84_code 96 = .ok (.if_icmp .ne 7, 3) := by decide +kernel
theorem d_M_judge_99 : decode prog_10_method_84_code 99 = .ok (.iconst (-1), 1) := by decide +kernel
theorem d_M_judge_100 : decode prog_10_method_84_code 100 = .ok (.goto 4, 3) := by decide +kernel
theorem d_M_judge_103 : decode prog_10_method_84_code 103 = .ok (.iload_n 2, 1) := by decide +kernel
theorem d_M_judge_104 : decode prog_10_method_84_code 104 = .ok (.ireturn, 1) := by decide +kernel
def w_M_judge_78 (K : Int32 → sm_Mem → Prop) (p0 : Int32) (x2 : Int32) (μ : sm_Mem) : Prop := if x2 = (μ 62 7) then (vp_in p0 4 ∧ if x2 = (μ 69 p0.toNatClampNeg) then K (-1) μ else K x2 μ) else K x2 μ
def w_M_judge_32 (K : Int32 → sm_Mem → Prop) (p0 : Int32) (x2 : Int32) (μ : sm_Mem) : Prop := sm_lp1 (fun J32 x2 μ => if (μ 62 7) ≤ x2 then w_M_judge_78 K p0 x2 μ else (vp_in p0 4 ∧ if (μ 69 p0.toNatClampNeg) ≤ x2 then w_M_judge_78 K p0 x2 μ else (vp_in ((40 * p0) + x2) 160 ∧ w_M_pays (fun r14 μ13 => if (μ 70 ((40 * p0) + x2).toNatClampNeg) = r14 then J32 (x2 + 1) μ13 else w_M_judge_78 K p0 x2 μ13) x2 μ))) x2 μ
def w_M_judge (K : Int32 → sm_Mem → Prop) (p0 : Int32) (μ : sm_Mem) : Prop := w_M_isSheet (fun r2 μ1 => if r2 = 0 then w_M_errs (fun r19 μ18 => K r19 μ18) (-1000000001) μ1 else (vp_in p0 4 ∧ if (μ1 68 p0.toNatClampNeg) = 0 then w_M_errs (fun r17 μ16 => K r17 μ16) (-1000000002) μ1 else w_M_judge_32 K p0 0 μ1)) p0 μ
set_option maxHeartbeats 4000000 in
set_option maxRecDepth 100000 in
theorem P_M_judge (l : Launch) {K : Int32 → sm_Mem → Prop} {p0 : Int32} {μ : sm_Mem} (h : w_M_judge K p0 μ) : sm_MI l ⟨"SnowMoneyModel", "judge", "(I)I"⟩ prog_10_method_84_code 3 (some .int) { frames := 58, cells := 0, slots := 0, locals := 2215 } [sm_R 61, sm_I p0] μ K := by
  refine sm_ofI (by decide +kernel) (fun _ => Nat.le_of_ble_eq_true rfl) ?_
  intro p e s m args below meth c A Q G C hR
  have B78 : ∀ (x2 : Int32) (μ : sm_Mem), w_M_judge_78 K p0 x2 μ → sm_W p l e { frames := 58, cells := 0, slots := 0, locals := 2215 } s m args below meth c A Q G 3 0 0 78 [] [(0, sm_R 61), (1, sm_I p0), (2, sm_I x2)] μ := by
    intro x2 μ h
    refine sr_iload_n C 2 rfl rfl d_M_judge_78 ?_
    refine sr_aload_n C 0 rfl rfl d_M_judge_79 ?_
    refine sr_getR C sm_F7 0 q_435 sm_l61 (r := 62) rfl (by decide) d_M_judge_80 ?_
    refine sr_bipush C (v := 7) d_M_judge_83 (by decide) ?_
    refine sr_ialdJ C sm_l62 (j := 7) (sm_vin (by decide)) (by decide) d_M_judge_85 ?_
    refine sr_icmp_ne C (tgt := 103) d_M_judge_86 (by decide) (fun c7 => ?_) (fun c7 => ?_)
    · replace h := Eq.mp (if_neg c7) h
      refine sr_iload_n C 2 rfl rfl d_M_judge_103 ?_
      exact hR _ _ _ _ d_M_judge_104 rfl h
    · replace h := Eq.mp (if_pos c7) h
      refine sr_iload_n C 2 rfl rfl d_M_judge_89 ?_
      refine sr_aload_n C 0 rfl rfl d_M_judge_90 ?_
      refine sr_getR C sm_F7 20 q_610 sm_l61 (r := 69) rfl (by decide) d_M_judge_91 ?_
      refine sr_iload_n C 1 rfl rfl d_M_judge_94 ?_
      obtain ⟨g8, h⟩ := h
      refine sr_iald C sm_l69 g8 d_M_judge_95 ?_
      refine sr_icmp_ne C (tgt := 103) d_M_judge_96 (by decide) (fun c9 => ?_) (fun c9 => ?_)
      · replace h := Eq.mp (if_neg c9) h
        refine sr_iload_n C 2 rfl rfl d_M_judge_103 ?_
        exact hR _ _ _ _ d_M_judge_104 rfl h
      · replace h := Eq.mp (if_pos c9) h
        refine sr_iconst C (v := (-1)) d_M_judge_99 (by decide) ?_
        refine sr_goto C (tgt := 104) (by decide) d_M_judge_100 ?_
        exact hR _ _ _ _ d_M_judge_104 rfl h
  have B32 : ∀ (x2 : Int32) (μ : sm_Mem), w_M_judge_32 K p0 x2 μ → sm_W p l e { frames := 58, cells := 0, slots := 0, locals := 2215 } s m args below meth c A Q G 3 0 0 32 [] [(0, sm_R 61), (1, sm_I p0), (2, sm_I x2)] μ := by
    intro x2 μ h
    refine sm_lp1_sound (P := fun x2 μ => sm_W p l e { frames := 58, cells := 0, slots := 0, locals := 2215 } s m args below meth c A Q G 3 0 0 32 [] [(0, sm_R 61), (1, sm_I p0), (2, sm_I x2)] μ) (fun J32 x2 μ hJ32 h => ?_) h
    refine sr_iload_n C 2 rfl rfl d_M_judge_32 ?_
    refine sr_aload_n C 0 rfl rfl d_M_judge_33 ?_
    refine sr_getR C sm_F7 0 q_435 sm_l61 (r := 62) rfl (by decide) d_M_judge_34 ?_
    refine sr_bipush C (v := 7) d_M_judge_37 (by decide) ?_
    refine sr_ialdJ C sm_l62 (j := 7) (sm_vin (by decide)) (by decide) d_M_judge_39 ?_
    refine sr_icmp_ge C (tgt := 78) d_M_judge_40 (by decide) (fun c6 => ?_) (fun c6 => ?_)
    · replace h := Eq.mp (if_pos c6) h
      exact B78 _ _ h
    · replace h := Eq.mp (if_neg c6) h
      refine sr_iload_n C 2 rfl rfl d_M_judge_43 ?_
      refine sr_aload_n C 0 rfl rfl d_M_judge_44 ?_
      refine sr_getR C sm_F7 20 q_610 sm_l61 (r := 69) rfl (by decide) d_M_judge_45 ?_
      refine sr_iload_n C 1 rfl rfl d_M_judge_48 ?_
      obtain ⟨g10, h⟩ := h
      refine sr_iald C sm_l69 g10 d_M_judge_49 ?_
      refine sr_icmp_ge C (tgt := 78) d_M_judge_50 (by decide) (fun c11 => ?_) (fun c11 => ?_)
      · replace h := Eq.mp (if_pos c11) h
        exact B78 _ _ h
      · replace h := Eq.mp (if_neg c11) h
        refine sr_aload_n C 0 rfl rfl d_M_judge_53 ?_
        refine sr_getR C sm_F7 21 q_611 sm_l61 (r := 70) rfl (by decide) d_M_judge_54 ?_
        refine sr_bipush C (v := 40) d_M_judge_57 (by decide) ?_
        refine sr_iload_n C 1 rfl rfl d_M_judge_59 ?_
        refine sr_imul C d_M_judge_60 ?_
        refine sr_iload_n C 2 rfl rfl d_M_judge_61 ?_
        refine sr_iadd C d_M_judge_62 ?_
        obtain ⟨g12, h⟩ := h
        refine sr_iald C sm_l70 g12 d_M_judge_63 ?_
        refine sr_aload_n C 0 rfl rfl d_M_judge_64 ?_
        refine sr_iload_n C 2 rfl rfl d_M_judge_65 ?_
        refine sr_callVI C [sm_I _] (P_M_pays l h) ok_105 sm_l61 rfl rfl rfl rfl ⟨Nat.le_of_ble_eq_true rfl, Nat.le_of_ble_eq_true rfl⟩ (Nat.le_of_ble_eq_true rfl) ⟨Nat.zero_le _, Nat.zero_le _⟩ d_M_judge_66 (fun r14 μ13 h => ?_)
        refine sr_icmp_ne C (tgt := 78) d_M_judge_69 (by decide) (fun c15 => ?_) (fun c15 => ?_)
        · replace h := Eq.mp (if_neg c15) h
          exact B78 _ _ h
        · replace h := Eq.mp (if_pos c15) h
          refine sr_iinc C 2 rfl (by decide) d_M_judge_72 rfl ?_
          refine sr_goto C (tgt := 32) (by decide) d_M_judge_75 ?_
          refine sr_mask C [1, 2, 0] rfl ?_
          exact hJ32 _ _ h
  refine sr_iload_n C 1 rfl rfl d_M_judge_0 ?_
  refine sr_callSI C [sm_I _] (P_M_isSheet l h) ok_135 rfl rfl rfl ⟨Nat.le_of_ble_eq_true rfl, Nat.le_of_ble_eq_true rfl⟩ (Nat.le_of_ble_eq_true rfl) ⟨Nat.zero_le _, Nat.zero_le _⟩ d_M_judge_1 (fun r2 μ1 h => ?_)
  refine sr_if_ne C (tgt := 14) d_M_judge_4 (by decide) (fun c3 => ?_) (fun c3 => ?_)
  · replace h := Eq.mp (if_neg c3) h
    refine sr_aload_n C 0 rfl rfl d_M_judge_14 ?_
    refine sr_getR C sm_F7 19 q_609 sm_l61 (r := 68) rfl (by decide) d_M_judge_15 ?_
    refine sr_iload_n C 1 rfl rfl d_M_judge_18 ?_
    obtain ⟨g4, h⟩ := h
    refine sr_iald C sm_l68 g4 d_M_judge_19 ?_
    refine sr_if_ne C (tgt := 30) d_M_judge_20 (by decide) (fun c5 => ?_) (fun c5 => ?_)
    · replace h := Eq.mp (if_neg c5) h
      refine sr_iconst C (v := 0) d_M_judge_30 (by decide) ?_
      refine sr_istore_n C rfl (by decide) d_M_judge_31 ?_
      refine sr_mask C [1, 2, 0] rfl ?_
      exact B32 _ _ h
    · replace h := Eq.mp (if_pos c5) h
      refine sr_aload_n C 0 rfl rfl d_M_judge_23 ?_
      refine sr_ldc C q_587 d_M_judge_24 ?_
      refine sr_callVI C [sm_I _] (P_M_errs l h) ok_97 sm_l61 rfl rfl rfl rfl ⟨Nat.le_of_ble_eq_true rfl, Nat.le_of_ble_eq_true rfl⟩ (Nat.le_of_ble_eq_true rfl) ⟨Nat.zero_le _, Nat.zero_le _⟩ d_M_judge_26 (fun r17 μ16 h => ?_)
      exact hR _ _ _ _ d_M_judge_29 rfl h
  · replace h := Eq.mp (if_pos c3) h
    refine sr_aload_n C 0 rfl rfl d_M_judge_7 ?_
    refine sr_ldc C q_441 d_M_judge_8 ?_
    refine sr_callVI C [sm_I _] (P_M_errs l h) ok_97 sm_l61 rfl rfl rfl rfl ⟨Nat.le_of_ble_eq_true rfl, Nat.le_of_ble_eq_true rfl⟩ (Nat.le_of_ble_eq_true rfl) ⟨Nat.zero_le _, Nat.zero_le _⟩ d_M_judge_10 (fun r19 μ18 h => ?_)
    exact hR _ _ _ _ d_M_judge_13 rfl h
theorem d_M_image_0 : decode prog_10_method_85_code 0 = .ok (.aload_n 0, 1) := by decide +kernel
theorem d_M_image_1 : decode prog_10_method_85_code 1 = .ok (.aload_n 0, 1) := by decide +kernel
theorem d_M_image_2 : decode prog_10_method_85_code 2 = .ok (.getfield 7, 3) := by decide +kernel
theorem d_M_image_5 : decode prog_10_method_85_code 5 = .ok (.aload_n 0, 1) := by decide +kernel
theorem d_M_image_6 : decode prog_10_method_85_code 6 = .ok (.getfield 13, 3) := by decide +kernel
theorem d_M_image_9 : decode prog_10_method_85_code 9 = .ok (.invokevirtual 161, 3) := by decide +kernel
theorem d_M_image_12 : decode prog_10_method_85_code 12 = .ok (.aload_n 0, 1) := by decide +kernel
theorem d_M_image_13 : decode prog_10_method_85_code 13 = .ok (.iconst 1, 1) := by decide +kernel
theorem d_M_image_14 : decode prog_10_method_85_code 14 = .ok (.putfield 255, 3) := by decide +kernel
theorem d_M_image_17 : decode prog_10_method_85_code 17 = .ok (.aload_n 0, 1) := by decide +kernel
theorem d_M_image_18 : decode prog_10_method_85_code 18 = .ok (.dup, 1) := by decide +kernel
theorem d_M_image_19 : decode prog_10_method_85_code 19 = .ok (.getfield 258, 3) := by decide +kernel
theorem d_M_image_22 : decode prog_10_method_85_code 22 = .ok (.iconst 1, 1) := by decide +kernel
theorem d_M_image_23 : decode prog_10_method_85_code 23 = .ok (.iadd, 1) := by decide +kernel
theorem d_M_image_24 : decode prog_10_method_85_code 24 = .ok (.putfield 258, 3) := by decide +kernel
theorem d_M_image_27 : decode prog_10_method_85_code 27 = .ok (.aload_n 0, 1) := by decide +kernel
theorem d_M_image_28 : decode prog_10_method_85_code 28 = .ok (.getfield 258, 3) := by decide +kernel
theorem d_M_image_31 : decode prog_10_method_85_code 31 = .ok (.ireturn, 1) := by decide +kernel
def w_M_image (K : Int32 → sm_Mem → Prop) (μ : sm_Mem) : Prop := w_M_moveAll (fun μ1 => ∀ μ2 : sm_Mem, μ2 = sm_st μ1 61 4 1 → ∀ μ3 : sm_Mem, μ3 = sm_st μ2 61 5 ((μ2 61 5) + 1) → K (μ3 61 5) μ3) 62 63 μ
set_option maxHeartbeats 4000000 in
set_option maxRecDepth 100000 in
theorem P_M_image (l : Launch) {K : Int32 → sm_Mem → Prop} {μ : sm_Mem} (h : w_M_image K μ) : sm_MI l ⟨"SnowMoneyModel", "image", "()I"⟩ prog_10_method_85_code 1 (some .int) { frames := 1, cells := 0, slots := 0, locals := 23 } [sm_R 61] μ K := by
  refine sm_ofI (by decide +kernel) (fun _ => Nat.le_of_ble_eq_true rfl) ?_
  intro p e s m args below meth c A Q G C hR
  refine sr_aload_n C 0 rfl rfl d_M_image_0 ?_
  refine sr_aload_n C 0 rfl rfl d_M_image_1 ?_
  refine sr_getR C sm_F7 0 q_435 sm_l61 (r := 62) rfl (by decide) d_M_image_2 ?_
  refine sr_aload_n C 0 rfl rfl d_M_image_5 ?_
  refine sr_getR C sm_F7 1 q_648 sm_l61 (r := 63) rfl (by decide) d_M_image_6 ?_
  refine sr_callVV C [sm_R _, sm_R _] (P_M_moveAll l h) ok_123 sm_l61 rfl rfl rfl rfl ⟨Nat.le_of_ble_eq_true rfl, Nat.le_of_ble_eq_true rfl⟩ (Nat.le_of_ble_eq_true rfl) ⟨Nat.zero_le _, Nat.zero_le _⟩ d_M_image_9 (fun μ1 h => ?_)
  refine sr_aload_n C 0 rfl rfl d_M_image_12 ?_
  refine sr_iconst C (v := 1) d_M_image_13 (by decide) ?_
  refine sr_putZ C sm_F7 4 q_649 sm_l61 (by decide) rfl rfl (by decide) rfl d_M_image_14 ?_
  replace h := h _ rfl
  refine sr_aload_n C 0 rfl rfl d_M_image_17 ?_
  refine sr_dup C rfl d_M_image_18 ?_
  refine sr_getI C sm_F7 5 q_650 sm_l61 rfl (by decide) d_M_image_19 ?_
  refine sr_iconst C (v := 1) d_M_image_22 (by decide) ?_
  refine sr_iadd C d_M_image_23 ?_
  refine sr_putI C sm_F7 5 q_650 sm_l61 rfl rfl (by decide) rfl d_M_image_24 ?_
  replace h := h _ rfl
  refine sr_aload_n C 0 rfl rfl d_M_image_27 ?_
  refine sr_getI C sm_F7 5 q_650 sm_l61 rfl (by decide) d_M_image_28 ?_
  exact hR _ _ _ _ d_M_image_31 rfl h
theorem d_M_restore_0 : decode prog_10_method_86_code 0 = .ok (.aload_n 0, 1) := by decide +kernel
theorem d_M_restore_1 : decode prog_10_method_86_code 1 = .ok (.getfield 255, 3) := by decide +kernel
theorem d_M_restore_4 : decode prog_10_method_86_code 4 = .ok (.ifCond .ne 10, 3) := by decide +kernel
theorem d_M_restore_7 : decode prog_10_method_86_code 7 = .ok (.aload_n 0, 1) := by decide +kernel
theorem d_M_restore_8 : decode prog_10_method_86_code 8 = .ok (.ldc 196, 2) := by decide +kernel
theorem d_M_restore_10 : decode prog_10_method_86_code 10 = .ok (.invokevirtual 49, 3) := by decide +kernel
theorem d_M_restore_13 : decode prog_10_method_86_code 13 = .ok (.ireturn, 1) := by decide +kernel
theorem d_M_restore_14 : decode prog_10_method_86_code 14 = .ok (.aload_n 0, 1) := by decide +kernel
theorem d_M_restore_15 : decode prog_10_method_86_code 15 = .ok (.aload_n 0, 1) := by decide +kernel
theorem d_M_restore_16 : decode prog_10_method_86_code 16 = .ok (.getfield 13, 3) := by decide +kernel
theorem d_M_restore_19 : decode prog_10_method_86_code 19 = .ok (.aload_n 0, 1) := by decide +kernel
theorem d_M_restore_20 : decode prog_10_method_86_code 20 = .ok (.getfield 7, 3) := by decide +kernel
theorem d_M_restore_23 : decode prog_10_method_86_code 23 = .ok (.invokevirtual 161, 3) := by decide +kernel
theorem d_M_restore_26 : decode prog_10_method_86_code 26 = .ok (.aload_n 0, 1) := by decide +kernel
theorem d_M_restore_27 : decode prog_10_method_86_code 27 = .ok (.getfield 7, 3) := by decide +kernel
theorem d_M_restore_30 : decode prog_10_method_86_code 30 = .ok (.iconst 0, 1) := by decide +kernel
theorem d_M_restore_31 : decode prog_10_method_86_code 31 = .ok (.iaload, 1) := by decide +kernel
theorem d_M_restore_32 : decode prog_10_method_86_code 32 = .ok (.ireturn, 1) := by decide +kernel
def w_M_restore (K : Int32 → sm_Mem → Prop) (μ : sm_Mem) : Prop := if (μ 61 4) = 0 then w_M_errs (fun r4 μ3 => K r4 μ3) (-1000000002) μ else w_M_moveAll (fun μ2 => K (μ2 62 0) μ2) 63 62 μ
set_option maxHeartbeats 4000000 in
set_option maxRecDepth 100000 in
theorem P_M_restore (l : Launch) {K : Int32 → sm_Mem → Prop} {μ : sm_Mem} (h : w_M_restore K μ) : sm_MI l ⟨"SnowMoneyModel", "restore", "()I"⟩ prog_10_method_86_code 1 (some .int) { frames := 1, cells := 0, slots := 0, locals := 23 } [sm_R 61] μ K := by
  refine sm_ofI (by decide +kernel) (fun _ => Nat.le_of_ble_eq_true rfl) ?_
  intro p e s m args below meth c A Q G C hR
  refine sr_aload_n C 0 rfl rfl d_M_restore_0 ?_
  refine sr_getI C sm_F7 4 q_649 sm_l61 rfl (by decide) d_M_restore_1 ?_
  refine sr_if_ne C (tgt := 14) d_M_restore_4 (by decide) (fun c1 => ?_) (fun c1 => ?_)
  · replace h := Eq.mp (if_neg c1) h
    refine sr_aload_n C 0 rfl rfl d_M_restore_14 ?_
    refine sr_aload_n C 0 rfl rfl d_M_restore_15 ?_
    refine sr_getR C sm_F7 1 q_648 sm_l61 (r := 63) rfl (by decide) d_M_restore_16 ?_
    refine sr_aload_n C 0 rfl rfl d_M_restore_19 ?_
    refine sr_getR C sm_F7 0 q_435 sm_l61 (r := 62) rfl (by decide) d_M_restore_20 ?_
    refine sr_callVV C [sm_R _, sm_R _] (P_M_moveAll l h) ok_123 sm_l61 rfl rfl rfl rfl ⟨Nat.le_of_ble_eq_true rfl, Nat.le_of_ble_eq_true rfl⟩ (Nat.le_of_ble_eq_true rfl) ⟨Nat.zero_le _, Nat.zero_le _⟩ d_M_restore_23 (fun μ2 h => ?_)
    refine sr_aload_n C 0 rfl rfl d_M_restore_26 ?_
    refine sr_getR C sm_F7 0 q_435 sm_l61 (r := 62) rfl (by decide) d_M_restore_27 ?_
    refine sr_iconst C (v := 0) d_M_restore_30 (by decide) ?_
    refine sr_ialdJ C sm_l62 (j := 0) (sm_vin (by decide)) (by decide) d_M_restore_31 ?_
    exact hR _ _ _ _ d_M_restore_32 rfl h
  · replace h := Eq.mp (if_pos c1) h
    refine sr_aload_n C 0 rfl rfl d_M_restore_7 ?_
    refine sr_ldc C q_587 d_M_restore_8 ?_
    refine sr_callVI C [sm_I _] (P_M_errs l h) ok_97 sm_l61 rfl rfl rfl rfl ⟨Nat.le_of_ble_eq_true rfl, Nat.le_of_ble_eq_true rfl⟩ (Nat.le_of_ble_eq_true rfl) ⟨Nat.zero_le _, Nat.zero_le _⟩ d_M_restore_10 (fun r4 μ3 h => ?_)
    exact hR _ _ _ _ d_M_restore_13 rfl h
theorem d_M_tell_0 : decode prog_10_method_87_code 0 = .ok (.aload_n 0, 1) := by decide +kernel
theorem d_M_tell_1 : decode prog_10_method_87_code 1 = .ok (.getfield 7, 3) := by decide +kernel
theorem d_M_tell_4 : decode prog_10_method_87_code 4 = .ok (.iconst 4, 1) := by decide +kernel
theorem d_M_tell_5 : decode prog_10_method_87_code 5 = .ok (.iaload, 1) := by decide +kernel
theorem d_M_tell_6 : decode prog_10_method_87_code 6 = .ok (.bipush 20, 2) := by decide +kernel
theorem d_M_tell_8 : decode prog_10_method_87_code 8 = .ok (.if_icmp .ne 10, 3) := by decide +kernel
theorem d_M_tell_11 : decode prog_10_method_87_code 11 = .ok (.aload_n 0, 1) := by decide +kernel
theorem d_M_tell_12 : decode prog_10_method_87_code 12 = .ok (.ldc 53, 2) := by decide +kernel
theorem d_M_tell_14 : decode prog_10_method_87_code 14 = .ok (.invokevirtual 49, 3) := by decide +kernel
theorem d_M_tell_17 : decode prog_10_method_87_code 17 = .ok (.ireturn, 1) := by decide +kernel
theorem d_M_tell_18 : decode prog_10_method_87_code 18 = .ok (.aload_n 0, 1) := by decide +kernel
theorem d_M_tell_19 : decode prog_10_method_87_code 19 = .ok (.getfield 7, 3) := by decide +kernel
theorem d_M_tell_22 : decode prog_10_method_87_code 22 = .ok (.sipush 151, 3) := by decide +kernel
theorem d_M_tell_25 : decode prog_10_method_87_code 25 = .ok (.aload_n 0, 1) := by decide +kernel
theorem d_M_tell_26 : decode prog_10_method_87_code 26 = .ok (.getfield 7, 3) := by decide +kernel
theorem d_M_tell_29 : decode prog_10_method_87_code 29 = .ok (.iconst 4, 1) := by decide +kernel
theorem d_M_tell_30 : decode prog_10_method_87_code 30 = .ok (.iaload, 1) := by decide +kernel
theorem d_M_tell_31 : decode prog_10_method_87_code 31 = .ok (.iadd, 1) := by decide +kernel
theorem d_M_tell_32 : decode prog_10_method_87_code 32 = .ok (.iload_n 1, 1) := by decide +kernel
theorem d_M_tell_33 : decode prog_10_method_87_code 33 = .ok (.iastore, 1) := by decide +kernel
theorem d_M_tell_34 : decode prog_10_method_87_code 34 = .ok (.aload_n 0, 1) := by decide +kernel
theorem d_M_tell_35 : decode prog_10_method_87_code 35 = .ok (.getfield 7, 3) := by decide +kernel
theorem d_M_tell_38 : decode prog_10_method_87_code 38 = .ok (.iconst 4, 1) := by decide +kernel
theorem d_M_tell_39 : decode prog_10_method_87_code 39 = .ok (.dup2, 1) := by decide +kernel
theorem d_M_tell_40 : decode prog_10_method_87_code 40 = .ok (.iaload, 1) := by decide +kernel
theorem d_M_tell_41 : decode prog_10_method_87_code 41 = .ok (.iconst 1, 1) := by decide +kernel
theorem d_M_tell_42 : decode prog_10_method_87_code 42 = .ok (.iadd, 1) := by decide +kernel
theorem d_M_tell_43 : decode prog_10_method_87_code 43 = .ok (.iastore, 1) := by decide +kernel
theorem d_M_tell_44 : decode prog_10_method_87_code 44 = .ok (.aload_n 0, 1) := by decide +kernel
theorem d_M_tell_45 : decode prog_10_method_87_code 45 = .ok (.getfield 7, 3) := by decide +kernel
theorem d_M_tell_48 : decode prog_10_method_87_code 48 = .ok (.iconst 4, 1) := by decide +kernel
theorem d_M_tell_49 : decode prog_10_method_87_code 49 = .ok (.iaload, 1) := by decide +kernel
theorem d_M_tell_50 : decode prog_10_method_87_code 50 = .ok (.ireturn, 1) := by decide +kernel
def w_M_tell (K : Int32 → sm_Mem → Prop) (p0 : Int32) (μ : sm_Mem) : Prop := if (μ 62 4) = 20 then w_M_errs (fun r6 μ5 => K r6 μ5) (-1000000004) μ else (vp_in (151 + (μ 62 4)) 271 ∧ ∀ μ3 : sm_Mem, μ3 = sm_st μ 62 ((151 + (μ 62 4)).toNatClampNeg) p0 → ∀ μ4 : sm_Mem, μ4 = sm_st μ3 62 4 ((μ3 62 4) + 1) → K (μ4 62 4) μ4)
set_option maxHeartbeats 4000000 in
set_option maxRecDepth 100000 in
theorem P_M_tell (l : Launch) {K : Int32 → sm_Mem → Prop} {p0 : Int32} {μ : sm_Mem} (h : w_M_tell K p0 μ) : sm_MI l ⟨"SnowMoneyModel", "tell", "(I)I"⟩ prog_10_method_87_code 2 (some .int) { frames := 1, cells := 0, slots := 0, locals := 21 } [sm_R 61, sm_I p0] μ K := by
  refine sm_ofI (by decide +kernel) (fun _ => Nat.le_of_ble_eq_true rfl) ?_
  intro p e s m args below meth c A Q G C hR
  refine sr_aload_n C 0 rfl rfl d_M_tell_0 ?_
  refine sr_getR C sm_F7 0 q_435 sm_l61 (r := 62) rfl (by decide) d_M_tell_1 ?_
  refine sr_iconst C (v := 4) d_M_tell_4 (by decide) ?_
  refine sr_ialdJ C sm_l62 (j := 4) (sm_vin (by decide)) (by decide) d_M_tell_5 ?_
  refine sr_bipush C (v := 20) d_M_tell_6 (by decide) ?_
  refine sr_icmp_ne C (tgt := 18) d_M_tell_8 (by decide) (fun c1 => ?_) (fun c1 => ?_)
  · replace h := Eq.mp (if_neg c1) h
    refine sr_aload_n C 0 rfl rfl d_M_tell_18 ?_
    refine sr_getR C sm_F7 0 q_435 sm_l61 (r := 62) rfl (by decide) d_M_tell_19 ?_
    refine sr_sipush C (v := 151) d_M_tell_22 (by decide) ?_
    refine sr_aload_n C 0 rfl rfl d_M_tell_25 ?_
    refine sr_getR C sm_F7 0 q_435 sm_l61 (r := 62) rfl (by decide) d_M_tell_26 ?_
    refine sr_iconst C (v := 4) d_M_tell_29 (by decide) ?_
    refine sr_ialdJ C sm_l62 (j := 4) (sm_vin (by decide)) (by decide) d_M_tell_30 ?_
    refine sr_iadd C d_M_tell_31 ?_
    refine sr_iload_n C 1 rfl rfl d_M_tell_32 ?_
    obtain ⟨g2, h⟩ := h
    refine sr_iast C sm_l62 g2 d_M_tell_33 ?_
    replace h := h _ rfl
    refine sr_aload_n C 0 rfl rfl d_M_tell_34 ?_
    refine sr_getR C sm_F7 0 q_435 sm_l61 (r := 62) rfl (by decide) d_M_tell_35 ?_
    refine sr_iconst C (v := 4) d_M_tell_38 (by decide) ?_
    refine sr_dup2 C rfl rfl d_M_tell_39 ?_
    refine sr_ialdJ C sm_l62 (j := 4) (sm_vin (by decide)) (by decide) d_M_tell_40 ?_
    refine sr_iconst C (v := 1) d_M_tell_41 (by decide) ?_
    refine sr_iadd C d_M_tell_42 ?_
    refine sr_iastJ C sm_l62 (j := 4) (sm_vin (by decide)) (by decide) d_M_tell_43 ?_
    replace h := h _ rfl
    refine sr_aload_n C 0 rfl rfl d_M_tell_44 ?_
    refine sr_getR C sm_F7 0 q_435 sm_l61 (r := 62) rfl (by decide) d_M_tell_45 ?_
    refine sr_iconst C (v := 4) d_M_tell_48 (by decide) ?_
    refine sr_ialdJ C sm_l62 (j := 4) (sm_vin (by decide)) (by decide) d_M_tell_49 ?_
    exact hR _ _ _ _ d_M_tell_50 rfl h
  · replace h := Eq.mp (if_pos c1) h
    refine sr_aload_n C 0 rfl rfl d_M_tell_11 ?_
    refine sr_ldc C q_436 d_M_tell_12 ?_
    refine sr_callVI C [sm_I _] (P_M_errs l h) ok_97 sm_l61 rfl rfl rfl rfl ⟨Nat.le_of_ble_eq_true rfl, Nat.le_of_ble_eq_true rfl⟩ (Nat.le_of_ble_eq_true rfl) ⟨Nat.zero_le _, Nat.zero_le _⟩ d_M_tell_14 (fun r6 μ5 h => ?_)
    exact hR _ _ _ _ d_M_tell_17 rfl h
theorem d_M_check_0 : decode prog_10_method_88_code 0 = .ok (.aload_n 0, 1) := by decide +kernel
theorem d_M_check_1 : decode prog_10_method_88_code 1 = .ok (.getfield 7, 3) := by decide +kernel
theorem d_M_check_4 : decode prog_10_method_88_code 4 = .ok (.iconst 4, 1) := by decide +kernel
theorem d_M_check_5 : decode prog_10_method_88_code 5 = .ok (.iaload, 1) := by decide +kernel
theorem d_M_check_6 : decode prog_10_method_88_code 6 = .ok (.istore_n 1, 1) := by decide +kernel
theorem d_M_check_7 : decode prog_10_method_88_code 7 = .ok (.aload_n 0, 1) := by decide +kernel
theorem d_M_check_8 : decode prog_10_method_88_code 8 = .ok (.getfield 7, 3) := by decide +kernel
theorem d_M_check_11 : decode prog_10_method_88_code 11 = .ok (.iconst 4, 1) := by decide +kernel
theorem d_M_check_12 : decode prog_10_method_88_code 12 = .ok (.iconst 0, 1) := by decide +kernel
theorem d_M_check_13 : decode prog_10_method_88_code 13 = .ok (.iastore, 1) := by decide +kernel
theorem d_M_check_14 : decode prog_10_method_88_code 14 = .ok (.aload_n 0, 1) := by decide +kernel
theorem d_M_check_15 : decode prog_10_method_88_code 15 = .ok (.aload_n 0, 1) := by decide +kernel
theorem d_M_check_16 : decode prog_10_method_88_code 16 = .ok (.getfield 7, 3) := by decide +kernel
theorem d_M_check_19 : decode prog_10_method_88_code 19 = .ok (.aload_n 0, 1) := by decide +kernel
theorem d_M_check_20 : decode prog_10_method_88_code 20 = .ok (.getfield 16, 3) := by decide +kernel
theorem d_M_check_23 : decode prog_10_method_88_code 23 = .ok (.invokevirtual 161, 3) := by decide +kernel
theorem d_M_check_26 : decode prog_10_method_88_code 26 = .ok (.iconst 0, 1) := by decide +kernel
theorem d_M_check_27 : decode prog_10_method_88_code 27 = .ok (.istore_n 2, 1) := by decide +kernel
theorem d_M_check_28 : decode prog_10_method_88_code 28 = .ok (.iconst 1, 1) := by decide +kernel
theorem d_M_check_29 : decode prog_10_method_88_code 29 = .ok (.istore_n 3, 1) := by decide +kernel
theorem d_M_check_30 : decode prog_10_method_88_code 30 = .ok (.iload_n 2, 1) := by decide +kernel
theorem d_M_check_31 : decode prog_10_method_88_code 31 = .ok (.iload_n 1, 1) := by decide +kernel
theorem d_M_check_32 : decode prog_10_method_88_code 32 = .ok (.if_icmp .ge 49, 3) := by decide +kernel
theorem d_M_check_35 : decode prog_10_method_88_code 35 = .ok (.iload_n 3, 1) := by decide +kernel
theorem d_M_check_36 : decode prog_10_method_88_code 36 = .ok (.ifCond .eq 45, 3) := by decide +kernel
theorem d_M_check_39 : decode prog_10_method_88_code 39 = .ok (.aload_n 0, 1) := by decide +kernel
theorem d_M_check_40 : decode prog_10_method_88_code 40 = .ok (.invokevirtual 175, 3) := by decide +kernel
theorem d_M_check_43 : decode prog_10_method_88_code 43 = .ok (.aload_n 0, 1) := by decide +kernel
theorem d_M_check_44 : decode prog_10_method_88_code 44 = .ok (.invokevirtual 183, 3) := by decide +kernel
theorem d_M_check_47 : decode prog_10_method_88_code 47 = .ok (.aload_n 0, 1) := by decide +kernel
theorem d_M_check_48 : decode prog_10_method_88_code 48 = .ok (.getfield 7, 3) := by decide +kernel
theorem d_M_check_51 : decode prog_10_method_88_code 51 = .ok (.sipush 151, 3) := by decide +kernel
theorem d_M_check_54 : decode prog_10_method_88_code 54 = .ok (.iload_n 2, 1) := by decide +kernel
theorem d_M_check_55 : decode prog_10_method_88_code 55 = .ok (.iadd, 1) := by decide +kernel
theorem d_M_check_56 : decode prog_10_method_88_code 56 = .ok (.iaload, 1) := by decide +kernel
theorem d_M_check_57 : decode prog_10_method_88_code 57 = .ok (.if_icmp .ne 7, 3) := by decide +kernel
theorem d_M_check_60 : decode prog_10_method_88_code 60 = .ok (.iconst 1, 1) := by decide +kernel
theorem d_M_check_61 : decode prog_10_method_88_code 61 = .ok (.goto 4, 3) := by decide +kernel
theorem d_M_check_64 : decode prog_10_method_88_code 64 = .ok (.iconst 0, 1) := by decide +kernel
theorem d_M_check_65 : decode prog_10_method_88_code 65 = .ok (.istore_n 3, 1) := by decide +kernel
theorem d_M_check_66 : decode prog_10_method_88_code 66 = .ok (.iload_n 2, 1) := by decide +kernel
theorem d_M_check_67 : decode prog_10_method_88_code 67 = .ok (.iload_n 3, 1) := by decide +kernel
theorem d_M_check_68 : decode prog_10_method_88_code 68 = .ok (.ifCond .eq 7, 3) := by decide +kernel
theorem d_M_check_71 : decode prog_10_method_88_code 71 = .ok (.iconst 1, 1) := by decide +kernel
theorem d_M_check_72 : decode prog_10_method_88_code 72 = .ok (.goto 4, 3) := by decide +kernel
theorem d_M_check_75 : decode prog_10_method_88_code 75 = .ok (.iconst 0, 1) := by decide +kernel
theorem d_M_check_76 : decode prog_10_method_88_code 76 = .ok (.iadd, 1) := by decide +kernel
theorem d_M_check_77 : decode prog_10_method_88_code 77 = .ok (.istore_n 2, 1) := by decide +kernel
theorem d_M_check_78 : decode prog_10_method_88_code 78 = .ok (.goto (-48), 3) := by decide +kernel
theorem d_M_check_81 : decode prog_10_method_88_code 81 = .ok (.aload_n 0, 1) := by decide +kernel
theorem d_M_check_82 : decode prog_10_method_88_code 82 = .ok (.aload_n 0, 1) := by decide +kernel
theorem d_M_check_83 : decode prog_10_method_88_code 83 = .ok (.getfield 16, 3) := by decide +kernel
theorem d_M_check_86 : decode prog_10_method_88_code 86 = .ok (.aload_n 0, 1) := by decide +kernel
theorem d_M_check_87 : decode prog_10_method_88_code 87 = .ok (.getfield 7, 3) := by decide +kernel
theorem d_M_check_90 : decode prog_10_method_88_code 90 = .ok (.invokevirtual 161, 3) := by decide +kernel
theorem d_M_check_93 : decode prog_10_method_88_code 93 = .ok (.iload_n 3, 1) := by decide +kernel
theorem d_M_check_94 : decode prog_10_method_88_code 94 = .ok (.ifCond .eq 7, 3) := by decide +kernel
theorem d_M_check_97 : decode prog_10_method_88_code 97 = .ok (.iconst 0, 1) := by decide +kernel
theorem d_M_check_98 : decode prog_10_method_88_code 98 = .ok (.goto 6, 3) := by decide +kernel
theorem d_M_check_101 : decode prog_10_method_88_code 101 = .ok (.iconst 1, 1) := by decide +kernel
theorem d_M_check_102 : decode prog_10_method_88_code 102 = .ok (.iload_n 2, 1) := by decide +kernel
theorem d_M_check_103 : decode prog_10_method_88_code 103 = .ok (.iadd, 1) := by decide +kernel
theorem d_M_check_104 : decode prog_10_method_88_code 104 = .ok (.ireturn, 1) := by decide +kernel
def w_M_check_81 (K : Int32 → sm_Mem → Prop) (x2 : Int32) (x3 : Int32) (μ : sm_Mem) : Prop := w_M_moveAll (fun μ5 => if x3 = 0 then K (1 + x2) μ5 else K 0 μ5) 64 62 μ
def w_M_check_76 (K : Int32 → sm_Mem → Prop) (J30 : Int32 → Int32 → sm_Mem → Prop) (x1 : Int32) (x3 : Int32) (s0 : Int32) (s1 : Int32) (μ : sm_Mem) : Prop := ∀ v14 : Int32, v14 = (s1 + s0) → J30 v14 x3 μ
def w_M_check_65 (K : Int32 → sm_Mem → Prop) (J30 : Int32 → Int32 → sm_Mem → Prop) (x1 : Int32) (x2 : Int32) (s0 : Int32) (μ : sm_Mem) : Prop := if s0 = 0 then w_M_check_76 K J30 x1 s0 0 x2 μ else w_M_check_76 K J30 x1 s0 1 x2 μ
def w_M_check_30 (K : Int32 → sm_Mem → Prop) (x1 : Int32) (x2 : Int32) (x3 : Int32) (μ : sm_Mem) : Prop := sm_lp2 (fun J30 x2 x3 μ => if x1 ≤ x2 then w_M_check_81 K x2 x3 μ else (if x3 = 0 then w_M_check_81 K x2 x3 μ else (w_M_oneHour (fun μ8 => w_M_snowOfAll (fun r10 μ9 => vp_in (151 + x2) 271 ∧ if r10 = (μ9 62 (151 + x2).toNatClampNeg) then w_M_check_65 K J30 x1 x2 1 μ9 else w_M_check_65 K J30 x1 x2 0 μ9) μ8) μ))) x2 x3 μ
def w_M_check (K : Int32 → sm_Mem → Prop) (μ : sm_Mem) : Prop := ∀ v1 : Int32, v1 = (μ 62 4) → ∀ μ2 : sm_Mem, μ2 = sm_st μ 62 4 0 → w_M_moveAll (fun μ3 => w_M_check_30 K v1 0 1 μ3) 62 64 μ2
set_option maxHeartbeats 4000000 in
set_option maxRecDepth 100000 in
theorem P_M_check (l : Launch) {K : Int32 → sm_Mem → Prop} {μ : sm_Mem} (h : w_M_check K μ) : sm_MI l ⟨"SnowMoneyModel", "check", "()I"⟩ prog_10_method_88_code 4 (some .int) { frames := 60, cells := 0, slots := 0, locals := 2259 } [sm_R 61] μ K := by
  refine sm_ofI (by decide +kernel) (fun _ => Nat.le_of_ble_eq_true rfl) ?_
  intro p e s m args below meth c A Q G C hR
  have B81 : ∀ (x2 : Int32) (x3 : Int32) (μ : sm_Mem), w_M_check_81 K x2 x3 μ → sm_W p l e { frames := 60, cells := 0, slots := 0, locals := 2259 } s m args below meth c A Q G 4 0 0 81 [] [(0, sm_R 61), (2, sm_I x2), (3, sm_I x3)] μ := by
    intro x2 x3 μ h
    refine sr_aload_n C 0 rfl rfl d_M_check_81 ?_
    refine sr_aload_n C 0 rfl rfl d_M_check_82 ?_
    refine sr_getR C sm_F7 2 q_582 sm_l61 (r := 64) rfl (by decide) d_M_check_83 ?_
    refine sr_aload_n C 0 rfl rfl d_M_check_86 ?_
    refine sr_getR C sm_F7 0 q_435 sm_l61 (r := 62) rfl (by decide) d_M_check_87 ?_
    refine sr_callVV C [sm_R _, sm_R _] (P_M_moveAll l h) ok_123 sm_l61 rfl rfl rfl rfl ⟨Nat.le_of_ble_eq_true rfl, Nat.le_of_ble_eq_true rfl⟩ (Nat.le_of_ble_eq_true rfl) ⟨Nat.zero_le _, Nat.zero_le _⟩ d_M_check_90 (fun μ5 h => ?_)
    refine sr_iload_n C 2 rfl rfl d_M_check_93 ?_
    refine sr_if_eq C (tgt := 101) d_M_check_94 (by decide) (fun c6 => ?_) (fun c6 => ?_)
    · replace h := Eq.mp (if_pos c6) h
      refine sr_iconst C (v := 1) d_M_check_101 (by decide) ?_
      refine sr_iload_n C 1 rfl rfl d_M_check_102 ?_
      refine sr_iadd C d_M_check_103 ?_
      exact hR _ _ _ _ d_M_check_104 rfl h
    · replace h := Eq.mp (if_neg c6) h
      refine sr_iconst C (v := 0) d_M_check_97 (by decide) ?_
      refine sr_goto C (tgt := 104) (by decide) d_M_check_98 ?_
      exact hR _ _ _ _ d_M_check_104 rfl h
  have B76 : ∀ (x1 : Int32) (x3 : Int32) (s0 : Int32) (s1 : Int32) (J30 : Int32 → Int32 → sm_Mem → Prop) (hJ30 : ∀ (x2 : Int32) (x3 : Int32) (μ : sm_Mem), J30 x2 x3 μ → sm_W p l e { frames := 60, cells := 0, slots := 0, locals := 2259 } s m args below meth c A Q G 4 0 0 30 [] [(0, sm_R 61), (1, sm_I x1), (2, sm_I x2), (3, sm_I x3)] μ) (μ : sm_Mem), w_M_check_76 K J30 x1 x3 s0 s1 μ → sm_W p l e { frames := 60, cells := 0, slots := 0, locals := 2259 } s m args below meth c A Q G 4 0 0 76 [sm_I s0, sm_I s1] [(0, sm_R 61), (1, sm_I x1), (3, sm_I x3)] μ := by
    intro x1 x3 s0 s1 J30 hJ30 μ h
    refine sr_iadd C d_M_check_76 ?_
    replace h := h _ rfl
    refine sr_istore_n C rfl (by decide) d_M_check_77 ?_
    refine sr_goto C (tgt := 30) (by decide) d_M_check_78 ?_
    refine sr_mask C [1, 2, 0, 3] rfl ?_
    exact hJ30 _ _ _ h
  have B65 : ∀ (x1 : Int32) (x2 : Int32) (s0 : Int32) (J30 : Int32 → Int32 → sm_Mem → Prop) (hJ30 : ∀ (x2 : Int32) (x3 : Int32) (μ : sm_Mem), J30 x2 x3 μ → sm_W p l e { frames := 60, cells := 0, slots := 0, locals := 2259 } s m args below meth c A Q G 4 0 0 30 [] [(0, sm_R 61), (1, sm_I x1), (2, sm_I x2), (3, sm_I x3)] μ) (μ : sm_Mem), w_M_check_65 K J30 x1 x2 s0 μ → sm_W p l e { frames := 60, cells := 0, slots := 0, locals := 2259 } s m args below meth c A Q G 4 0 0 65 [sm_I s0] [(0, sm_R 61), (1, sm_I x1), (2, sm_I x2)] μ := by
    intro x1 x2 s0 J30 hJ30 μ h
    refine sr_istore_n C rfl (by decide) d_M_check_65 ?_
    refine sr_iload_n C 3 rfl rfl d_M_check_66 ?_
    refine sr_iload_n C 0 rfl rfl d_M_check_67 ?_
    refine sr_if_eq C (tgt := 75) d_M_check_68 (by decide) (fun c13 => ?_) (fun c13 => ?_)
    · replace h := Eq.mp (if_pos c13) h
      refine sr_iconst C (v := 0) d_M_check_75 (by decide) ?_
      refine sr_mask C [1, 2, 0] rfl ?_
      exact B76 _ _ _ _ _ hJ30 _ h
    · replace h := Eq.mp (if_neg c13) h
      refine sr_iconst C (v := 1) d_M_check_71 (by decide) ?_
      refine sr_goto C (tgt := 76) (by decide) d_M_check_72 ?_
      refine sr_mask C [1, 2, 0] rfl ?_
      exact B76 _ _ _ _ _ hJ30 _ h
  have B30 : ∀ (x1 : Int32) (x2 : Int32) (x3 : Int32) (μ : sm_Mem), w_M_check_30 K x1 x2 x3 μ → sm_W p l e { frames := 60, cells := 0, slots := 0, locals := 2259 } s m args below meth c A Q G 4 0 0 30 [] [(0, sm_R 61), (1, sm_I x1), (2, sm_I x2), (3, sm_I x3)] μ := by
    intro x1 x2 x3 μ h
    refine sm_lp2_sound (P := fun x2 x3 μ => sm_W p l e { frames := 60, cells := 0, slots := 0, locals := 2259 } s m args below meth c A Q G 4 0 0 30 [] [(0, sm_R 61), (1, sm_I x1), (2, sm_I x2), (3, sm_I x3)] μ) (fun J30 x2 x3 μ hJ30 h => ?_) h
    refine sr_iload_n C 2 rfl rfl d_M_check_30 ?_
    refine sr_iload_n C 1 rfl rfl d_M_check_31 ?_
    refine sr_icmp_ge C (tgt := 81) d_M_check_32 (by decide) (fun c4 => ?_) (fun c4 => ?_)
    · replace h := Eq.mp (if_pos c4) h
      refine sr_mask C [0, 2, 3] rfl ?_
      exact B81 _ _ _ h
    · replace h := Eq.mp (if_neg c4) h
      refine sr_iload_n C 3 rfl rfl d_M_check_35 ?_
      refine sr_if_eq C (tgt := 81) d_M_check_36 (by decide) (fun c7 => ?_) (fun c7 => ?_)
      · replace h := Eq.mp (if_pos c7) h
        refine sr_mask C [0, 2, 3] rfl ?_
        exact B81 _ _ _ h
      · replace h := Eq.mp (if_neg c7) h
        refine sr_aload_n C 0 rfl rfl d_M_check_39 ?_
        refine sr_callVV C [] (P_M_oneHour l h) ok_126 sm_l61 rfl rfl rfl rfl ⟨Nat.le_of_ble_eq_true rfl, Nat.le_of_ble_eq_true rfl⟩ (Nat.le_of_ble_eq_true rfl) ⟨Nat.zero_le _, Nat.zero_le _⟩ d_M_check_40 (fun μ8 h => ?_)
        refine sr_aload_n C 0 rfl rfl d_M_check_43 ?_
        refine sr_callVI C [] (P_M_snowOfAll l h) ok_125 sm_l61 rfl rfl rfl rfl ⟨Nat.le_of_ble_eq_true rfl, Nat.le_of_ble_eq_true rfl⟩ (Nat.le_of_ble_eq_true rfl) ⟨Nat.zero_le _, Nat.zero_le _⟩ d_M_check_44 (fun r10 μ9 h => ?_)
        refine sr_aload_n C 0 rfl rfl d_M_check_47 ?_
        refine sr_getR C sm_F7 0 q_435 sm_l61 (r := 62) rfl (by decide) d_M_check_48 ?_
        refine sr_sipush C (v := 151) d_M_check_51 (by decide) ?_
        refine sr_iload_n C 2 rfl rfl d_M_check_54 ?_
        refine sr_iadd C d_M_check_55 ?_
        obtain ⟨g11, h⟩ := h
        refine sr_iald C sm_l62 g11 d_M_check_56 ?_
        refine sr_icmp_ne C (tgt := 64) d_M_check_57 (by decide) (fun c12 => ?_) (fun c12 => ?_)
        · replace h := Eq.mp (if_neg c12) h
          refine sr_iconst C (v := 0) d_M_check_64 (by decide) ?_
          refine sr_mask C [0, 1, 2] rfl ?_
          exact B65 _ _ _ _ hJ30 _ h
        · replace h := Eq.mp (if_pos c12) h
          refine sr_iconst C (v := 1) d_M_check_60 (by decide) ?_
          refine sr_goto C (tgt := 65) (by decide) d_M_check_61 ?_
          refine sr_mask C [0, 1, 2] rfl ?_
          exact B65 _ _ _ _ hJ30 _ h
  refine sr_aload_n C 0 rfl rfl d_M_check_0 ?_
  refine sr_getR C sm_F7 0 q_435 sm_l61 (r := 62) rfl (by decide) d_M_check_1 ?_
  refine sr_iconst C (v := 4) d_M_check_4 (by decide) ?_
  refine sr_ialdJ C sm_l62 (j := 4) (sm_vin (by decide)) (by decide) d_M_check_5 ?_
  replace h := h _ rfl
  refine sr_istore_n C rfl (by decide) d_M_check_6 ?_
  refine sr_aload_n C 1 rfl rfl d_M_check_7 ?_
  refine sr_getR C sm_F7 0 q_435 sm_l61 (r := 62) rfl (by decide) d_M_check_8 ?_
  refine sr_iconst C (v := 4) d_M_check_11 (by decide) ?_
  refine sr_iconst C (v := 0) d_M_check_12 (by decide) ?_
  refine sr_iastJ C sm_l62 (j := 4) (sm_vin (by decide)) (by decide) d_M_check_13 ?_
  replace h := h _ rfl
  refine sr_aload_n C 1 rfl rfl d_M_check_14 ?_
  refine sr_aload_n C 1 rfl rfl d_M_check_15 ?_
  refine sr_getR C sm_F7 0 q_435 sm_l61 (r := 62) rfl (by decide) d_M_check_16 ?_
  refine sr_aload_n C 1 rfl rfl d_M_check_19 ?_
  refine sr_getR C sm_F7 2 q_582 sm_l61 (r := 64) rfl (by decide) d_M_check_20 ?_
  refine sr_callVV C [sm_R _, sm_R _] (P_M_moveAll l h) ok_123 sm_l61 rfl rfl rfl rfl ⟨Nat.le_of_ble_eq_true rfl, Nat.le_of_ble_eq_true rfl⟩ (Nat.le_of_ble_eq_true rfl) ⟨Nat.zero_le _, Nat.zero_le _⟩ d_M_check_23 (fun μ3 h => ?_)
  refine sr_iconst C (v := 0) d_M_check_26 (by decide) ?_
  refine sr_istore_n C rfl (by decide) d_M_check_27 ?_
  refine sr_iconst C (v := 1) d_M_check_28 (by decide) ?_
  refine sr_istore_n C rfl (by decide) d_M_check_29 ?_
  refine sr_mask C [3, 2, 1, 0] rfl ?_
  exact B30 _ _ _ _ h
theorem d_M_gone_0 : decode prog_10_method_89_code 0 = .ok (.iconst 0, 1) := by decide +kernel
theorem d_M_gone_1 : decode prog_10_method_89_code 1 = .ok (.istore_n 1, 1) := by decide +kernel
theorem d_M_gone_2 : decode prog_10_method_89_code 2 = .ok (.iconst 0, 1) := by decide +kernel
theorem d_M_gone_3 : decode prog_10_method_89_code 3 = .ok (.istore_n 2, 1) := by decide +kernel
theorem d_M_gone_4 : decode prog_10_method_89_code 4 = .ok (.iload_n 2, 1) := by decide +kernel
theorem d_M_gone_5 : decode prog_10_method_89_code 5 = .ok (.aload_n 0, 1) := by decide +kernel
theorem d_M_gone_6 : decode prog_10_method_89_code 6 = .ok (.getfield 7, 3) := by decide +kernel
theorem d_M_gone_9 : decode prog_10_method_89_code 9 = .ok (.bipush 7, 2) := by decide +kernel
theorem d_M_gone_11 : decode prog_10_method_89_code 11 = .ok (.iaload, 1) := by decide +kernel
theorem d_M_gone_12 : decode prog_10_method_89_code 12 = .ok (.if_icmp .ge 26, 3) := by decide +kernel
theorem d_M_gone_15 : decode prog_10_method_89_code 15 = .ok (.iload_n 1, 1) := by decide +kernel
theorem d_M_gone_16 : decode prog_10_method_89_code 16 = .ok (.aload_n 0, 1) := by decide +kernel
theorem d_M_gone_17 : decode prog_10_method_89_code 17 = .ok (.iload_n 2, 1) := by decide +kernel
theorem d_M_gone_18 : decode prog_10_method_89_code 18 = .ok (.iconst 2, 1) := by decide +kernel
theorem d_M_gone_19 : decode prog_10_method_89_code 19 = .ok (.invokevirtual 62, 3) := by decide +kernel
theorem d_M_gone_22 : decode prog_10_method_89_code 22 = .ok (.ifCond .ne 7, 3) := by decide +kernel
theorem d_M_gone_25 : decode prog_10_method_89_code 25 = .ok (.iconst 1, 1) := by decide +kernel
theorem d_M_gone_26 : decode prog_10_method_89_code 26 = .ok (.goto 4, 3) := by decide +kernel
theorem d_M_gone_29 : decode prog_10_method_89_code 29 = .ok (.iconst 0, 1) := by decide +kernel
theorem d_M_gone_30 : decode prog_10_method_89_code 30 = .ok (.iadd, 1) := by decide +kernel
theorem d_M_gone_31 : decode prog_10_method_89_code 31 = .ok (.istore_n 1, 1) := by decide +kernel
theorem d_M_gone_32 : decode prog_10_method_89_code 32 = .ok (.iinc 2 1, 3) := by decide +kernel
theorem d_M_gone_35 : decode prog_10_method_89_code 35 = .ok (.goto (-31), 3) := by decide +kernel
theorem d_M_gone_38 : decode prog_10_method_89_code 38 = .ok (.iload_n 1, 1) := by decide +kernel
theorem d_M_gone_39 : decode prog_10_method_89_code 39 = .ok (.ireturn, 1) := by decide +kernel
def w_M_gone_30 (K : Int32 → sm_Mem → Prop) (J4 : Int32 → Int32 → sm_Mem → Prop) (x2 : Int32) (s0 : Int32) (s1 : Int32) (μ : sm_Mem) : Prop := ∀ v5 : Int32, v5 = (s1 + s0) → J4 v5 (x2 + 1) μ
def w_M_gone_4 (K : Int32 → sm_Mem → Prop) (x1 : Int32) (x2 : Int32) (μ : sm_Mem) : Prop := sm_lp2 (fun J4 x1 x2 μ => if (μ 62 7) ≤ x2 then K x1 μ else w_M_its (fun r3 μ2 => if r3 = 0 then w_M_gone_30 K J4 x2 1 x1 μ2 else w_M_gone_30 K J4 x2 0 x1 μ2) x2 2 μ) x1 x2 μ
def w_M_gone (K : Int32 → sm_Mem → Prop) (μ : sm_Mem) : Prop := w_M_gone_4 K 0 0 μ
set_option maxHeartbeats 4000000 in
set_option maxRecDepth 100000 in
theorem P_M_gone (l : Launch) {K : Int32 → sm_Mem → Prop} {μ : sm_Mem} (h : w_M_gone K μ) : sm_MI l ⟨"SnowMoneyModel", "gone", "()I"⟩ prog_10_method_89_code 3 (some .int) { frames := 1, cells := 0, slots := 0, locals := 22 } [sm_R 61] μ K := by
  refine sm_ofI (by decide +kernel) (fun _ => Nat.le_of_ble_eq_true rfl) ?_
  intro p e s m args below meth c A Q G C hR
  have B30 : ∀ (x2 : Int32) (s0 : Int32) (s1 : Int32) (J4 : Int32 → Int32 → sm_Mem → Prop) (hJ4 : ∀ (x1 : Int32) (x2 : Int32) (μ : sm_Mem), J4 x1 x2 μ → sm_W p l e { frames := 1, cells := 0, slots := 0, locals := 22 } s m args below meth c A Q G 3 0 0 4 [] [(0, sm_R 61), (1, sm_I x1), (2, sm_I x2)] μ) (μ : sm_Mem), w_M_gone_30 K J4 x2 s0 s1 μ → sm_W p l e { frames := 1, cells := 0, slots := 0, locals := 22 } s m args below meth c A Q G 3 0 0 30 [sm_I s0, sm_I s1] [(0, sm_R 61), (2, sm_I x2)] μ := by
    intro x2 s0 s1 J4 hJ4 μ h
    refine sr_iadd C d_M_gone_30 ?_
    replace h := h _ rfl
    refine sr_istore_n C rfl (by decide) d_M_gone_31 ?_
    refine sr_iinc C 2 rfl (by decide) d_M_gone_32 rfl ?_
    refine sr_goto C (tgt := 4) (by decide) d_M_gone_35 ?_
    refine sr_mask C [2, 1, 0] rfl ?_
    exact hJ4 _ _ _ h
  have B4 : ∀ (x1 : Int32) (x2 : Int32) (μ : sm_Mem), w_M_gone_4 K x1 x2 μ → sm_W p l e { frames := 1, cells := 0, slots := 0, locals := 22 } s m args below meth c A Q G 3 0 0 4 [] [(0, sm_R 61), (1, sm_I x1), (2, sm_I x2)] μ := by
    intro x1 x2 μ h
    refine sm_lp2_sound (P := fun x1 x2 μ => sm_W p l e { frames := 1, cells := 0, slots := 0, locals := 22 } s m args below meth c A Q G 3 0 0 4 [] [(0, sm_R 61), (1, sm_I x1), (2, sm_I x2)] μ) (fun J4 x1 x2 μ hJ4 h => ?_) h
    refine sr_iload_n C 2 rfl rfl d_M_gone_4 ?_
    refine sr_aload_n C 0 rfl rfl d_M_gone_5 ?_
    refine sr_getR C sm_F7 0 q_435 sm_l61 (r := 62) rfl (by decide) d_M_gone_6 ?_
    refine sr_bipush C (v := 7) d_M_gone_9 (by decide) ?_
    refine sr_ialdJ C sm_l62 (j := 7) (sm_vin (by decide)) (by decide) d_M_gone_11 ?_
    refine sr_icmp_ge C (tgt := 38) d_M_gone_12 (by decide) (fun c1 => ?_) (fun c1 => ?_)
    · replace h := Eq.mp (if_pos c1) h
      refine sr_iload_n C 1 rfl rfl d_M_gone_38 ?_
      exact hR _ _ _ _ d_M_gone_39 rfl h
    · replace h := Eq.mp (if_neg c1) h
      refine sr_iload_n C 1 rfl rfl d_M_gone_15 ?_
      refine sr_aload_n C 0 rfl rfl d_M_gone_16 ?_
      refine sr_iload_n C 2 rfl rfl d_M_gone_17 ?_
      refine sr_iconst C (v := 2) d_M_gone_18 (by decide) ?_
      refine sr_callVI C [sm_I _, sm_I _] (P_M_its l h) ok_101 sm_l61 rfl rfl rfl rfl ⟨Nat.le_of_ble_eq_true rfl, Nat.le_of_ble_eq_true rfl⟩ (Nat.le_of_ble_eq_true rfl) ⟨Nat.zero_le _, Nat.zero_le _⟩ d_M_gone_19 (fun r3 μ2 h => ?_)
      refine sr_if_ne C (tgt := 29) d_M_gone_22 (by decide) (fun c4 => ?_) (fun c4 => ?_)
      · replace h := Eq.mp (if_neg c4) h
        refine sr_iconst C (v := 0) d_M_gone_29 (by decide) ?_
        refine sr_mask C [0, 2] rfl ?_
        exact B30 _ _ _ _ hJ4 _ h
      · replace h := Eq.mp (if_pos c4) h
        refine sr_iconst C (v := 1) d_M_gone_25 (by decide) ?_
        refine sr_goto C (tgt := 30) (by decide) d_M_gone_26 ?_
        refine sr_mask C [0, 2] rfl ?_
        exact B30 _ _ _ _ hJ4 _ h
  refine sr_iconst C (v := 0) d_M_gone_0 (by decide) ?_
  refine sr_istore_n C rfl (by decide) d_M_gone_1 ?_
  refine sr_iconst C (v := 0) d_M_gone_2 (by decide) ?_
  refine sr_istore_n C rfl (by decide) d_M_gone_3 ?_
  refine sr_mask C [2, 1, 0] rfl ?_
  exact B4 _ _ _ h
theorem d_M_count_0 : decode prog_10_method_90_code 0 = .ok (.iload_n 1, 1) := by decide +kernel
theorem d_M_count_1 : decode prog_10_method_90_code 1 = .ok (.tableswitch 121 0 9 #[55, 62, 70, 77, 85, 90, 95, 102, 109, 114], 55) := by decide +kernel
theorem d_M_count_56 : decode prog_10_method_90_code 56 = .ok (.aload_n 0, 1) := by decide +kernel
theorem d_M_count_57 : decode prog_10_method_90_code 57 = .ok (.getfield 7, 3) := by decide +kernel
theorem d_M_count_60 : decode prog_10_method_90_code 60 = .ok (.iconst 2, 1) := by decide +kernel
theorem d_M_count_61 : decode prog_10_method_90_code 61 = .ok (.iaload, 1) := by decide +kernel
theorem d_M_count_62 : decode prog_10_method_90_code 62 = .ok (.ireturn, 1) := by decide +kernel
theorem d_M_count_63 : decode prog_10_method_90_code 63 = .ok (.aload_n 0, 1) := by decide +kernel
theorem d_M_count_64 : decode prog_10_method_90_code 64 = .ok (.getfield 7, 3) := by decide +kernel
theorem d_M_count_67 : decode prog_10_method_90_code 67 = .ok (.bipush 7, 2) := by decide +kernel
theorem d_M_count_69 : decode prog_10_method_90_code 69 = .ok (.iaload, 1) := by decide +kernel
theorem d_M_count_70 : decode prog_10_method_90_code 70 = .ok (.ireturn, 1) := by decide +kernel
theorem d_M_count_71 : decode prog_10_method_90_code 71 = .ok (.aload_n 0, 1) := by decide +kernel
theorem d_M_count_72 : decode prog_10_method_90_code 72 = .ok (.getfield 7, 3) := by decide +kernel
theorem d_M_count_75 : decode prog_10_method_90_code 75 = .ok (.iconst 0, 1) := by decide +kernel
theorem d_M_count_76 : decode prog_10_method_90_code 76 = .ok (.iaload, 1) := by decide +kernel
theorem d_M_count_77 : decode prog_10_method_90_code 77 = .ok (.ireturn, 1) := by decide +kernel
theorem d_M_count_78 : decode prog_10_method_90_code 78 = .ok (.aload_n 0, 1) := by decide +kernel
theorem d_M_count_79 : decode prog_10_method_90_code 79 = .ok (.getfield 7, 3) := by decide +kernel
theorem d_M_count_82 : decode prog_10_method_90_code 82 = .ok (.bipush 8, 2) := by decide +kernel
theorem d_M_count_84 : decode prog_10_method_90_code 84 = .ok (.iaload, 1) := by decide +kernel
theorem d_M_count_85 : decode prog_10_method_90_code 85 = .ok (.ireturn, 1) := by decide +kernel
theorem d_M_count_86 : decode prog_10_method_90_code 86 = .ok (.aload_n 0, 1) := by decide +kernel
theorem d_M_count_87 : decode prog_10_method_90_code 87 = .ok (.invokevirtual 183, 3) := by decide +kernel
theorem d_M_count_90 : decode prog_10_method_90_code 90 = .ok (.ireturn, 1) := by decide +kernel
theorem d_M_count_91 : decode prog_10_method_90_code 91 = .ok (.aload_n 0, 1) := by decide +kernel
theorem d_M_count_92 : decode prog_10_method_90_code 92 = .ok (.invokevirtual 261, 3) := by decide +kernel
theorem d_M_count_95 : decode prog_10_method_90_code 95 = .ok (.ireturn, 1) := by decide +kernel
theorem d_M_count_96 : decode prog_10_method_90_code 96 = .ok (.aload_n 0, 1) := by decide +kernel
theorem d_M_count_97 : decode prog_10_method_90_code 97 = .ok (.getfield 7, 3) := by decide +kernel
theorem d_M_count_100 : decode prog_10_method_90_code 100 = .ok (.iconst 3, 1) := by decide +kernel
theorem d_M_count_101 : decode prog_10_method_90_code 101 = .ok (.iaload, 1) := by decide +kernel
theorem d_M_count_102 : decode prog_10_method_90_code 102 = .ok (.ireturn, 1) := by decide +kernel
theorem d_M_count_103 : decode prog_10_method_90_code 103 = .ok (.aload_n 0, 1) := by decide +kernel
theorem d_M_count_104 : decode prog_10_method_90_code 104 = .ok (.getfield 7, 3) := by decide +kernel
theorem d_M_count_107 : decode prog_10_method_90_code 107 = .ok (.iconst 4, 1) := by decide +kernel
theorem d_M_count_108 : decode prog_10_method_90_code 108 = .ok (.iaload, 1) := by decide +kernel
theorem d_M_count_109 : decode prog_10_method_90_code 109 = .ok (.ireturn, 1) := by decide +kernel
theorem d_M_count_110 : decode prog_10_method_90_code 110 = .ok (.aload_n 0, 1) := by decide +kernel
theorem d_M_count_111 : decode prog_10_method_90_code 111 = .ok (.getfield 225, 3) := by decide +kernel
theorem d_M_count_114 : decode prog_10_method_90_code 114 = .ok (.ireturn, 1) := by decide +kernel
theorem d_M_count_115 : decode prog_10_method_90_code 115 = .ok (.aload_n 0, 1) := by decide +kernel
theorem d_M_count_116 : decode prog_10_method_90_code 116 = .ok (.getfield 7, 3) := by decide +kernel
theorem d_M_count_119 : decode prog_10_method_90_code 119 = .ok (.iconst 1, 1) := by decide +kernel
theorem d_M_count_120 : decode prog_10_method_90_code 120 = .ok (.iaload, 1) := by decide +kernel
theorem d_M_count_121 : decode prog_10_method_90_code 121 = .ok (.ireturn, 1) := by decide +kernel
theorem d_M_count_122 : decode prog_10_method_90_code 122 = .ok (.aload_n 0, 1) := by decide +kernel
theorem d_M_count_123 : decode prog_10_method_90_code 123 = .ok (.ldc 48, 2) := by decide +kernel
theorem d_M_count_125 : decode prog_10_method_90_code 125 = .ok (.invokevirtual 49, 3) := by decide +kernel
theorem d_M_count_128 : decode prog_10_method_90_code 128 = .ok (.ireturn, 1) := by decide +kernel
def w_M_count (K : Int32 → sm_Mem → Prop) (p0 : Int32) (μ : sm_Mem) : Prop := ∀ v1 : Int32, v1 = p0 → if v1 = 0 then K (μ 62 2) μ else (if v1 = 1 then K (μ 62 7) μ else (if v1 = 2 then K (μ 62 0) μ else (if v1 = 3 then K (μ 62 8) μ else (if v1 = 4 then w_M_snowOfAll (fun r8 μ7 => K r8 μ7) μ else (if v1 = 5 then w_M_gone (fun r11 μ10 => K r11 μ10) μ else (if v1 = 6 then K (μ 62 3) μ else (if v1 = 7 then K (μ 62 4) μ else (if v1 = 8 then K (μ 61 24) μ else (if v1 = 9 then K (μ 62 1) μ else w_M_errs (fun r17 μ16 => K r17 μ16) (-1000000001) μ)))))))))
set_option maxHeartbeats 4000000 in
set_option maxRecDepth 100000 in
theorem P_M_count (l : Launch) {K : Int32 → sm_Mem → Prop} {p0 : Int32} {μ : sm_Mem} (h : w_M_count K p0 μ) : sm_MI l ⟨"SnowMoneyModel", "count", "(I)I"⟩ prog_10_method_90_code 2 (some .int) { frames := 2, cells := 0, slots := 0, locals := 44 } [sm_R 61, sm_I p0] μ K := by
  refine sm_ofI (by decide +kernel) (fun _ => Nat.le_of_ble_eq_true rfl) ?_
  intro p e s m args below meth c A Q G C hR
  refine sr_iload_n C 1 rfl rfl d_M_count_0 ?_
  refine sm_name (fun v1 ev1 => ?_)
  replace h := h v1 ev1
  by_cases c2 : v1 = 0
  · replace h := Eq.mp (if_pos c2) h
    refine sr_tableIn C (tgt := 56) (off := 55) d_M_count_1 (by rw [c2]; decide) (by rw [c2]; decide) (by rw [c2]; decide) (by decide) ?_
    refine sr_aload_n C 0 rfl rfl d_M_count_56 ?_
    refine sr_getR C sm_F7 0 q_435 sm_l61 (r := 62) rfl (by decide) d_M_count_57 ?_
    refine sr_iconst C (v := 2) d_M_count_60 (by decide) ?_
    refine sr_ialdJ C sm_l62 (j := 2) (sm_vin (by decide)) (by decide) d_M_count_61 ?_
    exact hR _ _ _ _ d_M_count_62 rfl h
  · replace h := Eq.mp (if_neg c2) h
    by_cases c3 : v1 = 1
    · replace h := Eq.mp (if_pos c3) h
      refine sr_tableIn C (tgt := 63) (off := 62) d_M_count_1 (by rw [c3]; decide) (by rw [c3]; decide) (by rw [c3]; decide) (by decide) ?_
      refine sr_aload_n C 0 rfl rfl d_M_count_63 ?_
      refine sr_getR C sm_F7 0 q_435 sm_l61 (r := 62) rfl (by decide) d_M_count_64 ?_
      refine sr_bipush C (v := 7) d_M_count_67 (by decide) ?_
      refine sr_ialdJ C sm_l62 (j := 7) (sm_vin (by decide)) (by decide) d_M_count_69 ?_
      exact hR _ _ _ _ d_M_count_70 rfl h
    · replace h := Eq.mp (if_neg c3) h
      by_cases c4 : v1 = 2
      · replace h := Eq.mp (if_pos c4) h
        refine sr_tableIn C (tgt := 71) (off := 70) d_M_count_1 (by rw [c4]; decide) (by rw [c4]; decide) (by rw [c4]; decide) (by decide) ?_
        refine sr_aload_n C 0 rfl rfl d_M_count_71 ?_
        refine sr_getR C sm_F7 0 q_435 sm_l61 (r := 62) rfl (by decide) d_M_count_72 ?_
        refine sr_iconst C (v := 0) d_M_count_75 (by decide) ?_
        refine sr_ialdJ C sm_l62 (j := 0) (sm_vin (by decide)) (by decide) d_M_count_76 ?_
        exact hR _ _ _ _ d_M_count_77 rfl h
      · replace h := Eq.mp (if_neg c4) h
        by_cases c5 : v1 = 3
        · replace h := Eq.mp (if_pos c5) h
          refine sr_tableIn C (tgt := 78) (off := 77) d_M_count_1 (by rw [c5]; decide) (by rw [c5]; decide) (by rw [c5]; decide) (by decide) ?_
          refine sr_aload_n C 0 rfl rfl d_M_count_78 ?_
          refine sr_getR C sm_F7 0 q_435 sm_l61 (r := 62) rfl (by decide) d_M_count_79 ?_
          refine sr_bipush C (v := 8) d_M_count_82 (by decide) ?_
          refine sr_ialdJ C sm_l62 (j := 8) (sm_vin (by decide)) (by decide) d_M_count_84 ?_
          exact hR _ _ _ _ d_M_count_85 rfl h
        · replace h := Eq.mp (if_neg c5) h
          by_cases c6 : v1 = 4
          · replace h := Eq.mp (if_pos c6) h
            refine sr_tableIn C (tgt := 86) (off := 85) d_M_count_1 (by rw [c6]; decide) (by rw [c6]; decide) (by rw [c6]; decide) (by decide) ?_
            refine sr_aload_n C 0 rfl rfl d_M_count_86 ?_
            refine sr_callVI C [] (P_M_snowOfAll l h) ok_125 sm_l61 rfl rfl rfl rfl ⟨Nat.le_of_ble_eq_true rfl, Nat.le_of_ble_eq_true rfl⟩ (Nat.le_of_ble_eq_true rfl) ⟨Nat.zero_le _, Nat.zero_le _⟩ d_M_count_87 (fun r8 μ7 h => ?_)
            exact hR _ _ _ _ d_M_count_90 rfl h
          · replace h := Eq.mp (if_neg c6) h
            by_cases c9 : v1 = 5
            · replace h := Eq.mp (if_pos c9) h
              refine sr_tableIn C (tgt := 91) (off := 90) d_M_count_1 (by rw [c9]; decide) (by rw [c9]; decide) (by rw [c9]; decide) (by decide) ?_
              refine sr_aload_n C 0 rfl rfl d_M_count_91 ?_
              refine sr_callVI C [] (P_M_gone l h) ok_144 sm_l61 rfl rfl rfl rfl ⟨Nat.le_of_ble_eq_true rfl, Nat.le_of_ble_eq_true rfl⟩ (Nat.le_of_ble_eq_true rfl) ⟨Nat.zero_le _, Nat.zero_le _⟩ d_M_count_92 (fun r11 μ10 h => ?_)
              exact hR _ _ _ _ d_M_count_95 rfl h
            · replace h := Eq.mp (if_neg c9) h
              by_cases c12 : v1 = 6
              · replace h := Eq.mp (if_pos c12) h
                refine sr_tableIn C (tgt := 96) (off := 95) d_M_count_1 (by rw [c12]; decide) (by rw [c12]; decide) (by rw [c12]; decide) (by decide) ?_
                refine sr_aload_n C 0 rfl rfl d_M_count_96 ?_
                refine sr_getR C sm_F7 0 q_435 sm_l61 (r := 62) rfl (by decide) d_M_count_97 ?_
                refine sr_iconst C (v := 3) d_M_count_100 (by decide) ?_
                refine sr_ialdJ C sm_l62 (j := 3) (sm_vin (by decide)) (by decide) d_M_count_101 ?_
                exact hR _ _ _ _ d_M_count_102 rfl h
              · replace h := Eq.mp (if_neg c12) h
                by_cases c13 : v1 = 7
                · replace h := Eq.mp (if_pos c13) h
                  refine sr_tableIn C (tgt := 103) (off := 102) d_M_count_1 (by rw [c13]; decide) (by rw [c13]; decide) (by rw [c13]; decide) (by decide) ?_
                  refine sr_aload_n C 0 rfl rfl d_M_count_103 ?_
                  refine sr_getR C sm_F7 0 q_435 sm_l61 (r := 62) rfl (by decide) d_M_count_104 ?_
                  refine sr_iconst C (v := 4) d_M_count_107 (by decide) ?_
                  refine sr_ialdJ C sm_l62 (j := 4) (sm_vin (by decide)) (by decide) d_M_count_108 ?_
                  exact hR _ _ _ _ d_M_count_109 rfl h
                · replace h := Eq.mp (if_neg c13) h
                  by_cases c14 : v1 = 8
                  · replace h := Eq.mp (if_pos c14) h
                    refine sr_tableIn C (tgt := 110) (off := 109) d_M_count_1 (by rw [c14]; decide) (by rw [c14]; decide) (by rw [c14]; decide) (by decide) ?_
                    refine sr_aload_n C 0 rfl rfl d_M_count_110 ?_
                    refine sr_getI C sm_F7 24 q_619 sm_l61 rfl (by decide) d_M_count_111 ?_
                    exact hR _ _ _ _ d_M_count_114 rfl h
                  · replace h := Eq.mp (if_neg c14) h
                    by_cases c15 : v1 = 9
                    · replace h := Eq.mp (if_pos c15) h
                      refine sr_tableIn C (tgt := 115) (off := 114) d_M_count_1 (by rw [c15]; decide) (by rw [c15]; decide) (by rw [c15]; decide) (by decide) ?_
                      refine sr_aload_n C 0 rfl rfl d_M_count_115 ?_
                      refine sr_getR C sm_F7 0 q_435 sm_l61 (r := 62) rfl (by decide) d_M_count_116 ?_
                      refine sr_iconst C (v := 1) d_M_count_119 (by decide) ?_
                      refine sr_ialdJ C sm_l62 (j := 1) (sm_vin (by decide)) (by decide) d_M_count_120 ?_
                      exact hR _ _ _ _ d_M_count_121 rfl h
                    · replace h := Eq.mp (if_neg c15) h
                      have i0 := sm_ne c2 (z := 0) (by decide)
                      have i1 := sm_ne c3 (z := 1) (by decide)
                      have i2 := sm_ne c4 (z := 2) (by decide)
                      have i3 := sm_ne c5 (z := 3) (by decide)
                      have i4 := sm_ne c6 (z := 4) (by decide)
                      have i5 := sm_ne c9 (z := 5) (by decide)
                      have i6 := sm_ne c12 (z := 6) (by decide)
                      have i7 := sm_ne c13 (z := 7) (by decide)
                      have i8 := sm_ne c14 (z := 8) (by decide)
                      have i9 := sm_ne c15 (z := 9) (by decide)
                      refine sr_tableOut C (tgt := 122) d_M_count_1 (by omega) (by decide) ?_
                      refine sr_aload_n C 0 rfl rfl d_M_count_122 ?_
                      refine sr_ldc C q_441 d_M_count_123 ?_
                      refine sr_callVI C [sm_I _] (P_M_errs l h) ok_97 sm_l61 rfl rfl rfl rfl ⟨Nat.le_of_ble_eq_true rfl, Nat.le_of_ble_eq_true rfl⟩ (Nat.le_of_ble_eq_true rfl) ⟨Nat.zero_le _, Nat.zero_le _⟩ d_M_count_125 (fun r17 μ16 h => ?_)
                      exact hR _ _ _ _ d_M_count_128 rfl h
theorem d_M_told_0 : decode prog_10_method_91_code 0 = .ok (.iload_n 1, 1) := by decide +kernel
theorem d_M_told_1 : decode prog_10_method_91_code 1 = .ok (.iconst 1, 1) := by decide +kernel
theorem d_M_told_2 : decode prog_10_method_91_code 2 = .ok (.iconst 5, 1) := by decide +kernel
theorem d_M_told_3 : decode prog_10_method_91_code 3 = .ok (.invokestatic 44, 3) := by decide +kernel
theorem d_M_told_6 : decode prog_10_method_91_code 6 = .ok (.ifCond .eq 12, 3) := by decide +kernel
theorem d_M_told_9 : decode prog_10_method_91_code 9 = .ok (.aload_n 0, 1) := by decide +kernel
theorem d_M_told_10 : decode prog_10_method_91_code 10 = .ok (.getfield 22, 3) := by decide +kernel
theorem d_M_told_13 : decode prog_10_method_91_code 13 = .ok (.iload_n 1, 1) := by decide +kernel
theorem d_M_told_14 : decode prog_10_method_91_code 14 = .ok (.iaload, 1) := by decide +kernel
theorem d_M_told_15 : decode prog_10_method_91_code 15 = .ok (.goto 9, 3) := by decide +kernel
theorem d_M_told_18 : decode prog_10_method_91_code 18 = .ok (.aload_n 0, 1) := by decide +kernel
theorem d_M_told_19 : decode prog_10_method_91_code 19 = .ok (.ldc 48, 2) := by decide +kernel
theorem d_M_told_21 : decode prog_10_method_91_code 21 = .ok (.invokevirtual 49, 3) := by decide +kernel
theorem d_M_told_24 : decode prog_10_method_91_code 24 = .ok (.ireturn, 1) := by decide +kernel
def w_M_told (K : Int32 → sm_Mem → Prop) (p0 : Int32) (μ : sm_Mem) : Prop := w_M_in (fun r2 μ1 => if r2 = 0 then w_M_errs (fun r5 μ4 => K r5 μ4) (-1000000001) μ1 else (vp_in p0 6 ∧ K (μ1 66 p0.toNatClampNeg) μ1)) p0 1 5 μ
set_option maxHeartbeats 4000000 in
set_option maxRecDepth 100000 in
theorem P_M_told (l : Launch) {K : Int32 → sm_Mem → Prop} {p0 : Int32} {μ : sm_Mem} (h : w_M_told K p0 μ) : sm_MI l ⟨"SnowMoneyModel", "told", "(I)I"⟩ prog_10_method_91_code 2 (some .int) { frames := 1, cells := 0, slots := 0, locals := 22 } [sm_R 61, sm_I p0] μ K := by
  refine sm_ofI (by decide +kernel) (fun _ => Nat.le_of_ble_eq_true rfl) ?_
  intro p e s m args below meth c A Q G C hR
  refine sr_iload_n C 1 rfl rfl d_M_told_0 ?_
  refine sr_iconst C (v := 1) d_M_told_1 (by decide) ?_
  refine sr_iconst C (v := 5) d_M_told_2 (by decide) ?_
  refine sr_callSI C [sm_I _, sm_I _, sm_I _] (P_M_in l h) ok_96 rfl rfl rfl ⟨Nat.le_of_ble_eq_true rfl, Nat.le_of_ble_eq_true rfl⟩ (Nat.le_of_ble_eq_true rfl) ⟨Nat.zero_le _, Nat.zero_le _⟩ d_M_told_3 (fun r2 μ1 h => ?_)
  refine sr_if_eq C (tgt := 18) d_M_told_6 (by decide) (fun c3 => ?_) (fun c3 => ?_)
  · replace h := Eq.mp (if_pos c3) h
    refine sr_aload_n C 0 rfl rfl d_M_told_18 ?_
    refine sr_ldc C q_441 d_M_told_19 ?_
    refine sr_callVI C [sm_I _] (P_M_errs l h) ok_97 sm_l61 rfl rfl rfl rfl ⟨Nat.le_of_ble_eq_true rfl, Nat.le_of_ble_eq_true rfl⟩ (Nat.le_of_ble_eq_true rfl) ⟨Nat.zero_le _, Nat.zero_le _⟩ d_M_told_21 (fun r5 μ4 h => ?_)
    exact hR _ _ _ _ d_M_told_24 rfl h
  · replace h := Eq.mp (if_neg c3) h
    refine sr_aload_n C 0 rfl rfl d_M_told_9 ?_
    refine sr_getR C sm_F7 6 q_442 sm_l61 (r := 66) rfl (by decide) d_M_told_10 ?_
    refine sr_iload_n C 1 rfl rfl d_M_told_13 ?_
    obtain ⟨g6, h⟩ := h
    refine sr_iald C sm_l66 g6 d_M_told_14 ?_
    refine sr_goto C (tgt := 24) (by decide) d_M_told_15 ?_
    exact hR _ _ _ _ d_M_told_24 rfl h

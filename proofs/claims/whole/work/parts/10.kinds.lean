theorem d_T_isMissing_0 : decode prog_7_method_2_code 0 = .ok (.aload_n 0, 1) := by decide +kernel
theorem d_T_isMissing_1 : decode prog_7_method_2_code 1 = .ok (.getfield 19, 3) := by decide +kernel
theorem d_T_isMissing_4 : decode prog_7_method_2_code 4 = .ok (.ifCond .ne 7, 3) := by decide +kernel
theorem d_T_isMissing_7 : decode prog_7_method_2_code 7 = .ok (.iconst 1, 1) := by decide +kernel
theorem d_T_isMissing_8 : decode prog_7_method_2_code 8 = .ok (.goto 4, 3) := by decide +kernel
theorem d_T_isMissing_11 : decode prog_7_method_2_code 11 = .ok (.iconst 0, 1) := by decide +kernel
theorem d_T_isMissing_12 : decode prog_7_method_2_code 12 = .ok (.ireturn, 1) := by decide +kernel
def w_T_isMissing (K : Int32 → sm_Mem → Prop) (k : Nat) (μ : sm_Mem) : Prop := isText k ∧ if (μ k 3) = 0 then K 1 μ else K 0 μ
set_option maxHeartbeats 4000000 in
set_option maxRecDepth 100000 in
theorem P_T_isMissing (l : Launch) {K : Int32 → sm_Mem → Prop} {k : Nat} {μ : sm_Mem} (h : w_T_isMissing K k μ) : sm_MI l ⟨"SnowMoney$Text", "isMissing", "()Z"⟩ prog_7_method_2_code 1 (some .boolean) { frames := 0, cells := 0, slots := 0, locals := 0 } [sm_R k] μ K := by
  refine sm_ofI (by decide +kernel) (fun _ => Nat.le_of_ble_eq_true rfl) ?_
  intro p e s m args below meth c A Q G C hR
  obtain ⟨t_k, h⟩ := h
  refine sr_aload_n C 0 rfl rfl d_T_isMissing_0 ?_
  refine sr_getI C sm_F4 3 q_82 t_k.1 rfl (by decide) d_T_isMissing_1 ?_
  refine sr_if_ne C (tgt := 11) d_T_isMissing_4 (by decide) (fun c1 => ?_) (fun c1 => ?_)
  · replace h := Eq.mp (if_neg c1) h
    refine sr_iconst C (v := 0) d_T_isMissing_11 (by decide) ?_
    exact hR _ _ _ _ d_T_isMissing_12 rfl h
  · replace h := Eq.mp (if_pos c1) h
    refine sr_iconst C (v := 1) d_T_isMissing_7 (by decide) ?_
    refine sr_goto C (tgt := 12) (by decide) d_T_isMissing_8 ?_
    exact hR _ _ _ _ d_T_isMissing_12 rfl h
theorem d_T_joined_0 : decode prog_7_method_8_code 0 = .ok (.iload_n 0, 1) := by decide +kernel
theorem d_T_joined_1 : decode prog_7_method_8_code 1 = .ok (.lookupswitch 188 #[(37, 115), (38, 160), (42, 99), (43, 91), (45, 95), (47, 103), (60, 127), (61, 138), (62, 149), (124, 174)], 91) := by decide +kernel
theorem d_T_joined_92 : decode prog_7_method_8_code 92 = .ok (.iload_n 1, 1) := by decide +kernel
theorem d_T_joined_93 : decode prog_7_method_8_code 93 = .ok (.iload_n 2, 1) := by decide +kernel
theorem d_T_joined_94 : decode prog_7_method_8_code 94 = .ok (.iadd, 1) := by decide +kernel
theorem d_T_joined_95 : decode prog_7_method_8_code 95 = .ok (.ireturn, 1) := by decide +kernel
theorem d_T_joined_96 : decode prog_7_method_8_code 96 = .ok (.iload_n 1, 1) := by decide +kernel
theorem d_T_joined_97 : decode prog_7_method_8_code 97 = .ok (.iload_n 2, 1) := by decide +kernel
theorem d_T_joined_98 : decode prog_7_method_8_code 98 = .ok (.isub, 1) := by decide +kernel
theorem d_T_joined_99 : decode prog_7_method_8_code 99 = .ok (.ireturn, 1) := by decide +kernel
theorem d_T_joined_100 : decode prog_7_method_8_code 100 = .ok (.iload_n 1, 1) := by decide +kernel
theorem d_T_joined_101 : decode prog_7_method_8_code 101 = .ok (.iload_n 2, 1) := by decide +kernel
theorem d_T_joined_102 : decode prog_7_method_8_code 102 = .ok (.imul, 1) := by decide +kernel
theorem d_T_joined_103 : decode prog_7_method_8_code 103 = .ok (.ireturn, 1) := by decide +kernel
theorem d_T_joined_104 : decode prog_7_method_8_code 104 = .ok (.iload_n 2, 1) := by decide +kernel
theorem d_T_joined_105 : decode prog_7_method_8_code 105 = .ok (.ifCond .ne 7, 3) := by decide +kernel
theorem d_T_joined_108 : decode prog_7_method_8_code 108 = .ok (.iconst 0, 1) := by decide +kernel
theorem d_T_joined_109 : decode prog_7_method_8_code 109 = .ok (.goto 6, 3) := by decide +kernel
theorem d_T_joined_112 : decode prog_7_method_8_code 112 = .ok (.iload_n 1, 1) := by decide +kernel
theorem d_T_joined_113 : decode prog_7_method_8_code 113 = .ok (.iload_n 2, 1) := by decide +kernel
theorem d_T_joined_114 : decode prog_7_method_8_code 114 = .ok (.idiv, 1) := by decide +kernel
theorem d_T_joined_115 : decode prog_7_method_8_code 115 = .ok (.ireturn, 1) := by decide +kernel
theorem d_T_joined_116 : decode prog_7_method_8_code 116 = .ok (.iload_n 2, 1) := by decide +kernel
theorem d_T_joined_117 : decode prog_7_method_8_code 117 = .ok (.ifCond .ne 7, 3) := by decide +kernel
theorem d_T_joined_120 : decode prog_7_method_8_code 120 = .ok (.iconst 0, 1) := by decide +kernel
theorem d_T_joined_121 : decode prog_7_method_8_code 121 = .ok (.goto 6, 3) := by decide +kernel
theorem d_T_joined_124 : decode prog_7_method_8_code 124 = .ok (.iload_n 1, 1) := by decide +kernel
theorem d_T_joined_125 : decode prog_7_method_8_code 125 = .ok (.iload_n 2, 1) := by decide +kernel
theorem d_T_joined_126 : decode prog_7_method_8_code 126 = .ok (.irem, 1) := by decide +kernel
theorem d_T_joined_127 : decode prog_7_method_8_code 127 = .ok (.ireturn, 1) := by decide +kernel
theorem d_T_joined_128 : decode prog_7_method_8_code 128 = .ok (.iload_n 1, 1) := by decide +kernel
theorem d_T_joined_129 : decode prog_7_method_8_code 129 = .ok (.iload_n 2, 1) := by decide +kernel
theorem d_T_joined_130 : decode prog_7_method_8_code 130 = .ok (.if_icmp .ge 7, 3) := by decide +kernel
theorem d_T_joined_133 : decode prog_7_method_8_code 133 = .ok (.iconst 1, 1) := by decide +kernel
theorem d_T_joined_134 : decode prog_7_method_8_code 134 = .ok (.goto 4, 3) := by decide +kernel
theorem d_T_joined_137 : decode prog_7_method_8_code 137 = .ok (.iconst 0, 1) := by decide +kernel
theorem d_T_joined_138 : decode prog_7_method_8_code 138 = .ok (.ireturn, 1) := by decide +kernel
theorem d_T_joined_139 : decode prog_7_method_8_code 139 = .ok (.iload_n 1, 1) := by decide +kernel
theorem d_T_joined_140 : decode prog_7_method_8_code 140 = .ok (.iload_n 2, 1) := by decide +kernel
theorem d_T_joined_141 : decode prog_7_method_8_code 141 = .ok (.if_icmp .ne 7, 3) := by decide +kernel
theorem d_T_joined_144 : decode prog_7_method_8_code 144 = .ok (.iconst 1, 1) := by decide +kernel
theorem d_T_joined_145 : decode prog_7_method_8_code 145 = .ok (.goto 4, 3) := by decide +kernel
theorem d_T_joined_148 : decode prog_7_method_8_code 148 = .ok (.iconst 0, 1) := by decide +kernel
theorem d_T_joined_149 : decode prog_7_method_8_code 149 = .ok (.ireturn, 1) := by decide +kernel
theorem d_T_joined_150 : decode prog_7_method_8_code 150 = .ok (.iload_n 1, 1) := by decide +kernel
theorem d_T_joined_151 : decode prog_7_method_8_code 151 = .ok (.iload_n 2, 1) := by decide +kernel
theorem d_T_joined_152 : decode prog_7_method_8_code 152 = .ok (.if_icmp .le 7, 3) := by decide +kernel
theorem d_T_joined_155 : decode prog_7_method_8_code 155 = .ok (.iconst 1, 1) := by decide +kernel
theorem d_T_joined_156 : decode prog_7_method_8_code 156 = .ok (.goto 4, 3) := by decide +kernel
theorem d_T_joined_159 : decode prog_7_method_8_code 159 = .ok (.iconst 0, 1) := by decide +kernel
theorem d_T_joined_160 : decode prog_7_method_8_code 160 = .ok (.ireturn, 1) := by decide +kernel
theorem d_T_joined_161 : decode prog_7_method_8_code 161 = .ok (.iload_n 1, 1) := by decide +kernel
theorem d_T_joined_162 : decode prog_7_method_8_code 162 = .ok (.ifCond .eq 11, 3) := by decide +kernel
theorem d_T_joined_165 : decode prog_7_method_8_code 165 = .ok (.iload_n 2, 1) := by decide +kernel
theorem d_T_joined_166 : decode prog_7_method_8_code 166 = .ok (.ifCond .eq 7, 3) := by decide +kernel
theorem d_T_joined_169 : decode prog_7_method_8_code 169 = .ok (.iconst 1, 1) := by decide +kernel
theorem d_T_joined_170 : decode prog_7_method_8_code 170 = .ok (.goto 4, 3) := by decide +kernel
theorem d_T_joined_173 : decode prog_7_method_8_code 173 = .ok (.iconst 0, 1) := by decide +kernel
theorem d_T_joined_174 : decode prog_7_method_8_code 174 = .ok (.ireturn, 1) := by decide +kernel
theorem d_T_joined_175 : decode prog_7_method_8_code 175 = .ok (.iload_n 1, 1) := by decide +kernel
theorem d_T_joined_176 : decode prog_7_method_8_code 176 = .ok (.ifCond .ne 7, 3) := by decide +kernel
theorem d_T_joined_179 : decode prog_7_method_8_code 179 = .ok (.iload_n 2, 1) := by decide +kernel
theorem d_T_joined_180 : decode prog_7_method_8_code 180 = .ok (.ifCond .eq 7, 3) := by decide +kernel
theorem d_T_joined_183 : decode prog_7_method_8_code 183 = .ok (.iconst 1, 1) := by decide +kernel
theorem d_T_joined_184 : decode prog_7_method_8_code 184 = .ok (.goto 4, 3) := by decide +kernel
theorem d_T_joined_187 : decode prog_7_method_8_code 187 = .ok (.iconst 0, 1) := by decide +kernel
theorem d_T_joined_188 : decode prog_7_method_8_code 188 = .ok (.ireturn, 1) := by decide +kernel
theorem d_T_joined_189 : decode prog_7_method_8_code 189 = .ok (.iconst 0, 1) := by decide +kernel
theorem d_T_joined_190 : decode prog_7_method_8_code 190 = .ok (.ireturn, 1) := by decide +kernel
def w_T_joined (K : Int32 → sm_Mem → Prop) (p0 : Int32) (p1 : Int32) (p2 : Int32) (μ : sm_Mem) : Prop := ∀ v1 : Int32, v1 = p0 → if v1 = 37 then (if p2 = 0 then K 0 μ else ((¬ p2 = 0) ∧ K (p1 % p2) μ)) else (if v1 = 38 then (if p1 = 0 then K 0 μ else (if p2 = 0 then K 0 μ else K 1 μ)) else (if v1 = 42 then K (p1 * p2) μ else (if v1 = 43 then K (p1 + p2) μ else (if v1 = 45 then K (p1 - p2) μ else (if v1 = 47 then (if p2 = 0 then K 0 μ else ((¬ p2 = 0) ∧ K (p1 / p2) μ)) else (if v1 = 60 then (if p2 ≤ p1 then K 0 μ else K 1 μ) else (if v1 = 61 then (if p1 = p2 then K 1 μ else K 0 μ) else (if v1 = 62 then (if p1 ≤ p2 then K 0 μ else K 1 μ) else (if v1 = 124 then (if p1 = 0 then (if p2 = 0 then K 0 μ else K 1 μ) else K 1 μ) else K 0 μ)))))))))
set_option maxHeartbeats 4000000 in
set_option maxRecDepth 100000 in
theorem P_T_joined (l : Launch) {K : Int32 → sm_Mem → Prop} {p0 : Int32} {p1 : Int32} {p2 : Int32} {μ : sm_Mem} (h : w_T_joined K p0 p1 p2 μ) : sm_MI l ⟨"SnowMoney$Text", "joined", "(III)I"⟩ prog_7_method_8_code 3 (some .int) { frames := 0, cells := 0, slots := 0, locals := 0 } [sm_I p0, sm_I p1, sm_I p2] μ K := by
  refine sm_ofI (by decide +kernel) (fun _ => Nat.le_of_ble_eq_true rfl) ?_
  intro p e s m args below meth c A Q G C hR
  refine sr_iload_n C 0 rfl rfl d_T_joined_0 ?_
  refine sm_name (fun v1 ev1 => ?_)
  replace h := h v1 ev1
  by_cases c2 : v1 = 37
  · replace h := Eq.mp (if_pos c2) h
    refine sr_lookup C (tgt := 116) (off := 115) d_T_joined_1 (by decide) (by rw [c2]; decide) (by decide) ?_
    refine sr_iload_n C 2 rfl rfl d_T_joined_116 ?_
    refine sr_if_ne C (tgt := 124) d_T_joined_117 (by decide) (fun c3 => ?_) (fun c3 => ?_)
    · replace h := Eq.mp (if_neg c3) h
      refine sr_iload_n C 1 rfl rfl d_T_joined_124 ?_
      refine sr_iload_n C 2 rfl rfl d_T_joined_125 ?_
      obtain ⟨g4, h⟩ := h
      refine sr_irem C g4 d_T_joined_126 ?_
      exact hR _ _ _ _ d_T_joined_127 rfl h
    · replace h := Eq.mp (if_pos c3) h
      refine sr_iconst C (v := 0) d_T_joined_120 (by decide) ?_
      refine sr_goto C (tgt := 127) (by decide) d_T_joined_121 ?_
      exact hR _ _ _ _ d_T_joined_127 rfl h
  · replace h := Eq.mp (if_neg c2) h
    by_cases c5 : v1 = 38
    · replace h := Eq.mp (if_pos c5) h
      refine sr_lookup C (tgt := 161) (off := 160) d_T_joined_1 (by decide) (by rw [c5]; decide) (by decide) ?_
      refine sr_iload_n C 1 rfl rfl d_T_joined_161 ?_
      refine sr_if_eq C (tgt := 173) d_T_joined_162 (by decide) (fun c6 => ?_) (fun c6 => ?_)
      · replace h := Eq.mp (if_pos c6) h
        refine sr_iconst C (v := 0) d_T_joined_173 (by decide) ?_
        exact hR _ _ _ _ d_T_joined_174 rfl h
      · replace h := Eq.mp (if_neg c6) h
        refine sr_iload_n C 2 rfl rfl d_T_joined_165 ?_
        refine sr_if_eq C (tgt := 173) d_T_joined_166 (by decide) (fun c7 => ?_) (fun c7 => ?_)
        · replace h := Eq.mp (if_pos c7) h
          refine sr_iconst C (v := 0) d_T_joined_173 (by decide) ?_
          exact hR _ _ _ _ d_T_joined_174 rfl h
        · replace h := Eq.mp (if_neg c7) h
          refine sr_iconst C (v := 1) d_T_joined_169 (by decide) ?_
          refine sr_goto C (tgt := 174) (by decide) d_T_joined_170 ?_
          exact hR _ _ _ _ d_T_joined_174 rfl h
    · replace h := Eq.mp (if_neg c5) h
      by_cases c8 : v1 = 42
      · replace h := Eq.mp (if_pos c8) h
        refine sr_lookup C (tgt := 100) (off := 99) d_T_joined_1 (by decide) (by rw [c8]; decide) (by decide) ?_
        refine sr_iload_n C 1 rfl rfl d_T_joined_100 ?_
        refine sr_iload_n C 2 rfl rfl d_T_joined_101 ?_
        refine sr_imul C d_T_joined_102 ?_
        exact hR _ _ _ _ d_T_joined_103 rfl h
      · replace h := Eq.mp (if_neg c8) h
        by_cases c9 : v1 = 43
        · replace h := Eq.mp (if_pos c9) h
          refine sr_lookup C (tgt := 92) (off := 91) d_T_joined_1 (by decide) (by rw [c9]; decide) (by decide) ?_
          refine sr_iload_n C 1 rfl rfl d_T_joined_92 ?_
          refine sr_iload_n C 2 rfl rfl d_T_joined_93 ?_
          refine sr_iadd C d_T_joined_94 ?_
          exact hR _ _ _ _ d_T_joined_95 rfl h
        · replace h := Eq.mp (if_neg c9) h
          by_cases c10 : v1 = 45
          · replace h := Eq.mp (if_pos c10) h
            refine sr_lookup C (tgt := 96) (off := 95) d_T_joined_1 (by decide) (by rw [c10]; decide) (by decide) ?_
            refine sr_iload_n C 1 rfl rfl d_T_joined_96 ?_
            refine sr_iload_n C 2 rfl rfl d_T_joined_97 ?_
            refine sr_isub C d_T_joined_98 ?_
            exact hR _ _ _ _ d_T_joined_99 rfl h
          · replace h := Eq.mp (if_neg c10) h
            by_cases c11 : v1 = 47
            · replace h := Eq.mp (if_pos c11) h
              refine sr_lookup C (tgt := 104) (off := 103) d_T_joined_1 (by decide) (by rw [c11]; decide) (by decide) ?_
              refine sr_iload_n C 2 rfl rfl d_T_joined_104 ?_
              refine sr_if_ne C (tgt := 112) d_T_joined_105 (by decide) (fun c12 => ?_) (fun c12 => ?_)
              · replace h := Eq.mp (if_neg c12) h
                refine sr_iload_n C 1 rfl rfl d_T_joined_112 ?_
                refine sr_iload_n C 2 rfl rfl d_T_joined_113 ?_
                obtain ⟨g13, h⟩ := h
                refine sr_idiv C g13 d_T_joined_114 ?_
                exact hR _ _ _ _ d_T_joined_115 rfl h
              · replace h := Eq.mp (if_pos c12) h
                refine sr_iconst C (v := 0) d_T_joined_108 (by decide) ?_
                refine sr_goto C (tgt := 115) (by decide) d_T_joined_109 ?_
                exact hR _ _ _ _ d_T_joined_115 rfl h
            · replace h := Eq.mp (if_neg c11) h
              by_cases c14 : v1 = 60
              · replace h := Eq.mp (if_pos c14) h
                refine sr_lookup C (tgt := 128) (off := 127) d_T_joined_1 (by decide) (by rw [c14]; decide) (by decide) ?_
                refine sr_iload_n C 1 rfl rfl d_T_joined_128 ?_
                refine sr_iload_n C 2 rfl rfl d_T_joined_129 ?_
                refine sr_icmp_ge C (tgt := 137) d_T_joined_130 (by decide) (fun c15 => ?_) (fun c15 => ?_)
                · replace h := Eq.mp (if_pos c15) h
                  refine sr_iconst C (v := 0) d_T_joined_137 (by decide) ?_
                  exact hR _ _ _ _ d_T_joined_138 rfl h
                · replace h := Eq.mp (if_neg c15) h
                  refine sr_iconst C (v := 1) d_T_joined_133 (by decide) ?_
                  refine sr_goto C (tgt := 138) (by decide) d_T_joined_134 ?_
                  exact hR _ _ _ _ d_T_joined_138 rfl h
              · replace h := Eq.mp (if_neg c14) h
                by_cases c16 : v1 = 61
                · replace h := Eq.mp (if_pos c16) h
                  refine sr_lookup C (tgt := 139) (off := 138) d_T_joined_1 (by decide) (by rw [c16]; decide) (by decide) ?_
                  refine sr_iload_n C 1 rfl rfl d_T_joined_139 ?_
                  refine sr_iload_n C 2 rfl rfl d_T_joined_140 ?_
                  refine sr_icmp_ne C (tgt := 148) d_T_joined_141 (by decide) (fun c17 => ?_) (fun c17 => ?_)
                  · replace h := Eq.mp (if_neg c17) h
                    refine sr_iconst C (v := 0) d_T_joined_148 (by decide) ?_
                    exact hR _ _ _ _ d_T_joined_149 rfl h
                  · replace h := Eq.mp (if_pos c17) h
                    refine sr_iconst C (v := 1) d_T_joined_144 (by decide) ?_
                    refine sr_goto C (tgt := 149) (by decide) d_T_joined_145 ?_
                    exact hR _ _ _ _ d_T_joined_149 rfl h
                · replace h := Eq.mp (if_neg c16) h
                  by_cases c18 : v1 = 62
                  · replace h := Eq.mp (if_pos c18) h
                    refine sr_lookup C (tgt := 150) (off := 149) d_T_joined_1 (by decide) (by rw [c18]; decide) (by decide) ?_
                    refine sr_iload_n C 1 rfl rfl d_T_joined_150 ?_
                    refine sr_iload_n C 2 rfl rfl d_T_joined_151 ?_
                    refine sr_icmp_le C (tgt := 159) d_T_joined_152 (by decide) (fun c19 => ?_) (fun c19 => ?_)
                    · replace h := Eq.mp (if_pos c19) h
                      refine sr_iconst C (v := 0) d_T_joined_159 (by decide) ?_
                      exact hR _ _ _ _ d_T_joined_160 rfl h
                    · replace h := Eq.mp (if_neg c19) h
                      refine sr_iconst C (v := 1) d_T_joined_155 (by decide) ?_
                      refine sr_goto C (tgt := 160) (by decide) d_T_joined_156 ?_
                      exact hR _ _ _ _ d_T_joined_160 rfl h
                  · replace h := Eq.mp (if_neg c18) h
                    by_cases c20 : v1 = 124
                    · replace h := Eq.mp (if_pos c20) h
                      refine sr_lookup C (tgt := 175) (off := 174) d_T_joined_1 (by decide) (by rw [c20]; decide) (by decide) ?_
                      refine sr_iload_n C 1 rfl rfl d_T_joined_175 ?_
                      refine sr_if_ne C (tgt := 183) d_T_joined_176 (by decide) (fun c21 => ?_) (fun c21 => ?_)
                      · replace h := Eq.mp (if_neg c21) h
                        refine sr_iconst C (v := 1) d_T_joined_183 (by decide) ?_
                        refine sr_goto C (tgt := 188) (by decide) d_T_joined_184 ?_
                        exact hR _ _ _ _ d_T_joined_188 rfl h
                      · replace h := Eq.mp (if_pos c21) h
                        refine sr_iload_n C 2 rfl rfl d_T_joined_179 ?_
                        refine sr_if_eq C (tgt := 187) d_T_joined_180 (by decide) (fun c22 => ?_) (fun c22 => ?_)
                        · replace h := Eq.mp (if_pos c22) h
                          refine sr_iconst C (v := 0) d_T_joined_187 (by decide) ?_
                          exact hR _ _ _ _ d_T_joined_188 rfl h
                        · replace h := Eq.mp (if_neg c22) h
                          refine sr_iconst C (v := 1) d_T_joined_183 (by decide) ?_
                          refine sr_goto C (tgt := 188) (by decide) d_T_joined_184 ?_
                          exact hR _ _ _ _ d_T_joined_188 rfl h
                    · replace h := Eq.mp (if_neg c20) h
                      have i0 := sm_ne c2 (z := 37) (by decide)
                      have i1 := sm_ne c5 (z := 38) (by decide)
                      have i2 := sm_ne c8 (z := 42) (by decide)
                      have i3 := sm_ne c9 (z := 43) (by decide)
                      have i4 := sm_ne c10 (z := 45) (by decide)
                      have i5 := sm_ne c11 (z := 47) (by decide)
                      have i6 := sm_ne c14 (z := 60) (by decide)
                      have i7 := sm_ne c16 (z := 61) (by decide)
                      have i8 := sm_ne c18 (z := 62) (by decide)
                      have i9 := sm_ne c20 (z := 124) (by decide)
                      refine sr_lookup C (tgt := 189) (off := 188) d_T_joined_1 (by decide) (by simp [Op.lookupswitch.offset, Ne.symm i0, Ne.symm i1, Ne.symm i2, Ne.symm i3, Ne.symm i4, Ne.symm i5, Ne.symm i6, Ne.symm i7, Ne.symm i8, Ne.symm i9]) (by decide) ?_
                      refine sr_iconst C (v := 0) d_T_joined_189 (by decide) ?_
                      exact hR _ _ _ _ d_T_joined_190 rfl h
theorem d_T_named_0 : decode prog_7_method_7_code 0 = .ok (.iload_n 0, 1) := by decide +kernel
theorem d_T_named_1 : decode prog_7_method_7_code 1 = .ok (.ifCond .ne 7, 3) := by decide +kernel
theorem d_T_named_4 : decode prog_7_method_7_code 4 = .ok (.iload_n 1, 1) := by decide +kernel
theorem d_T_named_5 : decode prog_7_method_7_code 5 = .ok (.goto 13, 3) := by decide +kernel
theorem d_T_named_8 : decode prog_7_method_7_code 8 = .ok (.iload_n 0, 1) := by decide +kernel
theorem d_T_named_9 : decode prog_7_method_7_code 9 = .ok (.iconst 1, 1) := by decide +kernel
theorem d_T_named_10 : decode prog_7_method_7_code 10 = .ok (.if_icmp .ne 7, 3) := by decide +kernel
theorem d_T_named_13 : decode prog_7_method_7_code 13 = .ok (.iload_n 2, 1) := by decide +kernel
theorem d_T_named_14 : decode prog_7_method_7_code 14 = .ok (.goto 4, 3) := by decide +kernel
theorem d_T_named_17 : decode prog_7_method_7_code 17 = .ok (.iload_n 3, 1) := by decide +kernel
theorem d_T_named_18 : decode prog_7_method_7_code 18 = .ok (.ireturn, 1) := by decide +kernel
def w_T_named (K : Int32 → sm_Mem → Prop) (p0 : Int32) (p1 : Int32) (p2 : Int32) (p3 : Int32) (μ : sm_Mem) : Prop := if p0 = 0 then K p1 μ else (if p0 = 1 then K p2 μ else K p3 μ)
set_option maxHeartbeats 4000000 in
set_option maxRecDepth 100000 in
theorem P_T_named (l : Launch) {K : Int32 → sm_Mem → Prop} {p0 : Int32} {p1 : Int32} {p2 : Int32} {p3 : Int32} {μ : sm_Mem} (h : w_T_named K p0 p1 p2 p3 μ) : sm_MI l ⟨"SnowMoney$Text", "named", "(IIII)I"⟩ prog_7_method_7_code 4 (some .int) { frames := 0, cells := 0, slots := 0, locals := 0 } [sm_I p0, sm_I p1, sm_I p2, sm_I p3] μ K := by
  refine sm_ofI (by decide +kernel) (fun _ => Nat.le_of_ble_eq_true rfl) ?_
  intro p e s m args below meth c A Q G C hR
  refine sr_iload_n C 0 rfl rfl d_T_named_0 ?_
  refine sr_if_ne C (tgt := 8) d_T_named_1 (by decide) (fun c1 => ?_) (fun c1 => ?_)
  · replace h := Eq.mp (if_neg c1) h
    refine sr_iload_n C 0 rfl rfl d_T_named_8 ?_
    refine sr_iconst C (v := 1) d_T_named_9 (by decide) ?_
    refine sr_icmp_ne C (tgt := 17) d_T_named_10 (by decide) (fun c2 => ?_) (fun c2 => ?_)
    · replace h := Eq.mp (if_neg c2) h
      refine sr_iload_n C 3 rfl rfl d_T_named_17 ?_
      exact hR _ _ _ _ d_T_named_18 rfl h
    · replace h := Eq.mp (if_pos c2) h
      refine sr_iload_n C 2 rfl rfl d_T_named_13 ?_
      refine sr_goto C (tgt := 18) (by decide) d_T_named_14 ?_
      exact hR _ _ _ _ d_T_named_18 rfl h
  · replace h := Eq.mp (if_pos c1) h
    refine sr_iload_n C 1 rfl rfl d_T_named_4 ?_
    refine sr_goto C (tgt := 18) (by decide) d_T_named_5 ?_
    exact hR _ _ _ _ d_T_named_18 rfl h
theorem d_T_valueWith_0 : decode prog_7_method_6_code 0 = .ok (.iconst 0, 1) := by decide +kernel
theorem d_T_valueWith_1 : decode prog_7_method_6_code 1 = .ok (.istore 4, 2) := by decide +kernel
theorem d_T_valueWith_3 : decode prog_7_method_6_code 3 = .ok (.iconst 0, 1) := by decide +kernel
theorem d_T_valueWith_4 : decode prog_7_method_6_code 4 = .ok (.istore 5, 2) := by decide +kernel
theorem d_T_valueWith_6 : decode prog_7_method_6_code 6 = .ok (.iload 5, 2) := by decide +kernel
theorem d_T_valueWith_8 : decode prog_7_method_6_code 8 = .ok (.aload_n 0, 1) := by decide +kernel
theorem d_T_valueWith_9 : decode prog_7_method_6_code 9 = .ok (.getfield 19, 3) := by decide +kernel
theorem d_T_valueWith_12 : decode prog_7_method_6_code 12 = .ok (.if_icmp .ge 165, 3) := by decide +kernel
theorem d_T_valueWith_15 : decode prog_7_method_6_code 15 = .ok (.aload_n 0, 1) := by decide +kernel
theorem d_T_valueWith_16 : decode prog_7_method_6_code 16 = .ok (.getfield 9, 3) := by decide +kernel
theorem d_T_valueWith_19 : decode prog_7_method_6_code 19 = .ok (.iload 5, 2) := by decide +kernel
theorem d_T_valueWith_21 : decode prog_7_method_6_code 21 = .ok (.iaload, 1) := by decide +kernel
theorem d_T_valueWith_22 : decode prog_7_method_6_code 22 = .ok (.istore 6, 2) := by decide +kernel
theorem d_T_valueWith_24 : decode prog_7_method_6_code 24 = .ok (.iload 6, 2) := by decide +kernel
theorem d_T_valueWith_26 : decode prog_7_method_6_code 26 = .ok (.bipush 110, 2) := by decide +kernel
theorem d_T_valueWith_28 : decode prog_7_method_6_code 28 = .ok (.if_icmp .eq 10, 3) := by decide +kernel
theorem d_T_valueWith_31 : decode prog_7_method_6_code 31 = .ok (.iload 6, 2) := by decide +kernel
theorem d_T_valueWith_33 : decode prog_7_method_6_code 33 = .ok (.bipush 97, 2) := by decide +kernel
theorem d_T_valueWith_35 : decode prog_7_method_6_code 35 = .ok (.if_icmp .ne 53, 3) := by decide +kernel
theorem d_T_valueWith_38 : decode prog_7_method_6_code 38 = .ok (.iload 4, 2) := by decide +kernel
theorem d_T_valueWith_40 : decode prog_7_method_6_code 40 = .ok (.bipush 50, 2) := by decide +kernel
theorem d_T_valueWith_42 : decode prog_7_method_6_code 42 = .ok (.if_icmp .ge 129, 3) := by decide +kernel
theorem d_T_valueWith_45 : decode prog_7_method_6_code 45 = .ok (.aload_n 0, 1) := by decide +kernel
theorem d_T_valueWith_46 : decode prog_7_method_6_code 46 = .ok (.getfield 16, 3) := by decide +kernel
theorem d_T_valueWith_49 : decode prog_7_method_6_code 49 = .ok (.iload 4, 2) := by decide +kernel
theorem d_T_valueWith_51 : decode prog_7_method_6_code 51 = .ok (.iload 6, 2) := by decide +kernel
theorem d_T_valueWith_53 : decode prog_7_method_6_code 53 = .ok (.bipush 110, 2) := by decide +kernel
theorem d_T_valueWith_55 : decode prog_7_method_6_code 55 = .ok (.if_icmp .ne 13, 3) := by decide +kernel
theorem d_T_valueWith_58 : decode prog_7_method_6_code 58 = .ok (.aload_n 0, 1) := by decide +kernel
theorem d_T_valueWith_59 : decode prog_7_method_6_code 59 = .ok (.getfield 13, 3) := by decide +kernel
theorem d_T_valueWith_62 : decode prog_7_method_6_code 62 = .ok (.iload 5, 2) := by decide +kernel
theorem d_T_valueWith_64 : decode prog_7_method_6_code 64 = .ok (.iaload, 1) := by decide +kernel
theorem d_T_valueWith_65 : decode prog_7_method_6_code 65 = .ok (.goto 16, 3) := by decide +kernel
theorem d_T_valueWith_68 : decode prog_7_method_6_code 68 = .ok (.aload_n 0, 1) := by decide +kernel
theorem d_T_valueWith_69 : decode prog_7_method_6_code 69 = .ok (.getfield 13, 3) := by decide +kernel
theorem d_T_valueWith_72 : decode prog_7_method_6_code 72 = .ok (.iload 5, 2) := by decide +kernel
theorem d_T_valueWith_74 : decode prog_7_method_6_code 74 = .ok (.iaload, 1) := by decide +kernel
theorem d_T_valueWith_75 : decode prog_7_method_6_code 75 = .ok (.iload_n 1, 1) := by decide +kernel
theorem d_T_valueWith_76 : decode prog_7_method_6_code 76 = .ok (.iload_n 2, 1) := by decide +kernel
theorem d_T_valueWith_77 : decode prog_7_method_6_code 77 = .ok (.iload_n 3, 1) := by decide +kernel
theorem d_T_valueWith_78 : decode prog_7_method_6_code 78 = .ok (.invokestatic 29, 3) := by decide +kernel
theorem d_T_valueWith_81 : decode prog_7_method_6_code 81 = .ok (.iastore, 1) := by decide +kernel
theorem d_T_valueWith_82 : decode prog_7_method_6_code 82 = .ok (.iinc 4 1, 3) := by decide +kernel
theorem d_T_valueWith_85 : decode prog_7_method_6_code 85 = .ok (.goto 86, 3) := by decide +kernel
theorem d_T_valueWith_88 : decode prog_7_method_6_code 88 = .ok (.iload 6, 2) := by decide +kernel
theorem d_T_valueWith_90 : decode prog_7_method_6_code 90 = .ok (.bipush 33, 2) := by decide +kernel
theorem d_T_valueWith_92 : decode prog_7_method_6_code 92 = .ok (.if_icmp .ne 38, 3) := by decide +kernel
theorem d_T_valueWith_95 : decode prog_7_method_6_code 95 = .ok (.iload 4, 2) := by decide +kernel
theorem d_T_valueWith_97 : decode prog_7_method_6_code 97 = .ok (.iconst 1, 1) := by decide +kernel
theorem d_T_valueWith_98 : decode prog_7_method_6_code 98 = .ok (.if_icmp .lt 73, 3) := by decide +kernel
theorem d_T_valueWith_101 : decode prog_7_method_6_code 101 = .ok (.aload_n 0, 1) := by decide +kernel
theorem d_T_valueWith_102 : decode prog_7_method_6_code 102 = .ok (.getfield 16, 3) := by decide +kernel
theorem d_T_valueWith_105 : decode prog_7_method_6_code 105 = .ok (.iload 4, 2) := by decide +kernel
theorem d_T_valueWith_107 : decode prog_7_method_6_code 107 = .ok (.iconst 1, 1) := by decide +kernel
theorem d_T_valueWith_108 : decode prog_7_method_6_code 108 = .ok (.isub, 1) := by decide +kernel
theorem d_T_valueWith_109 : decode prog_7_method_6_code 109 = .ok (.aload_n 0, 1) := by decide +kernel
theorem d_T_valueWith_110 : decode prog_7_method_6_code 110 = .ok (.getfield 16, 3) := by decide +kernel
theorem d_T_valueWith_113 : decode prog_7_method_6_code 113 = .ok (.iload 4, 2) := by decide +kernel
theorem d_T_valueWith_115 : decode prog_7_method_6_code 115 = .ok (.iconst 1, 1) := by decide +kernel
theorem d_T_valueWith_116 : decode prog_7_method_6_code 116 = .ok (.isub, 1) := by decide +kernel
theorem d_T_valueWith_117 : decode prog_7_method_6_code 117 = .ok (.iaload, 1) := by decide +kernel
theorem d_T_valueWith_118 : decode prog_7_method_6_code 118 = .ok (.ifCond .ne 7, 3) := by decide +kernel
theorem d_T_valueWith_121 : decode prog_7_method_6_code 121 = .ok (.iconst 1, 1) := by decide +kernel
theorem d_T_valueWith_122 : decode prog_7_method_6_code 122 = .ok (.goto 4, 3) := by decide +kernel
theorem d_T_valueWith_125 : decode prog_7_method_6_code 125 = .ok (.iconst 0, 1) := by decide +kernel
theorem d_T_valueWith_126 : decode prog_7_method_6_code 126 = .ok (.iastore, 1) := by decide +kernel
theorem d_T_valueWith_127 : decode prog_7_method_6_code 127 = .ok (.goto 44, 3) := by decide +kernel
theorem d_T_valueWith_130 : decode prog_7_method_6_code 130 = .ok (.iload 4, 2) := by decide +kernel
theorem d_T_valueWith_132 : decode prog_7_method_6_code 132 = .ok (.iconst 2, 1) := by decide +kernel
theorem d_T_valueWith_133 : decode prog_7_method_6_code 133 = .ok (.if_icmp .lt 38, 3) := by decide +kernel
theorem d_T_valueWith_136 : decode prog_7_method_6_code 136 = .ok (.aload_n 0, 1) := by decide +kernel
theorem d_T_valueWith_137 : decode prog_7_method_6_code 137 = .ok (.getfield 16, 3) := by decide +kernel
theorem d_T_valueWith_140 : decode prog_7_method_6_code 140 = .ok (.iload 4, 2) := by decide +kernel
theorem d_T_valueWith_142 : decode prog_7_method_6_code 142 = .ok (.iconst 2, 1) := by decide +kernel
theorem d_T_valueWith_143 : decode prog_7_method_6_code 143 = .ok (.isub, 1) := by decide +kernel
theorem d_T_valueWith_144 : decode prog_7_method_6_code 144 = .ok (.iload 6, 2) := by decide +kernel
theorem d_T_valueWith_146 : decode prog_7_method_6_code 146 = .ok (.aload_n 0, 1) := by decide +kernel
theorem d_T_valueWith_147 : decode prog_7_method_6_code 147 = .ok (.getfield 16, 3) := by decide +kernel
theorem d_T_valueWith_150 : decode prog_7_method_6_code 150 = .ok (.iload 4, 2) := by decide +kernel
theorem d_T_valueWith_152 : decode prog_7_method_6_code 152 = .ok (.iconst 2, 1) := by decide +kernel
theorem d_T_valueWith_153 : decode prog_7_method_6_code 153 = .ok (.isub, 1) := by decide +kernel
theorem d_T_valueWith_154 : decode prog_7_method_6_code 154 = .ok (.iaload, 1) := by decide +kernel
theorem d_T_valueWith_155 : decode prog_7_method_6_code 155 = .ok (.aload_n 0, 1) := by decide +kernel
theorem d_T_valueWith_156 : decode prog_7_method_6_code 156 = .ok (.getfield 16, 3) := by decide +kernel
theorem d_T_valueWith_159 : decode prog_7_method_6_code 159 = .ok (.iload 4, 2) := by decide +kernel
theorem d_T_valueWith_161 : decode prog_7_method_6_code 161 = .ok (.iconst 1, 1) := by decide +kernel
theorem d_T_valueWith_162 : decode prog_7_method_6_code 162 = .ok (.isub, 1) := by decide +kernel
theorem d_T_valueWith_163 : decode prog_7_method_6_code 163 = .ok (.iaload, 1) := by decide +kernel
theorem d_T_valueWith_164 : decode prog_7_method_6_code 164 = .ok (.invokestatic 33, 3) := by decide +kernel
theorem d_T_valueWith_167 : decode prog_7_method_6_code 167 = .ok (.iastore, 1) := by decide +kernel
theorem d_T_valueWith_168 : decode prog_7_method_6_code 168 = .ok (.iinc 4 (-1), 3) := by decide +kernel
theorem d_T_valueWith_171 : decode prog_7_method_6_code 171 = .ok (.iinc 5 1, 3) := by decide +kernel
theorem d_T_valueWith_174 : decode prog_7_method_6_code 174 = .ok (.goto (-168), 3) := by decide +kernel
theorem d_T_valueWith_177 : decode prog_7_method_6_code 177 = .ok (.aload_n 0, 1) := by decide +kernel
theorem d_T_valueWith_178 : decode prog_7_method_6_code 178 = .ok (.getfield 16, 3) := by decide +kernel
theorem d_T_valueWith_181 : decode prog_7_method_6_code 181 = .ok (.iconst 0, 1) := by decide +kernel
theorem d_T_valueWith_182 : decode prog_7_method_6_code 182 = .ok (.iaload, 1) := by decide +kernel
theorem d_T_valueWith_183 : decode prog_7_method_6_code 183 = .ok (.ireturn, 1) := by decide +kernel
def w_T_valueWith_171 (K : Int32 → sm_Mem → Prop) (J6 : Int32 → Int32 → sm_Mem → Prop) (k : Nat) (p0 : Int32) (p1 : Int32) (p2 : Int32) (x4 : Int32) (x5 : Int32) (μ : sm_Mem) : Prop := J6 x4 (x5 + 1) μ
def w_T_valueWith_81 (K : Int32 → sm_Mem → Prop) (J6 : Int32 → Int32 → sm_Mem → Prop) (k : Nat) (p0 : Int32) (p1 : Int32) (p2 : Int32) (x4 : Int32) (x5 : Int32) (s0 : Int32) (s1 : Int32) (μ : sm_Mem) : Prop := vp_in s1 50 ∧ ∀ μ11 : sm_Mem, μ11 = sm_st μ (k + 3) (s1.toNatClampNeg) s0 → w_T_valueWith_171 K J6 k p0 p1 p2 (x4 + 1) x5 μ11
def w_T_valueWith_38 (K : Int32 → sm_Mem → Prop) (J6 : Int32 → Int32 → sm_Mem → Prop) (k : Nat) (p0 : Int32) (p1 : Int32) (p2 : Int32) (x4 : Int32) (x5 : Int32) (x6 : Int32) (μ : sm_Mem) : Prop := if 50 ≤ x4 then w_T_valueWith_171 K J6 k p0 p1 p2 x4 x5 μ else (if x6 = 110 then (vp_in x5 50 ∧ w_T_valueWith_81 K J6 k p0 p1 p2 x4 x5 (μ (k + 2) x5.toNatClampNeg) x4 μ) else (vp_in x5 50 ∧ w_T_named (fun r9 μ8 => w_T_valueWith_81 K J6 k p0 p1 p2 x4 x5 r9 x4 μ8) (μ (k + 2) x5.toNatClampNeg) p0 p1 p2 μ))
def w_T_valueWith_126 (K : Int32 → sm_Mem → Prop) (J6 : Int32 → Int32 → sm_Mem → Prop) (k : Nat) (p0 : Int32) (p1 : Int32) (p2 : Int32) (x4 : Int32) (x5 : Int32) (s0 : Int32) (s1 : Int32) (μ : sm_Mem) : Prop := vp_in s1 50 ∧ ∀ μ26 : sm_Mem, μ26 = sm_st μ (k + 3) (s1.toNatClampNeg) s0 → w_T_valueWith_171 K J6 k p0 p1 p2 x4 x5 μ26
def w_T_valueWith_6 (K : Int32 → sm_Mem → Prop) (k : Nat) (p0 : Int32) (p1 : Int32) (p2 : Int32) (x4 : Int32) (x5 : Int32) (μ : sm_Mem) : Prop := sm_lp2 (fun J6 x4 x5 μ => if (μ k 3) ≤ x5 then K (μ (k + 3) 0) μ else (vp_in x5 50 ∧ ∀ v3 : Int32, v3 = (μ (k + 1) x5.toNatClampNeg) → if v3 = 110 then w_T_valueWith_38 K J6 k p0 p1 p2 x4 x5 v3 μ else (if v3 = 97 then w_T_valueWith_38 K J6 k p0 p1 p2 x4 x5 v3 μ else (if v3 = 33 then (if x4 < 1 then w_T_valueWith_171 K J6 k p0 p1 p2 x4 x5 μ else (vp_in (x4 - 1) 50 ∧ if (μ (k + 3) (x4 - 1).toNatClampNeg) = 0 then w_T_valueWith_126 K J6 k p0 p1 p2 x4 x5 1 (x4 - 1) μ else w_T_valueWith_126 K J6 k p0 p1 p2 x4 x5 0 (x4 - 1) μ)) else (if x4 < 2 then w_T_valueWith_171 K J6 k p0 p1 p2 x4 x5 μ else (vp_in (x4 - 2) 50 ∧ vp_in (x4 - 1) 50 ∧ w_T_joined (fun r19 μ18 => vp_in (x4 - 2) 50 ∧ ∀ μ21 : sm_Mem, μ21 = sm_st μ18 (k + 3) ((x4 - 2).toNatClampNeg) r19 → w_T_valueWith_171 K J6 k p0 p1 p2 (x4 + (-1)) x5 μ21) v3 (μ (k + 3) (x4 - 2).toNatClampNeg) (μ (k + 3) (x4 - 1).toNatClampNeg) μ)))))) x4 x5 μ
def w_T_valueWith (K : Int32 → sm_Mem → Prop) (k : Nat) (p0 : Int32) (p1 : Int32) (p2 : Int32) (μ : sm_Mem) : Prop := isText k ∧ w_T_valueWith_6 K k p0 p1 p2 0 0 μ
set_option maxHeartbeats 4000000 in
set_option maxRecDepth 100000 in
theorem P_T_valueWith (l : Launch) {K : Int32 → sm_Mem → Prop} {k : Nat} {p0 : Int32} {p1 : Int32} {p2 : Int32} {μ : sm_Mem} (h : w_T_valueWith K k p0 p1 p2 μ) : sm_MI l ⟨"SnowMoney$Text", "valueWith", "(III)I"⟩ prog_7_method_6_code 7 (some .int) { frames := 1, cells := 0, slots := 0, locals := 23 } [sm_R k, sm_I p0, sm_I p1, sm_I p2] μ K := by
  refine sm_ofI (by decide +kernel) (fun _ => Nat.le_of_ble_eq_true rfl) ?_
  intro p e s m args below meth c A Q G C hR
  obtain ⟨t_k, h⟩ := h
  have B171 : ∀ (x4 : Int32) (x5 : Int32) (J6 : Int32 → Int32 → sm_Mem → Prop) (hJ6 : ∀ (x4 : Int32) (x5 : Int32) (μ : sm_Mem), J6 x4 x5 μ → sm_W p l e { frames := 1, cells := 0, slots := 0, locals := 23 } s m args below meth c A Q G 7 0 0 6 [] [(0, sm_R k), (1, sm_I p0), (2, sm_I p1), (3, sm_I p2), (4, sm_I x4), (5, sm_I x5)] μ) (μ : sm_Mem), w_T_valueWith_171 K J6 k p0 p1 p2 x4 x5 μ → sm_W p l e { frames := 1, cells := 0, slots := 0, locals := 23 } s m args below meth c A Q G 7 0 0 171 [] [(0, sm_R k), (1, sm_I p0), (2, sm_I p1), (3, sm_I p2), (4, sm_I x4), (5, sm_I x5)] μ := by
    intro x4 x5 J6 hJ6 μ h
    refine sr_iinc C 5 rfl (by decide) d_T_valueWith_171 rfl ?_
    refine sr_goto C (tgt := 6) (by decide) d_T_valueWith_174 ?_
    refine sr_mask C [1, 2, 3, 4, 5, 0] rfl ?_
    exact hJ6 _ _ _ h
  have B81 : ∀ (x4 : Int32) (x5 : Int32) (s0 : Int32) (s1 : Int32) (J6 : Int32 → Int32 → sm_Mem → Prop) (hJ6 : ∀ (x4 : Int32) (x5 : Int32) (μ : sm_Mem), J6 x4 x5 μ → sm_W p l e { frames := 1, cells := 0, slots := 0, locals := 23 } s m args below meth c A Q G 7 0 0 6 [] [(0, sm_R k), (1, sm_I p0), (2, sm_I p1), (3, sm_I p2), (4, sm_I x4), (5, sm_I x5)] μ) (μ : sm_Mem), w_T_valueWith_81 K J6 k p0 p1 p2 x4 x5 s0 s1 μ → sm_W p l e { frames := 1, cells := 0, slots := 0, locals := 23 } s m args below meth c A Q G 7 0 0 81 [sm_I s0, sm_I s1, sm_R (k + 3)] [(0, sm_R k), (1, sm_I p0), (2, sm_I p1), (3, sm_I p2), (4, sm_I x4), (5, sm_I x5)] μ := by
    intro x4 x5 s0 s1 J6 hJ6 μ h
    obtain ⟨g10, h⟩ := h
    refine sr_iast C t_k.2.2.2 g10 d_T_valueWith_81 ?_
    replace h := h _ rfl
    refine sr_iinc C 4 rfl (by decide) d_T_valueWith_82 rfl ?_
    refine sr_goto C (tgt := 171) (by decide) d_T_valueWith_85 ?_
    refine sr_mask C [1, 2, 3, 4, 0, 5] rfl ?_
    exact B171 _ _ _ hJ6 _ h
  have B38 : ∀ (x4 : Int32) (x5 : Int32) (x6 : Int32) (J6 : Int32 → Int32 → sm_Mem → Prop) (hJ6 : ∀ (x4 : Int32) (x5 : Int32) (μ : sm_Mem), J6 x4 x5 μ → sm_W p l e { frames := 1, cells := 0, slots := 0, locals := 23 } s m args below meth c A Q G 7 0 0 6 [] [(0, sm_R k), (1, sm_I p0), (2, sm_I p1), (3, sm_I p2), (4, sm_I x4), (5, sm_I x5)] μ) (μ : sm_Mem), w_T_valueWith_38 K J6 k p0 p1 p2 x4 x5 x6 μ → sm_W p l e { frames := 1, cells := 0, slots := 0, locals := 23 } s m args below meth c A Q G 7 0 0 38 [] [(0, sm_R k), (1, sm_I p0), (2, sm_I p1), (3, sm_I p2), (4, sm_I x4), (5, sm_I x5), (6, sm_I x6)] μ := by
    intro x4 x5 x6 J6 hJ6 μ h
    refine sr_iload C 4 rfl d_T_valueWith_38 ?_
    refine sr_bipush C (v := 50) d_T_valueWith_40 (by decide) ?_
    refine sr_icmp_ge C (tgt := 171) d_T_valueWith_42 (by decide) (fun c5 => ?_) (fun c5 => ?_)
    · replace h := Eq.mp (if_pos c5) h
      refine sr_mask C [0, 1, 2, 3, 4, 5] rfl ?_
      exact B171 _ _ _ hJ6 _ h
    · replace h := Eq.mp (if_neg c5) h
      refine sr_aload_n C 0 rfl rfl d_T_valueWith_45 ?_
      refine sr_getR C sm_F4 2 q_83 t_k.1 (r := k + 3) rfl (by decide) d_T_valueWith_46 ?_
      refine sr_iload C 4 rfl d_T_valueWith_49 ?_
      refine sr_iload C 6 rfl d_T_valueWith_51 ?_
      refine sr_bipush C (v := 110) d_T_valueWith_53 (by decide) ?_
      refine sr_icmp_ne C (tgt := 68) d_T_valueWith_55 (by decide) (fun c6 => ?_) (fun c6 => ?_)
      · replace h := Eq.mp (if_neg c6) h
        refine sr_aload_n C 0 rfl rfl d_T_valueWith_68 ?_
        refine sr_getR C sm_F4 1 q_85 t_k.1 (r := k + 2) rfl (by decide) d_T_valueWith_69 ?_
        refine sr_iload C 5 rfl d_T_valueWith_72 ?_
        obtain ⟨g7, h⟩ := h
        refine sr_iald C t_k.2.2.1 g7 d_T_valueWith_74 ?_
        refine sr_iload_n C 1 rfl rfl d_T_valueWith_75 ?_
        refine sr_iload_n C 2 rfl rfl d_T_valueWith_76 ?_
        refine sr_iload_n C 3 rfl rfl d_T_valueWith_77 ?_
        refine sr_callSI C [sm_I _, sm_I _, sm_I _, sm_I _] (P_T_named l h) ok_16 rfl rfl rfl ⟨Nat.le_of_ble_eq_true rfl, Nat.le_of_ble_eq_true rfl⟩ (Nat.le_of_ble_eq_true rfl) ⟨Nat.zero_le _, Nat.zero_le _⟩ d_T_valueWith_78 (fun r9 μ8 h => ?_)
        refine sr_mask C [0, 1, 2, 3, 4, 5] rfl ?_
        exact B81 _ _ _ _ _ hJ6 _ h
      · replace h := Eq.mp (if_pos c6) h
        refine sr_aload_n C 0 rfl rfl d_T_valueWith_58 ?_
        refine sr_getR C sm_F4 1 q_85 t_k.1 (r := k + 2) rfl (by decide) d_T_valueWith_59 ?_
        refine sr_iload C 5 rfl d_T_valueWith_62 ?_
        obtain ⟨g12, h⟩ := h
        refine sr_iald C t_k.2.2.1 g12 d_T_valueWith_64 ?_
        refine sr_goto C (tgt := 81) (by decide) d_T_valueWith_65 ?_
        refine sr_mask C [0, 1, 2, 3, 4, 5] rfl ?_
        exact B81 _ _ _ _ _ hJ6 _ h
  have B126 : ∀ (x4 : Int32) (x5 : Int32) (s0 : Int32) (s1 : Int32) (J6 : Int32 → Int32 → sm_Mem → Prop) (hJ6 : ∀ (x4 : Int32) (x5 : Int32) (μ : sm_Mem), J6 x4 x5 μ → sm_W p l e { frames := 1, cells := 0, slots := 0, locals := 23 } s m args below meth c A Q G 7 0 0 6 [] [(0, sm_R k), (1, sm_I p0), (2, sm_I p1), (3, sm_I p2), (4, sm_I x4), (5, sm_I x5)] μ) (μ : sm_Mem), w_T_valueWith_126 K J6 k p0 p1 p2 x4 x5 s0 s1 μ → sm_W p l e { frames := 1, cells := 0, slots := 0, locals := 23 } s m args below meth c A Q G 7 0 0 126 [sm_I s0, sm_I s1, sm_R (k + 3)] [(0, sm_R k), (1, sm_I p0), (2, sm_I p1), (3, sm_I p2), (4, sm_I x4), (5, sm_I x5)] μ := by
    intro x4 x5 s0 s1 J6 hJ6 μ h
    obtain ⟨g25, h⟩ := h
    refine sr_iast C t_k.2.2.2 g25 d_T_valueWith_126 ?_
    replace h := h _ rfl
    refine sr_goto C (tgt := 171) (by decide) d_T_valueWith_127 ?_
    exact B171 _ _ _ hJ6 _ h
  have B6 : ∀ (x4 : Int32) (x5 : Int32) (μ : sm_Mem), w_T_valueWith_6 K k p0 p1 p2 x4 x5 μ → sm_W p l e { frames := 1, cells := 0, slots := 0, locals := 23 } s m args below meth c A Q G 7 0 0 6 [] [(0, sm_R k), (1, sm_I p0), (2, sm_I p1), (3, sm_I p2), (4, sm_I x4), (5, sm_I x5)] μ := by
    intro x4 x5 μ h
    refine sm_lp2_sound (P := fun x4 x5 μ => sm_W p l e { frames := 1, cells := 0, slots := 0, locals := 23 } s m args below meth c A Q G 7 0 0 6 [] [(0, sm_R k), (1, sm_I p0), (2, sm_I p1), (3, sm_I p2), (4, sm_I x4), (5, sm_I x5)] μ) (fun J6 x4 x5 μ hJ6 h => ?_) h
    refine sr_iload C 5 rfl d_T_valueWith_6 ?_
    refine sr_aload_n C 0 rfl rfl d_T_valueWith_8 ?_
    refine sr_getI C sm_F4 3 q_82 t_k.1 rfl (by decide) d_T_valueWith_9 ?_
    refine sr_icmp_ge C (tgt := 177) d_T_valueWith_12 (by decide) (fun c1 => ?_) (fun c1 => ?_)
    · replace h := Eq.mp (if_pos c1) h
      refine sr_aload_n C 0 rfl rfl d_T_valueWith_177 ?_
      refine sr_getR C sm_F4 2 q_83 t_k.1 (r := k + 3) rfl (by decide) d_T_valueWith_178 ?_
      refine sr_iconst C (v := 0) d_T_valueWith_181 (by decide) ?_
      refine sr_ialdJ C t_k.2.2.2 (j := 0) (sm_vin (by decide)) (by decide) d_T_valueWith_182 ?_
      exact hR _ _ _ _ d_T_valueWith_183 rfl h
    · replace h := Eq.mp (if_neg c1) h
      refine sr_aload_n C 0 rfl rfl d_T_valueWith_15 ?_
      refine sr_getR C sm_F4 0 q_84 t_k.1 (r := k + 1) rfl (by decide) d_T_valueWith_16 ?_
      refine sr_iload C 5 rfl d_T_valueWith_19 ?_
      obtain ⟨g2, h⟩ := h
      refine sr_iald C t_k.2.1 g2 d_T_valueWith_21 ?_
      replace h := h _ rfl
      refine sr_istore C (by decide) d_T_valueWith_22 ?_
      refine sr_iload C 0 rfl d_T_valueWith_24 ?_
      refine sr_bipush C (v := 110) d_T_valueWith_26 (by decide) ?_
      refine sr_icmp_eq C (tgt := 38) d_T_valueWith_28 (by decide) (fun c4 => ?_) (fun c4 => ?_)
      · replace h := Eq.mp (if_pos c4) h
        refine sr_mask C [1, 2, 3, 4, 5, 6, 0] rfl ?_
        exact B38 _ _ _ _ hJ6 _ h
      · replace h := Eq.mp (if_neg c4) h
        refine sr_iload C 0 rfl d_T_valueWith_31 ?_
        refine sr_bipush C (v := 97) d_T_valueWith_33 (by decide) ?_
        refine sr_icmp_ne C (tgt := 88) d_T_valueWith_35 (by decide) (fun c13 => ?_) (fun c13 => ?_)
        · replace h := Eq.mp (if_neg c13) h
          refine sr_iload C 0 rfl d_T_valueWith_88 ?_
          refine sr_bipush C (v := 33) d_T_valueWith_90 (by decide) ?_
          refine sr_icmp_ne C (tgt := 130) d_T_valueWith_92 (by decide) (fun c14 => ?_) (fun c14 => ?_)
          · replace h := Eq.mp (if_neg c14) h
            refine sr_iload C 5 rfl d_T_valueWith_130 ?_
            refine sr_iconst C (v := 2) d_T_valueWith_132 (by decide) ?_
            refine sr_icmp_lt C (tgt := 171) d_T_valueWith_133 (by decide) (fun c15 => ?_) (fun c15 => ?_)
            · replace h := Eq.mp (if_pos c15) h
              refine sr_mask C [1, 2, 3, 4, 5, 6] rfl ?_
              exact B171 _ _ _ hJ6 _ h
            · replace h := Eq.mp (if_neg c15) h
              refine sr_aload_n C 1 rfl rfl d_T_valueWith_136 ?_
              refine sr_getR C sm_F4 2 q_83 t_k.1 (r := k + 3) rfl (by decide) d_T_valueWith_137 ?_
              refine sr_iload C 5 rfl d_T_valueWith_140 ?_
              refine sr_iconst C (v := 2) d_T_valueWith_142 (by decide) ?_
              refine sr_isub C d_T_valueWith_143 ?_
              refine sr_iload C 0 rfl d_T_valueWith_144 ?_
              refine sr_aload_n C 1 rfl rfl d_T_valueWith_146 ?_
              refine sr_getR C sm_F4 2 q_83 t_k.1 (r := k + 3) rfl (by decide) d_T_valueWith_147 ?_
              refine sr_iload C 5 rfl d_T_valueWith_150 ?_
              refine sr_iconst C (v := 2) d_T_valueWith_152 (by decide) ?_
              refine sr_isub C d_T_valueWith_153 ?_
              obtain ⟨g16, h⟩ := h
              refine sr_iald C t_k.2.2.2 g16 d_T_valueWith_154 ?_
              refine sr_aload_n C 1 rfl rfl d_T_valueWith_155 ?_
              refine sr_getR C sm_F4 2 q_83 t_k.1 (r := k + 3) rfl (by decide) d_T_valueWith_156 ?_
              refine sr_iload C 5 rfl d_T_valueWith_159 ?_
              refine sr_iconst C (v := 1) d_T_valueWith_161 (by decide) ?_
              refine sr_isub C d_T_valueWith_162 ?_
              obtain ⟨g17, h⟩ := h
              refine sr_iald C t_k.2.2.2 g17 d_T_valueWith_163 ?_
              refine sr_callSI C [sm_I _, sm_I _, sm_I _] (P_T_joined l h) ok_17 rfl rfl rfl ⟨Nat.le_of_ble_eq_true rfl, Nat.le_of_ble_eq_true rfl⟩ (Nat.le_of_ble_eq_true rfl) ⟨Nat.zero_le _, Nat.zero_le _⟩ d_T_valueWith_164 (fun r19 μ18 h => ?_)
              obtain ⟨g20, h⟩ := h
              refine sr_iast C t_k.2.2.2 g20 d_T_valueWith_167 ?_
              replace h := h _ rfl
              refine sr_iinc C 5 rfl (by decide) d_T_valueWith_168 rfl ?_
              refine sr_mask C [2, 3, 4, 5, 0, 6] rfl ?_
              exact B171 _ _ _ hJ6 _ h
          · replace h := Eq.mp (if_pos c14) h
            refine sr_iload C 5 rfl d_T_valueWith_95 ?_
            refine sr_iconst C (v := 1) d_T_valueWith_97 (by decide) ?_
            refine sr_icmp_lt C (tgt := 171) d_T_valueWith_98 (by decide) (fun c22 => ?_) (fun c22 => ?_)
            · replace h := Eq.mp (if_pos c22) h
              refine sr_mask C [1, 2, 3, 4, 5, 6] rfl ?_
              exact B171 _ _ _ hJ6 _ h
            · replace h := Eq.mp (if_neg c22) h
              refine sr_aload_n C 1 rfl rfl d_T_valueWith_101 ?_
              refine sr_getR C sm_F4 2 q_83 t_k.1 (r := k + 3) rfl (by decide) d_T_valueWith_102 ?_
              refine sr_iload C 5 rfl d_T_valueWith_105 ?_
              refine sr_iconst C (v := 1) d_T_valueWith_107 (by decide) ?_
              refine sr_isub C d_T_valueWith_108 ?_
              refine sr_aload_n C 1 rfl rfl d_T_valueWith_109 ?_
              refine sr_getR C sm_F4 2 q_83 t_k.1 (r := k + 3) rfl (by decide) d_T_valueWith_110 ?_
              refine sr_iload C 5 rfl d_T_valueWith_113 ?_
              refine sr_iconst C (v := 1) d_T_valueWith_115 (by decide) ?_
              refine sr_isub C d_T_valueWith_116 ?_
              obtain ⟨g23, h⟩ := h
              refine sr_iald C t_k.2.2.2 g23 d_T_valueWith_117 ?_
              refine sr_if_ne C (tgt := 125) d_T_valueWith_118 (by decide) (fun c24 => ?_) (fun c24 => ?_)
              · replace h := Eq.mp (if_neg c24) h
                refine sr_iconst C (v := 0) d_T_valueWith_125 (by decide) ?_
                refine sr_mask C [1, 2, 3, 4, 5, 6] rfl ?_
                exact B126 _ _ _ _ _ hJ6 _ h
              · replace h := Eq.mp (if_pos c24) h
                refine sr_iconst C (v := 1) d_T_valueWith_121 (by decide) ?_
                refine sr_goto C (tgt := 126) (by decide) d_T_valueWith_122 ?_
                refine sr_mask C [1, 2, 3, 4, 5, 6] rfl ?_
                exact B126 _ _ _ _ _ hJ6 _ h
        · replace h := Eq.mp (if_pos c13) h
          refine sr_mask C [1, 2, 3, 4, 5, 6, 0] rfl ?_
          exact B38 _ _ _ _ hJ6 _ h
  refine sr_iconst C (v := 0) d_T_valueWith_0 (by decide) ?_
  refine sr_istore C (by decide) d_T_valueWith_1 ?_
  refine sr_iconst C (v := 0) d_T_valueWith_3 (by decide) ?_
  refine sr_istore C (by decide) d_T_valueWith_4 ?_
  refine sr_mask C [2, 3, 4, 5, 1, 0] rfl ?_
  exact B6 _ _ _ h
theorem d_K_meltsBelowZeroToo_0 : decode prog_4_method_5_code 0 = .ok (.iload_n 0, 1) := by decide +kernel
theorem d_K_meltsBelowZeroToo_1 : decode prog_4_method_5_code 1 = .ok (.tableswitch 70 1 6 #[39, 43, 47, 51, 57, 63], 39) := by decide +kernel
theorem d_K_meltsBelowZeroToo_40 : decode prog_4_method_5_code 40 = .ok (.iload_n 2, 1) := by decide +kernel
theorem d_K_meltsBelowZeroToo_41 : decode prog_4_method_5_code 41 = .ok (.iconst 2, 1) := by decide +kernel
theorem d_K_meltsBelowZeroToo_42 : decode prog_4_method_5_code 42 = .ok (.idiv, 1) := by decide +kernel
theorem d_K_meltsBelowZeroToo_43 : decode prog_4_method_5_code 43 = .ok (.ireturn, 1) := by decide +kernel
theorem d_K_meltsBelowZeroToo_44 : decode prog_4_method_5_code 44 = .ok (.iload_n 2, 1) := by decide +kernel
theorem d_K_meltsBelowZeroToo_45 : decode prog_4_method_5_code 45 = .ok (.iconst 2, 1) := by decide +kernel
theorem d_K_meltsBelowZeroToo_46 : decode prog_4_method_5_code 46 = .ok (.iadd, 1) := by decide +kernel
theorem d_K_meltsBelowZeroToo_47 : decode prog_4_method_5_code 47 = .ok (.ireturn, 1) := by decide +kernel
theorem d_K_meltsBelowZeroToo_48 : decode prog_4_method_5_code 48 = .ok (.iload_n 2, 1) := by decide +kernel
theorem d_K_meltsBelowZeroToo_49 : decode prog_4_method_5_code 49 = .ok (.iload_n 1, 1) := by decide +kernel
theorem d_K_meltsBelowZeroToo_50 : decode prog_4_method_5_code 50 = .ok (.isub, 1) := by decide +kernel
theorem d_K_meltsBelowZeroToo_51 : decode prog_4_method_5_code 51 = .ok (.ireturn, 1) := by decide +kernel
theorem d_K_meltsBelowZeroToo_52 : decode prog_4_method_5_code 52 = .ok (.iload_n 2, 1) := by decide +kernel
theorem d_K_meltsBelowZeroToo_53 : decode prog_4_method_5_code 53 = .ok (.iconst 2, 1) := by decide +kernel
theorem d_K_meltsBelowZeroToo_54 : decode prog_4_method_5_code 54 = .ok (.idiv, 1) := by decide +kernel
theorem d_K_meltsBelowZeroToo_55 : decode prog_4_method_5_code 55 = .ok (.iconst 1, 1) := by decide +kernel
theorem d_K_meltsBelowZeroToo_56 : decode prog_4_method_5_code 56 = .ok (.isub, 1) := by decide +kernel
theorem d_K_meltsBelowZeroToo_57 : decode prog_4_method_5_code 57 = .ok (.ireturn, 1) := by decide +kernel
theorem d_K_meltsBelowZeroToo_58 : decode prog_4_method_5_code 58 = .ok (.iconst 2, 1) := by decide +kernel
theorem d_K_meltsBelowZeroToo_59 : decode prog_4_method_5_code 59 = .ok (.iload_n 2, 1) := by decide +kernel
theorem d_K_meltsBelowZeroToo_60 : decode prog_4_method_5_code 60 = .ok (.iconst 2, 1) := by decide +kernel
theorem d_K_meltsBelowZeroToo_61 : decode prog_4_method_5_code 61 = .ok (.iadd, 1) := by decide +kernel
theorem d_K_meltsBelowZeroToo_62 : decode prog_4_method_5_code 62 = .ok (.imul, 1) := by decide +kernel
theorem d_K_meltsBelowZeroToo_63 : decode prog_4_method_5_code 63 = .ok (.ireturn, 1) := by decide +kernel
theorem d_K_meltsBelowZeroToo_64 : decode prog_4_method_5_code 64 = .ok (.iload_n 2, 1) := by decide +kernel
theorem d_K_meltsBelowZeroToo_65 : decode prog_4_method_5_code 65 = .ok (.iload_n 1, 1) := by decide +kernel
theorem d_K_meltsBelowZeroToo_66 : decode prog_4_method_5_code 66 = .ok (.isub, 1) := by decide +kernel
theorem d_K_meltsBelowZeroToo_67 : decode prog_4_method_5_code 67 = .ok (.bipush 9, 2) := by decide +kernel
theorem d_K_meltsBelowZeroToo_69 : decode prog_4_method_5_code 69 = .ok (.iadd, 1) := by decide +kernel
theorem d_K_meltsBelowZeroToo_70 : decode prog_4_method_5_code 70 = .ok (.ireturn, 1) := by decide +kernel
theorem d_K_meltsBelowZeroToo_71 : decode prog_4_method_5_code 71 = .ok (.iload_n 2, 1) := by decide +kernel
theorem d_K_meltsBelowZeroToo_72 : decode prog_4_method_5_code 72 = .ok (.ireturn, 1) := by decide +kernel
def w_K_meltsBelowZeroToo (K : Int32 → sm_Mem → Prop) (p0 : Int32) (p1 : Int32) (p2 : Int32) (μ : sm_Mem) : Prop := ∀ v1 : Int32, v1 = p0 → if v1 = 1 then K (p2 / 2) μ else (if v1 = 2 then K (p2 + 2) μ else (if v1 = 3 then K (p2 - p1) μ else (if v1 = 4 then K ((p2 / 2) - 1) μ else (if v1 = 5 then K (2 * (p2 + 2)) μ else (if v1 = 6 then K ((p2 - p1) + 9) μ else K p2 μ)))))
set_option maxHeartbeats 4000000 in
set_option maxRecDepth 100000 in
theorem P_K_meltsBelowZeroToo (l : Launch) {K : Int32 → sm_Mem → Prop} {p0 : Int32} {p1 : Int32} {p2 : Int32} {μ : sm_Mem} (h : w_K_meltsBelowZeroToo K p0 p1 p2 μ) : sm_MI l ⟨"SnowMoney$Kinds", "meltsBelowZeroToo", "(III)I"⟩ prog_4_method_5_code 3 (some .int) { frames := 0, cells := 0, slots := 0, locals := 0 } [sm_I p0, sm_I p1, sm_I p2] μ K := by
  refine sm_ofI (by decide +kernel) (fun _ => Nat.le_of_ble_eq_true rfl) ?_
  intro p e s m args below meth c A Q G C hR
  refine sr_iload_n C 0 rfl rfl d_K_meltsBelowZeroToo_0 ?_
  refine sm_name (fun v1 ev1 => ?_)
  replace h := h v1 ev1
  by_cases c2 : v1 = 1
  · replace h := Eq.mp (if_pos c2) h
    refine sr_tableIn C (tgt := 40) (off := 39) d_K_meltsBelowZeroToo_1 (by rw [c2]; decide) (by rw [c2]; decide) (by rw [c2]; decide) (by decide) ?_
    refine sr_iload_n C 2 rfl rfl d_K_meltsBelowZeroToo_40 ?_
    refine sr_iconst C (v := 2) d_K_meltsBelowZeroToo_41 (by decide) ?_
    refine sr_idiv C (by decide) d_K_meltsBelowZeroToo_42 ?_
    exact hR _ _ _ _ d_K_meltsBelowZeroToo_43 rfl h
  · replace h := Eq.mp (if_neg c2) h
    by_cases c3 : v1 = 2
    · replace h := Eq.mp (if_pos c3) h
      refine sr_tableIn C (tgt := 44) (off := 43) d_K_meltsBelowZeroToo_1 (by rw [c3]; decide) (by rw [c3]; decide) (by rw [c3]; decide) (by decide) ?_
      refine sr_iload_n C 2 rfl rfl d_K_meltsBelowZeroToo_44 ?_
      refine sr_iconst C (v := 2) d_K_meltsBelowZeroToo_45 (by decide) ?_
      refine sr_iadd C d_K_meltsBelowZeroToo_46 ?_
      exact hR _ _ _ _ d_K_meltsBelowZeroToo_47 rfl h
    · replace h := Eq.mp (if_neg c3) h
      by_cases c4 : v1 = 3
      · replace h := Eq.mp (if_pos c4) h
        refine sr_tableIn C (tgt := 48) (off := 47) d_K_meltsBelowZeroToo_1 (by rw [c4]; decide) (by rw [c4]; decide) (by rw [c4]; decide) (by decide) ?_
        refine sr_iload_n C 2 rfl rfl d_K_meltsBelowZeroToo_48 ?_
        refine sr_iload_n C 1 rfl rfl d_K_meltsBelowZeroToo_49 ?_
        refine sr_isub C d_K_meltsBelowZeroToo_50 ?_
        exact hR _ _ _ _ d_K_meltsBelowZeroToo_51 rfl h
      · replace h := Eq.mp (if_neg c4) h
        by_cases c5 : v1 = 4
        · replace h := Eq.mp (if_pos c5) h
          refine sr_tableIn C (tgt := 52) (off := 51) d_K_meltsBelowZeroToo_1 (by rw [c5]; decide) (by rw [c5]; decide) (by rw [c5]; decide) (by decide) ?_
          refine sr_iload_n C 2 rfl rfl d_K_meltsBelowZeroToo_52 ?_
          refine sr_iconst C (v := 2) d_K_meltsBelowZeroToo_53 (by decide) ?_
          refine sr_idiv C (by decide) d_K_meltsBelowZeroToo_54 ?_
          refine sr_iconst C (v := 1) d_K_meltsBelowZeroToo_55 (by decide) ?_
          refine sr_isub C d_K_meltsBelowZeroToo_56 ?_
          exact hR _ _ _ _ d_K_meltsBelowZeroToo_57 rfl h
        · replace h := Eq.mp (if_neg c5) h
          by_cases c6 : v1 = 5
          · replace h := Eq.mp (if_pos c6) h
            refine sr_tableIn C (tgt := 58) (off := 57) d_K_meltsBelowZeroToo_1 (by rw [c6]; decide) (by rw [c6]; decide) (by rw [c6]; decide) (by decide) ?_
            refine sr_iconst C (v := 2) d_K_meltsBelowZeroToo_58 (by decide) ?_
            refine sr_iload_n C 2 rfl rfl d_K_meltsBelowZeroToo_59 ?_
            refine sr_iconst C (v := 2) d_K_meltsBelowZeroToo_60 (by decide) ?_
            refine sr_iadd C d_K_meltsBelowZeroToo_61 ?_
            refine sr_imul C d_K_meltsBelowZeroToo_62 ?_
            exact hR _ _ _ _ d_K_meltsBelowZeroToo_63 rfl h
          · replace h := Eq.mp (if_neg c6) h
            by_cases c7 : v1 = 6
            · replace h := Eq.mp (if_pos c7) h
              refine sr_tableIn C (tgt := 64) (off := 63) d_K_meltsBelowZeroToo_1 (by rw [c7]; decide) (by rw [c7]; decide) (by rw [c7]; decide) (by decide) ?_
              refine sr_iload_n C 2 rfl rfl d_K_meltsBelowZeroToo_64 ?_
              refine sr_iload_n C 1 rfl rfl d_K_meltsBelowZeroToo_65 ?_
              refine sr_isub C d_K_meltsBelowZeroToo_66 ?_
              refine sr_bipush C (v := 9) d_K_meltsBelowZeroToo_67 (by decide) ?_
              refine sr_iadd C d_K_meltsBelowZeroToo_69 ?_
              exact hR _ _ _ _ d_K_meltsBelowZeroToo_70 rfl h
            · replace h := Eq.mp (if_neg c7) h
              have i0 := sm_ne c2 (z := 1) (by decide)
              have i1 := sm_ne c3 (z := 2) (by decide)
              have i2 := sm_ne c4 (z := 3) (by decide)
              have i3 := sm_ne c5 (z := 4) (by decide)
              have i4 := sm_ne c6 (z := 5) (by decide)
              have i5 := sm_ne c7 (z := 6) (by decide)
              refine sr_tableOut C (tgt := 71) d_K_meltsBelowZeroToo_1 (by omega) (by decide) ?_
              refine sr_iload_n C 2 rfl rfl d_K_meltsBelowZeroToo_71 ?_
              exact hR _ _ _ _ d_K_meltsBelowZeroToo_72 rfl h
theorem d_K_melts_0 : decode prog_4_method_4_code 0 = .ok (.iconst 0, 1) := by decide +kernel
theorem d_K_melts_1 : decode prog_4_method_4_code 1 = .ok (.iload_n 0, 1) := by decide +kernel
theorem d_K_melts_2 : decode prog_4_method_4_code 2 = .ok (.iload_n 1, 1) := by decide +kernel
theorem d_K_melts_3 : decode prog_4_method_4_code 3 = .ok (.iload_n 2, 1) := by decide +kernel
theorem d_K_melts_4 : decode prog_4_method_4_code 4 = .ok (.invokestatic 17, 3) := by decide +kernel
theorem d_K_melts_7 : decode prog_4_method_4_code 7 = .ok (.invokestatic 21, 3) := by decide +kernel
theorem d_K_melts_10 : decode prog_4_method_4_code 10 = .ok (.ireturn, 1) := by decide +kernel
def w_K_melts (K : Int32 → sm_Mem → Prop) (p0 : Int32) (p1 : Int32) (p2 : Int32) (μ : sm_Mem) : Prop := w_K_meltsBelowZeroToo (fun r2 μ1 => K (if 0 < r2 then r2 else 0) μ1) p0 p1 p2 μ
set_option maxHeartbeats 4000000 in
set_option maxRecDepth 100000 in
theorem P_K_melts (l : Launch) {K : Int32 → sm_Mem → Prop} {p0 : Int32} {p1 : Int32} {p2 : Int32} {μ : sm_Mem} (h : w_K_melts K p0 p1 p2 μ) : sm_MI l ⟨"SnowMoney$Kinds", "melts", "(III)I"⟩ prog_4_method_4_code 3 (some .int) { frames := 1, cells := 0, slots := 0, locals := 24 } [sm_I p0, sm_I p1, sm_I p2] μ K := by
  refine sm_ofI (by decide +kernel) (fun _ => Nat.le_of_ble_eq_true rfl) ?_
  intro p e s m args below meth c A Q G C hR
  refine sr_iconst C (v := 0) d_K_melts_0 (by decide) ?_
  refine sr_iload_n C 0 rfl rfl d_K_melts_1 ?_
  refine sr_iload_n C 1 rfl rfl d_K_melts_2 ?_
  refine sr_iload_n C 2 rfl rfl d_K_melts_3 ?_
  refine sr_callSI C [sm_I _, sm_I _, sm_I _] (P_K_meltsBelowZeroToo l h) ok_18 rfl rfl rfl ⟨Nat.le_of_ble_eq_true rfl, Nat.le_of_ble_eq_true rfl⟩ (Nat.le_of_ble_eq_true rfl) ⟨Nat.zero_le _, Nat.zero_le _⟩ d_K_melts_4 (fun r2 μ1 h => ?_)
  refine sr_mmax C q_96 q_mmax1 q_mini q_mmax2 (Nat.le_of_ble_eq_true rfl) (Nat.le_of_ble_eq_true rfl) ⟨Nat.zero_le _, Nat.zero_le _⟩ d_K_melts_7 ?_
  exact hR _ _ _ _ d_K_melts_10 rfl h
theorem d_K_above_0 : decode prog_4_method_2_code 0 = .ok (.iload_n 0, 1) := by decide +kernel
theorem d_K_above_1 : decode prog_4_method_2_code 1 = .ok (.ifCond .lt 19, 3) := by decide +kernel
theorem d_K_above_4 : decode prog_4_method_2_code 4 = .ok (.iload_n 0, 1) := by decide +kernel
theorem d_K_above_5 : decode prog_4_method_2_code 5 = .ok (.getstatic 7, 3) := by decide +kernel
theorem d_K_above_8 : decode prog_4_method_2_code 8 = .ok (.arraylength, 1) := by decide +kernel
theorem d_K_above_9 : decode prog_4_method_2_code 9 = .ok (.if_icmp .ge 11, 3) := by decide +kernel
theorem d_K_above_12 : decode prog_4_method_2_code 12 = .ok (.getstatic 7, 3) := by decide +kernel
theorem d_K_above_15 : decode prog_4_method_2_code 15 = .ok (.iload_n 0, 1) := by decide +kernel
theorem d_K_above_16 : decode prog_4_method_2_code 16 = .ok (.iaload, 1) := by decide +kernel
theorem d_K_above_17 : decode prog_4_method_2_code 17 = .ok (.goto 4, 3) := by decide +kernel
theorem d_K_above_20 : decode prog_4_method_2_code 20 = .ok (.iconst (-1), 1) := by decide +kernel
theorem d_K_above_21 : decode prog_4_method_2_code 21 = .ok (.ireturn, 1) := by decide +kernel
def w_K_above (K : Int32 → sm_Mem → Prop) (p0 : Int32) (μ : sm_Mem) : Prop := if p0 < 0 then K (-1) μ else (if 7 ≤ p0 then K (-1) μ else (vp_in p0 7 ∧ K (sm_above.getD p0.toNatClampNeg 0) μ))
set_option maxHeartbeats 4000000 in
set_option maxRecDepth 100000 in
theorem P_K_above (l : Launch) {K : Int32 → sm_Mem → Prop} {p0 : Int32} {μ : sm_Mem} (h : w_K_above K p0 μ) : sm_MI l ⟨"SnowMoney$Kinds", "above", "(I)I"⟩ prog_4_method_2_code 1 (some .int) { frames := 0, cells := 0, slots := 0, locals := 0 } [sm_I p0] μ K := by
  refine sm_ofI (by decide +kernel) (fun _ => Nat.le_of_ble_eq_true rfl) ?_
  intro p e s m args below meth c A Q G C hR
  refine sr_iload_n C 0 rfl rfl d_K_above_0 ?_
  refine sr_if_lt C (tgt := 20) d_K_above_1 (by decide) (fun c1 => ?_) (fun c1 => ?_)
  · replace h := Eq.mp (if_pos c1) h
    refine sr_iconst C (v := (-1)) d_K_above_20 (by decide) ?_
    exact hR _ _ _ _ d_K_above_21 rfl h
  · replace h := Eq.mp (if_neg c1) h
    refine sr_iload_n C 0 rfl rfl d_K_above_4 ?_
    refine sr_getsA C q_109 d_K_above_5 ?_
    refine sr_tlenA C (v := 7) (by decide) d_K_above_8 ?_
    refine sr_icmp_ge C (tgt := 20) d_K_above_9 (by decide) (fun c2 => ?_) (fun c2 => ?_)
    · replace h := Eq.mp (if_pos c2) h
      refine sr_iconst C (v := (-1)) d_K_above_20 (by decide) ?_
      exact hR _ _ _ _ d_K_above_21 rfl h
    · replace h := Eq.mp (if_neg c2) h
      refine sr_getsA C q_109 d_K_above_12 ?_
      refine sr_iload_n C 0 rfl rfl d_K_above_15 ?_
      obtain ⟨g3, h⟩ := h
      refine sr_tabA C g3 d_K_above_16 ?_
      refine sr_goto C (tgt := 21) (by decide) d_K_above_17 ?_
      exact hR _ _ _ _ d_K_above_21 rfl h
theorem d_K_isOf_0 : decode prog_4_method_3_code 0 = .ok (.iload_n 0, 1) := by decide +kernel
theorem d_K_isOf_1 : decode prog_4_method_3_code 1 = .ok (.istore_n 2, 1) := by decide +kernel
theorem d_K_isOf_2 : decode prog_4_method_3_code 2 = .ok (.iconst 0, 1) := by decide +kernel
theorem d_K_isOf_3 : decode prog_4_method_3_code 3 = .ok (.istore_n 3, 1) := by decide +kernel
theorem d_K_isOf_4 : decode prog_4_method_3_code 4 = .ok (.iload_n 3, 1) := by decide +kernel
theorem d_K_isOf_5 : decode prog_4_method_3_code 5 = .ok (.getstatic 7, 3) := by decide +kernel
theorem d_K_isOf_8 : decode prog_4_method_3_code 8 = .ok (.arraylength, 1) := by decide +kernel
theorem d_K_isOf_9 : decode prog_4_method_3_code 9 = .ok (.if_icmp .ge 25, 3) := by decide +kernel
theorem d_K_isOf_12 : decode prog_4_method_3_code 12 = .ok (.iload_n 2, 1) := by decide +kernel
theorem d_K_isOf_13 : decode prog_4_method_3_code 13 = .ok (.ifCond .lt 21, 3) := by decide +kernel
theorem d_K_isOf_16 : decode prog_4_method_3_code 16 = .ok (.iload_n 2, 1) := by decide +kernel
theorem d_K_isOf_17 : decode prog_4_method_3_code 17 = .ok (.iload_n 1, 1) := by decide +kernel
theorem d_K_isOf_18 : decode prog_4_method_3_code 18 = .ok (.if_icmp .ne 5, 3) := by decide +kernel
theorem d_K_isOf_21 : decode prog_4_method_3_code 21 = .ok (.iconst 1, 1) := by decide +kernel
theorem d_K_isOf_22 : decode prog_4_method_3_code 22 = .ok (.ireturn, 1) := by decide +kernel
theorem d_K_isOf_23 : decode prog_4_method_3_code 23 = .ok (.iload_n 2, 1) := by decide +kernel
theorem d_K_isOf_24 : decode prog_4_method_3_code 24 = .ok (.invokestatic 13, 3) := by decide +kernel
theorem d_K_isOf_27 : decode prog_4_method_3_code 27 = .ok (.istore_n 2, 1) := by decide +kernel
theorem d_K_isOf_28 : decode prog_4_method_3_code 28 = .ok (.iinc 3 1, 3) := by decide +kernel
theorem d_K_isOf_31 : decode prog_4_method_3_code 31 = .ok (.goto (-27), 3) := by decide +kernel
theorem d_K_isOf_34 : decode prog_4_method_3_code 34 = .ok (.iconst 0, 1) := by decide +kernel
theorem d_K_isOf_35 : decode prog_4_method_3_code 35 = .ok (.ireturn, 1) := by decide +kernel
def w_K_isOf_4 (K : Int32 → sm_Mem → Prop) (p0 : Int32) (p1 : Int32) (x2 : Int32) (x3 : Int32) (μ : sm_Mem) : Prop := sm_lp2 (fun J4 x2 x3 μ => if 7 ≤ x3 then K 0 μ else (if x2 < 0 then K 0 μ else (if x2 = p1 then K 1 μ else w_K_above (fun r5 μ4 => J4 r5 (x3 + 1) μ4) x2 μ))) x2 x3 μ
def w_K_isOf (K : Int32 → sm_Mem → Prop) (p0 : Int32) (p1 : Int32) (μ : sm_Mem) : Prop := w_K_isOf_4 K p0 p1 p0 0 μ
set_option maxHeartbeats 4000000 in
set_option maxRecDepth 100000 in
theorem P_K_isOf (l : Launch) {K : Int32 → sm_Mem → Prop} {p0 : Int32} {p1 : Int32} {μ : sm_Mem} (h : w_K_isOf K p0 p1 μ) : sm_MI l ⟨"SnowMoney$Kinds", "isOf", "(II)Z"⟩ prog_4_method_3_code 4 (some .boolean) { frames := 1, cells := 0, slots := 0, locals := 20 } [sm_I p0, sm_I p1] μ K := by
  refine sm_ofI (by decide +kernel) (fun _ => Nat.le_of_ble_eq_true rfl) ?_
  intro p e s m args below meth c A Q G C hR
  have B4 : ∀ (x2 : Int32) (x3 : Int32) (μ : sm_Mem), w_K_isOf_4 K p0 p1 x2 x3 μ → sm_W p l e { frames := 1, cells := 0, slots := 0, locals := 20 } s m args below meth c A Q G 4 0 0 4 [] [(1, sm_I p1), (2, sm_I x2), (3, sm_I x3)] μ := by
    intro x2 x3 μ h
    refine sm_lp2_sound (P := fun x2 x3 μ => sm_W p l e { frames := 1, cells := 0, slots := 0, locals := 20 } s m args below meth c A Q G 4 0 0 4 [] [(1, sm_I p1), (2, sm_I x2), (3, sm_I x3)] μ) (fun J4 x2 x3 μ hJ4 h => ?_) h
    refine sr_iload_n C 2 rfl rfl d_K_isOf_4 ?_
    refine sr_getsA C q_109 d_K_isOf_5 ?_
    refine sr_tlenA C (v := 7) (by decide) d_K_isOf_8 ?_
    refine sr_icmp_ge C (tgt := 34) d_K_isOf_9 (by decide) (fun c1 => ?_) (fun c1 => ?_)
    · replace h := Eq.mp (if_pos c1) h
      refine sr_iconst C (v := 0) d_K_isOf_34 (by decide) ?_
      exact hR _ _ _ _ d_K_isOf_35 rfl h
    · replace h := Eq.mp (if_neg c1) h
      refine sr_iload_n C 1 rfl rfl d_K_isOf_12 ?_
      refine sr_if_lt C (tgt := 34) d_K_isOf_13 (by decide) (fun c2 => ?_) (fun c2 => ?_)
      · replace h := Eq.mp (if_pos c2) h
        refine sr_iconst C (v := 0) d_K_isOf_34 (by decide) ?_
        exact hR _ _ _ _ d_K_isOf_35 rfl h
      · replace h := Eq.mp (if_neg c2) h
        refine sr_iload_n C 1 rfl rfl d_K_isOf_16 ?_
        refine sr_iload_n C 0 rfl rfl d_K_isOf_17 ?_
        refine sr_icmp_ne C (tgt := 23) d_K_isOf_18 (by decide) (fun c3 => ?_) (fun c3 => ?_)
        · replace h := Eq.mp (if_neg c3) h
          refine sr_iload_n C 1 rfl rfl d_K_isOf_23 ?_
          refine sr_callSI C [sm_I _] (P_K_above l h) ok_22 rfl rfl rfl ⟨Nat.le_of_ble_eq_true rfl, Nat.le_of_ble_eq_true rfl⟩ (Nat.le_of_ble_eq_true rfl) ⟨Nat.zero_le _, Nat.zero_le _⟩ d_K_isOf_24 (fun r5 μ4 h => ?_)
          refine sr_istore_n C rfl (by decide) d_K_isOf_27 ?_
          refine sr_iinc C 2 rfl (by decide) d_K_isOf_28 rfl ?_
          refine sr_goto C (tgt := 4) (by decide) d_K_isOf_31 ?_
          refine sr_mask C [2, 1, 0] rfl ?_
          exact hJ4 _ _ _ h
        · replace h := Eq.mp (if_pos c3) h
          refine sr_iconst C (v := 1) d_K_isOf_21 (by decide) ?_
          exact hR _ _ _ _ d_K_isOf_22 rfl h
  refine sr_iload_n C 0 rfl rfl d_K_isOf_0 ?_
  refine sr_istore_n C rfl (by decide) d_K_isOf_1 ?_
  refine sr_iconst C (v := 0) d_K_isOf_2 (by decide) ?_
  refine sr_istore_n C rfl (by decide) d_K_isOf_3 ?_
  refine sr_mask C [3, 1, 0] rfl ?_
  exact B4 _ _ _ h
theorem d_K_pays_0 : decode prog_4_method_6_code 0 = .ok (.iload_n 0, 1) := by decide +kernel
theorem d_K_pays_1 : decode prog_4_method_6_code 1 = .ok (.tableswitch 87 1 5 #[35, 39, 49, 61, 75], 35) := by decide +kernel
theorem d_K_pays_36 : decode prog_4_method_6_code 36 = .ok (.iconst 2, 1) := by decide +kernel
theorem d_K_pays_37 : decode prog_4_method_6_code 37 = .ok (.iload_n 2, 1) := by decide +kernel
theorem d_K_pays_38 : decode prog_4_method_6_code 38 = .ok (.imul, 1) := by decide +kernel
theorem d_K_pays_39 : decode prog_4_method_6_code 39 = .ok (.ireturn, 1) := by decide +kernel
theorem d_K_pays_40 : decode prog_4_method_6_code 40 = .ok (.iload_n 3, 1) := by decide +kernel
theorem d_K_pays_41 : decode prog_4_method_6_code 41 = .ok (.ifCond .eq 7, 3) := by decide +kernel
theorem d_K_pays_44 : decode prog_4_method_6_code 44 = .ok (.iconst 0, 1) := by decide +kernel
theorem d_K_pays_45 : decode prog_4_method_6_code 45 = .ok (.goto 4, 3) := by decide +kernel
theorem d_K_pays_48 : decode prog_4_method_6_code 48 = .ok (.iload_n 2, 1) := by decide +kernel
theorem d_K_pays_49 : decode prog_4_method_6_code 49 = .ok (.ireturn, 1) := by decide +kernel
theorem d_K_pays_50 : decode prog_4_method_6_code 50 = .ok (.iload_n 2, 1) := by decide +kernel
theorem d_K_pays_51 : decode prog_4_method_6_code 51 = .ok (.ifCond .le 9, 3) := by decide +kernel
theorem d_K_pays_54 : decode prog_4_method_6_code 54 = .ok (.iload_n 2, 1) := by decide +kernel
theorem d_K_pays_55 : decode prog_4_method_6_code 55 = .ok (.iload_n 1, 1) := by decide +kernel
theorem d_K_pays_56 : decode prog_4_method_6_code 56 = .ok (.iadd, 1) := by decide +kernel
theorem d_K_pays_57 : decode prog_4_method_6_code 57 = .ok (.goto 4, 3) := by decide +kernel
theorem d_K_pays_60 : decode prog_4_method_6_code 60 = .ok (.iconst 0, 1) := by decide +kernel
theorem d_K_pays_61 : decode prog_4_method_6_code 61 = .ok (.ireturn, 1) := by decide +kernel
theorem d_K_pays_62 : decode prog_4_method_6_code 62 = .ok (.iload_n 2, 1) := by decide +kernel
theorem d_K_pays_63 : decode prog_4_method_6_code 63 = .ok (.ifCond .le 11, 3) := by decide +kernel
theorem d_K_pays_66 : decode prog_4_method_6_code 66 = .ok (.iconst 2, 1) := by decide +kernel
theorem d_K_pays_67 : decode prog_4_method_6_code 67 = .ok (.iload_n 2, 1) := by decide +kernel
theorem d_K_pays_68 : decode prog_4_method_6_code 68 = .ok (.imul, 1) := by decide +kernel
theorem d_K_pays_69 : decode prog_4_method_6_code 69 = .ok (.iconst 5, 1) := by decide +kernel
theorem d_K_pays_70 : decode prog_4_method_6_code 70 = .ok (.iadd, 1) := by decide +kernel
theorem d_K_pays_71 : decode prog_4_method_6_code 71 = .ok (.goto 4, 3) := by decide +kernel
theorem d_K_pays_74 : decode prog_4_method_6_code 74 = .ok (.iconst 0, 1) := by decide +kernel
theorem d_K_pays_75 : decode prog_4_method_6_code 75 = .ok (.ireturn, 1) := by decide +kernel
theorem d_K_pays_76 : decode prog_4_method_6_code 76 = .ok (.iload_n 3, 1) := by decide +kernel
theorem d_K_pays_77 : decode prog_4_method_6_code 77 = .ok (.ifCond .eq 7, 3) := by decide +kernel
theorem d_K_pays_80 : decode prog_4_method_6_code 80 = .ok (.iconst 0, 1) := by decide +kernel
theorem d_K_pays_81 : decode prog_4_method_6_code 81 = .ok (.goto 6, 3) := by decide +kernel
theorem d_K_pays_84 : decode prog_4_method_6_code 84 = .ok (.iload_n 2, 1) := by decide +kernel
theorem d_K_pays_85 : decode prog_4_method_6_code 85 = .ok (.iconst 2, 1) := by decide +kernel
theorem d_K_pays_86 : decode prog_4_method_6_code 86 = .ok (.idiv, 1) := by decide +kernel
theorem d_K_pays_87 : decode prog_4_method_6_code 87 = .ok (.ireturn, 1) := by decide +kernel
theorem d_K_pays_88 : decode prog_4_method_6_code 88 = .ok (.iload_n 2, 1) := by decide +kernel
theorem d_K_pays_89 : decode prog_4_method_6_code 89 = .ok (.ireturn, 1) := by decide +kernel
def w_K_pays (K : Int32 → sm_Mem → Prop) (p0 : Int32) (p1 : Int32) (p2 : Int32) (p3 : Int32) (μ : sm_Mem) : Prop := ∀ v1 : Int32, v1 = p0 → if v1 = 1 then K (2 * p2) μ else (if v1 = 2 then (if p3 = 0 then K p2 μ else K 0 μ) else (if v1 = 3 then (if p2 ≤ 0 then K 0 μ else K (p2 + p1) μ) else (if v1 = 4 then (if p2 ≤ 0 then K 0 μ else K ((2 * p2) + 5) μ) else (if v1 = 5 then (if p3 = 0 then K (p2 / 2) μ else K 0 μ) else K p2 μ))))
set_option maxHeartbeats 4000000 in
set_option maxRecDepth 100000 in
theorem P_K_pays (l : Launch) {K : Int32 → sm_Mem → Prop} {p0 : Int32} {p1 : Int32} {p2 : Int32} {p3 : Int32} {μ : sm_Mem} (h : w_K_pays K p0 p1 p2 p3 μ) : sm_MI l ⟨"SnowMoney$Kinds", "pays", "(IIIZ)I"⟩ prog_4_method_6_code 4 (some .int) { frames := 0, cells := 0, slots := 0, locals := 0 } [sm_I p0, sm_I p1, sm_I p2, sm_I p3] μ K := by
  refine sm_ofI (by decide +kernel) (fun _ => Nat.le_of_ble_eq_true rfl) ?_
  intro p e s m args below meth c A Q G C hR
  refine sr_iload_n C 0 rfl rfl d_K_pays_0 ?_
  refine sm_name (fun v1 ev1 => ?_)
  replace h := h v1 ev1
  by_cases c2 : v1 = 1
  · replace h := Eq.mp (if_pos c2) h
    refine sr_tableIn C (tgt := 36) (off := 35) d_K_pays_1 (by rw [c2]; decide) (by rw [c2]; decide) (by rw [c2]; decide) (by decide) ?_
    refine sr_iconst C (v := 2) d_K_pays_36 (by decide) ?_
    refine sr_iload_n C 2 rfl rfl d_K_pays_37 ?_
    refine sr_imul C d_K_pays_38 ?_
    exact hR _ _ _ _ d_K_pays_39 rfl h
  · replace h := Eq.mp (if_neg c2) h
    by_cases c3 : v1 = 2
    · replace h := Eq.mp (if_pos c3) h
      refine sr_tableIn C (tgt := 40) (off := 39) d_K_pays_1 (by rw [c3]; decide) (by rw [c3]; decide) (by rw [c3]; decide) (by decide) ?_
      refine sr_iload_n C 3 rfl rfl d_K_pays_40 ?_
      refine sr_if_eq C (tgt := 48) d_K_pays_41 (by decide) (fun c4 => ?_) (fun c4 => ?_)
      · replace h := Eq.mp (if_pos c4) h
        refine sr_iload_n C 2 rfl rfl d_K_pays_48 ?_
        exact hR _ _ _ _ d_K_pays_49 rfl h
      · replace h := Eq.mp (if_neg c4) h
        refine sr_iconst C (v := 0) d_K_pays_44 (by decide) ?_
        refine sr_goto C (tgt := 49) (by decide) d_K_pays_45 ?_
        exact hR _ _ _ _ d_K_pays_49 rfl h
    · replace h := Eq.mp (if_neg c3) h
      by_cases c5 : v1 = 3
      · replace h := Eq.mp (if_pos c5) h
        refine sr_tableIn C (tgt := 50) (off := 49) d_K_pays_1 (by rw [c5]; decide) (by rw [c5]; decide) (by rw [c5]; decide) (by decide) ?_
        refine sr_iload_n C 2 rfl rfl d_K_pays_50 ?_
        refine sr_if_le C (tgt := 60) d_K_pays_51 (by decide) (fun c6 => ?_) (fun c6 => ?_)
        · replace h := Eq.mp (if_pos c6) h
          refine sr_iconst C (v := 0) d_K_pays_60 (by decide) ?_
          exact hR _ _ _ _ d_K_pays_61 rfl h
        · replace h := Eq.mp (if_neg c6) h
          refine sr_iload_n C 2 rfl rfl d_K_pays_54 ?_
          refine sr_iload_n C 1 rfl rfl d_K_pays_55 ?_
          refine sr_iadd C d_K_pays_56 ?_
          refine sr_goto C (tgt := 61) (by decide) d_K_pays_57 ?_
          exact hR _ _ _ _ d_K_pays_61 rfl h
      · replace h := Eq.mp (if_neg c5) h
        by_cases c7 : v1 = 4
        · replace h := Eq.mp (if_pos c7) h
          refine sr_tableIn C (tgt := 62) (off := 61) d_K_pays_1 (by rw [c7]; decide) (by rw [c7]; decide) (by rw [c7]; decide) (by decide) ?_
          refine sr_iload_n C 2 rfl rfl d_K_pays_62 ?_
          refine sr_if_le C (tgt := 74) d_K_pays_63 (by decide) (fun c8 => ?_) (fun c8 => ?_)
          · replace h := Eq.mp (if_pos c8) h
            refine sr_iconst C (v := 0) d_K_pays_74 (by decide) ?_
            exact hR _ _ _ _ d_K_pays_75 rfl h
          · replace h := Eq.mp (if_neg c8) h
            refine sr_iconst C (v := 2) d_K_pays_66 (by decide) ?_
            refine sr_iload_n C 2 rfl rfl d_K_pays_67 ?_
            refine sr_imul C d_K_pays_68 ?_
            refine sr_iconst C (v := 5) d_K_pays_69 (by decide) ?_
            refine sr_iadd C d_K_pays_70 ?_
            refine sr_goto C (tgt := 75) (by decide) d_K_pays_71 ?_
            exact hR _ _ _ _ d_K_pays_75 rfl h
        · replace h := Eq.mp (if_neg c7) h
          by_cases c9 : v1 = 5
          · replace h := Eq.mp (if_pos c9) h
            refine sr_tableIn C (tgt := 76) (off := 75) d_K_pays_1 (by rw [c9]; decide) (by rw [c9]; decide) (by rw [c9]; decide) (by decide) ?_
            refine sr_iload_n C 3 rfl rfl d_K_pays_76 ?_
            refine sr_if_eq C (tgt := 84) d_K_pays_77 (by decide) (fun c10 => ?_) (fun c10 => ?_)
            · replace h := Eq.mp (if_pos c10) h
              refine sr_iload_n C 2 rfl rfl d_K_pays_84 ?_
              refine sr_iconst C (v := 2) d_K_pays_85 (by decide) ?_
              refine sr_idiv C (by decide) d_K_pays_86 ?_
              exact hR _ _ _ _ d_K_pays_87 rfl h
            · replace h := Eq.mp (if_neg c10) h
              refine sr_iconst C (v := 0) d_K_pays_80 (by decide) ?_
              refine sr_goto C (tgt := 87) (by decide) d_K_pays_81 ?_
              exact hR _ _ _ _ d_K_pays_87 rfl h
          · replace h := Eq.mp (if_neg c9) h
            have i0 := sm_ne c2 (z := 1) (by decide)
            have i1 := sm_ne c3 (z := 2) (by decide)
            have i2 := sm_ne c5 (z := 3) (by decide)
            have i3 := sm_ne c7 (z := 4) (by decide)
            have i4 := sm_ne c9 (z := 5) (by decide)
            refine sr_tableOut C (tgt := 88) d_K_pays_1 (by omega) (by decide) ?_
            refine sr_iload_n C 2 rfl rfl d_K_pays_88 ?_
            exact hR _ _ _ _ d_K_pays_89 rfl h
theorem d_T_add_0 : decode prog_7_method_5_code 0 = .ok (.aload_n 0, 1) := by decide +kernel
theorem d_T_add_1 : decode prog_7_method_5_code 1 = .ok (.getfield 19, 3) := by decide +kernel
theorem d_T_add_4 : decode prog_7_method_5_code 4 = .ok (.bipush 50, 2) := by decide +kernel
theorem d_T_add_6 : decode prog_7_method_5_code 6 = .ok (.if_icmp .ge 33, 3) := by decide +kernel
theorem d_T_add_9 : decode prog_7_method_5_code 9 = .ok (.aload_n 0, 1) := by decide +kernel
theorem d_T_add_10 : decode prog_7_method_5_code 10 = .ok (.getfield 9, 3) := by decide +kernel
theorem d_T_add_13 : decode prog_7_method_5_code 13 = .ok (.aload_n 0, 1) := by decide +kernel
theorem d_T_add_14 : decode prog_7_method_5_code 14 = .ok (.getfield 19, 3) := by decide +kernel
theorem d_T_add_17 : decode prog_7_method_5_code 17 = .ok (.iload_n 1, 1) := by decide +kernel
theorem d_T_add_18 : decode prog_7_method_5_code 18 = .ok (.iastore, 1) := by decide +kernel
theorem d_T_add_19 : decode prog_7_method_5_code 19 = .ok (.aload_n 0, 1) := by decide +kernel
theorem d_T_add_20 : decode prog_7_method_5_code 20 = .ok (.getfield 13, 3) := by decide +kernel
theorem d_T_add_23 : decode prog_7_method_5_code 23 = .ok (.aload_n 0, 1) := by decide +kernel
theorem d_T_add_24 : decode prog_7_method_5_code 24 = .ok (.getfield 19, 3) := by decide +kernel
theorem d_T_add_27 : decode prog_7_method_5_code 27 = .ok (.iload_n 2, 1) := by decide +kernel
theorem d_T_add_28 : decode prog_7_method_5_code 28 = .ok (.iastore, 1) := by decide +kernel
theorem d_T_add_29 : decode prog_7_method_5_code 29 = .ok (.aload_n 0, 1) := by decide +kernel
theorem d_T_add_30 : decode prog_7_method_5_code 30 = .ok (.dup, 1) := by decide +kernel
theorem d_T_add_31 : decode prog_7_method_5_code 31 = .ok (.getfield 19, 3) := by decide +kernel
theorem d_T_add_34 : decode prog_7_method_5_code 34 = .ok (.iconst 1, 1) := by decide +kernel
theorem d_T_add_35 : decode prog_7_method_5_code 35 = .ok (.iadd, 1) := by decide +kernel
theorem d_T_add_36 : decode prog_7_method_5_code 36 = .ok (.putfield 19, 3) := by decide +kernel
theorem d_T_add_39 : decode prog_7_method_5_code 39 = .ok (.return_, 1) := by decide +kernel
def w_T_add (K : sm_Mem → Prop) (k : Nat) (p0 : Int32) (p1 : Int32) (μ : sm_Mem) : Prop := isText k ∧ if 50 ≤ (μ k 3) then K μ else (vp_in (μ k 3) 50 ∧ ∀ μ3 : sm_Mem, μ3 = sm_st μ (k + 1) ((μ k 3).toNatClampNeg) p0 → vp_in (μ3 k 3) 50 ∧ ∀ μ5 : sm_Mem, μ5 = sm_st μ3 (k + 2) ((μ3 k 3).toNatClampNeg) p1 → ∀ μ6 : sm_Mem, μ6 = sm_st μ5 k 3 ((μ5 k 3) + 1) → K μ6)
set_option maxHeartbeats 4000000 in
set_option maxRecDepth 100000 in
theorem P_T_add (l : Launch) {K : sm_Mem → Prop} {k : Nat} {p0 : Int32} {p1 : Int32} {μ : sm_Mem} (h : w_T_add K k p0 p1 μ) : sm_MV l ⟨"SnowMoney$Text", "add", "(II)V"⟩ prog_7_method_5_code 3 { frames := 0, cells := 0, slots := 0, locals := 0 } [sm_R k, sm_I p0, sm_I p1] μ K := by
  refine sm_ofV (by decide +kernel) (fun _ => Nat.le_of_ble_eq_true rfl) ?_
  intro p e s m args below meth c A Q G C hR
  obtain ⟨t_k, h⟩ := h
  refine sr_aload_n C 0 rfl rfl d_T_add_0 ?_
  refine sr_getI C sm_F4 3 q_82 t_k.1 rfl (by decide) d_T_add_1 ?_
  refine sr_bipush C (v := 50) d_T_add_4 (by decide) ?_
  refine sr_icmp_ge C (tgt := 39) d_T_add_6 (by decide) (fun c1 => ?_) (fun c1 => ?_)
  · replace h := Eq.mp (if_pos c1) h
    exact hR _ _ _ d_T_add_39 h
  · replace h := Eq.mp (if_neg c1) h
    refine sr_aload_n C 0 rfl rfl d_T_add_9 ?_
    refine sr_getR C sm_F4 0 q_84 t_k.1 (r := k + 1) rfl (by decide) d_T_add_10 ?_
    refine sr_aload_n C 0 rfl rfl d_T_add_13 ?_
    refine sr_getI C sm_F4 3 q_82 t_k.1 rfl (by decide) d_T_add_14 ?_
    refine sr_iload_n C 1 rfl rfl d_T_add_17 ?_
    obtain ⟨g2, h⟩ := h
    refine sr_iast C t_k.2.1 g2 d_T_add_18 ?_
    replace h := h _ rfl
    refine sr_aload_n C 0 rfl rfl d_T_add_19 ?_
    refine sr_getR C sm_F4 1 q_85 t_k.1 (r := k + 2) rfl (by decide) d_T_add_20 ?_
    refine sr_aload_n C 0 rfl rfl d_T_add_23 ?_
    refine sr_getI C sm_F4 3 q_82 t_k.1 rfl (by decide) d_T_add_24 ?_
    refine sr_iload_n C 2 rfl rfl d_T_add_27 ?_
    obtain ⟨g4, h⟩ := h
    refine sr_iast C t_k.2.2.1 g4 d_T_add_28 ?_
    replace h := h _ rfl
    refine sr_aload_n C 0 rfl rfl d_T_add_29 ?_
    refine sr_dup C rfl d_T_add_30 ?_
    refine sr_getI C sm_F4 3 q_82 t_k.1 rfl (by decide) d_T_add_31 ?_
    refine sr_iconst C (v := 1) d_T_add_34 (by decide) ?_
    refine sr_iadd C d_T_add_35 ?_
    refine sr_putI C sm_F4 3 q_82 t_k.1 rfl rfl (by decide) rfl d_T_add_36 ?_
    replace h := h _ rfl
    exact hR _ _ _ d_T_add_39 h
theorem d_T_clear_0 : decode prog_7_method_3_code 0 = .ok (.aload_n 0, 1) := by decide +kernel
theorem d_T_clear_1 : decode prog_7_method_3_code 1 = .ok (.iconst 0, 1) := by decide +kernel
theorem d_T_clear_2 : decode prog_7_method_3_code 2 = .ok (.putfield 19, 3) := by decide +kernel
theorem d_T_clear_5 : decode prog_7_method_3_code 5 = .ok (.return_, 1) := by decide +kernel
def w_T_clear (K : sm_Mem → Prop) (k : Nat) (μ : sm_Mem) : Prop := isText k ∧ ∀ μ1 : sm_Mem, μ1 = sm_st μ k 3 0 → K μ1
set_option maxHeartbeats 4000000 in
set_option maxRecDepth 100000 in
theorem P_T_clear (l : Launch) {K : sm_Mem → Prop} {k : Nat} {μ : sm_Mem} (h : w_T_clear K k μ) : sm_MV l ⟨"SnowMoney$Text", "clear", "()V"⟩ prog_7_method_3_code 1 { frames := 0, cells := 0, slots := 0, locals := 0 } [sm_R k] μ K := by
  refine sm_ofV (by decide +kernel) (fun _ => Nat.le_of_ble_eq_true rfl) ?_
  intro p e s m args below meth c A Q G C hR
  obtain ⟨t_k, h⟩ := h
  refine sr_aload_n C 0 rfl rfl d_T_clear_0 ?_
  refine sr_iconst C (v := 0) d_T_clear_1 (by decide) ?_
  refine sr_putI C sm_F4 3 q_82 t_k.1 rfl rfl (by decide) rfl d_T_clear_2 ?_
  replace h := h _ rfl
  exact hR _ _ _ d_T_clear_5 h
theorem d_T_take_0 : decode prog_7_method_4_code 0 = .ok (.aload_n 1, 1) := by decide +kernel
theorem d_T_take_1 : decode prog_7_method_4_code 1 = .ok (.getfield 9, 3) := by decide +kernel
theorem d_T_take_4 : decode prog_7_method_4_code 4 = .ok (.iconst 0, 1) := by decide +kernel
theorem d_T_take_5 : decode prog_7_method_4_code 5 = .ok (.aload_n 0, 1) := by decide +kernel
theorem d_T_take_6 : decode prog_7_method_4_code 6 = .ok (.getfield 9, 3) := by decide +kernel
theorem d_T_take_9 : decode prog_7_method_4_code 9 = .ok (.iconst 0, 1) := by decide +kernel
theorem d_T_take_10 : decode prog_7_method_4_code 10 = .ok (.bipush 50, 2) := by decide +kernel
theorem d_T_take_12 : decode prog_7_method_4_code 12 = .ok (.invokestatic 23, 3) := by decide +kernel
theorem d_T_take_15 : decode prog_7_method_4_code 15 = .ok (.aload_n 1, 1) := by decide +kernel
theorem d_T_take_16 : decode prog_7_method_4_code 16 = .ok (.getfield 13, 3) := by decide +kernel
theorem d_T_take_19 : decode prog_7_method_4_code 19 = .ok (.iconst 0, 1) := by decide +kernel
theorem d_T_take_20 : decode prog_7_method_4_code 20 = .ok (.aload_n 0, 1) := by decide +kernel
theorem d_T_take_21 : decode prog_7_method_4_code 21 = .ok (.getfield 13, 3) := by decide +kernel
theorem d_T_take_24 : decode prog_7_method_4_code 24 = .ok (.iconst 0, 1) := by decide +kernel
theorem d_T_take_25 : decode prog_7_method_4_code 25 = .ok (.bipush 50, 2) := by decide +kernel
theorem d_T_take_27 : decode prog_7_method_4_code 27 = .ok (.invokestatic 23, 3) := by decide +kernel
theorem d_T_take_30 : decode prog_7_method_4_code 30 = .ok (.aload_n 0, 1) := by decide +kernel
theorem d_T_take_31 : decode prog_7_method_4_code 31 = .ok (.aload_n 1, 1) := by decide +kernel
theorem d_T_take_32 : decode prog_7_method_4_code 32 = .ok (.getfield 19, 3) := by decide +kernel
theorem d_T_take_35 : decode prog_7_method_4_code 35 = .ok (.putfield 19, 3) := by decide +kernel
theorem d_T_take_38 : decode prog_7_method_4_code 38 = .ok (.return_, 1) := by decide +kernel
def w_T_take (K : sm_Mem → Prop) (k : Nat) (o0 : Nat) (μ : sm_Mem) : Prop := isText k ∧ isText o0 ∧ ∀ μ6 : sm_Mem, μ6 = sm_cpy μ (o0 + 1) (k + 1) ((0 : Int32).toNatClampNeg) ((0 : Int32).toNatClampNeg) ((50 : Int32).toNatClampNeg) → ∀ μ12 : sm_Mem, μ12 = sm_cpy μ6 (o0 + 2) (k + 2) ((0 : Int32).toNatClampNeg) ((0 : Int32).toNatClampNeg) ((50 : Int32).toNatClampNeg) → ∀ μ13 : sm_Mem, μ13 = sm_st μ12 k 3 (μ12 o0 3) → K μ13
set_option maxHeartbeats 4000000 in
set_option maxRecDepth 100000 in
theorem P_T_take (l : Launch) {K : sm_Mem → Prop} {k : Nat} {o0 : Nat} {μ : sm_Mem} (h : w_T_take K k o0 μ) : sm_MV l ⟨"SnowMoney$Text", "take", "(LSnowMoney$Text;)V"⟩ prog_7_method_4_code 2 { frames := 1, cells := 0, slots := 0, locals := 40 } [sm_R k, sm_R o0] μ K := by
  refine sm_ofV (by decide +kernel) (fun _ => Nat.le_of_ble_eq_true rfl) ?_
  intro p e s m args below meth c A Q G C hR
  obtain ⟨t_k, h⟩ := h
  obtain ⟨t_o0, h⟩ := h
  refine sr_aload_n C 1 rfl rfl d_T_take_0 ?_
  refine sr_getR C sm_F4 0 q_84 t_o0.1 (r := o0 + 1) rfl (by decide) d_T_take_1 ?_
  refine sr_iconst C (v := 0) d_T_take_4 (by decide) ?_
  refine sr_aload_n C 0 rfl rfl d_T_take_5 ?_
  refine sr_getR C sm_F4 0 q_84 t_k.1 (r := k + 1) rfl (by decide) d_T_take_6 ?_
  refine sr_iconst C (v := 0) d_T_take_9 (by decide) ?_
  refine sr_bipush C (v := 50) d_T_take_10 (by decide) ?_
  refine sr_copy C t_o0.2.1 t_k.2.1 (by decide) (by decide) (by decide) (by decide) (by decide) q_197 q_sysn q_syss q_sysi (Nat.le_of_ble_eq_true rfl) (Nat.le_of_ble_eq_true rfl) d_T_take_12 ?_
  replace h := h _ rfl
  refine sr_aload_n C 1 rfl rfl d_T_take_15 ?_
  refine sr_getR C sm_F4 1 q_85 t_o0.1 (r := o0 + 2) rfl (by decide) d_T_take_16 ?_
  refine sr_iconst C (v := 0) d_T_take_19 (by decide) ?_
  refine sr_aload_n C 0 rfl rfl d_T_take_20 ?_
  refine sr_getR C sm_F4 1 q_85 t_k.1 (r := k + 2) rfl (by decide) d_T_take_21 ?_
  refine sr_iconst C (v := 0) d_T_take_24 (by decide) ?_
  refine sr_bipush C (v := 50) d_T_take_25 (by decide) ?_
  refine sr_copy C t_o0.2.2.1 t_k.2.2.1 (by decide) (by decide) (by decide) (by decide) (by decide) q_197 q_sysn q_syss q_sysi (Nat.le_of_ble_eq_true rfl) (Nat.le_of_ble_eq_true rfl) d_T_take_27 ?_
  replace h := h _ rfl
  refine sr_aload_n C 0 rfl rfl d_T_take_30 ?_
  refine sr_aload_n C 1 rfl rfl d_T_take_31 ?_
  refine sr_getI C sm_F4 3 q_82 t_o0.1 rfl (by decide) d_T_take_32 ?_
  refine sr_putI C sm_F4 3 q_82 t_k.1 rfl rfl (by decide) rfl d_T_take_35 ?_
  replace h := h _ rfl
  exact hR _ _ _ d_T_take_38 h
theorem d_JI_bitCount_0 : decode prog_12_method_49_code 0 = .ok (.iload_n 0, 1) := by decide +kernel
theorem d_JI_bitCount_1 : decode prog_12_method_49_code 1 = .ok (.iload_n 0, 1) := by decide +kernel
theorem d_JI_bitCount_2 : decode prog_12_method_49_code 2 = .ok (.iconst 1, 1) := by decide +kernel
theorem d_JI_bitCount_3 : decode prog_12_method_49_code 3 = .ok (.iushr, 1) := by decide +kernel
theorem d_JI_bitCount_4 : decode prog_12_method_49_code 4 = .ok (.ldc_w 265, 3) := by decide +kernel
theorem d_JI_bitCount_7 : decode prog_12_method_49_code 7 = .ok (.iand, 1) := by decide +kernel
theorem d_JI_bitCount_8 : decode prog_12_method_49_code 8 = .ok (.isub, 1) := by decide +kernel
theorem d_JI_bitCount_9 : decode prog_12_method_49_code 9 = .ok (.istore_n 0, 1) := by decide +kernel
theorem d_JI_bitCount_10 : decode prog_12_method_49_code 10 = .ok (.iload_n 0, 1) := by decide +kernel
theorem d_JI_bitCount_11 : decode prog_12_method_49_code 11 = .ok (.ldc_w 266, 3) := by decide +kernel
theorem d_JI_bitCount_14 : decode prog_12_method_49_code 14 = .ok (.iand, 1) := by decide +kernel
theorem d_JI_bitCount_15 : decode prog_12_method_49_code 15 = .ok (.iload_n 0, 1) := by decide +kernel
theorem d_JI_bitCount_16 : decode prog_12_method_49_code 16 = .ok (.iconst 2, 1) := by decide +kernel
theorem d_JI_bitCount_17 : decode prog_12_method_49_code 17 = .ok (.iushr, 1) := by decide +kernel
theorem d_JI_bitCount_18 : decode prog_12_method_49_code 18 = .ok (.ldc_w 266, 3) := by decide +kernel
theorem d_JI_bitCount_21 : decode prog_12_method_49_code 21 = .ok (.iand, 1) := by decide +kernel
theorem d_JI_bitCount_22 : decode prog_12_method_49_code 22 = .ok (.iadd, 1) := by decide +kernel
theorem d_JI_bitCount_23 : decode prog_12_method_49_code 23 = .ok (.istore_n 0, 1) := by decide +kernel
theorem d_JI_bitCount_24 : decode prog_12_method_49_code 24 = .ok (.iload_n 0, 1) := by decide +kernel
theorem d_JI_bitCount_25 : decode prog_12_method_49_code 25 = .ok (.iload_n 0, 1) := by decide +kernel
theorem d_JI_bitCount_26 : decode prog_12_method_49_code 26 = .ok (.iconst 4, 1) := by decide +kernel
theorem d_JI_bitCount_27 : decode prog_12_method_49_code 27 = .ok (.iushr, 1) := by decide +kernel
theorem d_JI_bitCount_28 : decode prog_12_method_49_code 28 = .ok (.iadd, 1) := by decide +kernel
theorem d_JI_bitCount_29 : decode prog_12_method_49_code 29 = .ok (.ldc_w 267, 3) := by decide +kernel
theorem d_JI_bitCount_32 : decode prog_12_method_49_code 32 = .ok (.iand, 1) := by decide +kernel
theorem d_JI_bitCount_33 : decode prog_12_method_49_code 33 = .ok (.istore_n 0, 1) := by decide +kernel
theorem d_JI_bitCount_34 : decode prog_12_method_49_code 34 = .ok (.iload_n 0, 1) := by decide +kernel
theorem d_JI_bitCount_35 : decode prog_12_method_49_code 35 = .ok (.iload_n 0, 1) := by decide +kernel
theorem d_JI_bitCount_36 : decode prog_12_method_49_code 36 = .ok (.bipush 8, 2) := by decide +kernel
theorem d_JI_bitCount_38 : decode prog_12_method_49_code 38 = .ok (.iushr, 1) := by decide +kernel
theorem d_JI_bitCount_39 : decode prog_12_method_49_code 39 = .ok (.iadd, 1) := by decide +kernel
theorem d_JI_bitCount_40 : decode prog_12_method_49_code 40 = .ok (.istore_n 0, 1) := by decide +kernel
theorem d_JI_bitCount_41 : decode prog_12_method_49_code 41 = .ok (.iload_n 0, 1) := by decide +kernel
theorem d_JI_bitCount_42 : decode prog_12_method_49_code 42 = .ok (.iload_n 0, 1) := by decide +kernel
theorem d_JI_bitCount_43 : decode prog_12_method_49_code 43 = .ok (.bipush 16, 2) := by decide +kernel
theorem d_JI_bitCount_45 : decode prog_12_method_49_code 45 = .ok (.iushr, 1) := by decide +kernel
theorem d_JI_bitCount_46 : decode prog_12_method_49_code 46 = .ok (.iadd, 1) := by decide +kernel
theorem d_JI_bitCount_47 : decode prog_12_method_49_code 47 = .ok (.istore_n 0, 1) := by decide +kernel
theorem d_JI_bitCount_48 : decode prog_12_method_49_code 48 = .ok (.iload_n 0, 1) := by decide +kernel
theorem d_JI_bitCount_49 : decode prog_12_method_49_code 49 = .ok (.bipush 63, 2) := by decide +kernel
theorem d_JI_bitCount_51 : decode prog_12_method_49_code 51 = .ok (.iand, 1) := by decide +kernel
theorem d_JI_bitCount_52 : decode prog_12_method_49_code 52 = .ok (.ireturn, 1) := by decide +kernel
def w_JI_bitCount (K : Int32 → sm_Mem → Prop) (p0 : Int32) (μ : sm_Mem) : Prop := ∀ v1 : Int32, v1 = (p0 - ((p0.toUInt32 >>> ((1 : Int32).toUInt32 &&& Int32.toUInt32 31)).toInt32 &&& 1431655765)) → ∀ v2 : Int32, v2 = ((v1 &&& 858993459) + ((v1.toUInt32 >>> ((2 : Int32).toUInt32 &&& Int32.toUInt32 31)).toInt32 &&& 858993459)) → ∀ v3 : Int32, v3 = ((v2 + (v2.toUInt32 >>> ((4 : Int32).toUInt32 &&& Int32.toUInt32 31)).toInt32) &&& 252645135) → ∀ v4 : Int32, v4 = (v3 + (v3.toUInt32 >>> ((8 : Int32).toUInt32 &&& Int32.toUInt32 31)).toInt32) → ∀ v5 : Int32, v5 = (v4 + (v4.toUInt32 >>> ((16 : Int32).toUInt32 &&& Int32.toUInt32 31)).toInt32) → K (v5 &&& 63) μ
set_option maxHeartbeats 4000000 in
set_option maxRecDepth 100000 in
theorem P_JI_bitCount (l : Launch) {K : Int32 → sm_Mem → Prop} {p0 : Int32} {μ : sm_Mem} (h : w_JI_bitCount K p0 μ) : sm_MI l ⟨"java/lang/Integer", "bitCount", "(I)I"⟩ prog_12_method_49_code 1 (some .int) { frames := 0, cells := 0, slots := 0, locals := 0 } [sm_I p0] μ K := by
  refine sm_ofI (by decide +kernel) (fun _ => Nat.le_of_ble_eq_true rfl) ?_
  intro p e s m args below meth c A Q G C hR
  refine sr_iload_n C 0 rfl rfl d_JI_bitCount_0 ?_
  refine sr_iload_n C 0 rfl rfl d_JI_bitCount_1 ?_
  refine sr_iconst C (v := 1) d_JI_bitCount_2 (by decide) ?_
  refine sr_iushr C d_JI_bitCount_3 ?_
  refine sr_ldcw C q_292 d_JI_bitCount_4 ?_
  refine sr_iand C d_JI_bitCount_7 ?_
  refine sr_isub C d_JI_bitCount_8 ?_
  replace h := h _ rfl
  refine sr_istore_n C rfl (by decide) d_JI_bitCount_9 ?_
  refine sr_iload_n C 0 rfl rfl d_JI_bitCount_10 ?_
  refine sr_ldcw C q_293 d_JI_bitCount_11 ?_
  refine sr_iand C d_JI_bitCount_14 ?_
  refine sr_iload_n C 0 rfl rfl d_JI_bitCount_15 ?_
  refine sr_iconst C (v := 2) d_JI_bitCount_16 (by decide) ?_
  refine sr_iushr C d_JI_bitCount_17 ?_
  refine sr_ldcw C q_293 d_JI_bitCount_18 ?_
  refine sr_iand C d_JI_bitCount_21 ?_
  refine sr_iadd C d_JI_bitCount_22 ?_
  replace h := h _ rfl
  refine sr_istore_n C rfl (by decide) d_JI_bitCount_23 ?_
  refine sr_iload_n C 0 rfl rfl d_JI_bitCount_24 ?_
  refine sr_iload_n C 0 rfl rfl d_JI_bitCount_25 ?_
  refine sr_iconst C (v := 4) d_JI_bitCount_26 (by decide) ?_
  refine sr_iushr C d_JI_bitCount_27 ?_
  refine sr_iadd C d_JI_bitCount_28 ?_
  refine sr_ldcw C q_294 d_JI_bitCount_29 ?_
  refine sr_iand C d_JI_bitCount_32 ?_
  replace h := h _ rfl
  refine sr_istore_n C rfl (by decide) d_JI_bitCount_33 ?_
  refine sr_iload_n C 0 rfl rfl d_JI_bitCount_34 ?_
  refine sr_iload_n C 0 rfl rfl d_JI_bitCount_35 ?_
  refine sr_bipush C (v := 8) d_JI_bitCount_36 (by decide) ?_
  refine sr_iushr C d_JI_bitCount_38 ?_
  refine sr_iadd C d_JI_bitCount_39 ?_
  replace h := h _ rfl
  refine sr_istore_n C rfl (by decide) d_JI_bitCount_40 ?_
  refine sr_iload_n C 0 rfl rfl d_JI_bitCount_41 ?_
  refine sr_iload_n C 0 rfl rfl d_JI_bitCount_42 ?_
  refine sr_bipush C (v := 16) d_JI_bitCount_43 (by decide) ?_
  refine sr_iushr C d_JI_bitCount_45 ?_
  refine sr_iadd C d_JI_bitCount_46 ?_
  replace h := h _ rfl
  refine sr_istore_n C rfl (by decide) d_JI_bitCount_47 ?_
  refine sr_iload_n C 0 rfl rfl d_JI_bitCount_48 ?_
  refine sr_bipush C (v := 63) d_JI_bitCount_49 (by decide) ?_
  refine sr_iand C d_JI_bitCount_51 ?_
  exact hR _ _ _ _ d_JI_bitCount_52 rfl h
theorem d_JA_fill_0 : decode prog_18_method_103_code 0 = .ok (.iconst 0, 1) := by decide +kernel
theorem d_JA_fill_1 : decode prog_18_method_103_code 1 = .ok (.istore_n 2, 1) := by decide +kernel
theorem d_JA_fill_2 : decode prog_18_method_103_code 2 = .ok (.aload_n 0, 1) := by decide +kernel
theorem d_JA_fill_3 : decode prog_18_method_103_code 3 = .ok (.arraylength, 1) := by decide +kernel
theorem d_JA_fill_4 : decode prog_18_method_103_code 4 = .ok (.istore_n 3, 1) := by decide +kernel
theorem d_JA_fill_5 : decode prog_18_method_103_code 5 = .ok (.iload_n 2, 1) := by decide +kernel
theorem d_JA_fill_6 : decode prog_18_method_103_code 6 = .ok (.iload_n 3, 1) := by decide +kernel
theorem d_JA_fill_7 : decode prog_18_method_103_code 7 = .ok (.if_icmp .ge 13, 3) := by decide +kernel
theorem d_JA_fill_10 : decode prog_18_method_103_code 10 = .ok (.aload_n 0, 1) := by decide +kernel
theorem d_JA_fill_11 : decode prog_18_method_103_code 11 = .ok (.iload_n 2, 1) := by decide +kernel
theorem d_JA_fill_12 : decode prog_18_method_103_code 12 = .ok (.iload_n 1, 1) := by decide +kernel
theorem d_JA_fill_13 : decode prog_18_method_103_code 13 = .ok (.iastore, 1) := by decide +kernel
theorem d_JA_fill_14 : decode prog_18_method_103_code 14 = .ok (.iinc 2 1, 3) := by decide +kernel
theorem d_JA_fill_17 : decode prog_18_method_103_code 17 = .ok (.goto (-12), 3) := by decide +kernel
theorem d_JA_fill_20 : decode prog_18_method_103_code 20 = .ok (.return_, 1) := by decide +kernel
def w_JA_fill_5 (K : sm_Mem → Prop) (a0 : Nat) (n : Nat) (p1 : Int32) (x2 : Int32) (x3 : Int32) (μ : sm_Mem) : Prop := sm_lp1 (fun J5 x2 μ => if x3 ≤ x2 then K μ else (vp_in x2 n ∧ ∀ μ4 : sm_Mem, μ4 = sm_st μ a0 (x2.toNatClampNeg) p1 → J5 (x2 + 1) μ4)) x2 μ
def w_JA_fill (K : sm_Mem → Prop) (a0 : Nat) (p1 : Int32) (n : Nat) (μ : sm_Mem) : Prop := isArr a0 n ∧ ∀ v1 : Int32, v1 = (Int32.ofNat n) → w_JA_fill_5 K a0 n p1 0 v1 μ
set_option maxHeartbeats 4000000 in
set_option maxRecDepth 100000 in
theorem P_JA_fill (l : Launch) {K : sm_Mem → Prop} {a0 : Nat} {p1 : Int32} {n : Nat} {μ : sm_Mem} (h : w_JA_fill K a0 p1 n μ) : sm_MV l ⟨"java/util/Arrays", "fill", "([II)V"⟩ prog_18_method_103_code 4 { frames := 0, cells := 0, slots := 0, locals := 0 } [sm_R a0, sm_I p1] μ K := by
  refine sm_ofV (by decide +kernel) (fun _ => Nat.le_of_ble_eq_true rfl) ?_
  intro p e s m args below meth c A Q G C hR
  obtain ⟨t_a0, h⟩ := h
  have B5 : ∀ (x2 : Int32) (x3 : Int32) (μ : sm_Mem), w_JA_fill_5 K a0 n p1 x2 x3 μ → sm_W p l e { frames := 0, cells := 0, slots := 0, locals := 0 } s m args below meth c A Q G 4 0 0 5 [] [(0, sm_R a0), (1, sm_I p1), (2, sm_I x2), (3, sm_I x3)] μ := by
    intro x2 x3 μ h
    refine sm_lp1_sound (P := fun x2 μ => sm_W p l e { frames := 0, cells := 0, slots := 0, locals := 0 } s m args below meth c A Q G 4 0 0 5 [] [(0, sm_R a0), (1, sm_I p1), (2, sm_I x2), (3, sm_I x3)] μ) (fun J5 x2 μ hJ5 h => ?_) h
    refine sr_iload_n C 2 rfl rfl d_JA_fill_5 ?_
    refine sr_iload_n C 3 rfl rfl d_JA_fill_6 ?_
    refine sr_icmp_ge C (tgt := 20) d_JA_fill_7 (by decide) (fun c2 => ?_) (fun c2 => ?_)
    · replace h := Eq.mp (if_pos c2) h
      exact hR _ _ _ d_JA_fill_20 h
    · replace h := Eq.mp (if_neg c2) h
      refine sr_aload_n C 0 rfl rfl d_JA_fill_10 ?_
      refine sr_iload_n C 2 rfl rfl d_JA_fill_11 ?_
      refine sr_iload_n C 1 rfl rfl d_JA_fill_12 ?_
      obtain ⟨g3, h⟩ := h
      refine sr_iast C t_a0 g3 d_JA_fill_13 ?_
      replace h := h _ rfl
      refine sr_iinc C 2 rfl (by decide) d_JA_fill_14 rfl ?_
      refine sr_goto C (tgt := 5) (by decide) d_JA_fill_17 ?_
      refine sr_mask C [1, 2, 0, 3] rfl ?_
      exact hJ5 _ _ h
  refine sr_iconst C (v := 0) d_JA_fill_0 (by decide) ?_
  refine sr_istore_n C rfl (by decide) d_JA_fill_1 ?_
  refine sr_aload_n C 1 rfl rfl d_JA_fill_2 ?_
  refine sr_alen C t_a0 (v := Int32.ofNat n) rfl d_JA_fill_3 ?_
  replace h := h _ rfl
  refine sr_istore_n C rfl (by decide) d_JA_fill_4 ?_
  refine sr_mask C [2, 3, 1, 0] rfl ?_
  exact B5 _ _ _ h
theorem d_S_numberAt_0 : decode prog_6_method_4_code 0 = .ok (.iload_n 1, 1) := by decide +kernel
theorem d_S_numberAt_1 : decode prog_6_method_4_code 1 = .ok (.ifCond .lt 20, 3) := by decide +kernel
theorem d_S_numberAt_4 : decode prog_6_method_4_code 4 = .ok (.iload_n 1, 1) := by decide +kernel
theorem d_S_numberAt_5 : decode prog_6_method_4_code 5 = .ok (.aload_n 0, 1) := by decide +kernel
theorem d_S_numberAt_6 : decode prog_6_method_4_code 6 = .ok (.getfield 32, 3) := by decide +kernel
theorem d_S_numberAt_9 : decode prog_6_method_4_code 9 = .ok (.if_icmp .ge 12, 3) := by decide +kernel
theorem d_S_numberAt_12 : decode prog_6_method_4_code 12 = .ok (.aload_n 0, 1) := by decide +kernel
theorem d_S_numberAt_13 : decode prog_6_method_4_code 13 = .ok (.getfield 9, 3) := by decide +kernel
theorem d_S_numberAt_16 : decode prog_6_method_4_code 16 = .ok (.iload_n 1, 1) := by decide +kernel
theorem d_S_numberAt_17 : decode prog_6_method_4_code 17 = .ok (.iaload, 1) := by decide +kernel
theorem d_S_numberAt_18 : decode prog_6_method_4_code 18 = .ok (.goto 4, 3) := by decide +kernel
theorem d_S_numberAt_21 : decode prog_6_method_4_code 21 = .ok (.iconst 0, 1) := by decide +kernel
theorem d_S_numberAt_22 : decode prog_6_method_4_code 22 = .ok (.ireturn, 1) := by decide +kernel
def w_S_numberAt (K : Int32 → sm_Mem → Prop) (k : Nat) (p0 : Int32) (μ : sm_Mem) : Prop := isSheet k ∧ if p0 < 0 then K 0 μ else (if (μ k 2) ≤ p0 then K 0 μ else (vp_in p0 40 ∧ K (μ (k + 1) p0.toNatClampNeg) μ))
set_option maxHeartbeats 4000000 in
set_option maxRecDepth 100000 in
theorem P_S_numberAt (l : Launch) {K : Int32 → sm_Mem → Prop} {k : Nat} {p0 : Int32} {μ : sm_Mem} (h : w_S_numberAt K k p0 μ) : sm_MI l ⟨"SnowMoney$Sheet", "numberAt", "(I)I"⟩ prog_6_method_4_code 2 (some .int) { frames := 0, cells := 0, slots := 0, locals := 0 } [sm_R k, sm_I p0] μ K := by
  refine sm_ofI (by decide +kernel) (fun _ => Nat.le_of_ble_eq_true rfl) ?_
  intro p e s m args below meth c A Q G C hR
  obtain ⟨t_k, h⟩ := h
  refine sr_iload_n C 1 rfl rfl d_S_numberAt_0 ?_
  refine sr_if_lt C (tgt := 21) d_S_numberAt_1 (by decide) (fun c1 => ?_) (fun c1 => ?_)
  · replace h := Eq.mp (if_pos c1) h
    refine sr_iconst C (v := 0) d_S_numberAt_21 (by decide) ?_
    exact hR _ _ _ _ d_S_numberAt_22 rfl h
  · replace h := Eq.mp (if_neg c1) h
    refine sr_iload_n C 1 rfl rfl d_S_numberAt_4 ?_
    refine sr_aload_n C 0 rfl rfl d_S_numberAt_5 ?_
    refine sr_getI C sm_F3 2 q_341 t_k.1 rfl (by decide) d_S_numberAt_6 ?_
    refine sr_icmp_ge C (tgt := 21) d_S_numberAt_9 (by decide) (fun c2 => ?_) (fun c2 => ?_)
    · replace h := Eq.mp (if_pos c2) h
      refine sr_iconst C (v := 0) d_S_numberAt_21 (by decide) ?_
      exact hR _ _ _ _ d_S_numberAt_22 rfl h
    · replace h := Eq.mp (if_neg c2) h
      refine sr_aload_n C 0 rfl rfl d_S_numberAt_12 ?_
      refine sr_getR C sm_F3 0 q_342 t_k.1 (r := k + 1) rfl (by decide) d_S_numberAt_13 ?_
      refine sr_iload_n C 1 rfl rfl d_S_numberAt_16 ?_
      obtain ⟨g3, h⟩ := h
      refine sr_iald C t_k.2 g3 d_S_numberAt_17 ?_
      refine sr_goto C (tgt := 22) (by decide) d_S_numberAt_18 ?_
      exact hR _ _ _ _ d_S_numberAt_22 rfl h
theorem d_S_isMissing_0 : decode prog_6_method_2_code 0 = .ok (.aload_n 0, 1) := by decide +kernel
theorem d_S_isMissing_1 : decode prog_6_method_2_code 1 = .ok (.getfield 13, 3) := by decide +kernel
theorem d_S_isMissing_4 : decode prog_6_method_2_code 4 = .ok (.ifCond .ne 7, 3) := by decide +kernel
theorem d_S_isMissing_7 : decode prog_6_method_2_code 7 = .ok (.iconst 1, 1) := by decide +kernel
theorem d_S_isMissing_8 : decode prog_6_method_2_code 8 = .ok (.goto 4, 3) := by decide +kernel
theorem d_S_isMissing_11 : decode prog_6_method_2_code 11 = .ok (.iconst 0, 1) := by decide +kernel
theorem d_S_isMissing_12 : decode prog_6_method_2_code 12 = .ok (.ireturn, 1) := by decide +kernel
def w_S_isMissing (K : Int32 → sm_Mem → Prop) (k : Nat) (μ : sm_Mem) : Prop := isSheet k ∧ if (μ k 1) = 0 then K 1 μ else K 0 μ
set_option maxHeartbeats 4000000 in
set_option maxRecDepth 100000 in
theorem P_S_isMissing (l : Launch) {K : Int32 → sm_Mem → Prop} {k : Nat} {μ : sm_Mem} (h : w_S_isMissing K k μ) : sm_MI l ⟨"SnowMoney$Sheet", "isMissing", "()Z"⟩ prog_6_method_2_code 1 (some .boolean) { frames := 0, cells := 0, slots := 0, locals := 0 } [sm_R k] μ K := by
  refine sm_ofI (by decide +kernel) (fun _ => Nat.le_of_ble_eq_true rfl) ?_
  intro p e s m args below meth c A Q G C hR
  obtain ⟨t_k, h⟩ := h
  refine sr_aload_n C 0 rfl rfl d_S_isMissing_0 ?_
  refine sr_getI C sm_F3 1 q_343 t_k.1 rfl (by decide) d_S_isMissing_1 ?_
  refine sr_if_ne C (tgt := 11) d_S_isMissing_4 (by decide) (fun c1 => ?_) (fun c1 => ?_)
  · replace h := Eq.mp (if_neg c1) h
    refine sr_iconst C (v := 0) d_S_isMissing_11 (by decide) ?_
    exact hR _ _ _ _ d_S_isMissing_12 rfl h
  · replace h := Eq.mp (if_pos c1) h
    refine sr_iconst C (v := 1) d_S_isMissing_7 (by decide) ?_
    refine sr_goto C (tgt := 12) (by decide) d_S_isMissing_8 ?_
    exact hR _ _ _ _ d_S_isMissing_12 rfl h
theorem d_S_makeAnew_0 : decode prog_6_method_3_code 0 = .ok (.aload_n 0, 1) := by decide +kernel
theorem d_S_makeAnew_1 : decode prog_6_method_3_code 1 = .ok (.getfield 9, 3) := by decide +kernel
theorem d_S_makeAnew_4 : decode prog_6_method_3_code 4 = .ok (.iconst 0, 1) := by decide +kernel
theorem d_S_makeAnew_5 : decode prog_6_method_3_code 5 = .ok (.invokestatic 17, 3) := by decide +kernel
theorem d_S_makeAnew_8 : decode prog_6_method_3_code 8 = .ok (.aload_n 0, 1) := by decide +kernel
theorem d_S_makeAnew_9 : decode prog_6_method_3_code 9 = .ok (.iload_n 1, 1) := by decide +kernel
theorem d_S_makeAnew_10 : decode prog_6_method_3_code 10 = .ok (.putfield 13, 3) := by decide +kernel
theorem d_S_makeAnew_13 : decode prog_6_method_3_code 13 = .ok (.aload_n 0, 1) := by decide +kernel
theorem d_S_makeAnew_14 : decode prog_6_method_3_code 14 = .ok (.iconst 0, 1) := by decide +kernel
theorem d_S_makeAnew_15 : decode prog_6_method_3_code 15 = .ok (.iload_n 2, 1) := by decide +kernel
theorem d_S_makeAnew_16 : decode prog_6_method_3_code 16 = .ok (.bipush 40, 2) := by decide +kernel
theorem d_S_makeAnew_18 : decode prog_6_method_3_code 18 = .ok (.invokestatic 23, 3) := by decide +kernel
theorem d_S_makeAnew_21 : decode prog_6_method_3_code 21 = .ok (.invokestatic 29, 3) := by decide +kernel
theorem d_S_makeAnew_24 : decode prog_6_method_3_code 24 = .ok (.putfield 32, 3) := by decide +kernel
theorem d_S_makeAnew_27 : decode prog_6_method_3_code 27 = .ok (.return_, 1) := by decide +kernel
def w_S_makeAnew (K : sm_Mem → Prop) (k : Nat) (p0 : Int32) (p1 : Int32) (μ : sm_Mem) : Prop := isSheet k ∧ w_JA_fill (fun μ1 => ∀ μ2 : sm_Mem, μ2 = sm_st μ1 k 1 p0 → ∀ μ3 : sm_Mem, μ3 = sm_st μ2 k 2 (if 0 < (if 40 < p1 then 40 else p1) then (if 40 < p1 then 40 else p1) else 0) → K μ3) (k + 1) 0 40 μ
set_option maxHeartbeats 4000000 in
set_option maxRecDepth 100000 in
theorem P_S_makeAnew (l : Launch) {K : sm_Mem → Prop} {k : Nat} {p0 : Int32} {p1 : Int32} {μ : sm_Mem} (h : w_S_makeAnew K k p0 p1 μ) : sm_MV l ⟨"SnowMoney$Sheet", "makeAnew", "(II)V"⟩ prog_6_method_3_code 3 { frames := 1, cells := 0, slots := 0, locals := 24 } [sm_R k, sm_I p0, sm_I p1] μ K := by
  refine sm_ofV (by decide +kernel) (fun _ => Nat.le_of_ble_eq_true rfl) ?_
  intro p e s m args below meth c A Q G C hR
  obtain ⟨t_k, h⟩ := h
  refine sr_aload_n C 0 rfl rfl d_S_makeAnew_0 ?_
  refine sr_getR C sm_F3 0 q_342 t_k.1 (r := k + 1) rfl (by decide) d_S_makeAnew_1 ?_
  refine sr_iconst C (v := 0) d_S_makeAnew_4 (by decide) ?_
  refine sr_callSV C [sm_R _, sm_I _] (P_JA_fill l h) ok_89 rfl rfl rfl ⟨Nat.le_of_ble_eq_true rfl, Nat.le_of_ble_eq_true rfl⟩ (Nat.le_of_ble_eq_true rfl) ⟨Nat.zero_le _, Nat.zero_le _⟩ d_S_makeAnew_5 (fun μ1 h => ?_)
  refine sr_aload_n C 0 rfl rfl d_S_makeAnew_8 ?_
  refine sr_iload_n C 1 rfl rfl d_S_makeAnew_9 ?_
  refine sr_putI C sm_F3 1 q_343 t_k.1 rfl rfl (by decide) rfl d_S_makeAnew_10 ?_
  replace h := h _ rfl
  refine sr_aload_n C 0 rfl rfl d_S_makeAnew_13 ?_
  refine sr_iconst C (v := 0) d_S_makeAnew_14 (by decide) ?_
  refine sr_iload_n C 2 rfl rfl d_S_makeAnew_15 ?_
  refine sr_bipush C (v := 40) d_S_makeAnew_16 (by decide) ?_
  refine sr_mmin C q_393 q_mmin1 q_mini q_mmin2 (Nat.le_of_ble_eq_true rfl) (Nat.le_of_ble_eq_true rfl) ⟨Nat.zero_le _, Nat.zero_le _⟩ d_S_makeAnew_18 ?_
  refine sr_mmax C q_394 q_mmax1 q_mini q_mmax2 (Nat.le_of_ble_eq_true rfl) (Nat.le_of_ble_eq_true rfl) ⟨Nat.zero_le _, Nat.zero_le _⟩ d_S_makeAnew_21 ?_
  refine sr_putI C sm_F3 2 q_341 t_k.1 rfl rfl (by decide) rfl d_S_makeAnew_24 ?_
  replace h := h _ rfl
  exact hR _ _ _ d_S_makeAnew_27 h
theorem d_S_lowestBits_0 : decode prog_6_method_6_code 0 = .ok (.aload_n 0, 1) := by decide +kernel
theorem d_S_lowestBits_1 : decode prog_6_method_6_code 1 = .ok (.getfield 13, 3) := by decide +kernel
theorem d_S_lowestBits_4 : decode prog_6_method_6_code 4 = .ok (.lookupswitch 34 #[(8, 28), (16, 31)], 28) := by decide +kernel
theorem d_S_lowestBits_32 : decode prog_6_method_6_code 32 = .ok (.iload_n 1, 1) := by decide +kernel
theorem d_S_lowestBits_33 : decode prog_6_method_6_code 33 = .ok (.i2b, 1) := by decide +kernel
theorem d_S_lowestBits_34 : decode prog_6_method_6_code 34 = .ok (.ireturn, 1) := by decide +kernel
theorem d_S_lowestBits_35 : decode prog_6_method_6_code 35 = .ok (.iload_n 1, 1) := by decide +kernel
theorem d_S_lowestBits_36 : decode prog_6_method_6_code 36 = .ok (.i2s, 1) := by decide +kernel
theorem d_S_lowestBits_37 : decode prog_6_method_6_code 37 = .ok (.ireturn, 1) := by decide +kernel
theorem d_S_lowestBits_38 : decode prog_6_method_6_code 38 = .ok (.iload_n 1, 1) := by decide +kernel
theorem d_S_lowestBits_39 : decode prog_6_method_6_code 39 = .ok (.ireturn, 1) := by decide +kernel
def w_S_lowestBits (K : Int32 → sm_Mem → Prop) (k : Nat) (p0 : Int32) (μ : sm_Mem) : Prop := isSheet k ∧ ∀ v1 : Int32, v1 = (μ k 1) → if v1 = 8 then K p0.toInt8.toInt32 μ else (if v1 = 16 then K p0.toInt16.toInt32 μ else K p0 μ)
set_option maxHeartbeats 4000000 in
set_option maxRecDepth 100000 in
theorem P_S_lowestBits (l : Launch) {K : Int32 → sm_Mem → Prop} {k : Nat} {p0 : Int32} {μ : sm_Mem} (h : w_S_lowestBits K k p0 μ) : sm_MI l ⟨"SnowMoney$Sheet", "lowestBits", "(I)I"⟩ prog_6_method_6_code 2 (some .int) { frames := 0, cells := 0, slots := 0, locals := 0 } [sm_R k, sm_I p0] μ K := by
  refine sm_ofI (by decide +kernel) (fun _ => Nat.le_of_ble_eq_true rfl) ?_
  intro p e s m args below meth c A Q G C hR
  obtain ⟨t_k, h⟩ := h
  refine sr_aload_n C 0 rfl rfl d_S_lowestBits_0 ?_
  refine sr_getI C sm_F3 1 q_343 t_k.1 rfl (by decide) d_S_lowestBits_1 ?_
  refine sm_name (fun v1 ev1 => ?_)
  replace h := h v1 ev1
  by_cases c2 : v1 = 8
  · replace h := Eq.mp (if_pos c2) h
    refine sr_lookup C (tgt := 32) (off := 28) d_S_lowestBits_4 (by decide) (by rw [c2]; decide) (by decide) ?_
    refine sr_iload_n C 1 rfl rfl d_S_lowestBits_32 ?_
    refine sr_i2b C d_S_lowestBits_33 ?_
    exact hR _ _ _ _ d_S_lowestBits_34 rfl h
  · replace h := Eq.mp (if_neg c2) h
    by_cases c3 : v1 = 16
    · replace h := Eq.mp (if_pos c3) h
      refine sr_lookup C (tgt := 35) (off := 31) d_S_lowestBits_4 (by decide) (by rw [c3]; decide) (by decide) ?_
      refine sr_iload_n C 1 rfl rfl d_S_lowestBits_35 ?_
      refine sr_i2s C d_S_lowestBits_36 ?_
      exact hR _ _ _ _ d_S_lowestBits_37 rfl h
    · replace h := Eq.mp (if_neg c3) h
      have i0 := sm_ne c2 (z := 8) (by decide)
      have i1 := sm_ne c3 (z := 16) (by decide)
      refine sr_lookup C (tgt := 38) (off := 34) d_S_lowestBits_4 (by decide) (by simp [Op.lookupswitch.offset, Ne.symm i0, Ne.symm i1]) (by decide) ?_
      refine sr_iload_n C 1 rfl rfl d_S_lowestBits_38 ?_
      exact hR _ _ _ _ d_S_lowestBits_39 rfl h
theorem d_S_hasRun_0 : decode prog_6_method_5_code 0 = .ok (.iload_n 1, 1) := by decide +kernel
theorem d_S_hasRun_1 : decode prog_6_method_5_code 1 = .ok (.ifCond .lt 29, 3) := by decide +kernel
theorem d_S_hasRun_4 : decode prog_6_method_5_code 4 = .ok (.iload_n 2, 1) := by decide +kernel
theorem d_S_hasRun_5 : decode prog_6_method_5_code 5 = .ok (.ifCond .lt 25, 3) := by decide +kernel
theorem d_S_hasRun_8 : decode prog_6_method_5_code 8 = .ok (.iload_n 2, 1) := by decide +kernel
theorem d_S_hasRun_9 : decode prog_6_method_5_code 9 = .ok (.aload_n 0, 1) := by decide +kernel
theorem d_S_hasRun_10 : decode prog_6_method_5_code 10 = .ok (.getfield 32, 3) := by decide +kernel
theorem d_S_hasRun_13 : decode prog_6_method_5_code 13 = .ok (.if_icmp .gt 17, 3) := by decide +kernel
theorem d_S_hasRun_16 : decode prog_6_method_5_code 16 = .ok (.iload_n 1, 1) := by decide +kernel
theorem d_S_hasRun_17 : decode prog_6_method_5_code 17 = .ok (.aload_n 0, 1) := by decide +kernel
theorem d_S_hasRun_18 : decode prog_6_method_5_code 18 = .ok (.getfield 32, 3) := by decide +kernel
theorem d_S_hasRun_21 : decode prog_6_method_5_code 21 = .ok (.iload_n 2, 1) := by decide +kernel
theorem d_S_hasRun_22 : decode prog_6_method_5_code 22 = .ok (.isub, 1) := by decide +kernel
theorem d_S_hasRun_23 : decode prog_6_method_5_code 23 = .ok (.if_icmp .gt 7, 3) := by decide +kernel
theorem d_S_hasRun_26 : decode prog_6_method_5_code 26 = .ok (.iconst 1, 1) := by decide +kernel
theorem d_S_hasRun_27 : decode prog_6_method_5_code 27 = .ok (.goto 4, 3) := by decide +kernel
theorem d_S_hasRun_30 : decode prog_6_method_5_code 30 = .ok (.iconst 0, 1) := by decide +kernel
theorem d_S_hasRun_31 : decode prog_6_method_5_code 31 = .ok (.ireturn, 1) := by decide +kernel
def w_S_hasRun (K : Int32 → sm_Mem → Prop) (k : Nat) (p0 : Int32) (p1 : Int32) (μ : sm_Mem) : Prop := isSheet k ∧ if p0 < 0 then K 0 μ else (if p1 < 0 then K 0 μ else (if (μ k 2) < p1 then K 0 μ else (if ((μ k 2) - p1) < p0 then K 0 μ else K 1 μ)))
set_option maxHeartbeats 4000000 in
set_option maxRecDepth 100000 in
theorem P_S_hasRun (l : Launch) {K : Int32 → sm_Mem → Prop} {k : Nat} {p0 : Int32} {p1 : Int32} {μ : sm_Mem} (h : w_S_hasRun K k p0 p1 μ) : sm_MI l ⟨"SnowMoney$Sheet", "hasRun", "(II)Z"⟩ prog_6_method_5_code 3 (some .boolean) { frames := 0, cells := 0, slots := 0, locals := 0 } [sm_R k, sm_I p0, sm_I p1] μ K := by
  refine sm_ofI (by decide +kernel) (fun _ => Nat.le_of_ble_eq_true rfl) ?_
  intro p e s m args below meth c A Q G C hR
  obtain ⟨t_k, h⟩ := h
  refine sr_iload_n C 1 rfl rfl d_S_hasRun_0 ?_
  refine sr_if_lt C (tgt := 30) d_S_hasRun_1 (by decide) (fun c1 => ?_) (fun c1 => ?_)
  · replace h := Eq.mp (if_pos c1) h
    refine sr_iconst C (v := 0) d_S_hasRun_30 (by decide) ?_
    exact hR _ _ _ _ d_S_hasRun_31 rfl h
  · replace h := Eq.mp (if_neg c1) h
    refine sr_iload_n C 2 rfl rfl d_S_hasRun_4 ?_
    refine sr_if_lt C (tgt := 30) d_S_hasRun_5 (by decide) (fun c2 => ?_) (fun c2 => ?_)
    · replace h := Eq.mp (if_pos c2) h
      refine sr_iconst C (v := 0) d_S_hasRun_30 (by decide) ?_
      exact hR _ _ _ _ d_S_hasRun_31 rfl h
    · replace h := Eq.mp (if_neg c2) h
      refine sr_iload_n C 2 rfl rfl d_S_hasRun_8 ?_
      refine sr_aload_n C 0 rfl rfl d_S_hasRun_9 ?_
      refine sr_getI C sm_F3 2 q_341 t_k.1 rfl (by decide) d_S_hasRun_10 ?_
      refine sr_icmp_gt C (tgt := 30) d_S_hasRun_13 (by decide) (fun c3 => ?_) (fun c3 => ?_)
      · replace h := Eq.mp (if_pos c3) h
        refine sr_iconst C (v := 0) d_S_hasRun_30 (by decide) ?_
        exact hR _ _ _ _ d_S_hasRun_31 rfl h
      · replace h := Eq.mp (if_neg c3) h
        refine sr_iload_n C 1 rfl rfl d_S_hasRun_16 ?_
        refine sr_aload_n C 0 rfl rfl d_S_hasRun_17 ?_
        refine sr_getI C sm_F3 2 q_341 t_k.1 rfl (by decide) d_S_hasRun_18 ?_
        refine sr_iload_n C 2 rfl rfl d_S_hasRun_21 ?_
        refine sr_isub C d_S_hasRun_22 ?_
        refine sr_icmp_gt C (tgt := 30) d_S_hasRun_23 (by decide) (fun c4 => ?_) (fun c4 => ?_)
        · replace h := Eq.mp (if_pos c4) h
          refine sr_iconst C (v := 0) d_S_hasRun_30 (by decide) ?_
          exact hR _ _ _ _ d_S_hasRun_31 rfl h
        · replace h := Eq.mp (if_neg c4) h
          refine sr_iconst C (v := 1) d_S_hasRun_26 (by decide) ?_
          refine sr_goto C (tgt := 31) (by decide) d_S_hasRun_27 ?_
          exact hR _ _ _ _ d_S_hasRun_31 rfl h

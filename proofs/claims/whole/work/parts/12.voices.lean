theorem d_V_bodyOf_0 : decode prog_8_method_3_code 0 = .ok (.iload_n 0, 1) := by decide +kernel
theorem d_V_bodyOf_1 : decode prog_8_method_3_code 1 = .ok (.iconst 4, 1) := by decide +kernel
theorem d_V_bodyOf_2 : decode prog_8_method_3_code 2 = .ok (.imul, 1) := by decide +kernel
theorem d_V_bodyOf_3 : decode prog_8_method_3_code 3 = .ok (.iload_n 1, 1) := by decide +kernel
theorem d_V_bodyOf_4 : decode prog_8_method_3_code 4 = .ok (.iadd, 1) := by decide +kernel
theorem d_V_bodyOf_5 : decode prog_8_method_3_code 5 = .ok (.istore_n 2, 1) := by decide +kernel
theorem d_V_bodyOf_6 : decode prog_8_method_3_code 6 = .ok (.iload_n 2, 1) := by decide +kernel
theorem d_V_bodyOf_7 : decode prog_8_method_3_code 7 = .ok (.ifCond .lt 19, 3) := by decide +kernel
theorem d_V_bodyOf_10 : decode prog_8_method_3_code 10 = .ok (.iload_n 2, 1) := by decide +kernel
theorem d_V_bodyOf_11 : decode prog_8_method_3_code 11 = .ok (.getstatic 30, 3) := by decide +kernel
theorem d_V_bodyOf_14 : decode prog_8_method_3_code 14 = .ok (.arraylength, 1) := by decide +kernel
theorem d_V_bodyOf_15 : decode prog_8_method_3_code 15 = .ok (.if_icmp .ge 11, 3) := by decide +kernel
theorem d_V_bodyOf_18 : decode prog_8_method_3_code 18 = .ok (.getstatic 30, 3) := by decide +kernel
theorem d_V_bodyOf_21 : decode prog_8_method_3_code 21 = .ok (.iload_n 2, 1) := by decide +kernel
theorem d_V_bodyOf_22 : decode prog_8_method_3_code 22 = .ok (.iaload, 1) := by decide +kernel
theorem d_V_bodyOf_23 : decode prog_8_method_3_code 23 = .ok (.goto 4, 3) := by decide +kernel
theorem d_V_bodyOf_26 : decode prog_8_method_3_code 26 = .ok (.iconst 0, 1) := by decide +kernel
theorem d_V_bodyOf_27 : decode prog_8_method_3_code 27 = .ok (.ireturn, 1) := by decide +kernel
def w_V_bodyOf (K : Int32 → sm_Mem → Prop) (p0 : Int32) (p1 : Int32) (μ : sm_Mem) : Prop := ∀ v1 : Int32, v1 = ((p0 * 4) + p1) → if v1 < 0 then K 0 μ else (if 28 ≤ v1 then K 0 μ else (vp_in v1 28 ∧ K (sm_bodies.getD v1.toNatClampNeg 0) μ))
set_option maxHeartbeats 4000000 in
set_option maxRecDepth 100000 in
theorem P_V_bodyOf (l : Launch) {K : Int32 → sm_Mem → Prop} {p0 : Int32} {p1 : Int32} {μ : sm_Mem} (h : w_V_bodyOf K p0 p1 μ) : sm_MI l ⟨"SnowMoney$Voices", "bodyOf", "(II)I"⟩ prog_8_method_3_code 3 (some .int) { frames := 0, cells := 0, slots := 0, locals := 0 } [sm_I p0, sm_I p1] μ K := by
  refine sm_ofI (by decide +kernel) (fun _ => Nat.le_of_ble_eq_true rfl) ?_
  intro p e s m args below meth c A Q G C hR
  refine sr_iload_n C 0 rfl rfl d_V_bodyOf_0 ?_
  refine sr_iconst C (v := 4) d_V_bodyOf_1 (by decide) ?_
  refine sr_imul C d_V_bodyOf_2 ?_
  refine sr_iload_n C 1 rfl rfl d_V_bodyOf_3 ?_
  refine sr_iadd C d_V_bodyOf_4 ?_
  replace h := h _ rfl
  refine sr_istore_n C rfl (by decide) d_V_bodyOf_5 ?_
  refine sr_iload_n C 0 rfl rfl d_V_bodyOf_6 ?_
  refine sr_if_lt C (tgt := 26) d_V_bodyOf_7 (by decide) (fun c2 => ?_) (fun c2 => ?_)
  · replace h := Eq.mp (if_pos c2) h
    refine sr_iconst C (v := 0) d_V_bodyOf_26 (by decide) ?_
    exact hR _ _ _ _ d_V_bodyOf_27 rfl h
  · replace h := Eq.mp (if_neg c2) h
    refine sr_iload_n C 0 rfl rfl d_V_bodyOf_10 ?_
    refine sr_getsB C q_385 d_V_bodyOf_11 ?_
    refine sr_tlenB C (v := 28) (by decide) d_V_bodyOf_14 ?_
    refine sr_icmp_ge C (tgt := 26) d_V_bodyOf_15 (by decide) (fun c3 => ?_) (fun c3 => ?_)
    · replace h := Eq.mp (if_pos c3) h
      refine sr_iconst C (v := 0) d_V_bodyOf_26 (by decide) ?_
      exact hR _ _ _ _ d_V_bodyOf_27 rfl h
    · replace h := Eq.mp (if_neg c3) h
      refine sr_getsB C q_385 d_V_bodyOf_18 ?_
      refine sr_iload_n C 0 rfl rfl d_V_bodyOf_21 ?_
      obtain ⟨g4, h⟩ := h
      refine sr_tabB C g4 d_V_bodyOf_22 ?_
      refine sr_goto C (tgt := 27) (by decide) d_V_bodyOf_23 ?_
      exact hR _ _ _ _ d_V_bodyOf_27 rfl h
theorem d_V_speak_0 : decode prog_8_method_4_code 0 = .ok (.iload 4, 2) := by decide +kernel
theorem d_V_speak_2 : decode prog_8_method_4_code 2 = .ok (.bipush 30, 2) := by decide +kernel
theorem d_V_speak_4 : decode prog_8_method_4_code 4 = .ok (.if_icmp .le 5, 3) := by decide +kernel
theorem d_V_speak_7 : decode prog_8_method_4_code 7 = .ok (.iconst 0, 1) := by decide +kernel
theorem d_V_speak_8 : decode prog_8_method_4_code 8 = .ok (.ireturn, 1) := by decide +kernel
theorem d_V_speak_9 : decode prog_8_method_4_code 9 = .ok (.iload_n 1, 1) := by decide +kernel
theorem d_V_speak_10 : decode prog_8_method_4_code 10 = .ok (.istore 5, 2) := by decide +kernel
theorem d_V_speak_12 : decode prog_8_method_4_code 12 = .ok (.iconst 0, 1) := by decide +kernel
theorem d_V_speak_13 : decode prog_8_method_4_code 13 = .ok (.istore 6, 2) := by decide +kernel
theorem d_V_speak_15 : decode prog_8_method_4_code 15 = .ok (.iload 6, 2) := by decide +kernel
theorem d_V_speak_17 : decode prog_8_method_4_code 17 = .ok (.bipush 7, 2) := by decide +kernel
theorem d_V_speak_19 : decode prog_8_method_4_code 19 = .ok (.if_icmp .ge 30, 3) := by decide +kernel
theorem d_V_speak_22 : decode prog_8_method_4_code 22 = .ok (.iload 5, 2) := by decide +kernel
theorem d_V_speak_24 : decode prog_8_method_4_code 24 = .ok (.ifCond .le 25, 3) := by decide +kernel
theorem d_V_speak_27 : decode prog_8_method_4_code 27 = .ok (.iload 5, 2) := by decide +kernel
theorem d_V_speak_29 : decode prog_8_method_4_code 29 = .ok (.iload_n 2, 1) := by decide +kernel
theorem d_V_speak_30 : decode prog_8_method_4_code 30 = .ok (.invokestatic 35, 3) := by decide +kernel
theorem d_V_speak_33 : decode prog_8_method_4_code 33 = .ok (.ifCond .ne 16, 3) := by decide +kernel
theorem d_V_speak_36 : decode prog_8_method_4_code 36 = .ok (.iload 5, 2) := by decide +kernel
theorem d_V_speak_38 : decode prog_8_method_4_code 38 = .ok (.invokestatic 39, 3) := by decide +kernel
theorem d_V_speak_41 : decode prog_8_method_4_code 41 = .ok (.istore 5, 2) := by decide +kernel
theorem d_V_speak_43 : decode prog_8_method_4_code 43 = .ok (.iinc 6 1, 3) := by decide +kernel
theorem d_V_speak_46 : decode prog_8_method_4_code 46 = .ok (.goto (-31), 3) := by decide +kernel
theorem d_V_speak_49 : decode prog_8_method_4_code 49 = .ok (.iload 5, 2) := by decide +kernel
theorem d_V_speak_51 : decode prog_8_method_4_code 51 = .ok (.iload_n 2, 1) := by decide +kernel
theorem d_V_speak_52 : decode prog_8_method_4_code 52 = .ok (.invokestatic 35, 3) := by decide +kernel
theorem d_V_speak_55 : decode prog_8_method_4_code 55 = .ok (.istore 6, 2) := by decide +kernel
theorem d_V_speak_57 : decode prog_8_method_4_code 57 = .ok (.aload_n 0, 1) := by decide +kernel
theorem d_V_speak_58 : decode prog_8_method_4_code 58 = .ok (.getfield 23, 3) := by decide +kernel
theorem d_V_speak_61 : decode prog_8_method_4_code 61 = .ok (.bipush 40, 2) := by decide +kernel
theorem d_V_speak_63 : decode prog_8_method_4_code 63 = .ok (.if_icmp .ge 24, 3) := by decide +kernel
theorem d_V_speak_66 : decode prog_8_method_4_code 66 = .ok (.aload_n 0, 1) := by decide +kernel
theorem d_V_speak_67 : decode prog_8_method_4_code 67 = .ok (.getfield 9, 3) := by decide +kernel
theorem d_V_speak_70 : decode prog_8_method_4_code 70 = .ok (.aload_n 0, 1) := by decide +kernel
theorem d_V_speak_71 : decode prog_8_method_4_code 71 = .ok (.getfield 23, 3) := by decide +kernel
theorem d_V_speak_74 : decode prog_8_method_4_code 74 = .ok (.iload 6, 2) := by decide +kernel
theorem d_V_speak_76 : decode prog_8_method_4_code 76 = .ok (.iastore, 1) := by decide +kernel
theorem d_V_speak_77 : decode prog_8_method_4_code 77 = .ok (.aload_n 0, 1) := by decide +kernel
theorem d_V_speak_78 : decode prog_8_method_4_code 78 = .ok (.dup, 1) := by decide +kernel
theorem d_V_speak_79 : decode prog_8_method_4_code 79 = .ok (.getfield 23, 3) := by decide +kernel
theorem d_V_speak_82 : decode prog_8_method_4_code 82 = .ok (.iconst 1, 1) := by decide +kernel
theorem d_V_speak_83 : decode prog_8_method_4_code 83 = .ok (.iadd, 1) := by decide +kernel
theorem d_V_speak_84 : decode prog_8_method_4_code 84 = .ok (.putfield 23, 3) := by decide +kernel
theorem d_V_speak_87 : decode prog_8_method_4_code 87 = .ok (.aload_n 0, 1) := by decide +kernel
theorem d_V_speak_88 : decode prog_8_method_4_code 88 = .ok (.iload 6, 2) := by decide +kernel
theorem d_V_speak_90 : decode prog_8_method_4_code 90 = .ok (.iload 5, 2) := by decide +kernel
theorem d_V_speak_92 : decode prog_8_method_4_code 92 = .ok (.invokestatic 39, 3) := by decide +kernel
theorem d_V_speak_95 : decode prog_8_method_4_code 95 = .ok (.iload_n 3, 1) := by decide +kernel
theorem d_V_speak_96 : decode prog_8_method_4_code 96 = .ok (.iload 4, 2) := by decide +kernel
theorem d_V_speak_98 : decode prog_8_method_4_code 98 = .ok (.iconst 1, 1) := by decide +kernel
theorem d_V_speak_99 : decode prog_8_method_4_code 99 = .ok (.iadd, 1) := by decide +kernel
theorem d_V_speak_100 : decode prog_8_method_4_code 100 = .ok (.invokevirtual 43, 3) := by decide +kernel
theorem d_V_speak_103 : decode prog_8_method_4_code 103 = .ok (.ireturn, 1) := by decide +kernel
def w_V_speak_87 (F : Nat → (Int32 → sm_Mem → Prop) → Int32 → Int32 → Int32 → Int32 → sm_Mem → Prop) (K : Int32 → sm_Mem → Prop) (p0 : Int32) (p1 : Int32) (p2 : Int32) (p3 : Int32) (x5 : Int32) (x6 : Int32) (μ : sm_Mem) : Prop := w_K_above (fun r7 μ6 => F 1 (fun r9 μ8 => K r9 μ8) x6 r7 p2 (p3 + 1) μ6) x5 μ
def w_V_speak_49 (F : Nat → (Int32 → sm_Mem → Prop) → Int32 → Int32 → Int32 → Int32 → sm_Mem → Prop) (K : Int32 → sm_Mem → Prop) (p0 : Int32) (p1 : Int32) (p2 : Int32) (p3 : Int32) (x5 : Int32) (μ : sm_Mem) : Prop := w_V_bodyOf (fun r4 μ3 => if 40 ≤ (μ3 49 1) then w_V_speak_87 F K p0 p1 p2 p3 x5 r4 μ3 else (vp_in (μ3 49 1) 40 ∧ ∀ μ11 : sm_Mem, μ11 = sm_st μ3 50 ((μ3 49 1).toNatClampNeg) r4 → ∀ μ12 : sm_Mem, μ12 = sm_st μ11 49 1 ((μ11 49 1) + 1) → w_V_speak_87 F K p0 p1 p2 p3 x5 r4 μ12)) x5 p1 μ
def w_V_speak_15 (F : Nat → (Int32 → sm_Mem → Prop) → Int32 → Int32 → Int32 → Int32 → sm_Mem → Prop) (K : Int32 → sm_Mem → Prop) (p0 : Int32) (p1 : Int32) (p2 : Int32) (p3 : Int32) (x5 : Int32) (x6 : Int32) (μ : sm_Mem) : Prop := sm_lp2 (fun J15 x5 x6 μ => if 7 ≤ x6 then w_V_speak_49 F K p0 p1 p2 p3 x5 μ else (if x5 ≤ 0 then w_V_speak_49 F K p0 p1 p2 p3 x5 μ else w_V_bodyOf (fun r15 μ14 => if r15 = 0 then w_K_above (fun r18 μ17 => J15 r18 (x6 + 1) μ17) x5 μ14 else w_V_speak_49 F K p0 p1 p2 p3 x5 μ14) x5 p1 μ)) x5 x6 μ
def w_V_speak (F : Nat → (Int32 → sm_Mem → Prop) → Int32 → Int32 → Int32 → Int32 → sm_Mem → Prop) (K : Int32 → sm_Mem → Prop) (p0 : Int32) (p1 : Int32) (p2 : Int32) (p3 : Int32) (μ : sm_Mem) : Prop := if p3 ≤ 30 then w_V_speak_15 F K p0 p1 p2 p3 p0 0 μ else K 0 μ
set_option maxHeartbeats 4000000 in
set_option maxRecDepth 100000 in
theorem P_V_speak (l : Launch) {F : Nat → (Int32 → sm_Mem → Prop) → Int32 → Int32 → Int32 → Int32 → sm_Mem → Prop} {n : Nat} (hF1 : ∀ {K : Int32 → sm_Mem → Prop} {p0 : Int32} {p1 : Int32} {p2 : Int32} {p3 : Int32} {μ : sm_Mem}, F 1 K p0 p1 p2 p3 μ → sm_MI l ⟨"SnowMoney$Voices", "work", "(IIII)I"⟩ prog_8_method_5_code 5 (some .int) { frames := n + 4, cells := 0, slots := 0, locals := n * 40 + 120 } [sm_R 49, sm_I p0, sm_I p1, sm_I p2, sm_I p3] μ K) {K : Int32 → sm_Mem → Prop} {p0 : Int32} {p1 : Int32} {p2 : Int32} {p3 : Int32} {μ : sm_Mem} (h : w_V_speak F K p0 p1 p2 p3 μ) : sm_MI l ⟨"SnowMoney$Voices", "speak", "(IIII)I"⟩ prog_8_method_4_code 7 (some .int) { frames := n + 1 + 4, cells := 0, slots := 0, locals := (n + 1) * 40 + 120 } [sm_R 49, sm_I p0, sm_I p1, sm_I p2, sm_I p3] μ K := by
  refine sm_ofI (by decide +kernel) (fun _ => Nat.le_of_ble_eq_true rfl) ?_
  intro p e s m args below meth c A Q G C hR
  have B87 : ∀ (x5 : Int32) (x6 : Int32) (μ : sm_Mem), w_V_speak_87 F K p0 p1 p2 p3 x5 x6 μ → sm_W p l e { frames := n + 1 + 4, cells := 0, slots := 0, locals := (n + 1) * 40 + 120 } s m args below meth c A Q G 7 0 0 87 [] [(0, sm_R 49), (3, sm_I p2), (4, sm_I p3), (5, sm_I x5), (6, sm_I x6)] μ := by
    intro x5 x6 μ h
    refine sr_aload_n C 0 rfl rfl d_V_speak_87 ?_
    refine sr_iload C 4 rfl d_V_speak_88 ?_
    refine sr_iload C 3 rfl d_V_speak_90 ?_
    refine sr_callSI C [sm_I _] (P_K_above l h) ok_86 rfl rfl rfl ⟨by dsimp only; omega, by dsimp only; omega⟩ (Nat.le_of_ble_eq_true rfl) ⟨Nat.zero_le _, Nat.zero_le _⟩ d_V_speak_92 (fun r7 μ6 h => ?_)
    refine sr_iload_n C 1 rfl rfl d_V_speak_95 ?_
    refine sr_iload C 2 rfl d_V_speak_96 ?_
    refine sr_iconst C (v := 1) d_V_speak_98 (by decide) ?_
    refine sr_iadd C d_V_speak_99 ?_
    refine sr_callVI C [sm_I _, sm_I _, sm_I _, sm_I _] (hF1 h) ok_87 sm_l49 rfl rfl rfl rfl ⟨by dsimp only; omega, by dsimp only; omega⟩ (Nat.le_of_ble_eq_true rfl) ⟨Nat.zero_le _, Nat.zero_le _⟩ d_V_speak_100 (fun r9 μ8 h => ?_)
    exact hR _ _ _ _ d_V_speak_103 rfl h
  have B49 : ∀ (x5 : Int32) (μ : sm_Mem), w_V_speak_49 F K p0 p1 p2 p3 x5 μ → sm_W p l e { frames := n + 1 + 4, cells := 0, slots := 0, locals := (n + 1) * 40 + 120 } s m args below meth c A Q G 7 0 0 49 [] [(0, sm_R 49), (2, sm_I p1), (3, sm_I p2), (4, sm_I p3), (5, sm_I x5)] μ := by
    intro x5 μ h
    refine sr_iload C 4 rfl d_V_speak_49 ?_
    refine sr_iload_n C 1 rfl rfl d_V_speak_51 ?_
    refine sr_callSI C [sm_I _, sm_I _] (P_V_bodyOf l h) ok_85 rfl rfl rfl ⟨by dsimp only; omega, by dsimp only; omega⟩ (Nat.le_of_ble_eq_true rfl) ⟨Nat.zero_le _, Nat.zero_le _⟩ d_V_speak_52 (fun r4 μ3 h => ?_)
    refine sr_istore C (by decide) d_V_speak_55 ?_
    refine sr_aload_n C 1 rfl rfl d_V_speak_57 ?_
    refine sr_getI C sm_F5 1 q_371 sm_l49 rfl (by decide) d_V_speak_58 ?_
    refine sr_bipush C (v := 40) d_V_speak_61 (by decide) ?_
    refine sr_icmp_ge C (tgt := 87) d_V_speak_63 (by decide) (fun c5 => ?_) (fun c5 => ?_)
    · replace h := Eq.mp (if_pos c5) h
      refine sr_mask C [1, 3, 4, 5, 0] rfl ?_
      exact B87 _ _ _ h
    · replace h := Eq.mp (if_neg c5) h
      refine sr_aload_n C 1 rfl rfl d_V_speak_66 ?_
      refine sr_getR C sm_F5 0 q_384 sm_l49 (r := 50) rfl (by decide) d_V_speak_67 ?_
      refine sr_aload_n C 1 rfl rfl d_V_speak_70 ?_
      refine sr_getI C sm_F5 1 q_371 sm_l49 rfl (by decide) d_V_speak_71 ?_
      refine sr_iload C 0 rfl d_V_speak_74 ?_
      obtain ⟨g10, h⟩ := h
      refine sr_iast C sm_l50 g10 d_V_speak_76 ?_
      replace h := h _ rfl
      refine sr_aload_n C 1 rfl rfl d_V_speak_77 ?_
      refine sr_dup C rfl d_V_speak_78 ?_
      refine sr_getI C sm_F5 1 q_371 sm_l49 rfl (by decide) d_V_speak_79 ?_
      refine sr_iconst C (v := 1) d_V_speak_82 (by decide) ?_
      refine sr_iadd C d_V_speak_83 ?_
      refine sr_putI C sm_F5 1 q_371 sm_l49 rfl rfl (by decide) rfl d_V_speak_84 ?_
      replace h := h _ rfl
      refine sr_mask C [1, 3, 4, 5, 0] rfl ?_
      exact B87 _ _ _ h
  have B15 : ∀ (x5 : Int32) (x6 : Int32) (μ : sm_Mem), w_V_speak_15 F K p0 p1 p2 p3 x5 x6 μ → sm_W p l e { frames := n + 1 + 4, cells := 0, slots := 0, locals := (n + 1) * 40 + 120 } s m args below meth c A Q G 7 0 0 15 [] [(0, sm_R 49), (2, sm_I p1), (3, sm_I p2), (4, sm_I p3), (5, sm_I x5), (6, sm_I x6)] μ := by
    intro x5 x6 μ h
    refine sm_lp2_sound (P := fun x5 x6 μ => sm_W p l e { frames := n + 1 + 4, cells := 0, slots := 0, locals := (n + 1) * 40 + 120 } s m args below meth c A Q G 7 0 0 15 [] [(0, sm_R 49), (2, sm_I p1), (3, sm_I p2), (4, sm_I p3), (5, sm_I x5), (6, sm_I x6)] μ) (fun J15 x5 x6 μ hJ15 h => ?_) h
    refine sr_iload C 5 rfl d_V_speak_15 ?_
    refine sr_bipush C (v := 7) d_V_speak_17 (by decide) ?_
    refine sr_icmp_ge C (tgt := 49) d_V_speak_19 (by decide) (fun c2 => ?_) (fun c2 => ?_)
    · replace h := Eq.mp (if_pos c2) h
      refine sr_mask C [0, 1, 2, 3, 4] rfl ?_
      exact B49 _ _ h
    · replace h := Eq.mp (if_neg c2) h
      refine sr_iload C 4 rfl d_V_speak_22 ?_
      refine sr_if_le C (tgt := 49) d_V_speak_24 (by decide) (fun c13 => ?_) (fun c13 => ?_)
      · replace h := Eq.mp (if_pos c13) h
        refine sr_mask C [0, 1, 2, 3, 4] rfl ?_
        exact B49 _ _ h
      · replace h := Eq.mp (if_neg c13) h
        refine sr_iload C 4 rfl d_V_speak_27 ?_
        refine sr_iload_n C 1 rfl rfl d_V_speak_29 ?_
        refine sr_callSI C [sm_I _, sm_I _] (P_V_bodyOf l h) ok_85 rfl rfl rfl ⟨by dsimp only; omega, by dsimp only; omega⟩ (Nat.le_of_ble_eq_true rfl) ⟨Nat.zero_le _, Nat.zero_le _⟩ d_V_speak_30 (fun r15 μ14 h => ?_)
        refine sr_if_ne C (tgt := 49) d_V_speak_33 (by decide) (fun c16 => ?_) (fun c16 => ?_)
        · replace h := Eq.mp (if_neg c16) h
          refine sr_mask C [0, 1, 2, 3, 4] rfl ?_
          exact B49 _ _ h
        · replace h := Eq.mp (if_pos c16) h
          refine sr_iload C 4 rfl d_V_speak_36 ?_
          refine sr_callSI C [sm_I _] (P_K_above l h) ok_86 rfl rfl rfl ⟨by dsimp only; omega, by dsimp only; omega⟩ (Nat.le_of_ble_eq_true rfl) ⟨Nat.zero_le _, Nat.zero_le _⟩ d_V_speak_38 (fun r18 μ17 h => ?_)
          refine sr_istore C (by decide) d_V_speak_41 ?_
          refine sr_iinc C 5 rfl (by decide) d_V_speak_43 rfl ?_
          refine sr_goto C (tgt := 15) (by decide) d_V_speak_46 ?_
          refine sr_mask C [2, 3, 4, 5, 1, 0] rfl ?_
          exact hJ15 _ _ _ h
  refine sr_iload C 4 rfl d_V_speak_0 ?_
  refine sr_bipush C (v := 30) d_V_speak_2 (by decide) ?_
  refine sr_icmp_le C (tgt := 9) d_V_speak_4 (by decide) (fun c1 => ?_) (fun c1 => ?_)
  · replace h := Eq.mp (if_pos c1) h
    refine sr_iload_n C 1 rfl rfl d_V_speak_9 ?_
    refine sr_istore C (by decide) d_V_speak_10 ?_
    refine sr_iconst C (v := 0) d_V_speak_12 (by decide) ?_
    refine sr_istore C (by decide) d_V_speak_13 ?_
    refine sr_mask C [2, 4, 5, 6, 1, 0] rfl ?_
    exact B15 _ _ _ h
  · replace h := Eq.mp (if_neg c1) h
    refine sr_iconst C (v := 0) d_V_speak_7 (by decide) ?_
    exact hR _ _ _ _ d_V_speak_8 rfl h
theorem d_V_work_0 : decode prog_8_method_5_code 0 = .ok (.iload_n 1, 1) := by decide +kernel
theorem d_V_work_1 : decode prog_8_method_5_code 1 = .ok (.lookupswitch 273 #[(10, 99), (11, 106), (12, 121), (13, 128), (20, 154), (30, 166), (40, 189), (50, 200), (60, 223), (70, 235), (71, 250)], 99) := by decide +kernel
theorem d_V_work_100 : decode prog_8_method_5_code 100 = .ok (.iload_n 3, 1) := by decide +kernel
theorem d_V_work_101 : decode prog_8_method_5_code 101 = .ok (.aload_n 0, 1) := by decide +kernel
theorem d_V_work_102 : decode prog_8_method_5_code 102 = .ok (.getfield 17, 3) := by decide +kernel
theorem d_V_work_105 : decode prog_8_method_5_code 105 = .ok (.iadd, 1) := by decide +kernel
theorem d_V_work_106 : decode prog_8_method_5_code 106 = .ok (.ireturn, 1) := by decide +kernel
theorem d_V_work_107 : decode prog_8_method_5_code 107 = .ok (.aload_n 0, 1) := by decide +kernel
theorem d_V_work_108 : decode prog_8_method_5_code 108 = .ok (.aload_n 0, 1) := by decide +kernel
theorem d_V_work_109 : decode prog_8_method_5_code 109 = .ok (.getfield 13, 3) := by decide +kernel
theorem d_V_work_112 : decode prog_8_method_5_code 112 = .ok (.iconst 0, 1) := by decide +kernel
theorem d_V_work_113 : decode prog_8_method_5_code 113 = .ok (.iload_n 3, 1) := by decide +kernel
theorem d_V_work_114 : decode prog_8_method_5_code 114 = .ok (.iload 4, 2) := by decide +kernel
theorem d_V_work_116 : decode prog_8_method_5_code 116 = .ok (.invokevirtual 26, 3) := by decide +kernel
theorem d_V_work_119 : decode prog_8_method_5_code 119 = .ok (.iconst 2, 1) := by decide +kernel
theorem d_V_work_120 : decode prog_8_method_5_code 120 = .ok (.imul, 1) := by decide +kernel
theorem d_V_work_121 : decode prog_8_method_5_code 121 = .ok (.ireturn, 1) := by decide +kernel
theorem d_V_work_122 : decode prog_8_method_5_code 122 = .ok (.iload_n 3, 1) := by decide +kernel
theorem d_V_work_123 : decode prog_8_method_5_code 123 = .ok (.aload_n 0, 1) := by decide +kernel
theorem d_V_work_124 : decode prog_8_method_5_code 124 = .ok (.getfield 20, 3) := by decide +kernel
theorem d_V_work_127 : decode prog_8_method_5_code 127 = .ok (.isub, 1) := by decide +kernel
theorem d_V_work_128 : decode prog_8_method_5_code 128 = .ok (.ireturn, 1) := by decide +kernel
theorem d_V_work_129 : decode prog_8_method_5_code 129 = .ok (.aload_n 0, 1) := by decide +kernel
theorem d_V_work_130 : decode prog_8_method_5_code 130 = .ok (.aload_n 0, 1) := by decide +kernel
theorem d_V_work_131 : decode prog_8_method_5_code 131 = .ok (.getfield 13, 3) := by decide +kernel
theorem d_V_work_134 : decode prog_8_method_5_code 134 = .ok (.iconst 1, 1) := by decide +kernel
theorem d_V_work_135 : decode prog_8_method_5_code 135 = .ok (.iload_n 3, 1) := by decide +kernel
theorem d_V_work_136 : decode prog_8_method_5_code 136 = .ok (.iload 4, 2) := by decide +kernel
theorem d_V_work_138 : decode prog_8_method_5_code 138 = .ok (.invokevirtual 26, 3) := by decide +kernel
theorem d_V_work_141 : decode prog_8_method_5_code 141 = .ok (.aload_n 0, 1) := by decide +kernel
theorem d_V_work_142 : decode prog_8_method_5_code 142 = .ok (.aload_n 0, 1) := by decide +kernel
theorem d_V_work_143 : decode prog_8_method_5_code 143 = .ok (.getfield 13, 3) := by decide +kernel
theorem d_V_work_146 : decode prog_8_method_5_code 146 = .ok (.iconst 2, 1) := by decide +kernel
theorem d_V_work_147 : decode prog_8_method_5_code 147 = .ok (.iload_n 3, 1) := by decide +kernel
theorem d_V_work_148 : decode prog_8_method_5_code 148 = .ok (.iload 4, 2) := by decide +kernel
theorem d_V_work_150 : decode prog_8_method_5_code 150 = .ok (.invokevirtual 26, 3) := by decide +kernel
theorem d_V_work_153 : decode prog_8_method_5_code 153 = .ok (.ixor, 1) := by decide +kernel
theorem d_V_work_154 : decode prog_8_method_5_code 154 = .ok (.ireturn, 1) := by decide +kernel
theorem d_V_work_155 : decode prog_8_method_5_code 155 = .ok (.aload_n 0, 1) := by decide +kernel
theorem d_V_work_156 : decode prog_8_method_5_code 156 = .ok (.iload_n 2, 1) := by decide +kernel
theorem d_V_work_157 : decode prog_8_method_5_code 157 = .ok (.iconst 0, 1) := by decide +kernel
theorem d_V_work_158 : decode prog_8_method_5_code 158 = .ok (.iload_n 3, 1) := by decide +kernel
theorem d_V_work_159 : decode prog_8_method_5_code 159 = .ok (.iload 4, 2) := by decide +kernel
theorem d_V_work_161 : decode prog_8_method_5_code 161 = .ok (.invokevirtual 26, 3) := by decide +kernel
theorem d_V_work_164 : decode prog_8_method_5_code 164 = .ok (.iconst 3, 1) := by decide +kernel
theorem d_V_work_165 : decode prog_8_method_5_code 165 = .ok (.imul, 1) := by decide +kernel
theorem d_V_work_166 : decode prog_8_method_5_code 166 = .ok (.ireturn, 1) := by decide +kernel
theorem d_V_work_167 : decode prog_8_method_5_code 167 = .ok (.aload_n 0, 1) := by decide +kernel
theorem d_V_work_168 : decode prog_8_method_5_code 168 = .ok (.iload_n 2, 1) := by decide +kernel
theorem d_V_work_169 : decode prog_8_method_5_code 169 = .ok (.iconst 1, 1) := by decide +kernel
theorem d_V_work_170 : decode prog_8_method_5_code 170 = .ok (.iload_n 3, 1) := by decide +kernel
theorem d_V_work_171 : decode prog_8_method_5_code 171 = .ok (.iload 4, 2) := by decide +kernel
theorem d_V_work_173 : decode prog_8_method_5_code 173 = .ok (.invokevirtual 26, 3) := by decide +kernel
theorem d_V_work_176 : decode prog_8_method_5_code 176 = .ok (.aload_n 0, 1) := by decide +kernel
theorem d_V_work_177 : decode prog_8_method_5_code 177 = .ok (.aload_n 0, 1) := by decide +kernel
theorem d_V_work_178 : decode prog_8_method_5_code 178 = .ok (.getfield 13, 3) := by decide +kernel
theorem d_V_work_181 : decode prog_8_method_5_code 181 = .ok (.iconst 2, 1) := by decide +kernel
theorem d_V_work_182 : decode prog_8_method_5_code 182 = .ok (.iconst 1, 1) := by decide +kernel
theorem d_V_work_183 : decode prog_8_method_5_code 183 = .ok (.iload 4, 2) := by decide +kernel
theorem d_V_work_185 : decode prog_8_method_5_code 185 = .ok (.invokevirtual 26, 3) := by decide +kernel
theorem d_V_work_188 : decode prog_8_method_5_code 188 = .ok (.isub, 1) := by decide +kernel
theorem d_V_work_189 : decode prog_8_method_5_code 189 = .ok (.ireturn, 1) := by decide +kernel
theorem d_V_work_190 : decode prog_8_method_5_code 190 = .ok (.aload_n 0, 1) := by decide +kernel
theorem d_V_work_191 : decode prog_8_method_5_code 191 = .ok (.iload_n 2, 1) := by decide +kernel
theorem d_V_work_192 : decode prog_8_method_5_code 192 = .ok (.iconst 2, 1) := by decide +kernel
theorem d_V_work_193 : decode prog_8_method_5_code 193 = .ok (.iload_n 3, 1) := by decide +kernel
theorem d_V_work_194 : decode prog_8_method_5_code 194 = .ok (.iload 4, 2) := by decide +kernel
theorem d_V_work_196 : decode prog_8_method_5_code 196 = .ok (.invokevirtual 26, 3) := by decide +kernel
theorem d_V_work_199 : decode prog_8_method_5_code 199 = .ok (.ineg, 1) := by decide +kernel
theorem d_V_work_200 : decode prog_8_method_5_code 200 = .ok (.ireturn, 1) := by decide +kernel
theorem d_V_work_201 : decode prog_8_method_5_code 201 = .ok (.aload_n 0, 1) := by decide +kernel
theorem d_V_work_202 : decode prog_8_method_5_code 202 = .ok (.iload_n 2, 1) := by decide +kernel
theorem d_V_work_203 : decode prog_8_method_5_code 203 = .ok (.iconst 3, 1) := by decide +kernel
theorem d_V_work_204 : decode prog_8_method_5_code 204 = .ok (.iload_n 3, 1) := by decide +kernel
theorem d_V_work_205 : decode prog_8_method_5_code 205 = .ok (.iload 4, 2) := by decide +kernel
theorem d_V_work_207 : decode prog_8_method_5_code 207 = .ok (.invokevirtual 26, 3) := by decide +kernel
theorem d_V_work_210 : decode prog_8_method_5_code 210 = .ok (.aload_n 0, 1) := by decide +kernel
theorem d_V_work_211 : decode prog_8_method_5_code 211 = .ok (.aload_n 0, 1) := by decide +kernel
theorem d_V_work_212 : decode prog_8_method_5_code 212 = .ok (.getfield 13, 3) := by decide +kernel
theorem d_V_work_215 : decode prog_8_method_5_code 215 = .ok (.iconst 0, 1) := by decide +kernel
theorem d_V_work_216 : decode prog_8_method_5_code 216 = .ok (.iconst 2, 1) := by decide +kernel
theorem d_V_work_217 : decode prog_8_method_5_code 217 = .ok (.iload 4, 2) := by decide +kernel
theorem d_V_work_219 : decode prog_8_method_5_code 219 = .ok (.invokevirtual 26, 3) := by decide +kernel
theorem d_V_work_222 : decode prog_8_method_5_code 222 = .ok (.isub, 1) := by decide +kernel
theorem d_V_work_223 : decode prog_8_method_5_code 223 = .ok (.ireturn, 1) := by decide +kernel
theorem d_V_work_224 : decode prog_8_method_5_code 224 = .ok (.aload_n 0, 1) := by decide +kernel
theorem d_V_work_225 : decode prog_8_method_5_code 225 = .ok (.iload_n 2, 1) := by decide +kernel
theorem d_V_work_226 : decode prog_8_method_5_code 226 = .ok (.iconst 1, 1) := by decide +kernel
theorem d_V_work_227 : decode prog_8_method_5_code 227 = .ok (.iload_n 3, 1) := by decide +kernel
theorem d_V_work_228 : decode prog_8_method_5_code 228 = .ok (.iconst 1, 1) := by decide +kernel
theorem d_V_work_229 : decode prog_8_method_5_code 229 = .ok (.iadd, 1) := by decide +kernel
theorem d_V_work_230 : decode prog_8_method_5_code 230 = .ok (.iload 4, 2) := by decide +kernel
theorem d_V_work_232 : decode prog_8_method_5_code 232 = .ok (.invokevirtual 26, 3) := by decide +kernel
theorem d_V_work_235 : decode prog_8_method_5_code 235 = .ok (.ireturn, 1) := by decide +kernel
theorem d_V_work_236 : decode prog_8_method_5_code 236 = .ok (.aload_n 0, 1) := by decide +kernel
theorem d_V_work_237 : decode prog_8_method_5_code 237 = .ok (.iload_n 2, 1) := by decide +kernel
theorem d_V_work_238 : decode prog_8_method_5_code 238 = .ok (.iconst 2, 1) := by decide +kernel
theorem d_V_work_239 : decode prog_8_method_5_code 239 = .ok (.iload_n 3, 1) := by decide +kernel
theorem d_V_work_240 : decode prog_8_method_5_code 240 = .ok (.iload 4, 2) := by decide +kernel
theorem d_V_work_242 : decode prog_8_method_5_code 242 = .ok (.invokevirtual 26, 3) := by decide +kernel
theorem d_V_work_245 : decode prog_8_method_5_code 245 = .ok (.aload_n 0, 1) := by decide +kernel
theorem d_V_work_246 : decode prog_8_method_5_code 246 = .ok (.getfield 17, 3) := by decide +kernel
theorem d_V_work_249 : decode prog_8_method_5_code 249 = .ok (.ixor, 1) := by decide +kernel
theorem d_V_work_250 : decode prog_8_method_5_code 250 = .ok (.ireturn, 1) := by decide +kernel
theorem d_V_work_251 : decode prog_8_method_5_code 251 = .ok (.aload_n 0, 1) := by decide +kernel
theorem d_V_work_252 : decode prog_8_method_5_code 252 = .ok (.aload_n 0, 1) := by decide +kernel
theorem d_V_work_253 : decode prog_8_method_5_code 253 = .ok (.getfield 13, 3) := by decide +kernel
theorem d_V_work_256 : decode prog_8_method_5_code 256 = .ok (.iconst 1, 1) := by decide +kernel
theorem d_V_work_257 : decode prog_8_method_5_code 257 = .ok (.iload_n 3, 1) := by decide +kernel
theorem d_V_work_258 : decode prog_8_method_5_code 258 = .ok (.iload 4, 2) := by decide +kernel
theorem d_V_work_260 : decode prog_8_method_5_code 260 = .ok (.invokevirtual 26, 3) := by decide +kernel
theorem d_V_work_263 : decode prog_8_method_5_code 263 = .ok (.aload_n 0, 1) := by decide +kernel
theorem d_V_work_264 : decode prog_8_method_5_code 264 = .ok (.iload_n 2, 1) := by decide +kernel
theorem d_V_work_265 : decode prog_8_method_5_code 265 = .ok (.iconst 3, 1) := by decide +kernel
theorem d_V_work_266 : decode prog_8_method_5_code 266 = .ok (.iload_n 3, 1) := by decide +kernel
theorem d_V_work_267 : decode prog_8_method_5_code 267 = .ok (.iload 4, 2) := by decide +kernel
theorem d_V_work_269 : decode prog_8_method_5_code 269 = .ok (.invokevirtual 26, 3) := by decide +kernel
theorem d_V_work_272 : decode prog_8_method_5_code 272 = .ok (.isub, 1) := by decide +kernel
theorem d_V_work_273 : decode prog_8_method_5_code 273 = .ok (.ireturn, 1) := by decide +kernel
theorem d_V_work_274 : decode prog_8_method_5_code 274 = .ok (.iconst 0, 1) := by decide +kernel
theorem d_V_work_275 : decode prog_8_method_5_code 275 = .ok (.ireturn, 1) := by decide +kernel
def w_V_work (F : Nat → (Int32 → sm_Mem → Prop) → Int32 → Int32 → Int32 → Int32 → sm_Mem → Prop) (K : Int32 → sm_Mem → Prop) (p0 : Int32) (p1 : Int32) (p2 : Int32) (p3 : Int32) (μ : sm_Mem) : Prop := ∀ v1 : Int32, v1 = p0 → if v1 = 10 then K (p2 + (μ 49 3)) μ else (if v1 = 11 then F 0 (fun r5 μ4 => K (r5 * 2) μ4) (μ 49 2) 0 p2 p3 μ else (if v1 = 12 then K (p2 - (μ 49 4)) μ else (if v1 = 13 then F 0 (fun r9 μ8 => F 0 (fun r11 μ10 => K (r9 ^^^ r11) μ10) (μ8 49 2) 2 p2 p3 μ8) (μ 49 2) 1 p2 p3 μ else (if v1 = 20 then F 0 (fun r14 μ13 => K (r14 * 3) μ13) p1 0 p2 p3 μ else (if v1 = 30 then F 0 (fun r17 μ16 => F 0 (fun r19 μ18 => K (r17 - r19) μ18) (μ16 49 2) 2 1 p3 μ16) p1 1 p2 p3 μ else (if v1 = 40 then F 0 (fun r22 μ21 => K (-r22) μ21) p1 2 p2 p3 μ else (if v1 = 50 then F 0 (fun r25 μ24 => F 0 (fun r27 μ26 => K (r25 - r27) μ26) (μ24 49 2) 0 2 p3 μ24) p1 3 p2 p3 μ else (if v1 = 60 then F 0 (fun r30 μ29 => K r30 μ29) p1 1 (p2 + 1) p3 μ else (if v1 = 70 then F 0 (fun r33 μ32 => K (r33 ^^^ (μ32 49 3)) μ32) p1 2 p2 p3 μ else (if v1 = 71 then F 0 (fun r36 μ35 => F 0 (fun r38 μ37 => K (r36 - r38) μ37) p1 3 p2 p3 μ35) (μ 49 2) 1 p2 p3 μ else K 0 μ))))))))))
set_option maxHeartbeats 4000000 in
set_option maxRecDepth 100000 in
theorem P_V_work (l : Launch) {F : Nat → (Int32 → sm_Mem → Prop) → Int32 → Int32 → Int32 → Int32 → sm_Mem → Prop} {n : Nat} (hF0 : ∀ {K : Int32 → sm_Mem → Prop} {p0 : Int32} {p1 : Int32} {p2 : Int32} {p3 : Int32} {μ : sm_Mem}, F 0 K p0 p1 p2 p3 μ → sm_MI l ⟨"SnowMoney$Voices", "speak", "(IIII)I"⟩ prog_8_method_4_code 7 (some .int) { frames := n + 4, cells := 0, slots := 0, locals := n * 40 + 120 } [sm_R 49, sm_I p0, sm_I p1, sm_I p2, sm_I p3] μ K) {K : Int32 → sm_Mem → Prop} {p0 : Int32} {p1 : Int32} {p2 : Int32} {p3 : Int32} {μ : sm_Mem} (h : w_V_work F K p0 p1 p2 p3 μ) : sm_MI l ⟨"SnowMoney$Voices", "work", "(IIII)I"⟩ prog_8_method_5_code 5 (some .int) { frames := n + 1 + 4, cells := 0, slots := 0, locals := (n + 1) * 40 + 120 } [sm_R 49, sm_I p0, sm_I p1, sm_I p2, sm_I p3] μ K := by
  refine sm_ofI (by decide +kernel) (fun _ => Nat.le_of_ble_eq_true rfl) ?_
  intro p e s m args below meth c A Q G C hR
  refine sr_iload_n C 1 rfl rfl d_V_work_0 ?_
  refine sm_name (fun v1 ev1 => ?_)
  replace h := h v1 ev1
  by_cases c2 : v1 = 10
  · replace h := Eq.mp (if_pos c2) h
    refine sr_lookup C (tgt := 100) (off := 99) d_V_work_1 (by decide) (by rw [c2]; decide) (by decide) ?_
    refine sr_iload_n C 3 rfl rfl d_V_work_100 ?_
    refine sr_aload_n C 0 rfl rfl d_V_work_101 ?_
    refine sr_getI C sm_F5 3 q_369 sm_l49 rfl (by decide) d_V_work_102 ?_
    refine sr_iadd C d_V_work_105 ?_
    exact hR _ _ _ _ d_V_work_106 rfl h
  · replace h := Eq.mp (if_neg c2) h
    by_cases c3 : v1 = 11
    · replace h := Eq.mp (if_pos c3) h
      refine sr_lookup C (tgt := 107) (off := 106) d_V_work_1 (by decide) (by rw [c3]; decide) (by decide) ?_
      refine sr_aload_n C 0 rfl rfl d_V_work_107 ?_
      refine sr_aload_n C 0 rfl rfl d_V_work_108 ?_
      refine sr_getI C sm_F5 2 q_368 sm_l49 rfl (by decide) d_V_work_109 ?_
      refine sr_iconst C (v := 0) d_V_work_112 (by decide) ?_
      refine sr_iload_n C 3 rfl rfl d_V_work_113 ?_
      refine sr_iload C 4 rfl d_V_work_114 ?_
      refine sr_callVI C [sm_I _, sm_I _, sm_I _, sm_I _] (hF0 h) ok_84 sm_l49 rfl rfl rfl rfl ⟨by dsimp only; omega, by dsimp only; omega⟩ (Nat.le_of_ble_eq_true rfl) ⟨Nat.zero_le _, Nat.zero_le _⟩ d_V_work_116 (fun r5 μ4 h => ?_)
      refine sr_iconst C (v := 2) d_V_work_119 (by decide) ?_
      refine sr_imul C d_V_work_120 ?_
      exact hR _ _ _ _ d_V_work_121 rfl h
    · replace h := Eq.mp (if_neg c3) h
      by_cases c6 : v1 = 12
      · replace h := Eq.mp (if_pos c6) h
        refine sr_lookup C (tgt := 122) (off := 121) d_V_work_1 (by decide) (by rw [c6]; decide) (by decide) ?_
        refine sr_iload_n C 3 rfl rfl d_V_work_122 ?_
        refine sr_aload_n C 0 rfl rfl d_V_work_123 ?_
        refine sr_getI C sm_F5 4 q_370 sm_l49 rfl (by decide) d_V_work_124 ?_
        refine sr_isub C d_V_work_127 ?_
        exact hR _ _ _ _ d_V_work_128 rfl h
      · replace h := Eq.mp (if_neg c6) h
        by_cases c7 : v1 = 13
        · replace h := Eq.mp (if_pos c7) h
          refine sr_lookup C (tgt := 129) (off := 128) d_V_work_1 (by decide) (by rw [c7]; decide) (by decide) ?_
          refine sr_aload_n C 0 rfl rfl d_V_work_129 ?_
          refine sr_aload_n C 0 rfl rfl d_V_work_130 ?_
          refine sr_getI C sm_F5 2 q_368 sm_l49 rfl (by decide) d_V_work_131 ?_
          refine sr_iconst C (v := 1) d_V_work_134 (by decide) ?_
          refine sr_iload_n C 3 rfl rfl d_V_work_135 ?_
          refine sr_iload C 4 rfl d_V_work_136 ?_
          refine sr_callVI C [sm_I _, sm_I _, sm_I _, sm_I _] (hF0 h) ok_84 sm_l49 rfl rfl rfl rfl ⟨by dsimp only; omega, by dsimp only; omega⟩ (Nat.le_of_ble_eq_true rfl) ⟨Nat.zero_le _, Nat.zero_le _⟩ d_V_work_138 (fun r9 μ8 h => ?_)
          refine sr_aload_n C 0 rfl rfl d_V_work_141 ?_
          refine sr_aload_n C 0 rfl rfl d_V_work_142 ?_
          refine sr_getI C sm_F5 2 q_368 sm_l49 rfl (by decide) d_V_work_143 ?_
          refine sr_iconst C (v := 2) d_V_work_146 (by decide) ?_
          refine sr_iload_n C 3 rfl rfl d_V_work_147 ?_
          refine sr_iload C 4 rfl d_V_work_148 ?_
          refine sr_callVI C [sm_I _, sm_I _, sm_I _, sm_I _] (hF0 h) ok_84 sm_l49 rfl rfl rfl rfl ⟨by dsimp only; omega, by dsimp only; omega⟩ (Nat.le_of_ble_eq_true rfl) ⟨Nat.zero_le _, Nat.zero_le _⟩ d_V_work_150 (fun r11 μ10 h => ?_)
          refine sr_ixor C d_V_work_153 ?_
          exact hR _ _ _ _ d_V_work_154 rfl h
        · replace h := Eq.mp (if_neg c7) h
          by_cases c12 : v1 = 20
          · replace h := Eq.mp (if_pos c12) h
            refine sr_lookup C (tgt := 155) (off := 154) d_V_work_1 (by decide) (by rw [c12]; decide) (by decide) ?_
            refine sr_aload_n C 0 rfl rfl d_V_work_155 ?_
            refine sr_iload_n C 2 rfl rfl d_V_work_156 ?_
            refine sr_iconst C (v := 0) d_V_work_157 (by decide) ?_
            refine sr_iload_n C 3 rfl rfl d_V_work_158 ?_
            refine sr_iload C 4 rfl d_V_work_159 ?_
            refine sr_callVI C [sm_I _, sm_I _, sm_I _, sm_I _] (hF0 h) ok_84 sm_l49 rfl rfl rfl rfl ⟨by dsimp only; omega, by dsimp only; omega⟩ (Nat.le_of_ble_eq_true rfl) ⟨Nat.zero_le _, Nat.zero_le _⟩ d_V_work_161 (fun r14 μ13 h => ?_)
            refine sr_iconst C (v := 3) d_V_work_164 (by decide) ?_
            refine sr_imul C d_V_work_165 ?_
            exact hR _ _ _ _ d_V_work_166 rfl h
          · replace h := Eq.mp (if_neg c12) h
            by_cases c15 : v1 = 30
            · replace h := Eq.mp (if_pos c15) h
              refine sr_lookup C (tgt := 167) (off := 166) d_V_work_1 (by decide) (by rw [c15]; decide) (by decide) ?_
              refine sr_aload_n C 0 rfl rfl d_V_work_167 ?_
              refine sr_iload_n C 2 rfl rfl d_V_work_168 ?_
              refine sr_iconst C (v := 1) d_V_work_169 (by decide) ?_
              refine sr_iload_n C 3 rfl rfl d_V_work_170 ?_
              refine sr_iload C 4 rfl d_V_work_171 ?_
              refine sr_callVI C [sm_I _, sm_I _, sm_I _, sm_I _] (hF0 h) ok_84 sm_l49 rfl rfl rfl rfl ⟨by dsimp only; omega, by dsimp only; omega⟩ (Nat.le_of_ble_eq_true rfl) ⟨Nat.zero_le _, Nat.zero_le _⟩ d_V_work_173 (fun r17 μ16 h => ?_)
              refine sr_aload_n C 0 rfl rfl d_V_work_176 ?_
              refine sr_aload_n C 0 rfl rfl d_V_work_177 ?_
              refine sr_getI C sm_F5 2 q_368 sm_l49 rfl (by decide) d_V_work_178 ?_
              refine sr_iconst C (v := 2) d_V_work_181 (by decide) ?_
              refine sr_iconst C (v := 1) d_V_work_182 (by decide) ?_
              refine sr_iload C 4 rfl d_V_work_183 ?_
              refine sr_callVI C [sm_I _, sm_I _, sm_I _, sm_I _] (hF0 h) ok_84 sm_l49 rfl rfl rfl rfl ⟨by dsimp only; omega, by dsimp only; omega⟩ (Nat.le_of_ble_eq_true rfl) ⟨Nat.zero_le _, Nat.zero_le _⟩ d_V_work_185 (fun r19 μ18 h => ?_)
              refine sr_isub C d_V_work_188 ?_
              exact hR _ _ _ _ d_V_work_189 rfl h
            · replace h := Eq.mp (if_neg c15) h
              by_cases c20 : v1 = 40
              · replace h := Eq.mp (if_pos c20) h
                refine sr_lookup C (tgt := 190) (off := 189) d_V_work_1 (by decide) (by rw [c20]; decide) (by decide) ?_
                refine sr_aload_n C 0 rfl rfl d_V_work_190 ?_
                refine sr_iload_n C 2 rfl rfl d_V_work_191 ?_
                refine sr_iconst C (v := 2) d_V_work_192 (by decide) ?_
                refine sr_iload_n C 3 rfl rfl d_V_work_193 ?_
                refine sr_iload C 4 rfl d_V_work_194 ?_
                refine sr_callVI C [sm_I _, sm_I _, sm_I _, sm_I _] (hF0 h) ok_84 sm_l49 rfl rfl rfl rfl ⟨by dsimp only; omega, by dsimp only; omega⟩ (Nat.le_of_ble_eq_true rfl) ⟨Nat.zero_le _, Nat.zero_le _⟩ d_V_work_196 (fun r22 μ21 h => ?_)
                refine sr_ineg C d_V_work_199 ?_
                exact hR _ _ _ _ d_V_work_200 rfl h
              · replace h := Eq.mp (if_neg c20) h
                by_cases c23 : v1 = 50
                · replace h := Eq.mp (if_pos c23) h
                  refine sr_lookup C (tgt := 201) (off := 200) d_V_work_1 (by decide) (by rw [c23]; decide) (by decide) ?_
                  refine sr_aload_n C 0 rfl rfl d_V_work_201 ?_
                  refine sr_iload_n C 2 rfl rfl d_V_work_202 ?_
                  refine sr_iconst C (v := 3) d_V_work_203 (by decide) ?_
                  refine sr_iload_n C 3 rfl rfl d_V_work_204 ?_
                  refine sr_iload C 4 rfl d_V_work_205 ?_
                  refine sr_callVI C [sm_I _, sm_I _, sm_I _, sm_I _] (hF0 h) ok_84 sm_l49 rfl rfl rfl rfl ⟨by dsimp only; omega, by dsimp only; omega⟩ (Nat.le_of_ble_eq_true rfl) ⟨Nat.zero_le _, Nat.zero_le _⟩ d_V_work_207 (fun r25 μ24 h => ?_)
                  refine sr_aload_n C 0 rfl rfl d_V_work_210 ?_
                  refine sr_aload_n C 0 rfl rfl d_V_work_211 ?_
                  refine sr_getI C sm_F5 2 q_368 sm_l49 rfl (by decide) d_V_work_212 ?_
                  refine sr_iconst C (v := 0) d_V_work_215 (by decide) ?_
                  refine sr_iconst C (v := 2) d_V_work_216 (by decide) ?_
                  refine sr_iload C 4 rfl d_V_work_217 ?_
                  refine sr_callVI C [sm_I _, sm_I _, sm_I _, sm_I _] (hF0 h) ok_84 sm_l49 rfl rfl rfl rfl ⟨by dsimp only; omega, by dsimp only; omega⟩ (Nat.le_of_ble_eq_true rfl) ⟨Nat.zero_le _, Nat.zero_le _⟩ d_V_work_219 (fun r27 μ26 h => ?_)
                  refine sr_isub C d_V_work_222 ?_
                  exact hR _ _ _ _ d_V_work_223 rfl h
                · replace h := Eq.mp (if_neg c23) h
                  by_cases c28 : v1 = 60
                  · replace h := Eq.mp (if_pos c28) h
                    refine sr_lookup C (tgt := 224) (off := 223) d_V_work_1 (by decide) (by rw [c28]; decide) (by decide) ?_
                    refine sr_aload_n C 0 rfl rfl d_V_work_224 ?_
                    refine sr_iload_n C 2 rfl rfl d_V_work_225 ?_
                    refine sr_iconst C (v := 1) d_V_work_226 (by decide) ?_
                    refine sr_iload_n C 3 rfl rfl d_V_work_227 ?_
                    refine sr_iconst C (v := 1) d_V_work_228 (by decide) ?_
                    refine sr_iadd C d_V_work_229 ?_
                    refine sr_iload C 4 rfl d_V_work_230 ?_
                    refine sr_callVI C [sm_I _, sm_I _, sm_I _, sm_I _] (hF0 h) ok_84 sm_l49 rfl rfl rfl rfl ⟨by dsimp only; omega, by dsimp only; omega⟩ (Nat.le_of_ble_eq_true rfl) ⟨Nat.zero_le _, Nat.zero_le _⟩ d_V_work_232 (fun r30 μ29 h => ?_)
                    exact hR _ _ _ _ d_V_work_235 rfl h
                  · replace h := Eq.mp (if_neg c28) h
                    by_cases c31 : v1 = 70
                    · replace h := Eq.mp (if_pos c31) h
                      refine sr_lookup C (tgt := 236) (off := 235) d_V_work_1 (by decide) (by rw [c31]; decide) (by decide) ?_
                      refine sr_aload_n C 0 rfl rfl d_V_work_236 ?_
                      refine sr_iload_n C 2 rfl rfl d_V_work_237 ?_
                      refine sr_iconst C (v := 2) d_V_work_238 (by decide) ?_
                      refine sr_iload_n C 3 rfl rfl d_V_work_239 ?_
                      refine sr_iload C 4 rfl d_V_work_240 ?_
                      refine sr_callVI C [sm_I _, sm_I _, sm_I _, sm_I _] (hF0 h) ok_84 sm_l49 rfl rfl rfl rfl ⟨by dsimp only; omega, by dsimp only; omega⟩ (Nat.le_of_ble_eq_true rfl) ⟨Nat.zero_le _, Nat.zero_le _⟩ d_V_work_242 (fun r33 μ32 h => ?_)
                      refine sr_aload_n C 0 rfl rfl d_V_work_245 ?_
                      refine sr_getI C sm_F5 3 q_369 sm_l49 rfl (by decide) d_V_work_246 ?_
                      refine sr_ixor C d_V_work_249 ?_
                      exact hR _ _ _ _ d_V_work_250 rfl h
                    · replace h := Eq.mp (if_neg c31) h
                      by_cases c34 : v1 = 71
                      · replace h := Eq.mp (if_pos c34) h
                        refine sr_lookup C (tgt := 251) (off := 250) d_V_work_1 (by decide) (by rw [c34]; decide) (by decide) ?_
                        refine sr_aload_n C 0 rfl rfl d_V_work_251 ?_
                        refine sr_aload_n C 0 rfl rfl d_V_work_252 ?_
                        refine sr_getI C sm_F5 2 q_368 sm_l49 rfl (by decide) d_V_work_253 ?_
                        refine sr_iconst C (v := 1) d_V_work_256 (by decide) ?_
                        refine sr_iload_n C 3 rfl rfl d_V_work_257 ?_
                        refine sr_iload C 4 rfl d_V_work_258 ?_
                        refine sr_callVI C [sm_I _, sm_I _, sm_I _, sm_I _] (hF0 h) ok_84 sm_l49 rfl rfl rfl rfl ⟨by dsimp only; omega, by dsimp only; omega⟩ (Nat.le_of_ble_eq_true rfl) ⟨Nat.zero_le _, Nat.zero_le _⟩ d_V_work_260 (fun r36 μ35 h => ?_)
                        refine sr_aload_n C 0 rfl rfl d_V_work_263 ?_
                        refine sr_iload_n C 2 rfl rfl d_V_work_264 ?_
                        refine sr_iconst C (v := 3) d_V_work_265 (by decide) ?_
                        refine sr_iload_n C 3 rfl rfl d_V_work_266 ?_
                        refine sr_iload C 4 rfl d_V_work_267 ?_
                        refine sr_callVI C [sm_I _, sm_I _, sm_I _, sm_I _] (hF0 h) ok_84 sm_l49 rfl rfl rfl rfl ⟨by dsimp only; omega, by dsimp only; omega⟩ (Nat.le_of_ble_eq_true rfl) ⟨Nat.zero_le _, Nat.zero_le _⟩ d_V_work_269 (fun r38 μ37 h => ?_)
                        refine sr_isub C d_V_work_272 ?_
                        exact hR _ _ _ _ d_V_work_273 rfl h
                      · replace h := Eq.mp (if_neg c34) h
                        have i0 := sm_ne c2 (z := 10) (by decide)
                        have i1 := sm_ne c3 (z := 11) (by decide)
                        have i2 := sm_ne c6 (z := 12) (by decide)
                        have i3 := sm_ne c7 (z := 13) (by decide)
                        have i4 := sm_ne c12 (z := 20) (by decide)
                        have i5 := sm_ne c15 (z := 30) (by decide)
                        have i6 := sm_ne c20 (z := 40) (by decide)
                        have i7 := sm_ne c23 (z := 50) (by decide)
                        have i8 := sm_ne c28 (z := 60) (by decide)
                        have i9 := sm_ne c31 (z := 70) (by decide)
                        have i10 := sm_ne c34 (z := 71) (by decide)
                        refine sr_lookup C (tgt := 274) (off := 273) d_V_work_1 (by decide) (by simp [Op.lookupswitch.offset, Ne.symm i0, Ne.symm i1, Ne.symm i2, Ne.symm i3, Ne.symm i4, Ne.symm i5, Ne.symm i6, Ne.symm i7, Ne.symm i8, Ne.symm i9, Ne.symm i10]) (by decide) ?_
                        refine sr_iconst C (v := 0) d_V_work_274 (by decide) ?_
                        exact hR _ _ _ _ d_V_work_275 rfl h
def wg_V : Nat → Nat → (Int32 → sm_Mem → Prop) → Int32 → Int32 → Int32 → Int32 → sm_Mem → Prop
  | 0, _ => fun _ _ _ _ _ _ => False
  | n + 1, 0 => w_V_speak (wg_V n)
  | n + 1, 1 => w_V_work (wg_V n)
  | _ + 1, _ => fun _ _ _ _ _ _ => False
theorem PG_V (l : Launch) : ∀ n : Nat, (∀ {K : Int32 → sm_Mem → Prop} {p0 : Int32} {p1 : Int32} {p2 : Int32} {p3 : Int32} {μ : sm_Mem}, wg_V n 0 K p0 p1 p2 p3 μ → sm_MI l ⟨"SnowMoney$Voices", "speak", "(IIII)I"⟩ prog_8_method_4_code 7 (some .int) { frames := n + 4, cells := 0, slots := 0, locals := n * 40 + 120 } [sm_R 49, sm_I p0, sm_I p1, sm_I p2, sm_I p3] μ K) ∧ (∀ {K : Int32 → sm_Mem → Prop} {p0 : Int32} {p1 : Int32} {p2 : Int32} {p3 : Int32} {μ : sm_Mem}, wg_V n 1 K p0 p1 p2 p3 μ → sm_MI l ⟨"SnowMoney$Voices", "work", "(IIII)I"⟩ prog_8_method_5_code 5 (some .int) { frames := n + 4, cells := 0, slots := 0, locals := n * 40 + 120 } [sm_R 49, sm_I p0, sm_I p1, sm_I p2, sm_I p3] μ K)
  | 0 => ⟨fun h => h.elim, fun h => h.elim⟩
  | n + 1 => ⟨fun h => P_V_speak l (F := wg_V n) (n := n) (PG_V l n).2 h, fun h => P_V_work l (F := wg_V n) (n := n) (PG_V l n).1 h⟩
theorem PG_V_0 (l : Launch) (n : Nat) {K : Int32 → sm_Mem → Prop} {p0 : Int32} {p1 : Int32} {p2 : Int32} {p3 : Int32} {μ : sm_Mem} (h : wg_V n 0 K p0 p1 p2 p3 μ) : sm_MI l ⟨"SnowMoney$Voices", "speak", "(IIII)I"⟩ prog_8_method_4_code 7 (some .int) { frames := n + 4, cells := 0, slots := 0, locals := n * 40 + 120 } [sm_R 49, sm_I p0, sm_I p1, sm_I p2, sm_I p3] μ K := (PG_V l n).1 h
theorem PG_V_1 (l : Launch) (n : Nat) {K : Int32 → sm_Mem → Prop} {p0 : Int32} {p1 : Int32} {p2 : Int32} {p3 : Int32} {μ : sm_Mem} (h : wg_V n 1 K p0 p1 p2 p3 μ) : sm_MI l ⟨"SnowMoney$Voices", "work", "(IIII)I"⟩ prog_8_method_5_code 5 (some .int) { frames := n + 4, cells := 0, slots := 0, locals := n * 40 + 120 } [sm_R 49, sm_I p0, sm_I p1, sm_I p2, sm_I p3] μ K := (PG_V l n).2 h
theorem d_V_begin_0 : decode prog_8_method_2_code 0 = .ok (.aload_n 0, 1) := by decide +kernel
theorem d_V_begin_1 : decode prog_8_method_2_code 1 = .ok (.iload_n 1, 1) := by decide +kernel
theorem d_V_begin_2 : decode prog_8_method_2_code 2 = .ok (.putfield 13, 3) := by decide +kernel
theorem d_V_begin_5 : decode prog_8_method_2_code 5 = .ok (.aload_n 0, 1) := by decide +kernel
theorem d_V_begin_6 : decode prog_8_method_2_code 6 = .ok (.iload_n 2, 1) := by decide +kernel
theorem d_V_begin_7 : decode prog_8_method_2_code 7 = .ok (.putfield 17, 3) := by decide +kernel
theorem d_V_begin_10 : decode prog_8_method_2_code 10 = .ok (.aload_n 0, 1) := by decide +kernel
theorem d_V_begin_11 : decode prog_8_method_2_code 11 = .ok (.iload_n 3, 1) := by decide +kernel
theorem d_V_begin_12 : decode prog_8_method_2_code 12 = .ok (.putfield 20, 3) := by decide +kernel
theorem d_V_begin_15 : decode prog_8_method_2_code 15 = .ok (.aload_n 0, 1) := by decide +kernel
theorem d_V_begin_16 : decode prog_8_method_2_code 16 = .ok (.iconst 0, 1) := by decide +kernel
theorem d_V_begin_17 : decode prog_8_method_2_code 17 = .ok (.putfield 23, 3) := by decide +kernel
theorem d_V_begin_20 : decode prog_8_method_2_code 20 = .ok (.aload_n 0, 1) := by decide +kernel
theorem d_V_begin_21 : decode prog_8_method_2_code 21 = .ok (.aload_n 0, 1) := by decide +kernel
theorem d_V_begin_22 : decode prog_8_method_2_code 22 = .ok (.getfield 13, 3) := by decide +kernel
theorem d_V_begin_25 : decode prog_8_method_2_code 25 = .ok (.iload 4, 2) := by decide +kernel
theorem d_V_begin_27 : decode prog_8_method_2_code 27 = .ok (.iload 5, 2) := by decide +kernel
theorem d_V_begin_29 : decode prog_8_method_2_code 29 = .ok (.iconst 0, 1) := by decide +kernel
theorem d_V_begin_30 : decode prog_8_method_2_code 30 = .ok (.invokevirtual 26, 3) := by decide +kernel
theorem d_V_begin_33 : decode prog_8_method_2_code 33 = .ok (.ireturn, 1) := by decide +kernel
def w_V_begin (K : Int32 → sm_Mem → Prop) (p0 : Int32) (p1 : Int32) (p2 : Int32) (p3 : Int32) (p4 : Int32) (μ : sm_Mem) : Prop := ∀ μ1 : sm_Mem, μ1 = sm_st μ 49 2 p0 → ∀ μ2 : sm_Mem, μ2 = sm_st μ1 49 3 p1 → ∀ μ3 : sm_Mem, μ3 = sm_st μ2 49 4 p2 → ∀ μ4 : sm_Mem, μ4 = sm_st μ3 49 1 0 → wg_V 40 0 (fun r6 μ5 => K r6 μ5) (μ4 49 2) p3 p4 0 μ4
set_option maxHeartbeats 4000000 in
set_option maxRecDepth 100000 in
theorem P_V_begin (l : Launch) {K : Int32 → sm_Mem → Prop} {p0 : Int32} {p1 : Int32} {p2 : Int32} {p3 : Int32} {p4 : Int32} {μ : sm_Mem} (h : w_V_begin K p0 p1 p2 p3 p4 μ) : sm_MI l ⟨"SnowMoney$Voices", "begin", "(IIIII)I"⟩ prog_8_method_2_code 6 (some .int) { frames := 45, cells := 0, slots := 0, locals := 1746 } [sm_R 49, sm_I p0, sm_I p1, sm_I p2, sm_I p3, sm_I p4] μ K := by
  refine sm_ofI (by decide +kernel) (fun _ => Nat.le_of_ble_eq_true rfl) ?_
  intro p e s m args below meth c A Q G C hR
  refine sr_aload_n C 0 rfl rfl d_V_begin_0 ?_
  refine sr_iload_n C 1 rfl rfl d_V_begin_1 ?_
  refine sr_putI C sm_F5 2 q_368 sm_l49 rfl rfl (by decide) rfl d_V_begin_2 ?_
  replace h := h _ rfl
  refine sr_aload_n C 0 rfl rfl d_V_begin_5 ?_
  refine sr_iload_n C 2 rfl rfl d_V_begin_6 ?_
  refine sr_putI C sm_F5 3 q_369 sm_l49 rfl rfl (by decide) rfl d_V_begin_7 ?_
  replace h := h _ rfl
  refine sr_aload_n C 0 rfl rfl d_V_begin_10 ?_
  refine sr_iload_n C 3 rfl rfl d_V_begin_11 ?_
  refine sr_putI C sm_F5 4 q_370 sm_l49 rfl rfl (by decide) rfl d_V_begin_12 ?_
  replace h := h _ rfl
  refine sr_aload_n C 0 rfl rfl d_V_begin_15 ?_
  refine sr_iconst C (v := 0) d_V_begin_16 (by decide) ?_
  refine sr_putI C sm_F5 1 q_371 sm_l49 rfl rfl (by decide) rfl d_V_begin_17 ?_
  replace h := h _ rfl
  refine sr_aload_n C 0 rfl rfl d_V_begin_20 ?_
  refine sr_aload_n C 0 rfl rfl d_V_begin_21 ?_
  refine sr_getI C sm_F5 2 q_368 sm_l49 rfl (by decide) d_V_begin_22 ?_
  refine sr_iload C 4 rfl d_V_begin_25 ?_
  refine sr_iload C 5 rfl d_V_begin_27 ?_
  refine sr_iconst C (v := 0) d_V_begin_29 (by decide) ?_
  refine sr_callVI C [sm_I _, sm_I _, sm_I _, sm_I _] (PG_V_0 l 40 h) ok_84 sm_l49 rfl rfl rfl rfl ⟨Nat.le_of_ble_eq_true rfl, Nat.le_of_ble_eq_true rfl⟩ (Nat.le_of_ble_eq_true rfl) ⟨Nat.zero_le _, Nat.zero_le _⟩ d_V_begin_30 (fun r6 μ5 h => ?_)
  exact hR _ _ _ _ d_V_begin_33 rfl h

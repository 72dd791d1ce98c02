theorem d_M_errs_0 : decode prog_10_method_3_code 0 = .ok (.aload_n 0, 1) := by decide +kernel
theorem d_M_errs_1 : decode prog_10_method_3_code 1 = .ok (.getfield 22, 3) := by decide +kernel
theorem d_M_errs_4 : decode prog_10_method_3_code 4 = .ok (.ldc 43, 2) := by decide +kernel
theorem d_M_errs_6 : decode prog_10_method_3_code 6 = .ok (.iload_n 1, 1) := by decide +kernel
theorem d_M_errs_7 : decode prog_10_method_3_code 7 = .ok (.isub, 1) := by decide +kernel
theorem d_M_errs_8 : decode prog_10_method_3_code 8 = .ok (.dup2, 1) := by decide +kernel
theorem d_M_errs_9 : decode prog_10_method_3_code 9 = .ok (.iaload, 1) := by decide +kernel
theorem d_M_errs_10 : decode prog_10_method_3_code 10 = .ok (.iconst 1, 1) := by decide +kernel
theorem d_M_errs_11 : decode prog_10_method_3_code 11 = .ok (.iadd, 1) := by decide +kernel
theorem d_M_errs_12 : decode prog_10_method_3_code 12 = .ok (.iastore, 1) := by decide +kernel
theorem d_M_errs_13 : decode prog_10_method_3_code 13 = .ok (.iload_n 1, 1) := by decide +kernel
theorem d_M_errs_14 : decode prog_10_method_3_code 14 = .ok (.ireturn, 1) := by decide +kernel
def w_M_errs (K : Int32 → sm_Mem → Prop) (p0 : Int32) (μ : sm_Mem) : Prop := vp_in ((-1000000000) - p0) 6 ∧ vp_in ((-1000000000) - p0) 6 ∧ ∀ μ3 : sm_Mem, μ3 = sm_st μ 66 (((-1000000000) - p0).toNatClampNeg) ((μ 66 ((-1000000000) - p0).toNatClampNeg) + 1) → K p0 μ3
set_option maxHeartbeats 4000000 in
set_option maxRecDepth 100000 in
theorem P_M_errs (l : Launch) {K : Int32 → sm_Mem → Prop} {p0 : Int32} {μ : sm_Mem} (h : w_M_errs K p0 μ) : sm_MI l ⟨"SnowMoneyModel", "errs", "(I)I"⟩ prog_10_method_3_code 2 (some .int) { frames := 0, cells := 0, slots := 0, locals := 0 } [sm_R 61, sm_I p0] μ K := by
  refine sm_ofI (by decide +kernel) (fun _ => Nat.le_of_ble_eq_true rfl) ?_
  intro p e s m args below meth c A Q G C hR
  refine sr_aload_n C 0 rfl rfl d_M_errs_0 ?_
  refine sr_getR C sm_F7 6 q_442 sm_l61 (r := 66) rfl (by decide) d_M_errs_1 ?_
  refine sr_ldc C q_443 d_M_errs_4 ?_
  refine sr_iload_n C 1 rfl rfl d_M_errs_6 ?_
  refine sr_isub C d_M_errs_7 ?_
  refine sr_dup2 C rfl rfl d_M_errs_8 ?_
  obtain ⟨g1, h⟩ := h
  refine sr_iald C sm_l66 g1 d_M_errs_9 ?_
  refine sr_iconst C (v := 1) d_M_errs_10 (by decide) ?_
  refine sr_iadd C d_M_errs_11 ?_
  obtain ⟨g2, h⟩ := h
  refine sr_iast C sm_l66 g2 d_M_errs_12 ?_
  replace h := h _ rfl
  refine sr_iload_n C 1 rfl rfl d_M_errs_13 ?_
  exact hR _ _ _ _ d_M_errs_14 rfl h
theorem d_M_in_0 : decode prog_10_method_2_code 0 = .ok (.iload_n 0, 1) := by decide +kernel
theorem d_M_in_1 : decode prog_10_method_2_code 1 = .ok (.iload_n 1, 1) := by decide +kernel
theorem d_M_in_2 : decode prog_10_method_2_code 2 = .ok (.if_icmp .lt 12, 3) := by decide +kernel
theorem d_M_in_5 : decode prog_10_method_2_code 5 = .ok (.iload_n 0, 1) := by decide +kernel
theorem d_M_in_6 : decode prog_10_method_2_code 6 = .ok (.iload_n 2, 1) := by decide +kernel
theorem d_M_in_7 : decode prog_10_method_2_code 7 = .ok (.if_icmp .gt 7, 3) := by decide +kernel
theorem d_M_in_10 : decode prog_10_method_2_code 10 = .ok (.iconst 1, 1) := by decide +kernel
theorem d_M_in_11 : decode prog_10_method_2_code 11 = .ok (.goto 4, 3) := by decide +kernel
theorem d_M_in_14 : decode prog_10_method_2_code 14 = .ok (.iconst 0, 1) := by decide +kernel
theorem d_M_in_15 : decode prog_10_method_2_code 15 = .ok (.ireturn, 1) := by decide +kernel
def w_M_in (K : Int32 → sm_Mem → Prop) (p0 : Int32) (p1 : Int32) (p2 : Int32) (μ : sm_Mem) : Prop := if p0 < p1 then K 0 μ else (if p2 < p0 then K 0 μ else K 1 μ)
set_option maxHeartbeats 4000000 in
set_option maxRecDepth 100000 in
theorem P_M_in (l : Launch) {K : Int32 → sm_Mem → Prop} {p0 : Int32} {p1 : Int32} {p2 : Int32} {μ : sm_Mem} (h : w_M_in K p0 p1 p2 μ) : sm_MI l ⟨"SnowMoneyModel", "in", "(III)Z"⟩ prog_10_method_2_code 3 (some .boolean) { frames := 0, cells := 0, slots := 0, locals := 0 } [sm_I p0, sm_I p1, sm_I p2] μ K := by
  refine sm_ofI (by decide +kernel) (fun _ => Nat.le_of_ble_eq_true rfl) ?_
  intro p e s m args below meth c A Q G C hR
  refine sr_iload_n C 0 rfl rfl d_M_in_0 ?_
  refine sr_iload_n C 1 rfl rfl d_M_in_1 ?_
  refine sr_icmp_lt C (tgt := 14) d_M_in_2 (by decide) (fun c1 => ?_) (fun c1 => ?_)
  · replace h := Eq.mp (if_pos c1) h
    refine sr_iconst C (v := 0) d_M_in_14 (by decide) ?_
    exact hR _ _ _ _ d_M_in_15 rfl h
  · replace h := Eq.mp (if_neg c1) h
    refine sr_iload_n C 0 rfl rfl d_M_in_5 ?_
    refine sr_iload_n C 2 rfl rfl d_M_in_6 ?_
    refine sr_icmp_gt C (tgt := 14) d_M_in_7 (by decide) (fun c2 => ?_) (fun c2 => ?_)
    · replace h := Eq.mp (if_pos c2) h
      refine sr_iconst C (v := 0) d_M_in_14 (by decide) ?_
      exact hR _ _ _ _ d_M_in_15 rfl h
    · replace h := Eq.mp (if_neg c2) h
      refine sr_iconst C (v := 1) d_M_in_10 (by decide) ?_
      refine sr_goto C (tgt := 15) (by decide) d_M_in_11 ?_
      exact hR _ _ _ _ d_M_in_15 rfl h
theorem d_M_place_0 : decode prog_10_method_14_code 0 = .ok (.iload_n 1, 1) := by decide +kernel
theorem d_M_place_1 : decode prog_10_method_14_code 1 = .ok (.iconst 0, 1) := by decide +kernel
theorem d_M_place_2 : decode prog_10_method_14_code 2 = .ok (.bipush 9, 2) := by decide +kernel
theorem d_M_place_4 : decode prog_10_method_14_code 4 = .ok (.invokestatic 44, 3) := by decide +kernel
theorem d_M_place_7 : decode prog_10_method_14_code 7 = .ok (.ifCond .ne 10, 3) := by decide +kernel
theorem d_M_place_10 : decode prog_10_method_14_code 10 = .ok (.aload_n 0, 1) := by decide +kernel
theorem d_M_place_11 : decode prog_10_method_14_code 11 = .ok (.ldc 48, 2) := by decide +kernel
theorem d_M_place_13 : decode prog_10_method_14_code 13 = .ok (.invokevirtual 49, 3) := by decide +kernel
theorem d_M_place_16 : decode prog_10_method_14_code 16 = .ok (.ireturn, 1) := by decide +kernel
theorem d_M_place_17 : decode prog_10_method_14_code 17 = .ok (.aload_n 0, 1) := by decide +kernel
theorem d_M_place_18 : decode prog_10_method_14_code 18 = .ok (.getfield 7, 3) := by decide +kernel
theorem d_M_place_21 : decode prog_10_method_14_code 21 = .ok (.iconst 2, 1) := by decide +kernel
theorem d_M_place_22 : decode prog_10_method_14_code 22 = .ok (.iaload, 1) := by decide +kernel
theorem d_M_place_23 : decode prog_10_method_14_code 23 = .ok (.bipush 6, 2) := by decide +kernel
theorem d_M_place_25 : decode prog_10_method_14_code 25 = .ok (.if_icmp .ne 10, 3) := by decide +kernel
theorem d_M_place_28 : decode prog_10_method_14_code 28 = .ok (.aload_n 0, 1) := by decide +kernel
theorem d_M_place_29 : decode prog_10_method_14_code 29 = .ok (.ldc 53, 2) := by decide +kernel
theorem d_M_place_31 : decode prog_10_method_14_code 31 = .ok (.invokevirtual 49, 3) := by decide +kernel
theorem d_M_place_34 : decode prog_10_method_14_code 34 = .ok (.ireturn, 1) := by decide +kernel
theorem d_M_place_35 : decode prog_10_method_14_code 35 = .ok (.aload_n 0, 1) := by decide +kernel
theorem d_M_place_36 : decode prog_10_method_14_code 36 = .ok (.getfield 7, 3) := by decide +kernel
theorem d_M_place_39 : decode prog_10_method_14_code 39 = .ok (.iconst 2, 1) := by decide +kernel
theorem d_M_place_40 : decode prog_10_method_14_code 40 = .ok (.iaload, 1) := by decide +kernel
theorem d_M_place_41 : decode prog_10_method_14_code 41 = .ok (.istore_n 2, 1) := by decide +kernel
theorem d_M_place_42 : decode prog_10_method_14_code 42 = .ok (.aload_n 0, 1) := by decide +kernel
theorem d_M_place_43 : decode prog_10_method_14_code 43 = .ok (.getfield 7, 3) := by decide +kernel
theorem d_M_place_46 : decode prog_10_method_14_code 46 = .ok (.bipush 9, 2) := by decide +kernel
theorem d_M_place_48 : decode prog_10_method_14_code 48 = .ok (.iload_n 2, 1) := by decide +kernel
theorem d_M_place_49 : decode prog_10_method_14_code 49 = .ok (.iadd, 1) := by decide +kernel
theorem d_M_place_50 : decode prog_10_method_14_code 50 = .ok (.iload_n 1, 1) := by decide +kernel
theorem d_M_place_51 : decode prog_10_method_14_code 51 = .ok (.iastore, 1) := by decide +kernel
theorem d_M_place_52 : decode prog_10_method_14_code 52 = .ok (.iconst 0, 1) := by decide +kernel
theorem d_M_place_53 : decode prog_10_method_14_code 53 = .ok (.istore_n 3, 1) := by decide +kernel
theorem d_M_place_54 : decode prog_10_method_14_code 54 = .ok (.iload_n 3, 1) := by decide +kernel
theorem d_M_place_55 : decode prog_10_method_14_code 55 = .ok (.bipush 6, 2) := by decide +kernel
theorem d_M_place_57 : decode prog_10_method_14_code 57 = .ok (.if_icmp .ge 39, 3) := by decide +kernel
theorem d_M_place_60 : decode prog_10_method_14_code 60 = .ok (.aload_n 0, 1) := by decide +kernel
theorem d_M_place_61 : decode prog_10_method_14_code 61 = .ok (.getfield 7, 3) := by decide +kernel
theorem d_M_place_64 : decode prog_10_method_14_code 64 = .ok (.bipush 15, 2) := by decide +kernel
theorem d_M_place_66 : decode prog_10_method_14_code 66 = .ok (.bipush 6, 2) := by decide +kernel
theorem d_M_place_68 : decode prog_10_method_14_code 68 = .ok (.iload_n 2, 1) := by decide +kernel
theorem d_M_place_69 : decode prog_10_method_14_code 69 = .ok (.imul, 1) := by decide +kernel
theorem d_M_place_70 : decode prog_10_method_14_code 70 = .ok (.iadd, 1) := by decide +kernel
theorem d_M_place_71 : decode prog_10_method_14_code 71 = .ok (.iload_n 3, 1) := by decide +kernel
theorem d_M_place_72 : decode prog_10_method_14_code 72 = .ok (.iadd, 1) := by decide +kernel
theorem d_M_place_73 : decode prog_10_method_14_code 73 = .ok (.iconst 0, 1) := by decide +kernel
theorem d_M_place_74 : decode prog_10_method_14_code 74 = .ok (.iastore, 1) := by decide +kernel
theorem d_M_place_75 : decode prog_10_method_14_code 75 = .ok (.aload_n 0, 1) := by decide +kernel
theorem d_M_place_76 : decode prog_10_method_14_code 76 = .ok (.getfield 7, 3) := by decide +kernel
theorem d_M_place_79 : decode prog_10_method_14_code 79 = .ok (.bipush 15, 2) := by decide +kernel
theorem d_M_place_81 : decode prog_10_method_14_code 81 = .ok (.bipush 6, 2) := by decide +kernel
theorem d_M_place_83 : decode prog_10_method_14_code 83 = .ok (.iload_n 3, 1) := by decide +kernel
theorem d_M_place_84 : decode prog_10_method_14_code 84 = .ok (.imul, 1) := by decide +kernel
theorem d_M_place_85 : decode prog_10_method_14_code 85 = .ok (.iadd, 1) := by decide +kernel
theorem d_M_place_86 : decode prog_10_method_14_code 86 = .ok (.iload_n 2, 1) := by decide +kernel
theorem d_M_place_87 : decode prog_10_method_14_code 87 = .ok (.iadd, 1) := by decide +kernel
theorem d_M_place_88 : decode prog_10_method_14_code 88 = .ok (.iconst 0, 1) := by decide +kernel
theorem d_M_place_89 : decode prog_10_method_14_code 89 = .ok (.iastore, 1) := by decide +kernel
theorem d_M_place_90 : decode prog_10_method_14_code 90 = .ok (.iinc 3 1, 3) := by decide +kernel
theorem d_M_place_93 : decode prog_10_method_14_code 93 = .ok (.goto (-39), 3) := by decide +kernel
theorem d_M_place_96 : decode prog_10_method_14_code 96 = .ok (.aload_n 0, 1) := by decide +kernel
theorem d_M_place_97 : decode prog_10_method_14_code 97 = .ok (.getfield 7, 3) := by decide +kernel
theorem d_M_place_100 : decode prog_10_method_14_code 100 = .ok (.iconst 2, 1) := by decide +kernel
theorem d_M_place_101 : decode prog_10_method_14_code 101 = .ok (.dup2, 1) := by decide +kernel
theorem d_M_place_102 : decode prog_10_method_14_code 102 = .ok (.iaload, 1) := by decide +kernel
theorem d_M_place_103 : decode prog_10_method_14_code 103 = .ok (.iconst 1, 1) := by decide +kernel
theorem d_M_place_104 : decode prog_10_method_14_code 104 = .ok (.iadd, 1) := by decide +kernel
theorem d_M_place_105 : decode prog_10_method_14_code 105 = .ok (.iastore, 1) := by decide +kernel
theorem d_M_place_106 : decode prog_10_method_14_code 106 = .ok (.iload_n 2, 1) := by decide +kernel
theorem d_M_place_107 : decode prog_10_method_14_code 107 = .ok (.ireturn, 1) := by decide +kernel
def w_M_place_54 (K : Int32 → sm_Mem → Prop) (p0 : Int32) (x2 : Int32) (x3 : Int32) (μ : sm_Mem) : Prop := sm_lp1 (fun J54 x3 μ => if 6 ≤ x3 then (∀ μ9 : sm_Mem, μ9 = sm_st μ 62 2 ((μ 62 2) + 1) → K x2 μ9) else (vp_in ((15 + (6 * x2)) + x3) 271 ∧ ∀ μ11 : sm_Mem, μ11 = sm_st μ 62 (((15 + (6 * x2)) + x3).toNatClampNeg) 0 → vp_in ((15 + (6 * x3)) + x2) 271 ∧ ∀ μ13 : sm_Mem, μ13 = sm_st μ11 62 (((15 + (6 * x3)) + x2).toNatClampNeg) 0 → J54 (x3 + 1) μ13)) x3 μ
def w_M_place (K : Int32 → sm_Mem → Prop) (p0 : Int32) (μ : sm_Mem) : Prop := w_M_in (fun r2 μ1 => if r2 = 0 then w_M_errs (fun r17 μ16 => K r17 μ16) (-1000000001) μ1 else (if (μ1 62 2) = 6 then w_M_errs (fun r15 μ14 => K r15 μ14) (-1000000004) μ1 else (∀ v5 : Int32, v5 = (μ1 62 2) → vp_in (9 + v5) 271 ∧ ∀ μ7 : sm_Mem, μ7 = sm_st μ1 62 ((9 + v5).toNatClampNeg) p0 → w_M_place_54 K p0 v5 0 μ7))) p0 0 9 μ
set_option maxHeartbeats 4000000 in
set_option maxRecDepth 100000 in
theorem P_M_place (l : Launch) {K : Int32 → sm_Mem → Prop} {p0 : Int32} {μ : sm_Mem} (h : w_M_place K p0 μ) : sm_MI l ⟨"SnowMoneyModel", "place", "(I)I"⟩ prog_10_method_14_code 4 (some .int) { frames := 1, cells := 0, slots := 0, locals := 22 } [sm_R 61, sm_I p0] μ K := by
  refine sm_ofI (by decide +kernel) (fun _ => Nat.le_of_ble_eq_true rfl) ?_
  intro p e s m args below meth c A Q G C hR
  have B54 : ∀ (x2 : Int32) (x3 : Int32) (μ : sm_Mem), w_M_place_54 K p0 x2 x3 μ → sm_W p l e { frames := 1, cells := 0, slots := 0, locals := 22 } s m args below meth c A Q G 4 0 0 54 [] [(0, sm_R 61), (2, sm_I x2), (3, sm_I x3)] μ := by
    intro x2 x3 μ h
    refine sm_lp1_sound (P := fun x3 μ => sm_W p l e { frames := 1, cells := 0, slots := 0, locals := 22 } s m args below meth c A Q G 4 0 0 54 [] [(0, sm_R 61), (2, sm_I x2), (3, sm_I x3)] μ) (fun J54 x3 μ hJ54 h => ?_) h
    refine sr_iload_n C 2 rfl rfl d_M_place_54 ?_
    refine sr_bipush C (v := 6) d_M_place_55 (by decide) ?_
    refine sr_icmp_ge C (tgt := 96) d_M_place_57 (by decide) (fun c8 => ?_) (fun c8 => ?_)
    · replace h := Eq.mp (if_pos c8) h
      refine sr_aload_n C 0 rfl rfl d_M_place_96 ?_
      refine sr_getR C sm_F7 0 q_435 sm_l61 (r := 62) rfl (by decide) d_M_place_97 ?_
      refine sr_iconst C (v := 2) d_M_place_100 (by decide) ?_
      refine sr_dup2 C rfl rfl d_M_place_101 ?_
      refine sr_ialdJ C sm_l62 (j := 2) (sm_vin (by decide)) (by decide) d_M_place_102 ?_
      refine sr_iconst C (v := 1) d_M_place_103 (by decide) ?_
      refine sr_iadd C d_M_place_104 ?_
      refine sr_iastJ C sm_l62 (j := 2) (sm_vin (by decide)) (by decide) d_M_place_105 ?_
      replace h := h _ rfl
      refine sr_iload_n C 1 rfl rfl d_M_place_106 ?_
      exact hR _ _ _ _ d_M_place_107 rfl h
    · replace h := Eq.mp (if_neg c8) h
      refine sr_aload_n C 0 rfl rfl d_M_place_60 ?_
      refine sr_getR C sm_F7 0 q_435 sm_l61 (r := 62) rfl (by decide) d_M_place_61 ?_
      refine sr_bipush C (v := 15) d_M_place_64 (by decide) ?_
      refine sr_bipush C (v := 6) d_M_place_66 (by decide) ?_
      refine sr_iload_n C 1 rfl rfl d_M_place_68 ?_
      refine sr_imul C d_M_place_69 ?_
      refine sr_iadd C d_M_place_70 ?_
      refine sr_iload_n C 2 rfl rfl d_M_place_71 ?_
      refine sr_iadd C d_M_place_72 ?_
      refine sr_iconst C (v := 0) d_M_place_73 (by decide) ?_
      obtain ⟨g10, h⟩ := h
      refine sr_iast C sm_l62 g10 d_M_place_74 ?_
      replace h := h _ rfl
      refine sr_aload_n C 0 rfl rfl d_M_place_75 ?_
      refine sr_getR C sm_F7 0 q_435 sm_l61 (r := 62) rfl (by decide) d_M_place_76 ?_
      refine sr_bipush C (v := 15) d_M_place_79 (by decide) ?_
      refine sr_bipush C (v := 6) d_M_place_81 (by decide) ?_
      refine sr_iload_n C 2 rfl rfl d_M_place_83 ?_
      refine sr_imul C d_M_place_84 ?_
      refine sr_iadd C d_M_place_85 ?_
      refine sr_iload_n C 1 rfl rfl d_M_place_86 ?_
      refine sr_iadd C d_M_place_87 ?_
      refine sr_iconst C (v := 0) d_M_place_88 (by decide) ?_
      obtain ⟨g12, h⟩ := h
      refine sr_iast C sm_l62 g12 d_M_place_89 ?_
      replace h := h _ rfl
      refine sr_iinc C 2 rfl (by decide) d_M_place_90 rfl ?_
      refine sr_goto C (tgt := 54) (by decide) d_M_place_93 ?_
      refine sr_mask C [1, 2, 0] rfl ?_
      exact hJ54 _ _ h
  refine sr_iload_n C 1 rfl rfl d_M_place_0 ?_
  refine sr_iconst C (v := 0) d_M_place_1 (by decide) ?_
  refine sr_bipush C (v := 9) d_M_place_2 (by decide) ?_
  refine sr_callSI C [sm_I _, sm_I _, sm_I _] (P_M_in l h) ok_96 rfl rfl rfl ⟨Nat.le_of_ble_eq_true rfl, Nat.le_of_ble_eq_true rfl⟩ (Nat.le_of_ble_eq_true rfl) ⟨Nat.zero_le _, Nat.zero_le _⟩ d_M_place_4 (fun r2 μ1 h => ?_)
  refine sr_if_ne C (tgt := 17) d_M_place_7 (by decide) (fun c3 => ?_) (fun c3 => ?_)
  · replace h := Eq.mp (if_neg c3) h
    refine sr_aload_n C 0 rfl rfl d_M_place_17 ?_
    refine sr_getR C sm_F7 0 q_435 sm_l61 (r := 62) rfl (by decide) d_M_place_18 ?_
    refine sr_iconst C (v := 2) d_M_place_21 (by decide) ?_
    refine sr_ialdJ C sm_l62 (j := 2) (sm_vin (by decide)) (by decide) d_M_place_22 ?_
    refine sr_bipush C (v := 6) d_M_place_23 (by decide) ?_
    refine sr_icmp_ne C (tgt := 35) d_M_place_25 (by decide) (fun c4 => ?_) (fun c4 => ?_)
    · replace h := Eq.mp (if_neg c4) h
      refine sr_aload_n C 0 rfl rfl d_M_place_35 ?_
      refine sr_getR C sm_F7 0 q_435 sm_l61 (r := 62) rfl (by decide) d_M_place_36 ?_
      refine sr_iconst C (v := 2) d_M_place_39 (by decide) ?_
      refine sr_ialdJ C sm_l62 (j := 2) (sm_vin (by decide)) (by decide) d_M_place_40 ?_
      replace h := h _ rfl
      refine sr_istore_n C rfl (by decide) d_M_place_41 ?_
      refine sr_aload_n C 1 rfl rfl d_M_place_42 ?_
      refine sr_getR C sm_F7 0 q_435 sm_l61 (r := 62) rfl (by decide) d_M_place_43 ?_
      refine sr_bipush C (v := 9) d_M_place_46 (by decide) ?_
      refine sr_iload_n C 0 rfl rfl d_M_place_48 ?_
      refine sr_iadd C d_M_place_49 ?_
      refine sr_iload_n C 2 rfl rfl d_M_place_50 ?_
      obtain ⟨g6, h⟩ := h
      refine sr_iast C sm_l62 g6 d_M_place_51 ?_
      replace h := h _ rfl
      refine sr_iconst C (v := 0) d_M_place_52 (by decide) ?_
      refine sr_istore_n C rfl (by decide) d_M_place_53 ?_
      refine sr_mask C [2, 1, 0] rfl ?_
      exact B54 _ _ _ h
    · replace h := Eq.mp (if_pos c4) h
      refine sr_aload_n C 0 rfl rfl d_M_place_28 ?_
      refine sr_ldc C q_436 d_M_place_29 ?_
      refine sr_callVI C [sm_I _] (P_M_errs l h) ok_97 sm_l61 rfl rfl rfl rfl ⟨Nat.le_of_ble_eq_true rfl, Nat.le_of_ble_eq_true rfl⟩ (Nat.le_of_ble_eq_true rfl) ⟨Nat.zero_le _, Nat.zero_le _⟩ d_M_place_31 (fun r15 μ14 h => ?_)
      exact hR _ _ _ _ d_M_place_34 rfl h
  · replace h := Eq.mp (if_pos c3) h
    refine sr_aload_n C 0 rfl rfl d_M_place_10 ?_
    refine sr_ldc C q_441 d_M_place_11 ?_
    refine sr_callVI C [sm_I _] (P_M_errs l h) ok_97 sm_l61 rfl rfl rfl rfl ⟨Nat.le_of_ble_eq_true rfl, Nat.le_of_ble_eq_true rfl⟩ (Nat.le_of_ble_eq_true rfl) ⟨Nat.zero_le _, Nat.zero_le _⟩ d_M_place_13 (fun r17 μ16 h => ?_)
    exact hR _ _ _ _ d_M_place_16 rfl h
theorem d_M_becomes_0 : decode prog_10_method_13_code 0 = .ok (.aload_n 0, 1) := by decide +kernel
theorem d_M_becomes_1 : decode prog_10_method_13_code 1 = .ok (.getfield 7, 3) := by decide +kernel
theorem d_M_becomes_4 : decode prog_10_method_13_code 4 = .ok (.iload_n 1, 1) := by decide +kernel
theorem d_M_becomes_5 : decode prog_10_method_13_code 5 = .ok (.iaload, 1) := by decide +kernel
theorem d_M_becomes_6 : decode prog_10_method_13_code 6 = .ok (.istore_n 3, 1) := by decide +kernel
theorem d_M_becomes_7 : decode prog_10_method_13_code 7 = .ok (.aload_n 0, 1) := by decide +kernel
theorem d_M_becomes_8 : decode prog_10_method_13_code 8 = .ok (.getfield 7, 3) := by decide +kernel
theorem d_M_becomes_11 : decode prog_10_method_13_code 11 = .ok (.iload_n 1, 1) := by decide +kernel
theorem d_M_becomes_12 : decode prog_10_method_13_code 12 = .ok (.iload_n 2, 1) := by decide +kernel
theorem d_M_becomes_13 : decode prog_10_method_13_code 13 = .ok (.iastore, 1) := by decide +kernel
theorem d_M_becomes_14 : decode prog_10_method_13_code 14 = .ok (.iload_n 3, 1) := by decide +kernel
theorem d_M_becomes_15 : decode prog_10_method_13_code 15 = .ok (.ireturn, 1) := by decide +kernel
def w_M_becomes (K : Int32 → sm_Mem → Prop) (p0 : Int32) (p1 : Int32) (μ : sm_Mem) : Prop := vp_in p0 271 ∧ ∀ v2 : Int32, v2 = (μ 62 p0.toNatClampNeg) → vp_in p0 271 ∧ ∀ μ4 : sm_Mem, μ4 = sm_st μ 62 (p0.toNatClampNeg) p1 → K v2 μ4
set_option maxHeartbeats 4000000 in
set_option maxRecDepth 100000 in
theorem P_M_becomes (l : Launch) {K : Int32 → sm_Mem → Prop} {p0 : Int32} {p1 : Int32} {μ : sm_Mem} (h : w_M_becomes K p0 p1 μ) : sm_MI l ⟨"SnowMoneyModel", "becomes", "(II)I"⟩ prog_10_method_13_code 4 (some .int) { frames := 0, cells := 0, slots := 0, locals := 0 } [sm_R 61, sm_I p0, sm_I p1] μ K := by
  refine sm_ofI (by decide +kernel) (fun _ => Nat.le_of_ble_eq_true rfl) ?_
  intro p e s m args below meth c A Q G C hR
  refine sr_aload_n C 0 rfl rfl d_M_becomes_0 ?_
  refine sr_getR C sm_F7 0 q_435 sm_l61 (r := 62) rfl (by decide) d_M_becomes_1 ?_
  refine sr_iload_n C 1 rfl rfl d_M_becomes_4 ?_
  obtain ⟨g1, h⟩ := h
  refine sr_iald C sm_l62 g1 d_M_becomes_5 ?_
  replace h := h _ rfl
  refine sr_istore_n C rfl (by decide) d_M_becomes_6 ?_
  refine sr_aload_n C 1 rfl rfl d_M_becomes_7 ?_
  refine sr_getR C sm_F7 0 q_435 sm_l61 (r := 62) rfl (by decide) d_M_becomes_8 ?_
  refine sr_iload_n C 2 rfl rfl d_M_becomes_11 ?_
  refine sr_iload_n C 3 rfl rfl d_M_becomes_12 ?_
  obtain ⟨g3, h⟩ := h
  refine sr_iast C sm_l62 g3 d_M_becomes_13 ?_
  replace h := h _ rfl
  refine sr_iload_n C 0 rfl rfl d_M_becomes_14 ?_
  exact hR _ _ _ _ d_M_becomes_15 rfl h
theorem d_M_isPlace_0 : decode prog_10_method_9_code 0 = .ok (.iload_n 1, 1) := by decide +kernel
theorem d_M_isPlace_1 : decode prog_10_method_9_code 1 = .ok (.iconst 0, 1) := by decide +kernel
theorem d_M_isPlace_2 : decode prog_10_method_9_code 2 = .ok (.aload_n 0, 1) := by decide +kernel
theorem d_M_isPlace_3 : decode prog_10_method_9_code 3 = .ok (.getfield 7, 3) := by decide +kernel
theorem d_M_isPlace_6 : decode prog_10_method_9_code 6 = .ok (.iconst 2, 1) := by decide +kernel
theorem d_M_isPlace_7 : decode prog_10_method_9_code 7 = .ok (.iaload, 1) := by decide +kernel
theorem d_M_isPlace_8 : decode prog_10_method_9_code 8 = .ok (.iconst 1, 1) := by decide +kernel
theorem d_M_isPlace_9 : decode prog_10_method_9_code 9 = .ok (.isub, 1) := by decide +kernel
theorem d_M_isPlace_10 : decode prog_10_method_9_code 10 = .ok (.invokestatic 44, 3) := by decide +kernel
theorem d_M_isPlace_13 : decode prog_10_method_9_code 13 = .ok (.ireturn, 1) := by decide +kernel
def w_M_isPlace (K : Int32 → sm_Mem → Prop) (p0 : Int32) (μ : sm_Mem) : Prop := w_M_in (fun r2 μ1 => (r2 = 0 ∨ r2 = 1) ∧ K r2 μ1) p0 0 ((μ 62 2) - 1) μ
set_option maxHeartbeats 4000000 in
set_option maxRecDepth 100000 in
theorem P_M_isPlace (l : Launch) {K : Int32 → sm_Mem → Prop} {p0 : Int32} {μ : sm_Mem} (h : w_M_isPlace K p0 μ) : sm_MI l ⟨"SnowMoneyModel", "isPlace", "(I)Z"⟩ prog_10_method_9_code 2 (some .boolean) { frames := 1, cells := 0, slots := 0, locals := 22 } [sm_R 61, sm_I p0] μ K := by
  refine sm_ofI (by decide +kernel) (fun _ => Nat.le_of_ble_eq_true rfl) ?_
  intro p e s m args below meth c A Q G C hR
  refine sr_iload_n C 1 rfl rfl d_M_isPlace_0 ?_
  refine sr_iconst C (v := 0) d_M_isPlace_1 (by decide) ?_
  refine sr_aload_n C 0 rfl rfl d_M_isPlace_2 ?_
  refine sr_getR C sm_F7 0 q_435 sm_l61 (r := 62) rfl (by decide) d_M_isPlace_3 ?_
  refine sr_iconst C (v := 2) d_M_isPlace_6 (by decide) ?_
  refine sr_ialdJ C sm_l62 (j := 2) (sm_vin (by decide)) (by decide) d_M_isPlace_7 ?_
  refine sr_iconst C (v := 1) d_M_isPlace_8 (by decide) ?_
  refine sr_isub C d_M_isPlace_9 ?_
  refine sr_callSI C [sm_I _, sm_I _, sm_I _] (P_M_in l h) ok_96 rfl rfl rfl ⟨Nat.le_of_ble_eq_true rfl, Nat.le_of_ble_eq_true rfl⟩ (Nat.le_of_ble_eq_true rfl) ⟨Nat.zero_le _, Nat.zero_le _⟩ d_M_isPlace_10 (fun r2 μ1 h => ?_)
  obtain ⟨g3, h⟩ := h
  exact hR _ _ _ _ d_M_isPlace_13 (sm_narZ g3) h
theorem d_M_warm_0 : decode prog_10_method_15_code 0 = .ok (.aload_n 0, 1) := by decide +kernel
theorem d_M_warm_1 : decode prog_10_method_15_code 1 = .ok (.iload_n 1, 1) := by decide +kernel
theorem d_M_warm_2 : decode prog_10_method_15_code 2 = .ok (.invokevirtual 54, 3) := by decide +kernel
theorem d_M_warm_5 : decode prog_10_method_15_code 5 = .ok (.ifCond .eq 25, 3) := by decide +kernel
theorem d_M_warm_8 : decode prog_10_method_15_code 8 = .ok (.iload_n 2, 1) := by decide +kernel
theorem d_M_warm_9 : decode prog_10_method_15_code 9 = .ok (.iconst 0, 1) := by decide +kernel
theorem d_M_warm_10 : decode prog_10_method_15_code 10 = .ok (.bipush 9, 2) := by decide +kernel
theorem d_M_warm_12 : decode prog_10_method_15_code 12 = .ok (.invokestatic 44, 3) := by decide +kernel
theorem d_M_warm_15 : decode prog_10_method_15_code 15 = .ok (.ifCond .eq 15, 3) := by decide +kernel
theorem d_M_warm_18 : decode prog_10_method_15_code 18 = .ok (.aload_n 0, 1) := by decide +kernel
theorem d_M_warm_19 : decode prog_10_method_15_code 19 = .ok (.bipush 9, 2) := by decide +kernel
theorem d_M_warm_21 : decode prog_10_method_15_code 21 = .ok (.iload_n 1, 1) := by decide +kernel
theorem d_M_warm_22 : decode prog_10_method_15_code 22 = .ok (.iadd, 1) := by decide +kernel
theorem d_M_warm_23 : decode prog_10_method_15_code 23 = .ok (.iload_n 2, 1) := by decide +kernel
theorem d_M_warm_24 : decode prog_10_method_15_code 24 = .ok (.invokevirtual 58, 3) := by decide +kernel
theorem d_M_warm_27 : decode prog_10_method_15_code 27 = .ok (.goto 9, 3) := by decide +kernel
theorem d_M_warm_30 : decode prog_10_method_15_code 30 = .ok (.aload_n 0, 1) := by decide +kernel
theorem d_M_warm_31 : decode prog_10_method_15_code 31 = .ok (.ldc 48, 2) := by decide +kernel
theorem d_M_warm_33 : decode prog_10_method_15_code 33 = .ok (.invokevirtual 49, 3) := by decide +kernel
theorem d_M_warm_36 : decode prog_10_method_15_code 36 = .ok (.ireturn, 1) := by decide +kernel
def w_M_warm_30 (K : Int32 → sm_Mem → Prop) (p0 : Int32) (p1 : Int32) (μ : sm_Mem) : Prop := w_M_errs (fun r5 μ4 => K r5 μ4) (-1000000001) μ
def w_M_warm (K : Int32 → sm_Mem → Prop) (p0 : Int32) (p1 : Int32) (μ : sm_Mem) : Prop := w_M_isPlace (fun r2 μ1 => if r2 = 0 then w_M_warm_30 K p0 p1 μ1 else w_M_in (fun r7 μ6 => if r7 = 0 then w_M_warm_30 K p0 p1 μ6 else w_M_becomes (fun r10 μ9 => K r10 μ9) (9 + p0) p1 μ6) p1 0 9 μ1) p0 μ
set_option maxHeartbeats 4000000 in
set_option maxRecDepth 100000 in
theorem P_M_warm (l : Launch) {K : Int32 → sm_Mem → Prop} {p0 : Int32} {p1 : Int32} {μ : sm_Mem} (h : w_M_warm K p0 p1 μ) : sm_MI l ⟨"SnowMoneyModel", "warm", "(II)I"⟩ prog_10_method_15_code 3 (some .int) { frames := 2, cells := 0, slots := 0, locals := 43 } [sm_R 61, sm_I p0, sm_I p1] μ K := by
  refine sm_ofI (by decide +kernel) (fun _ => Nat.le_of_ble_eq_true rfl) ?_
  intro p e s m args below meth c A Q G C hR
  have B30 : ∀ (μ : sm_Mem), w_M_warm_30 K p0 p1 μ → sm_W p l e { frames := 2, cells := 0, slots := 0, locals := 43 } s m args below meth c A Q G 3 0 0 30 [] [(0, sm_R 61)] μ := by
    intro μ h
    refine sr_aload_n C 0 rfl rfl d_M_warm_30 ?_
    refine sr_ldc C q_441 d_M_warm_31 ?_
    refine sr_callVI C [sm_I _] (P_M_errs l h) ok_97 sm_l61 rfl rfl rfl rfl ⟨Nat.le_of_ble_eq_true rfl, Nat.le_of_ble_eq_true rfl⟩ (Nat.le_of_ble_eq_true rfl) ⟨Nat.zero_le _, Nat.zero_le _⟩ d_M_warm_33 (fun r5 μ4 h => ?_)
    exact hR _ _ _ _ d_M_warm_36 rfl h
  refine sr_aload_n C 0 rfl rfl d_M_warm_0 ?_
  refine sr_iload_n C 1 rfl rfl d_M_warm_1 ?_
  refine sr_callVI C [sm_I _] (P_M_isPlace l h) ok_98 sm_l61 rfl rfl rfl rfl ⟨Nat.le_of_ble_eq_true rfl, Nat.le_of_ble_eq_true rfl⟩ (Nat.le_of_ble_eq_true rfl) ⟨Nat.zero_le _, Nat.zero_le _⟩ d_M_warm_2 (fun r2 μ1 h => ?_)
  refine sr_if_eq C (tgt := 30) d_M_warm_5 (by decide) (fun c3 => ?_) (fun c3 => ?_)
  · replace h := Eq.mp (if_pos c3) h
    refine sr_mask C [0] rfl ?_
    exact B30 _ h
  · replace h := Eq.mp (if_neg c3) h
    refine sr_iload_n C 2 rfl rfl d_M_warm_8 ?_
    refine sr_iconst C (v := 0) d_M_warm_9 (by decide) ?_
    refine sr_bipush C (v := 9) d_M_warm_10 (by decide) ?_
    refine sr_callSI C [sm_I _, sm_I _, sm_I _] (P_M_in l h) ok_96 rfl rfl rfl ⟨Nat.le_of_ble_eq_true rfl, Nat.le_of_ble_eq_true rfl⟩ (Nat.le_of_ble_eq_true rfl) ⟨Nat.zero_le _, Nat.zero_le _⟩ d_M_warm_12 (fun r7 μ6 h => ?_)
    refine sr_if_eq C (tgt := 30) d_M_warm_15 (by decide) (fun c8 => ?_) (fun c8 => ?_)
    · replace h := Eq.mp (if_pos c8) h
      refine sr_mask C [0] rfl ?_
      exact B30 _ h
    · replace h := Eq.mp (if_neg c8) h
      refine sr_aload_n C 0 rfl rfl d_M_warm_18 ?_
      refine sr_bipush C (v := 9) d_M_warm_19 (by decide) ?_
      refine sr_iload_n C 1 rfl rfl d_M_warm_21 ?_
      refine sr_iadd C d_M_warm_22 ?_
      refine sr_iload_n C 2 rfl rfl d_M_warm_23 ?_
      refine sr_callVI C [sm_I _, sm_I _] (P_M_becomes l h) ok_99 sm_l61 rfl rfl rfl rfl ⟨Nat.le_of_ble_eq_true rfl, Nat.le_of_ble_eq_true rfl⟩ (Nat.le_of_ble_eq_true rfl) ⟨Nat.zero_le _, Nat.zero_le _⟩ d_M_warm_24 (fun r10 μ9 h => ?_)
      refine sr_goto C (tgt := 36) (by decide) d_M_warm_27 ?_
      exact hR _ _ _ _ d_M_warm_36 rfl h
theorem d_M_its_0 : decode prog_10_method_7_code 0 = .ok (.aload_n 0, 1) := by decide +kernel
theorem d_M_its_1 : decode prog_10_method_7_code 1 = .ok (.getfield 7, 3) := by decide +kernel
theorem d_M_its_4 : decode prog_10_method_7_code 4 = .ok (.bipush 51, 2) := by decide +kernel
theorem d_M_its_6 : decode prog_10_method_7_code 6 = .ok (.iconst 5, 1) := by decide +kernel
theorem d_M_its_7 : decode prog_10_method_7_code 7 = .ok (.iload_n 1, 1) := by decide +kernel
theorem d_M_its_8 : decode prog_10_method_7_code 8 = .ok (.imul, 1) := by decide +kernel
theorem d_M_its_9 : decode prog_10_method_7_code 9 = .ok (.iadd, 1) := by decide +kernel
theorem d_M_its_10 : decode prog_10_method_7_code 10 = .ok (.iload_n 2, 1) := by decide +kernel
theorem d_M_its_11 : decode prog_10_method_7_code 11 = .ok (.iadd, 1) := by decide +kernel
theorem d_M_its_12 : decode prog_10_method_7_code 12 = .ok (.iaload, 1) := by decide +kernel
theorem d_M_its_13 : decode prog_10_method_7_code 13 = .ok (.ireturn, 1) := by decide +kernel
def w_M_its (K : Int32 → sm_Mem → Prop) (p0 : Int32) (p1 : Int32) (μ : sm_Mem) : Prop := vp_in ((51 + (5 * p0)) + p1) 271 ∧ K (μ 62 ((51 + (5 * p0)) + p1).toNatClampNeg) μ
set_option maxHeartbeats 4000000 in
set_option maxRecDepth 100000 in
theorem P_M_its (l : Launch) {K : Int32 → sm_Mem → Prop} {p0 : Int32} {p1 : Int32} {μ : sm_Mem} (h : w_M_its K p0 p1 μ) : sm_MI l ⟨"SnowMoneyModel", "its", "(II)I"⟩ prog_10_method_7_code 3 (some .int) { frames := 0, cells := 0, slots := 0, locals := 0 } [sm_R 61, sm_I p0, sm_I p1] μ K := by
  refine sm_ofI (by decide +kernel) (fun _ => Nat.le_of_ble_eq_true rfl) ?_
  intro p e s m args below meth c A Q G C hR
  refine sr_aload_n C 0 rfl rfl d_M_its_0 ?_
  refine sr_getR C sm_F7 0 q_435 sm_l61 (r := 62) rfl (by decide) d_M_its_1 ?_
  refine sr_bipush C (v := 51) d_M_its_4 (by decide) ?_
  refine sr_iconst C (v := 5) d_M_its_6 (by decide) ?_
  refine sr_iload_n C 1 rfl rfl d_M_its_7 ?_
  refine sr_imul C d_M_its_8 ?_
  refine sr_iadd C d_M_its_9 ?_
  refine sr_iload_n C 2 rfl rfl d_M_its_10 ?_
  refine sr_iadd C d_M_its_11 ?_
  obtain ⟨g1, h⟩ := h
  refine sr_iald C sm_l62 g1 d_M_its_12 ?_
  exact hR _ _ _ _ d_M_its_13 rfl h
theorem d_M_notesAt_0 : decode prog_10_method_16_code 0 = .ok (.iconst 0, 1) := by decide +kernel
theorem d_M_notesAt_1 : decode prog_10_method_16_code 1 = .ok (.istore_n 2, 1) := by decide +kernel
theorem d_M_notesAt_2 : decode prog_10_method_16_code 2 = .ok (.iconst 0, 1) := by decide +kernel
theorem d_M_notesAt_3 : decode prog_10_method_16_code 3 = .ok (.istore_n 3, 1) := by decide +kernel
theorem d_M_notesAt_4 : decode prog_10_method_16_code 4 = .ok (.iload_n 3, 1) := by decide +kernel
theorem d_M_notesAt_5 : decode prog_10_method_16_code 5 = .ok (.aload_n 0, 1) := by decide +kernel
theorem d_M_notesAt_6 : decode prog_10_method_16_code 6 = .ok (.getfield 7, 3) := by decide +kernel
theorem d_M_notesAt_9 : decode prog_10_method_16_code 9 = .ok (.bipush 7, 2) := by decide +kernel
theorem d_M_notesAt_11 : decode prog_10_method_16_code 11 = .ok (.iaload, 1) := by decide +kernel
theorem d_M_notesAt_12 : decode prog_10_method_16_code 12 = .ok (.if_icmp .ge 29, 3) := by decide +kernel
theorem d_M_notesAt_15 : decode prog_10_method_16_code 15 = .ok (.iload_n 2, 1) := by decide +kernel
theorem d_M_notesAt_16 : decode prog_10_method_16_code 16 = .ok (.aload_n 0, 1) := by decide +kernel
theorem d_M_notesAt_17 : decode prog_10_method_16_code 17 = .ok (.iload_n 3, 1) := by decide +kernel
theorem d_M_notesAt_18 : decode prog_10_method_16_code 18 = .ok (.iconst 3, 1) := by decide +kernel
theorem d_M_notesAt_19 : decode prog_10_method_16_code 19 = .ok (.invokevirtual 62, 3) := by decide +kernel
theorem d_M_notesAt_22 : decode prog_10_method_16_code 22 = .ok (.iload_n 1, 1) := by decide +kernel
theorem d_M_notesAt_23 : decode prog_10_method_16_code 23 = .ok (.if_icmp .ne 9, 3) := by decide +kernel
theorem d_M_notesAt_26 : decode prog_10_method_16_code 26 = .ok (.iconst 1, 1) := by decide +kernel
theorem d_M_notesAt_27 : decode prog_10_method_16_code 27 = .ok (.iload_n 3, 1) := by decide +kernel
theorem d_M_notesAt_28 : decode prog_10_method_16_code 28 = .ok (.ishl, 1) := by decide +kernel
theorem d_M_notesAt_29 : decode prog_10_method_16_code 29 = .ok (.goto 4, 3) := by decide +kernel
theorem d_M_notesAt_32 : decode prog_10_method_16_code 32 = .ok (.iconst 0, 1) := by decide +kernel
theorem d_M_notesAt_33 : decode prog_10_method_16_code 33 = .ok (.ior, 1) := by decide +kernel
theorem d_M_notesAt_34 : decode prog_10_method_16_code 34 = .ok (.istore_n 2, 1) := by decide +kernel
theorem d_M_notesAt_35 : decode prog_10_method_16_code 35 = .ok (.iinc 3 1, 3) := by decide +kernel
theorem d_M_notesAt_38 : decode prog_10_method_16_code 38 = .ok (.goto (-34), 3) := by decide +kernel
theorem d_M_notesAt_41 : decode prog_10_method_16_code 41 = .ok (.iload_n 2, 1) := by decide +kernel
theorem d_M_notesAt_42 : decode prog_10_method_16_code 42 = .ok (.ireturn, 1) := by decide +kernel
def w_M_notesAt_33 (K : Int32 → sm_Mem → Prop) (J4 : Int32 → Int32 → sm_Mem → Prop) (p0 : Int32) (x3 : Int32) (s0 : Int32) (s1 : Int32) (μ : sm_Mem) : Prop := ∀ v5 : Int32, v5 = (s1 ||| s0) → J4 v5 (x3 + 1) μ
def w_M_notesAt_4 (K : Int32 → sm_Mem → Prop) (p0 : Int32) (x2 : Int32) (x3 : Int32) (μ : sm_Mem) : Prop := sm_lp2 (fun J4 x2 x3 μ => if (μ 62 7) ≤ x3 then K x2 μ else w_M_its (fun r3 μ2 => if r3 = p0 then w_M_notesAt_33 K J4 p0 x3 (1 <<< (x3 &&& 31)) x2 μ2 else w_M_notesAt_33 K J4 p0 x3 0 x2 μ2) x3 3 μ) x2 x3 μ
def w_M_notesAt (K : Int32 → sm_Mem → Prop) (p0 : Int32) (μ : sm_Mem) : Prop := w_M_notesAt_4 K p0 0 0 μ
set_option maxHeartbeats 4000000 in
set_option maxRecDepth 100000 in
theorem P_M_notesAt (l : Launch) {K : Int32 → sm_Mem → Prop} {p0 : Int32} {μ : sm_Mem} (h : w_M_notesAt K p0 μ) : sm_MI l ⟨"SnowMoneyModel", "notesAt", "(I)I"⟩ prog_10_method_16_code 4 (some .int) { frames := 1, cells := 0, slots := 0, locals := 22 } [sm_R 61, sm_I p0] μ K := by
  refine sm_ofI (by decide +kernel) (fun _ => Nat.le_of_ble_eq_true rfl) ?_
  intro p e s m args below meth c A Q G C hR
  have B33 : ∀ (x3 : Int32) (s0 : Int32) (s1 : Int32) (J4 : Int32 → Int32 → sm_Mem → Prop) (hJ4 : ∀ (x2 : Int32) (x3 : Int32) (μ : sm_Mem), J4 x2 x3 μ → sm_W p l e { frames := 1, cells := 0, slots := 0, locals := 22 } s m args below meth c A Q G 4 0 0 4 [] [(0, sm_R 61), (1, sm_I p0), (2, sm_I x2), (3, sm_I x3)] μ) (μ : sm_Mem), w_M_notesAt_33 K J4 p0 x3 s0 s1 μ → sm_W p l e { frames := 1, cells := 0, slots := 0, locals := 22 } s m args below meth c A Q G 4 0 0 33 [sm_I s0, sm_I s1] [(0, sm_R 61), (1, sm_I p0), (3, sm_I x3)] μ := by
    intro x3 s0 s1 J4 hJ4 μ h
    refine sr_ior C d_M_notesAt_33 ?_
    replace h := h _ rfl
    refine sr_istore_n C rfl (by decide) d_M_notesAt_34 ?_
    refine sr_iinc C 3 rfl (by decide) d_M_notesAt_35 rfl ?_
    refine sr_goto C (tgt := 4) (by decide) d_M_notesAt_38 ?_
    refine sr_mask C [2, 3, 1, 0] rfl ?_
    exact hJ4 _ _ _ h
  have B4 : ∀ (x2 : Int32) (x3 : Int32) (μ : sm_Mem), w_M_notesAt_4 K p0 x2 x3 μ → sm_W p l e { frames := 1, cells := 0, slots := 0, locals := 22 } s m args below meth c A Q G 4 0 0 4 [] [(0, sm_R 61), (1, sm_I p0), (2, sm_I x2), (3, sm_I x3)] μ := by
    intro x2 x3 μ h
    refine sm_lp2_sound (P := fun x2 x3 μ => sm_W p l e { frames := 1, cells := 0, slots := 0, locals := 22 } s m args below meth c A Q G 4 0 0 4 [] [(0, sm_R 61), (1, sm_I p0), (2, sm_I x2), (3, sm_I x3)] μ) (fun J4 x2 x3 μ hJ4 h => ?_) h
    refine sr_iload_n C 3 rfl rfl d_M_notesAt_4 ?_
    refine sr_aload_n C 0 rfl rfl d_M_notesAt_5 ?_
    refine sr_getR C sm_F7 0 q_435 sm_l61 (r := 62) rfl (by decide) d_M_notesAt_6 ?_
    refine sr_bipush C (v := 7) d_M_notesAt_9 (by decide) ?_
    refine sr_ialdJ C sm_l62 (j := 7) (sm_vin (by decide)) (by decide) d_M_notesAt_11 ?_
    refine sr_icmp_ge C (tgt := 41) d_M_notesAt_12 (by decide) (fun c1 => ?_) (fun c1 => ?_)
    · replace h := Eq.mp (if_pos c1) h
      refine sr_iload_n C 2 rfl rfl d_M_notesAt_41 ?_
      exact hR _ _ _ _ d_M_notesAt_42 rfl h
    · replace h := Eq.mp (if_neg c1) h
      refine sr_iload_n C 2 rfl rfl d_M_notesAt_15 ?_
      refine sr_aload_n C 0 rfl rfl d_M_notesAt_16 ?_
      refine sr_iload_n C 3 rfl rfl d_M_notesAt_17 ?_
      refine sr_iconst C (v := 3) d_M_notesAt_18 (by decide) ?_
      refine sr_callVI C [sm_I _, sm_I _] (P_M_its l h) ok_101 sm_l61 rfl rfl rfl rfl ⟨Nat.le_of_ble_eq_true rfl, Nat.le_of_ble_eq_true rfl⟩ (Nat.le_of_ble_eq_true rfl) ⟨Nat.zero_le _, Nat.zero_le _⟩ d_M_notesAt_19 (fun r3 μ2 h => ?_)
      refine sr_iload_n C 1 rfl rfl d_M_notesAt_22 ?_
      refine sr_icmp_ne C (tgt := 32) d_M_notesAt_23 (by decide) (fun c4 => ?_) (fun c4 => ?_)
      · replace h := Eq.mp (if_neg c4) h
        refine sr_iconst C (v := 0) d_M_notesAt_32 (by decide) ?_
        refine sr_mask C [0, 1, 3] rfl ?_
        exact B33 _ _ _ _ hJ4 _ h
      · replace h := Eq.mp (if_pos c4) h
        refine sr_iconst C (v := 1) d_M_notesAt_26 (by decide) ?_
        refine sr_iload_n C 3 rfl rfl d_M_notesAt_27 ?_
        refine sr_ishl C d_M_notesAt_28 ?_
        refine sr_goto C (tgt := 33) (by decide) d_M_notesAt_29 ?_
        refine sr_mask C [0, 1, 3] rfl ?_
        exact B33 _ _ _ _ hJ4 _ h
  refine sr_iconst C (v := 0) d_M_notesAt_0 (by decide) ?_
  refine sr_istore_n C rfl (by decide) d_M_notesAt_1 ?_
  refine sr_iconst C (v := 0) d_M_notesAt_2 (by decide) ?_
  refine sr_istore_n C rfl (by decide) d_M_notesAt_3 ?_
  refine sr_mask C [2, 3, 1, 0] rfl ?_
  exact B4 _ _ _ h
theorem d_M_ofPlace_0 : decode prog_10_method_17_code 0 = .ok (.aload_n 0, 1) := by decide +kernel
theorem d_M_ofPlace_1 : decode prog_10_method_17_code 1 = .ok (.iload_n 1, 1) := by decide +kernel
theorem d_M_ofPlace_2 : decode prog_10_method_17_code 2 = .ok (.invokevirtual 54, 3) := by decide +kernel
theorem d_M_ofPlace_5 : decode prog_10_method_17_code 5 = .ok (.ifCond .eq 12, 3) := by decide +kernel
theorem d_M_ofPlace_8 : decode prog_10_method_17_code 8 = .ok (.iload_n 2, 1) := by decide +kernel
theorem d_M_ofPlace_9 : decode prog_10_method_17_code 9 = .ok (.iconst 0, 1) := by decide +kernel
theorem d_M_ofPlace_10 : decode prog_10_method_17_code 10 = .ok (.iconst 1, 1) := by decide +kernel
theorem d_M_ofPlace_11 : decode prog_10_method_17_code 11 = .ok (.invokestatic 44, 3) := by decide +kernel
theorem d_M_ofPlace_14 : decode prog_10_method_17_code 14 = .ok (.ifCond .ne 10, 3) := by decide +kernel
theorem d_M_ofPlace_17 : decode prog_10_method_17_code 17 = .ok (.aload_n 0, 1) := by decide +kernel
theorem d_M_ofPlace_18 : decode prog_10_method_17_code 18 = .ok (.ldc 48, 2) := by decide +kernel
theorem d_M_ofPlace_20 : decode prog_10_method_17_code 20 = .ok (.invokevirtual 49, 3) := by decide +kernel
theorem d_M_ofPlace_23 : decode prog_10_method_17_code 23 = .ok (.ireturn, 1) := by decide +kernel
theorem d_M_ofPlace_24 : decode prog_10_method_17_code 24 = .ok (.iload_n 2, 1) := by decide +kernel
theorem d_M_ofPlace_25 : decode prog_10_method_17_code 25 = .ok (.ifCond .ne 15, 3) := by decide +kernel
theorem d_M_ofPlace_28 : decode prog_10_method_17_code 28 = .ok (.aload_n 0, 1) := by decide +kernel
theorem d_M_ofPlace_29 : decode prog_10_method_17_code 29 = .ok (.getfield 7, 3) := by decide +kernel
theorem d_M_ofPlace_32 : decode prog_10_method_17_code 32 = .ok (.bipush 9, 2) := by decide +kernel
theorem d_M_ofPlace_34 : decode prog_10_method_17_code 34 = .ok (.iload_n 1, 1) := by decide +kernel
theorem d_M_ofPlace_35 : decode prog_10_method_17_code 35 = .ok (.iadd, 1) := by decide +kernel
theorem d_M_ofPlace_36 : decode prog_10_method_17_code 36 = .ok (.iaload, 1) := by decide +kernel
theorem d_M_ofPlace_37 : decode prog_10_method_17_code 37 = .ok (.goto 8, 3) := by decide +kernel
theorem d_M_ofPlace_40 : decode prog_10_method_17_code 40 = .ok (.aload_n 0, 1) := by decide +kernel
theorem d_M_ofPlace_41 : decode prog_10_method_17_code 41 = .ok (.iload_n 1, 1) := by decide +kernel
theorem d_M_ofPlace_42 : decode prog_10_method_17_code 42 = .ok (.invokevirtual 65, 3) := by decide +kernel
theorem d_M_ofPlace_45 : decode prog_10_method_17_code 45 = .ok (.ireturn, 1) := by decide +kernel
def w_M_ofPlace_17 (K : Int32 → sm_Mem → Prop) (p0 : Int32) (p1 : Int32) (μ : sm_Mem) : Prop := w_M_errs (fun r5 μ4 => K r5 μ4) (-1000000001) μ
def w_M_ofPlace (K : Int32 → sm_Mem → Prop) (p0 : Int32) (p1 : Int32) (μ : sm_Mem) : Prop := w_M_isPlace (fun r2 μ1 => if r2 = 0 then w_M_ofPlace_17 K p0 p1 μ1 else (w_M_in (fun r7 μ6 => if r7 = 0 then w_M_ofPlace_17 K p0 p1 μ6 else (if p1 = 0 then (vp_in (9 + p0) 271 ∧ K (μ6 62 (9 + p0).toNatClampNeg) μ6) else w_M_notesAt (fun r11 μ10 => K r11 μ10) p0 μ6)) p1 0 1 μ1)) p0 μ
set_option maxHeartbeats 4000000 in
set_option maxRecDepth 100000 in
theorem P_M_ofPlace (l : Launch) {K : Int32 → sm_Mem → Prop} {p0 : Int32} {p1 : Int32} {μ : sm_Mem} (h : w_M_ofPlace K p0 p1 μ) : sm_MI l ⟨"SnowMoneyModel", "ofPlace", "(II)I"⟩ prog_10_method_17_code 3 (some .int) { frames := 2, cells := 0, slots := 0, locals := 45 } [sm_R 61, sm_I p0, sm_I p1] μ K := by
  refine sm_ofI (by decide +kernel) (fun _ => Nat.le_of_ble_eq_true rfl) ?_
  intro p e s m args below meth c A Q G C hR
  have B17 : ∀ (μ : sm_Mem), w_M_ofPlace_17 K p0 p1 μ → sm_W p l e { frames := 2, cells := 0, slots := 0, locals := 45 } s m args below meth c A Q G 3 0 0 17 [] [(0, sm_R 61)] μ := by
    intro μ h
    refine sr_aload_n C 0 rfl rfl d_M_ofPlace_17 ?_
    refine sr_ldc C q_441 d_M_ofPlace_18 ?_
    refine sr_callVI C [sm_I _] (P_M_errs l h) ok_97 sm_l61 rfl rfl rfl rfl ⟨Nat.le_of_ble_eq_true rfl, Nat.le_of_ble_eq_true rfl⟩ (Nat.le_of_ble_eq_true rfl) ⟨Nat.zero_le _, Nat.zero_le _⟩ d_M_ofPlace_20 (fun r5 μ4 h => ?_)
    exact hR _ _ _ _ d_M_ofPlace_23 rfl h
  refine sr_aload_n C 0 rfl rfl d_M_ofPlace_0 ?_
  refine sr_iload_n C 1 rfl rfl d_M_ofPlace_1 ?_
  refine sr_callVI C [sm_I _] (P_M_isPlace l h) ok_98 sm_l61 rfl rfl rfl rfl ⟨Nat.le_of_ble_eq_true rfl, Nat.le_of_ble_eq_true rfl⟩ (Nat.le_of_ble_eq_true rfl) ⟨Nat.zero_le _, Nat.zero_le _⟩ d_M_ofPlace_2 (fun r2 μ1 h => ?_)
  refine sr_if_eq C (tgt := 17) d_M_ofPlace_5 (by decide) (fun c3 => ?_) (fun c3 => ?_)
  · replace h := Eq.mp (if_pos c3) h
    refine sr_mask C [0] rfl ?_
    exact B17 _ h
  · replace h := Eq.mp (if_neg c3) h
    refine sr_iload_n C 2 rfl rfl d_M_ofPlace_8 ?_
    refine sr_iconst C (v := 0) d_M_ofPlace_9 (by decide) ?_
    refine sr_iconst C (v := 1) d_M_ofPlace_10 (by decide) ?_
    refine sr_callSI C [sm_I _, sm_I _, sm_I _] (P_M_in l h) ok_96 rfl rfl rfl ⟨Nat.le_of_ble_eq_true rfl, Nat.le_of_ble_eq_true rfl⟩ (Nat.le_of_ble_eq_true rfl) ⟨Nat.zero_le _, Nat.zero_le _⟩ d_M_ofPlace_11 (fun r7 μ6 h => ?_)
    refine sr_if_ne C (tgt := 24) d_M_ofPlace_14 (by decide) (fun c8 => ?_) (fun c8 => ?_)
    · replace h := Eq.mp (if_neg c8) h
      refine sr_iload_n C 2 rfl rfl d_M_ofPlace_24 ?_
      refine sr_if_ne C (tgt := 40) d_M_ofPlace_25 (by decide) (fun c9 => ?_) (fun c9 => ?_)
      · replace h := Eq.mp (if_neg c9) h
        refine sr_aload_n C 0 rfl rfl d_M_ofPlace_40 ?_
        refine sr_iload_n C 1 rfl rfl d_M_ofPlace_41 ?_
        refine sr_callVI C [sm_I _] (P_M_notesAt l h) ok_100 sm_l61 rfl rfl rfl rfl ⟨Nat.le_of_ble_eq_true rfl, Nat.le_of_ble_eq_true rfl⟩ (Nat.le_of_ble_eq_true rfl) ⟨Nat.zero_le _, Nat.zero_le _⟩ d_M_ofPlace_42 (fun r11 μ10 h => ?_)
        exact hR _ _ _ _ d_M_ofPlace_45 rfl h
      · replace h := Eq.mp (if_pos c9) h
        refine sr_aload_n C 0 rfl rfl d_M_ofPlace_28 ?_
        refine sr_getR C sm_F7 0 q_435 sm_l61 (r := 62) rfl (by decide) d_M_ofPlace_29 ?_
        refine sr_bipush C (v := 9) d_M_ofPlace_32 (by decide) ?_
        refine sr_iload_n C 1 rfl rfl d_M_ofPlace_34 ?_
        refine sr_iadd C d_M_ofPlace_35 ?_
        obtain ⟨g12, h⟩ := h
        refine sr_iald C sm_l62 g12 d_M_ofPlace_36 ?_
        refine sr_goto C (tgt := 45) (by decide) d_M_ofPlace_37 ?_
        exact hR _ _ _ _ d_M_ofPlace_45 rfl h
    · replace h := Eq.mp (if_pos c8) h
      refine sr_mask C [0] rfl ?_
      exact B17 _ h
theorem d_M_road_0 : decode prog_10_method_18_code 0 = .ok (.aload_n 0, 1) := by decide +kernel
theorem d_M_road_1 : decode prog_10_method_18_code 1 = .ok (.iload_n 1, 1) := by decide +kernel
theorem d_M_road_2 : decode prog_10_method_18_code 2 = .ok (.invokevirtual 54, 3) := by decide +kernel
theorem d_M_road_5 : decode prog_10_method_18_code 5 = .ok (.ifCond .eq 26, 3) := by decide +kernel
theorem d_M_road_8 : decode prog_10_method_18_code 8 = .ok (.aload_n 0, 1) := by decide +kernel
theorem d_M_road_9 : decode prog_10_method_18_code 9 = .ok (.iload_n 2, 1) := by decide +kernel
theorem d_M_road_10 : decode prog_10_method_18_code 10 = .ok (.invokevirtual 54, 3) := by decide +kernel
theorem d_M_road_13 : decode prog_10_method_18_code 13 = .ok (.ifCond .eq 18, 3) := by decide +kernel
theorem d_M_road_16 : decode prog_10_method_18_code 16 = .ok (.iload_n 1, 1) := by decide +kernel
theorem d_M_road_17 : decode prog_10_method_18_code 17 = .ok (.iload_n 2, 1) := by decide +kernel
theorem d_M_road_18 : decode prog_10_method_18_code 18 = .ok (.if_icmp .eq 13, 3) := by decide +kernel
theorem d_M_road_21 : decode prog_10_method_18_code 21 = .ok (.iload_n 3, 1) := by decide +kernel
theorem d_M_road_22 : decode prog_10_method_18_code 22 = .ok (.iconst 0, 1) := by decide +kernel
theorem d_M_road_23 : decode prog_10_method_18_code 23 = .ok (.bipush 9, 2) := by decide +kernel
theorem d_M_road_25 : decode prog_10_method_18_code 25 = .ok (.invokestatic 44, 3) := by decide +kernel
theorem d_M_road_28 : decode prog_10_method_18_code 28 = .ok (.ifCond .ne 10, 3) := by decide +kernel
theorem d_M_road_31 : decode prog_10_method_18_code 31 = .ok (.aload_n 0, 1) := by decide +kernel
theorem d_M_road_32 : decode prog_10_method_18_code 32 = .ok (.ldc 48, 2) := by decide +kernel
theorem d_M_road_34 : decode prog_10_method_18_code 34 = .ok (.invokevirtual 49, 3) := by decide +kernel
theorem d_M_road_37 : decode prog_10_method_18_code 37 = .ok (.ireturn, 1) := by decide +kernel
theorem d_M_road_38 : decode prog_10_method_18_code 38 = .ok (.aload_n 0, 1) := by decide +kernel
theorem d_M_road_39 : decode prog_10_method_18_code 39 = .ok (.getfield 7, 3) := by decide +kernel
theorem d_M_road_42 : decode prog_10_method_18_code 42 = .ok (.bipush 15, 2) := by decide +kernel
theorem d_M_road_44 : decode prog_10_method_18_code 44 = .ok (.bipush 6, 2) := by decide +kernel
theorem d_M_road_46 : decode prog_10_method_18_code 46 = .ok (.iload_n 2, 1) := by decide +kernel
theorem d_M_road_47 : decode prog_10_method_18_code 47 = .ok (.imul, 1) := by decide +kernel
theorem d_M_road_48 : decode prog_10_method_18_code 48 = .ok (.iadd, 1) := by decide +kernel
theorem d_M_road_49 : decode prog_10_method_18_code 49 = .ok (.iload_n 1, 1) := by decide +kernel
theorem d_M_road_50 : decode prog_10_method_18_code 50 = .ok (.iadd, 1) := by decide +kernel
theorem d_M_road_51 : decode prog_10_method_18_code 51 = .ok (.iload_n 3, 1) := by decide +kernel
theorem d_M_road_52 : decode prog_10_method_18_code 52 = .ok (.iastore, 1) := by decide +kernel
theorem d_M_road_53 : decode prog_10_method_18_code 53 = .ok (.aload_n 0, 1) := by decide +kernel
theorem d_M_road_54 : decode prog_10_method_18_code 54 = .ok (.bipush 15, 2) := by decide +kernel
theorem d_M_road_56 : decode prog_10_method_18_code 56 = .ok (.bipush 6, 2) := by decide +kernel
theorem d_M_road_58 : decode prog_10_method_18_code 58 = .ok (.iload_n 1, 1) := by decide +kernel
theorem d_M_road_59 : decode prog_10_method_18_code 59 = .ok (.imul, 1) := by decide +kernel
theorem d_M_road_60 : decode prog_10_method_18_code 60 = .ok (.iadd, 1) := by decide +kernel
theorem d_M_road_61 : decode prog_10_method_18_code 61 = .ok (.iload_n 2, 1) := by decide +kernel
theorem d_M_road_62 : decode prog_10_method_18_code 62 = .ok (.iadd, 1) := by decide +kernel
theorem d_M_road_63 : decode prog_10_method_18_code 63 = .ok (.iload_n 3, 1) := by decide +kernel
theorem d_M_road_64 : decode prog_10_method_18_code 64 = .ok (.invokevirtual 58, 3) := by decide +kernel
theorem d_M_road_67 : decode prog_10_method_18_code 67 = .ok (.ireturn, 1) := by decide +kernel
def w_M_road_31 (K : Int32 → sm_Mem → Prop) (p0 : Int32) (p1 : Int32) (p2 : Int32) (μ : sm_Mem) : Prop := w_M_errs (fun r5 μ4 => K r5 μ4) (-1000000001) μ
def w_M_road (K : Int32 → sm_Mem → Prop) (p0 : Int32) (p1 : Int32) (p2 : Int32) (μ : sm_Mem) : Prop := w_M_isPlace (fun r2 μ1 => if r2 = 0 then w_M_road_31 K p0 p1 p2 μ1 else (w_M_isPlace (fun r7 μ6 => if r7 = 0 then w_M_road_31 K p0 p1 p2 μ6 else (if p0 = p1 then w_M_road_31 K p0 p1 p2 μ6 else (w_M_in (fun r11 μ10 => if r11 = 0 then w_M_road_31 K p0 p1 p2 μ10 else (vp_in ((15 + (6 * p1)) + p0) 271 ∧ ∀ μ14 : sm_Mem, μ14 = sm_st μ10 62 (((15 + (6 * p1)) + p0).toNatClampNeg) p2 → w_M_becomes (fun r16 μ15 => K r16 μ15) ((15 + (6 * p0)) + p1) p2 μ14)) p2 0 9 μ6))) p1 μ1)) p0 μ
set_option maxHeartbeats 4000000 in
set_option maxRecDepth 100000 in
theorem P_M_road (l : Launch) {K : Int32 → sm_Mem → Prop} {p0 : Int32} {p1 : Int32} {p2 : Int32} {μ : sm_Mem} (h : w_M_road K p0 p1 p2 μ) : sm_MI l ⟨"SnowMoneyModel", "road", "(III)I"⟩ prog_10_method_18_code 4 (some .int) { frames := 2, cells := 0, slots := 0, locals := 43 } [sm_R 61, sm_I p0, sm_I p1, sm_I p2] μ K := by
  refine sm_ofI (by decide +kernel) (fun _ => Nat.le_of_ble_eq_true rfl) ?_
  intro p e s m args below meth c A Q G C hR
  have B31 : ∀ (μ : sm_Mem), w_M_road_31 K p0 p1 p2 μ → sm_W p l e { frames := 2, cells := 0, slots := 0, locals := 43 } s m args below meth c A Q G 4 0 0 31 [] [(0, sm_R 61)] μ := by
    intro μ h
    refine sr_aload_n C 0 rfl rfl d_M_road_31 ?_
    refine sr_ldc C q_441 d_M_road_32 ?_
    refine sr_callVI C [sm_I _] (P_M_errs l h) ok_97 sm_l61 rfl rfl rfl rfl ⟨Nat.le_of_ble_eq_true rfl, Nat.le_of_ble_eq_true rfl⟩ (Nat.le_of_ble_eq_true rfl) ⟨Nat.zero_le _, Nat.zero_le _⟩ d_M_road_34 (fun r5 μ4 h => ?_)
    exact hR _ _ _ _ d_M_road_37 rfl h
  refine sr_aload_n C 0 rfl rfl d_M_road_0 ?_
  refine sr_iload_n C 1 rfl rfl d_M_road_1 ?_
  refine sr_callVI C [sm_I _] (P_M_isPlace l h) ok_98 sm_l61 rfl rfl rfl rfl ⟨Nat.le_of_ble_eq_true rfl, Nat.le_of_ble_eq_true rfl⟩ (Nat.le_of_ble_eq_true rfl) ⟨Nat.zero_le _, Nat.zero_le _⟩ d_M_road_2 (fun r2 μ1 h => ?_)
  refine sr_if_eq C (tgt := 31) d_M_road_5 (by decide) (fun c3 => ?_) (fun c3 => ?_)
  · replace h := Eq.mp (if_pos c3) h
    refine sr_mask C [0] rfl ?_
    exact B31 _ h
  · replace h := Eq.mp (if_neg c3) h
    refine sr_aload_n C 0 rfl rfl d_M_road_8 ?_
    refine sr_iload_n C 2 rfl rfl d_M_road_9 ?_
    refine sr_callVI C [sm_I _] (P_M_isPlace l h) ok_98 sm_l61 rfl rfl rfl rfl ⟨Nat.le_of_ble_eq_true rfl, Nat.le_of_ble_eq_true rfl⟩ (Nat.le_of_ble_eq_true rfl) ⟨Nat.zero_le _, Nat.zero_le _⟩ d_M_road_10 (fun r7 μ6 h => ?_)
    refine sr_if_eq C (tgt := 31) d_M_road_13 (by decide) (fun c8 => ?_) (fun c8 => ?_)
    · replace h := Eq.mp (if_pos c8) h
      refine sr_mask C [0] rfl ?_
      exact B31 _ h
    · replace h := Eq.mp (if_neg c8) h
      refine sr_iload_n C 1 rfl rfl d_M_road_16 ?_
      refine sr_iload_n C 2 rfl rfl d_M_road_17 ?_
      refine sr_icmp_eq C (tgt := 31) d_M_road_18 (by decide) (fun c9 => ?_) (fun c9 => ?_)
      · replace h := Eq.mp (if_pos c9) h
        refine sr_mask C [0] rfl ?_
        exact B31 _ h
      · replace h := Eq.mp (if_neg c9) h
        refine sr_iload_n C 3 rfl rfl d_M_road_21 ?_
        refine sr_iconst C (v := 0) d_M_road_22 (by decide) ?_
        refine sr_bipush C (v := 9) d_M_road_23 (by decide) ?_
        refine sr_callSI C [sm_I _, sm_I _, sm_I _] (P_M_in l h) ok_96 rfl rfl rfl ⟨Nat.le_of_ble_eq_true rfl, Nat.le_of_ble_eq_true rfl⟩ (Nat.le_of_ble_eq_true rfl) ⟨Nat.zero_le _, Nat.zero_le _⟩ d_M_road_25 (fun r11 μ10 h => ?_)
        refine sr_if_ne C (tgt := 38) d_M_road_28 (by decide) (fun c12 => ?_) (fun c12 => ?_)
        · replace h := Eq.mp (if_neg c12) h
          refine sr_aload_n C 0 rfl rfl d_M_road_38 ?_
          refine sr_getR C sm_F7 0 q_435 sm_l61 (r := 62) rfl (by decide) d_M_road_39 ?_
          refine sr_bipush C (v := 15) d_M_road_42 (by decide) ?_
          refine sr_bipush C (v := 6) d_M_road_44 (by decide) ?_
          refine sr_iload_n C 2 rfl rfl d_M_road_46 ?_
          refine sr_imul C d_M_road_47 ?_
          refine sr_iadd C d_M_road_48 ?_
          refine sr_iload_n C 1 rfl rfl d_M_road_49 ?_
          refine sr_iadd C d_M_road_50 ?_
          refine sr_iload_n C 3 rfl rfl d_M_road_51 ?_
          obtain ⟨g13, h⟩ := h
          refine sr_iast C sm_l62 g13 d_M_road_52 ?_
          replace h := h _ rfl
          refine sr_aload_n C 0 rfl rfl d_M_road_53 ?_
          refine sr_bipush C (v := 15) d_M_road_54 (by decide) ?_
          refine sr_bipush C (v := 6) d_M_road_56 (by decide) ?_
          refine sr_iload_n C 1 rfl rfl d_M_road_58 ?_
          refine sr_imul C d_M_road_59 ?_
          refine sr_iadd C d_M_road_60 ?_
          refine sr_iload_n C 2 rfl rfl d_M_road_61 ?_
          refine sr_iadd C d_M_road_62 ?_
          refine sr_iload_n C 3 rfl rfl d_M_road_63 ?_
          refine sr_callVI C [sm_I _, sm_I _] (P_M_becomes l h) ok_99 sm_l61 rfl rfl rfl rfl ⟨Nat.le_of_ble_eq_true rfl, Nat.le_of_ble_eq_true rfl⟩ (Nat.le_of_ble_eq_true rfl) ⟨Nat.zero_le _, Nat.zero_le _⟩ d_M_road_64 (fun r16 μ15 h => ?_)
          exact hR _ _ _ _ d_M_road_67 rfl h
        · replace h := Eq.mp (if_pos c12) h
          refine sr_mask C [0] rfl ?_
          exact B31 _ h
theorem d_M_gets_0 : decode prog_10_method_8_code 0 = .ok (.aload_n 0, 1) := by decide +kernel
theorem d_M_gets_1 : decode prog_10_method_8_code 1 = .ok (.getfield 7, 3) := by decide +kernel
theorem d_M_gets_4 : decode prog_10_method_8_code 4 = .ok (.bipush 51, 2) := by decide +kernel
theorem d_M_gets_6 : decode prog_10_method_8_code 6 = .ok (.iconst 5, 1) := by decide +kernel
theorem d_M_gets_7 : decode prog_10_method_8_code 7 = .ok (.iload_n 1, 1) := by decide +kernel
theorem d_M_gets_8 : decode prog_10_method_8_code 8 = .ok (.imul, 1) := by decide +kernel
theorem d_M_gets_9 : decode prog_10_method_8_code 9 = .ok (.iadd, 1) := by decide +kernel
theorem d_M_gets_10 : decode prog_10_method_8_code 10 = .ok (.iload_n 2, 1) := by decide +kernel
theorem d_M_gets_11 : decode prog_10_method_8_code 11 = .ok (.iadd, 1) := by decide +kernel
theorem d_M_gets_12 : decode prog_10_method_8_code 12 = .ok (.iload_n 3, 1) := by decide +kernel
theorem d_M_gets_13 : decode prog_10_method_8_code 13 = .ok (.iastore, 1) := by decide +kernel
theorem d_M_gets_14 : decode prog_10_method_8_code 14 = .ok (.return_, 1) := by decide +kernel
def w_M_gets (K : sm_Mem → Prop) (p0 : Int32) (p1 : Int32) (p2 : Int32) (μ : sm_Mem) : Prop := vp_in ((51 + (5 * p0)) + p1) 271 ∧ ∀ μ2 : sm_Mem, μ2 = sm_st μ 62 (((51 + (5 * p0)) + p1).toNatClampNeg) p2 → K μ2
set_option maxHeartbeats 4000000 in
set_option maxRecDepth 100000 in
theorem P_M_gets (l : Launch) {K : sm_Mem → Prop} {p0 : Int32} {p1 : Int32} {p2 : Int32} {μ : sm_Mem} (h : w_M_gets K p0 p1 p2 μ) : sm_MV l ⟨"SnowMoneyModel", "gets", "(III)V"⟩ prog_10_method_8_code 4 { frames := 0, cells := 0, slots := 0, locals := 0 } [sm_R 61, sm_I p0, sm_I p1, sm_I p2] μ K := by
  refine sm_ofV (by decide +kernel) (fun _ => Nat.le_of_ble_eq_true rfl) ?_
  intro p e s m args below meth c A Q G C hR
  refine sr_aload_n C 0 rfl rfl d_M_gets_0 ?_
  refine sr_getR C sm_F7 0 q_435 sm_l61 (r := 62) rfl (by decide) d_M_gets_1 ?_
  refine sr_bipush C (v := 51) d_M_gets_4 (by decide) ?_
  refine sr_iconst C (v := 5) d_M_gets_6 (by decide) ?_
  refine sr_iload_n C 1 rfl rfl d_M_gets_7 ?_
  refine sr_imul C d_M_gets_8 ?_
  refine sr_iadd C d_M_gets_9 ?_
  refine sr_iload_n C 2 rfl rfl d_M_gets_10 ?_
  refine sr_iadd C d_M_gets_11 ?_
  refine sr_iload_n C 3 rfl rfl d_M_gets_12 ?_
  obtain ⟨g1, h⟩ := h
  refine sr_iast C sm_l62 g1 d_M_gets_13 ?_
  replace h := h _ rfl
  exact hR _ _ _ d_M_gets_14 h
theorem d_M_isOwner_0 : decode prog_10_method_11_code 0 = .ok (.iload_n 0, 1) := by decide +kernel
theorem d_M_isOwner_1 : decode prog_10_method_11_code 1 = .ok (.iconst 0, 1) := by decide +kernel
theorem d_M_isOwner_2 : decode prog_10_method_11_code 2 = .ok (.iconst 3, 1) := by decide +kernel
theorem d_M_isOwner_3 : decode prog_10_method_11_code 3 = .ok (.invokestatic 44, 3) := by decide +kernel
theorem d_M_isOwner_6 : decode prog_10_method_11_code 6 = .ok (.ireturn, 1) := by decide +kernel
def w_M_isOwner (K : Int32 → sm_Mem → Prop) (p0 : Int32) (μ : sm_Mem) : Prop := w_M_in (fun r2 μ1 => (r2 = 0 ∨ r2 = 1) ∧ K r2 μ1) p0 0 3 μ
set_option maxHeartbeats 4000000 in
set_option maxRecDepth 100000 in
theorem P_M_isOwner (l : Launch) {K : Int32 → sm_Mem → Prop} {p0 : Int32} {μ : sm_Mem} (h : w_M_isOwner K p0 μ) : sm_MI l ⟨"SnowMoneyModel", "isOwner", "(I)Z"⟩ prog_10_method_11_code 1 (some .boolean) { frames := 1, cells := 0, slots := 0, locals := 22 } [sm_I p0] μ K := by
  refine sm_ofI (by decide +kernel) (fun _ => Nat.le_of_ble_eq_true rfl) ?_
  intro p e s m args below meth c A Q G C hR
  refine sr_iload_n C 0 rfl rfl d_M_isOwner_0 ?_
  refine sr_iconst C (v := 0) d_M_isOwner_1 (by decide) ?_
  refine sr_iconst C (v := 3) d_M_isOwner_2 (by decide) ?_
  refine sr_callSI C [sm_I _, sm_I _, sm_I _] (P_M_in l h) ok_96 rfl rfl rfl ⟨Nat.le_of_ble_eq_true rfl, Nat.le_of_ble_eq_true rfl⟩ (Nat.le_of_ble_eq_true rfl) ⟨Nat.zero_le _, Nat.zero_le _⟩ d_M_isOwner_3 (fun r2 μ1 h => ?_)
  obtain ⟨g3, h⟩ := h
  exact hR _ _ _ _ d_M_isOwner_6 (sm_narZ g3) h
theorem d_M_note_0 : decode prog_10_method_19_code 0 = .ok (.iload_n 1, 1) := by decide +kernel
theorem d_M_note_1 : decode prog_10_method_19_code 1 = .ok (.iconst 0, 1) := by decide +kernel
theorem d_M_note_2 : decode prog_10_method_19_code 2 = .ok (.bipush 69, 2) := by decide +kernel
theorem d_M_note_4 : decode prog_10_method_19_code 4 = .ok (.invokestatic 44, 3) := by decide +kernel
theorem d_M_note_7 : decode prog_10_method_19_code 7 = .ok (.ifCond .eq 30, 3) := by decide +kernel
theorem d_M_note_10 : decode prog_10_method_19_code 10 = .ok (.iload_n 2, 1) := by decide +kernel
theorem d_M_note_11 : decode prog_10_method_19_code 11 = .ok (.iconst 1, 1) := by decide +kernel
theorem d_M_note_12 : decode prog_10_method_19_code 12 = .ok (.sipush 999, 3) := by decide +kernel
theorem d_M_note_15 : decode prog_10_method_19_code 15 = .ok (.invokestatic 44, 3) := by decide +kernel
theorem d_M_note_18 : decode prog_10_method_19_code 18 = .ok (.ifCond .eq 19, 3) := by decide +kernel
theorem d_M_note_21 : decode prog_10_method_19_code 21 = .ok (.aload_n 0, 1) := by decide +kernel
theorem d_M_note_22 : decode prog_10_method_19_code 22 = .ok (.iload_n 3, 1) := by decide +kernel
theorem d_M_note_23 : decode prog_10_method_19_code 23 = .ok (.invokevirtual 54, 3) := by decide +kernel
theorem d_M_note_26 : decode prog_10_method_19_code 26 = .ok (.ifCond .eq 11, 3) := by decide +kernel
theorem d_M_note_29 : decode prog_10_method_19_code 29 = .ok (.iload 4, 2) := by decide +kernel
theorem d_M_note_31 : decode prog_10_method_19_code 31 = .ok (.invokestatic 68, 3) := by decide +kernel
theorem d_M_note_34 : decode prog_10_method_19_code 34 = .ok (.ifCond .ne 10, 3) := by decide +kernel
theorem d_M_note_37 : decode prog_10_method_19_code 37 = .ok (.aload_n 0, 1) := by decide +kernel
theorem d_M_note_38 : decode prog_10_method_19_code 38 = .ok (.ldc 48, 2) := by decide +kernel
theorem d_M_note_40 : decode prog_10_method_19_code 40 = .ok (.invokevirtual 49, 3) := by decide +kernel
theorem d_M_note_43 : decode prog_10_method_19_code 43 = .ok (.ireturn, 1) := by decide +kernel
theorem d_M_note_44 : decode prog_10_method_19_code 44 = .ok (.aload_n 0, 1) := by decide +kernel
theorem d_M_note_45 : decode prog_10_method_19_code 45 = .ok (.getfield 7, 3) := by decide +kernel
theorem d_M_note_48 : decode prog_10_method_19_code 48 = .ok (.bipush 7, 2) := by decide +kernel
theorem d_M_note_50 : decode prog_10_method_19_code 50 = .ok (.iaload, 1) := by decide +kernel
theorem d_M_note_51 : decode prog_10_method_19_code 51 = .ok (.bipush 10, 2) := by decide +kernel
theorem d_M_note_53 : decode prog_10_method_19_code 53 = .ok (.if_icmp .ne 10, 3) := by decide +kernel
theorem d_M_note_56 : decode prog_10_method_19_code 56 = .ok (.aload_n 0, 1) := by decide +kernel
theorem d_M_note_57 : decode prog_10_method_19_code 57 = .ok (.ldc 53, 2) := by decide +kernel
theorem d_M_note_59 : decode prog_10_method_19_code 59 = .ok (.invokevirtual 49, 3) := by decide +kernel
theorem d_M_note_62 : decode prog_10_method_19_code 62 = .ok (.ireturn, 1) := by decide +kernel
theorem d_M_note_63 : decode prog_10_method_19_code 63 = .ok (.aload_n 0, 1) := by decide +kernel
theorem d_M_note_64 : decode prog_10_method_19_code 64 = .ok (.getfield 7, 3) := by decide +kernel
theorem d_M_note_67 : decode prog_10_method_19_code 67 = .ok (.bipush 7, 2) := by decide +kernel
theorem d_M_note_69 : decode prog_10_method_19_code 69 = .ok (.iaload, 1) := by decide +kernel
theorem d_M_note_70 : decode prog_10_method_19_code 70 = .ok (.istore 5, 2) := by decide +kernel
theorem d_M_note_72 : decode prog_10_method_19_code 72 = .ok (.aload_n 0, 1) := by decide +kernel
theorem d_M_note_73 : decode prog_10_method_19_code 73 = .ok (.iload 5, 2) := by decide +kernel
theorem d_M_note_75 : decode prog_10_method_19_code 75 = .ok (.iconst 0, 1) := by decide +kernel
theorem d_M_note_76 : decode prog_10_method_19_code 76 = .ok (.iload_n 1, 1) := by decide +kernel
theorem d_M_note_77 : decode prog_10_method_19_code 77 = .ok (.bipush 10, 2) := by decide +kernel
theorem d_M_note_79 : decode prog_10_method_19_code 79 = .ok (.idiv, 1) := by decide +kernel
theorem d_M_note_80 : decode prog_10_method_19_code 80 = .ok (.invokevirtual 71, 3) := by decide +kernel
theorem d_M_note_83 : decode prog_10_method_19_code 83 = .ok (.aload_n 0, 1) := by decide +kernel
theorem d_M_note_84 : decode prog_10_method_19_code 84 = .ok (.iload 5, 2) := by decide +kernel
theorem d_M_note_86 : decode prog_10_method_19_code 86 = .ok (.iconst 1, 1) := by decide +kernel
theorem d_M_note_87 : decode prog_10_method_19_code 87 = .ok (.iload_n 1, 1) := by decide +kernel
theorem d_M_note_88 : decode prog_10_method_19_code 88 = .ok (.bipush 10, 2) := by decide +kernel
theorem d_M_note_90 : decode prog_10_method_19_code 90 = .ok (.irem, 1) := by decide +kernel
theorem d_M_note_91 : decode prog_10_method_19_code 91 = .ok (.invokevirtual 71, 3) := by decide +kernel
theorem d_M_note_94 : decode prog_10_method_19_code 94 = .ok (.aload_n 0, 1) := by decide +kernel
theorem d_M_note_95 : decode prog_10_method_19_code 95 = .ok (.iload 5, 2) := by decide +kernel
theorem d_M_note_97 : decode prog_10_method_19_code 97 = .ok (.iconst 2, 1) := by decide +kernel
theorem d_M_note_98 : decode prog_10_method_19_code 98 = .ok (.iload_n 2, 1) := by decide +kernel
theorem d_M_note_99 : decode prog_10_method_19_code 99 = .ok (.invokevirtual 71, 3) := by decide +kernel
theorem d_M_note_102 : decode prog_10_method_19_code 102 = .ok (.aload_n 0, 1) := by decide +kernel
theorem d_M_note_103 : decode prog_10_method_19_code 103 = .ok (.iload 5, 2) := by decide +kernel
theorem d_M_note_105 : decode prog_10_method_19_code 105 = .ok (.iconst 3, 1) := by decide +kernel
theorem d_M_note_106 : decode prog_10_method_19_code 106 = .ok (.iload_n 3, 1) := by decide +kernel
theorem d_M_note_107 : decode prog_10_method_19_code 107 = .ok (.invokevirtual 71, 3) := by decide +kernel
theorem d_M_note_110 : decode prog_10_method_19_code 110 = .ok (.aload_n 0, 1) := by decide +kernel
theorem d_M_note_111 : decode prog_10_method_19_code 111 = .ok (.iload 5, 2) := by decide +kernel
theorem d_M_note_113 : decode prog_10_method_19_code 113 = .ok (.iconst 4, 1) := by decide +kernel
theorem d_M_note_114 : decode prog_10_method_19_code 114 = .ok (.iload 4, 2) := by decide +kernel
theorem d_M_note_116 : decode prog_10_method_19_code 116 = .ok (.invokevirtual 71, 3) := by decide +kernel
theorem d_M_note_119 : decode prog_10_method_19_code 119 = .ok (.aload_n 0, 1) := by decide +kernel
theorem d_M_note_120 : decode prog_10_method_19_code 120 = .ok (.getfield 7, 3) := by decide +kernel
theorem d_M_note_123 : decode prog_10_method_19_code 123 = .ok (.bipush 7, 2) := by decide +kernel
theorem d_M_note_125 : decode prog_10_method_19_code 125 = .ok (.dup2, 1) := by decide +kernel
theorem d_M_note_126 : decode prog_10_method_19_code 126 = .ok (.iaload, 1) := by decide +kernel
theorem d_M_note_127 : decode prog_10_method_19_code 127 = .ok (.iconst 1, 1) := by decide +kernel
theorem d_M_note_128 : decode prog_10_method_19_code 128 = .ok (.iadd, 1) := by decide +kernel
theorem d_M_note_129 : decode prog_10_method_19_code 129 = .ok (.iastore, 1) := by decide +kernel
theorem d_M_note_130 : decode prog_10_method_19_code 130 = .ok (.iload 5, 2) := by decide +kernel
theorem d_M_note_132 : decode prog_10_method_19_code 132 = .ok (.ireturn, 1) := by decide +kernel
def w_M_note_37 (K : Int32 → sm_Mem → Prop) (p0 : Int32) (p1 : Int32) (p2 : Int32) (p3 : Int32) (μ : sm_Mem) : Prop := w_M_errs (fun r5 μ4 => K r5 μ4) (-1000000001) μ
def w_M_note (K : Int32 → sm_Mem → Prop) (p0 : Int32) (p1 : Int32) (p2 : Int32) (p3 : Int32) (μ : sm_Mem) : Prop := w_M_in (fun r2 μ1 => if r2 = 0 then w_M_note_37 K p0 p1 p2 p3 μ1 else (w_M_in (fun r7 μ6 => if r7 = 0 then w_M_note_37 K p0 p1 p2 p3 μ6 else (w_M_isPlace (fun r10 μ9 => if r10 = 0 then w_M_note_37 K p0 p1 p2 p3 μ9 else (w_M_isOwner (fun r13 μ12 => if r13 = 0 then w_M_note_37 K p0 p1 p2 p3 μ12 else (if (μ12 62 7) = 10 then w_M_errs (fun r24 μ23 => K r24 μ23) (-1000000004) μ12 else (∀ v16 : Int32, v16 = (μ12 62 7) → w_M_gets (fun μ17 => w_M_gets (fun μ18 => w_M_gets (fun μ19 => w_M_gets (fun μ20 => w_M_gets (fun μ21 => ∀ μ22 : sm_Mem, μ22 = sm_st μ21 62 7 ((μ21 62 7) + 1) → K v16 μ22) v16 4 p3 μ20) v16 3 p2 μ19) v16 2 p1 μ18) v16 1 (p0 % 10) μ17) v16 0 (p0 / 10) μ12))) p3 μ9)) p2 μ6)) p1 1 999 μ1)) p0 0 69 μ
set_option maxHeartbeats 4000000 in
set_option maxRecDepth 100000 in
theorem P_M_note (l : Launch) {K : Int32 → sm_Mem → Prop} {p0 : Int32} {p1 : Int32} {p2 : Int32} {p3 : Int32} {μ : sm_Mem} (h : w_M_note K p0 p1 p2 p3 μ) : sm_MI l ⟨"SnowMoneyModel", "note", "(IIII)I"⟩ prog_10_method_19_code 6 (some .int) { frames := 2, cells := 0, slots := 0, locals := 43 } [sm_R 61, sm_I p0, sm_I p1, sm_I p2, sm_I p3] μ K := by
  refine sm_ofI (by decide +kernel) (fun _ => Nat.le_of_ble_eq_true rfl) ?_
  intro p e s m args below meth c A Q G C hR
  have B37 : ∀ (μ : sm_Mem), w_M_note_37 K p0 p1 p2 p3 μ → sm_W p l e { frames := 2, cells := 0, slots := 0, locals := 43 } s m args below meth c A Q G 6 0 0 37 [] [(0, sm_R 61)] μ := by
    intro μ h
    refine sr_aload_n C 0 rfl rfl d_M_note_37 ?_
    refine sr_ldc C q_441 d_M_note_38 ?_
    refine sr_callVI C [sm_I _] (P_M_errs l h) ok_97 sm_l61 rfl rfl rfl rfl ⟨Nat.le_of_ble_eq_true rfl, Nat.le_of_ble_eq_true rfl⟩ (Nat.le_of_ble_eq_true rfl) ⟨Nat.zero_le _, Nat.zero_le _⟩ d_M_note_40 (fun r5 μ4 h => ?_)
    exact hR _ _ _ _ d_M_note_43 rfl h
  refine sr_iload_n C 1 rfl rfl d_M_note_0 ?_
  refine sr_iconst C (v := 0) d_M_note_1 (by decide) ?_
  refine sr_bipush C (v := 69) d_M_note_2 (by decide) ?_
  refine sr_callSI C [sm_I _, sm_I _, sm_I _] (P_M_in l h) ok_96 rfl rfl rfl ⟨Nat.le_of_ble_eq_true rfl, Nat.le_of_ble_eq_true rfl⟩ (Nat.le_of_ble_eq_true rfl) ⟨Nat.zero_le _, Nat.zero_le _⟩ d_M_note_4 (fun r2 μ1 h => ?_)
  refine sr_if_eq C (tgt := 37) d_M_note_7 (by decide) (fun c3 => ?_) (fun c3 => ?_)
  · replace h := Eq.mp (if_pos c3) h
    refine sr_mask C [0] rfl ?_
    exact B37 _ h
  · replace h := Eq.mp (if_neg c3) h
    refine sr_iload_n C 2 rfl rfl d_M_note_10 ?_
    refine sr_iconst C (v := 1) d_M_note_11 (by decide) ?_
    refine sr_sipush C (v := 999) d_M_note_12 (by decide) ?_
    refine sr_callSI C [sm_I _, sm_I _, sm_I _] (P_M_in l h) ok_96 rfl rfl rfl ⟨Nat.le_of_ble_eq_true rfl, Nat.le_of_ble_eq_true rfl⟩ (Nat.le_of_ble_eq_true rfl) ⟨Nat.zero_le _, Nat.zero_le _⟩ d_M_note_15 (fun r7 μ6 h => ?_)
    refine sr_if_eq C (tgt := 37) d_M_note_18 (by decide) (fun c8 => ?_) (fun c8 => ?_)
    · replace h := Eq.mp (if_pos c8) h
      refine sr_mask C [0] rfl ?_
      exact B37 _ h
    · replace h := Eq.mp (if_neg c8) h
      refine sr_aload_n C 0 rfl rfl d_M_note_21 ?_
      refine sr_iload_n C 3 rfl rfl d_M_note_22 ?_
      refine sr_callVI C [sm_I _] (P_M_isPlace l h) ok_98 sm_l61 rfl rfl rfl rfl ⟨Nat.le_of_ble_eq_true rfl, Nat.le_of_ble_eq_true rfl⟩ (Nat.le_of_ble_eq_true rfl) ⟨Nat.zero_le _, Nat.zero_le _⟩ d_M_note_23 (fun r10 μ9 h => ?_)
      refine sr_if_eq C (tgt := 37) d_M_note_26 (by decide) (fun c11 => ?_) (fun c11 => ?_)
      · replace h := Eq.mp (if_pos c11) h
        refine sr_mask C [0] rfl ?_
        exact B37 _ h
      · replace h := Eq.mp (if_neg c11) h
        refine sr_iload C 4 rfl d_M_note_29 ?_
        refine sr_callSI C [sm_I _] (P_M_isOwner l h) ok_102 rfl rfl rfl ⟨Nat.le_of_ble_eq_true rfl, Nat.le_of_ble_eq_true rfl⟩ (Nat.le_of_ble_eq_true rfl) ⟨Nat.zero_le _, Nat.zero_le _⟩ d_M_note_31 (fun r13 μ12 h => ?_)
        refine sr_if_ne C (tgt := 44) d_M_note_34 (by decide) (fun c14 => ?_) (fun c14 => ?_)
        · replace h := Eq.mp (if_neg c14) h
          refine sr_aload_n C 0 rfl rfl d_M_note_44 ?_
          refine sr_getR C sm_F7 0 q_435 sm_l61 (r := 62) rfl (by decide) d_M_note_45 ?_
          refine sr_bipush C (v := 7) d_M_note_48 (by decide) ?_
          refine sr_ialdJ C sm_l62 (j := 7) (sm_vin (by decide)) (by decide) d_M_note_50 ?_
          refine sr_bipush C (v := 10) d_M_note_51 (by decide) ?_
          refine sr_icmp_ne C (tgt := 63) d_M_note_53 (by decide) (fun c15 => ?_) (fun c15 => ?_)
          · replace h := Eq.mp (if_neg c15) h
            refine sr_aload_n C 0 rfl rfl d_M_note_63 ?_
            refine sr_getR C sm_F7 0 q_435 sm_l61 (r := 62) rfl (by decide) d_M_note_64 ?_
            refine sr_bipush C (v := 7) d_M_note_67 (by decide) ?_
            refine sr_ialdJ C sm_l62 (j := 7) (sm_vin (by decide)) (by decide) d_M_note_69 ?_
            replace h := h _ rfl
            refine sr_istore C (by decide) d_M_note_70 ?_
            refine sr_aload_n C 1 rfl rfl d_M_note_72 ?_
            refine sr_iload C 0 rfl d_M_note_73 ?_
            refine sr_iconst C (v := 0) d_M_note_75 (by decide) ?_
            refine sr_iload_n C 2 rfl rfl d_M_note_76 ?_
            refine sr_bipush C (v := 10) d_M_note_77 (by decide) ?_
            refine sr_idiv C (by decide) d_M_note_79 ?_
            refine sr_callVV C [sm_I _, sm_I _, sm_I _] (P_M_gets l h) ok_103 sm_l61 rfl rfl rfl rfl ⟨Nat.le_of_ble_eq_true rfl, Nat.le_of_ble_eq_true rfl⟩ (Nat.le_of_ble_eq_true rfl) ⟨Nat.zero_le _, Nat.zero_le _⟩ d_M_note_80 (fun μ17 h => ?_)
            refine sr_aload_n C 1 rfl rfl d_M_note_83 ?_
            refine sr_iload C 0 rfl d_M_note_84 ?_
            refine sr_iconst C (v := 1) d_M_note_86 (by decide) ?_
            refine sr_iload_n C 2 rfl rfl d_M_note_87 ?_
            refine sr_bipush C (v := 10) d_M_note_88 (by decide) ?_
            refine sr_irem C (by decide) d_M_note_90 ?_
            refine sr_callVV C [sm_I _, sm_I _, sm_I _] (P_M_gets l h) ok_103 sm_l61 rfl rfl rfl rfl ⟨Nat.le_of_ble_eq_true rfl, Nat.le_of_ble_eq_true rfl⟩ (Nat.le_of_ble_eq_true rfl) ⟨Nat.zero_le _, Nat.zero_le _⟩ d_M_note_91 (fun μ18 h => ?_)
            refine sr_aload_n C 1 rfl rfl d_M_note_94 ?_
            refine sr_iload C 0 rfl d_M_note_95 ?_
            refine sr_iconst C (v := 2) d_M_note_97 (by decide) ?_
            refine sr_iload_n C 3 rfl rfl d_M_note_98 ?_
            refine sr_callVV C [sm_I _, sm_I _, sm_I _] (P_M_gets l h) ok_103 sm_l61 rfl rfl rfl rfl ⟨Nat.le_of_ble_eq_true rfl, Nat.le_of_ble_eq_true rfl⟩ (Nat.le_of_ble_eq_true rfl) ⟨Nat.zero_le _, Nat.zero_le _⟩ d_M_note_99 (fun μ19 h => ?_)
            refine sr_aload_n C 1 rfl rfl d_M_note_102 ?_
            refine sr_iload C 0 rfl d_M_note_103 ?_
            refine sr_iconst C (v := 3) d_M_note_105 (by decide) ?_
            refine sr_iload_n C 4 rfl rfl d_M_note_106 ?_
            refine sr_callVV C [sm_I _, sm_I _, sm_I _] (P_M_gets l h) ok_103 sm_l61 rfl rfl rfl rfl ⟨Nat.le_of_ble_eq_true rfl, Nat.le_of_ble_eq_true rfl⟩ (Nat.le_of_ble_eq_true rfl) ⟨Nat.zero_le _, Nat.zero_le _⟩ d_M_note_107 (fun μ20 h => ?_)
            refine sr_aload_n C 1 rfl rfl d_M_note_110 ?_
            refine sr_iload C 0 rfl d_M_note_111 ?_
            refine sr_iconst C (v := 4) d_M_note_113 (by decide) ?_
            refine sr_iload C 5 rfl d_M_note_114 ?_
            refine sr_callVV C [sm_I _, sm_I _, sm_I _] (P_M_gets l h) ok_103 sm_l61 rfl rfl rfl rfl ⟨Nat.le_of_ble_eq_true rfl, Nat.le_of_ble_eq_true rfl⟩ (Nat.le_of_ble_eq_true rfl) ⟨Nat.zero_le _, Nat.zero_le _⟩ d_M_note_116 (fun μ21 h => ?_)
            refine sr_aload_n C 1 rfl rfl d_M_note_119 ?_
            refine sr_getR C sm_F7 0 q_435 sm_l61 (r := 62) rfl (by decide) d_M_note_120 ?_
            refine sr_bipush C (v := 7) d_M_note_123 (by decide) ?_
            refine sr_dup2 C rfl rfl d_M_note_125 ?_
            refine sr_ialdJ C sm_l62 (j := 7) (sm_vin (by decide)) (by decide) d_M_note_126 ?_
            refine sr_iconst C (v := 1) d_M_note_127 (by decide) ?_
            refine sr_iadd C d_M_note_128 ?_
            refine sr_iastJ C sm_l62 (j := 7) (sm_vin (by decide)) (by decide) d_M_note_129 ?_
            replace h := h _ rfl
            refine sr_iload C 0 rfl d_M_note_130 ?_
            exact hR _ _ _ _ d_M_note_132 rfl h
          · replace h := Eq.mp (if_pos c15) h
            refine sr_aload_n C 0 rfl rfl d_M_note_56 ?_
            refine sr_ldc C q_436 d_M_note_57 ?_
            refine sr_callVI C [sm_I _] (P_M_errs l h) ok_97 sm_l61 rfl rfl rfl rfl ⟨Nat.le_of_ble_eq_true rfl, Nat.le_of_ble_eq_true rfl⟩ (Nat.le_of_ble_eq_true rfl) ⟨Nat.zero_le _, Nat.zero_le _⟩ d_M_note_59 (fun r24 μ23 h => ?_)
            exact hR _ _ _ _ d_M_note_62 rfl h
        · replace h := Eq.mp (if_pos c14) h
          refine sr_mask C [0] rfl ?_
          exact B37 _ h
theorem d_M_isNote_0 : decode prog_10_method_10_code 0 = .ok (.iload_n 1, 1) := by decide +kernel
theorem d_M_isNote_1 : decode prog_10_method_10_code 1 = .ok (.iconst 0, 1) := by decide +kernel
theorem d_M_isNote_2 : decode prog_10_method_10_code 2 = .ok (.aload_n 0, 1) := by decide +kernel
theorem d_M_isNote_3 : decode prog_10_method_10_code 3 = .ok (.getfield 7, 3) := by decide +kernel
theorem d_M_isNote_6 : decode prog_10_method_10_code 6 = .ok (.bipush 7, 2) := by decide +kernel
theorem d_M_isNote_8 : decode prog_10_method_10_code 8 = .ok (.iaload, 1) := by decide +kernel
theorem d_M_isNote_9 : decode prog_10_method_10_code 9 = .ok (.iconst 1, 1) := by decide +kernel
theorem d_M_isNote_10 : decode prog_10_method_10_code 10 = .ok (.isub, 1) := by decide +kernel
theorem d_M_isNote_11 : decode prog_10_method_10_code 11 = .ok (.invokestatic 44, 3) := by decide +kernel
theorem d_M_isNote_14 : decode prog_10_method_10_code 14 = .ok (.ireturn, 1) := by decide +kernel
def w_M_isNote (K : Int32 → sm_Mem → Prop) (p0 : Int32) (μ : sm_Mem) : Prop := w_M_in (fun r2 μ1 => (r2 = 0 ∨ r2 = 1) ∧ K r2 μ1) p0 0 ((μ 62 7) - 1) μ
set_option maxHeartbeats 4000000 in
set_option maxRecDepth 100000 in
theorem P_M_isNote (l : Launch) {K : Int32 → sm_Mem → Prop} {p0 : Int32} {μ : sm_Mem} (h : w_M_isNote K p0 μ) : sm_MI l ⟨"SnowMoneyModel", "isNote", "(I)Z"⟩ prog_10_method_10_code 2 (some .boolean) { frames := 1, cells := 0, slots := 0, locals := 22 } [sm_R 61, sm_I p0] μ K := by
  refine sm_ofI (by decide +kernel) (fun _ => Nat.le_of_ble_eq_true rfl) ?_
  intro p e s m args below meth c A Q G C hR
  refine sr_iload_n C 1 rfl rfl d_M_isNote_0 ?_
  refine sr_iconst C (v := 0) d_M_isNote_1 (by decide) ?_
  refine sr_aload_n C 0 rfl rfl d_M_isNote_2 ?_
  refine sr_getR C sm_F7 0 q_435 sm_l61 (r := 62) rfl (by decide) d_M_isNote_3 ?_
  refine sr_bipush C (v := 7) d_M_isNote_6 (by decide) ?_
  refine sr_ialdJ C sm_l62 (j := 7) (sm_vin (by decide)) (by decide) d_M_isNote_8 ?_
  refine sr_iconst C (v := 1) d_M_isNote_9 (by decide) ?_
  refine sr_isub C d_M_isNote_10 ?_
  refine sr_callSI C [sm_I _, sm_I _, sm_I _] (P_M_in l h) ok_96 rfl rfl rfl ⟨Nat.le_of_ble_eq_true rfl, Nat.le_of_ble_eq_true rfl⟩ (Nat.le_of_ble_eq_true rfl) ⟨Nat.zero_le _, Nat.zero_le _⟩ d_M_isNote_11 (fun r2 μ1 h => ?_)
  obtain ⟨g3, h⟩ := h
  exact hR _ _ _ _ d_M_isNote_14 (sm_narZ g3) h
theorem d_M_held_0 : decode prog_10_method_4_code 0 = .ok (.iload_n 0, 1) := by decide +kernel
theorem d_M_held_1 : decode prog_10_method_4_code 1 = .ok (.iload_n 1, 1) := by decide +kernel
theorem d_M_held_2 : decode prog_10_method_4_code 2 = .ok (.if_icmp .ge 7, 3) := by decide +kernel
theorem d_M_held_5 : decode prog_10_method_4_code 5 = .ok (.iload_n 1, 1) := by decide +kernel
theorem d_M_held_6 : decode prog_10_method_4_code 6 = .ok (.goto 13, 3) := by decide +kernel
theorem d_M_held_9 : decode prog_10_method_4_code 9 = .ok (.iload_n 0, 1) := by decide +kernel
theorem d_M_held_10 : decode prog_10_method_4_code 10 = .ok (.iload_n 2, 1) := by decide +kernel
theorem d_M_held_11 : decode prog_10_method_4_code 11 = .ok (.if_icmp .le 7, 3) := by decide +kernel
theorem d_M_held_14 : decode prog_10_method_4_code 14 = .ok (.iload_n 2, 1) := by decide +kernel
theorem d_M_held_15 : decode prog_10_method_4_code 15 = .ok (.goto 4, 3) := by decide +kernel
theorem d_M_held_18 : decode prog_10_method_4_code 18 = .ok (.iload_n 0, 1) := by decide +kernel
theorem d_M_held_19 : decode prog_10_method_4_code 19 = .ok (.ireturn, 1) := by decide +kernel
def w_M_held (K : Int32 → sm_Mem → Prop) (p0 : Int32) (p1 : Int32) (p2 : Int32) (μ : sm_Mem) : Prop := if p1 ≤ p0 then (if p0 ≤ p2 then K p0 μ else K p2 μ) else K p1 μ
set_option maxHeartbeats 4000000 in
set_option maxRecDepth 100000 in
theorem P_M_held (l : Launch) {K : Int32 → sm_Mem → Prop} {p0 : Int32} {p1 : Int32} {p2 : Int32} {μ : sm_Mem} (h : w_M_held K p0 p1 p2 μ) : sm_MI l ⟨"SnowMoneyModel", "held", "(III)I"⟩ prog_10_method_4_code 3 (some .int) { frames := 0, cells := 0, slots := 0, locals := 0 } [sm_I p0, sm_I p1, sm_I p2] μ K := by
  refine sm_ofI (by decide +kernel) (fun _ => Nat.le_of_ble_eq_true rfl) ?_
  intro p e s m args below meth c A Q G C hR
  refine sr_iload_n C 0 rfl rfl d_M_held_0 ?_
  refine sr_iload_n C 1 rfl rfl d_M_held_1 ?_
  refine sr_icmp_ge C (tgt := 9) d_M_held_2 (by decide) (fun c1 => ?_) (fun c1 => ?_)
  · replace h := Eq.mp (if_pos c1) h
    refine sr_iload_n C 0 rfl rfl d_M_held_9 ?_
    refine sr_iload_n C 2 rfl rfl d_M_held_10 ?_
    refine sr_icmp_le C (tgt := 18) d_M_held_11 (by decide) (fun c2 => ?_) (fun c2 => ?_)
    · replace h := Eq.mp (if_pos c2) h
      refine sr_iload_n C 0 rfl rfl d_M_held_18 ?_
      exact hR _ _ _ _ d_M_held_19 rfl h
    · replace h := Eq.mp (if_neg c2) h
      refine sr_iload_n C 2 rfl rfl d_M_held_14 ?_
      refine sr_goto C (tgt := 19) (by decide) d_M_held_15 ?_
      exact hR _ _ _ _ d_M_held_19 rfl h
  · replace h := Eq.mp (if_neg c1) h
    refine sr_iload_n C 1 rfl rfl d_M_held_5 ?_
    refine sr_goto C (tgt := 19) (by decide) d_M_held_6 ?_
    exact hR _ _ _ _ d_M_held_19 rfl h
theorem d_M_byteAt_0 : decode prog_10_method_26_code 0 = .ok (.iload_n 1, 1) := by decide +kernel
theorem d_M_byteAt_1 : decode prog_10_method_26_code 1 = .ok (.aload_n 0, 1) := by decide +kernel
theorem d_M_byteAt_2 : decode prog_10_method_26_code 2 = .ok (.getfield 88, 3) := by decide +kernel
theorem d_M_byteAt_5 : decode prog_10_method_26_code 5 = .ok (.if_icmp .ge 24, 3) := by decide +kernel
theorem d_M_byteAt_8 : decode prog_10_method_26_code 8 = .ok (.aload_n 0, 1) := by decide +kernel
theorem d_M_byteAt_9 : decode prog_10_method_26_code 9 = .ok (.getfield 7, 3) := by decide +kernel
theorem d_M_byteAt_12 : decode prog_10_method_26_code 12 = .ok (.sipush 171, 3) := by decide +kernel
theorem d_M_byteAt_15 : decode prog_10_method_26_code 15 = .ok (.bipush 50, 2) := by decide +kernel
theorem d_M_byteAt_17 : decode prog_10_method_26_code 17 = .ok (.aload_n 0, 1) := by decide +kernel
theorem d_M_byteAt_18 : decode prog_10_method_26_code 18 = .ok (.getfield 92, 3) := by decide +kernel
theorem d_M_byteAt_21 : decode prog_10_method_26_code 21 = .ok (.imul, 1) := by decide +kernel
theorem d_M_byteAt_22 : decode prog_10_method_26_code 22 = .ok (.iadd, 1) := by decide +kernel
theorem d_M_byteAt_23 : decode prog_10_method_26_code 23 = .ok (.iload_n 1, 1) := by decide +kernel
theorem d_M_byteAt_24 : decode prog_10_method_26_code 24 = .ok (.iadd, 1) := by decide +kernel
theorem d_M_byteAt_25 : decode prog_10_method_26_code 25 = .ok (.iaload, 1) := by decide +kernel
theorem d_M_byteAt_26 : decode prog_10_method_26_code 26 = .ok (.goto 4, 3) := by decide +kernel
theorem d_M_byteAt_29 : decode prog_10_method_26_code 29 = .ok (.iconst (-1), 1) := by decide +kernel
theorem d_M_byteAt_30 : decode prog_10_method_26_code 30 = .ok (.ireturn, 1) := by decide +kernel
def w_M_byteAt (K : Int32 → sm_Mem → Prop) (p0 : Int32) (μ : sm_Mem) : Prop := if (μ 61 9) ≤ p0 then K (-1) μ else (vp_in ((171 + (50 * (μ 61 7))) + p0) 271 ∧ K (μ 62 ((171 + (50 * (μ 61 7))) + p0).toNatClampNeg) μ)
set_option maxHeartbeats 4000000 in
set_option maxRecDepth 100000 in
theorem P_M_byteAt (l : Launch) {K : Int32 → sm_Mem → Prop} {p0 : Int32} {μ : sm_Mem} (h : w_M_byteAt K p0 μ) : sm_MI l ⟨"SnowMoneyModel", "byteAt", "(I)I"⟩ prog_10_method_26_code 2 (some .int) { frames := 0, cells := 0, slots := 0, locals := 0 } [sm_R 61, sm_I p0] μ K := by
  refine sm_ofI (by decide +kernel) (fun _ => Nat.le_of_ble_eq_true rfl) ?_
  intro p e s m args below meth c A Q G C hR
  refine sr_iload_n C 1 rfl rfl d_M_byteAt_0 ?_
  refine sr_aload_n C 0 rfl rfl d_M_byteAt_1 ?_
  refine sr_getI C sm_F7 9 q_497 sm_l61 rfl (by decide) d_M_byteAt_2 ?_
  refine sr_icmp_ge C (tgt := 29) d_M_byteAt_5 (by decide) (fun c1 => ?_) (fun c1 => ?_)
  · replace h := Eq.mp (if_pos c1) h
    refine sr_iconst C (v := (-1)) d_M_byteAt_29 (by decide) ?_
    exact hR _ _ _ _ d_M_byteAt_30 rfl h
  · replace h := Eq.mp (if_neg c1) h
    refine sr_aload_n C 0 rfl rfl d_M_byteAt_8 ?_
    refine sr_getR C sm_F7 0 q_435 sm_l61 (r := 62) rfl (by decide) d_M_byteAt_9 ?_
    refine sr_sipush C (v := 171) d_M_byteAt_12 (by decide) ?_
    refine sr_bipush C (v := 50) d_M_byteAt_15 (by decide) ?_
    refine sr_aload_n C 0 rfl rfl d_M_byteAt_17 ?_
    refine sr_getI C sm_F7 7 q_495 sm_l61 rfl (by decide) d_M_byteAt_18 ?_
    refine sr_imul C d_M_byteAt_21 ?_
    refine sr_iadd C d_M_byteAt_22 ?_
    refine sr_iload_n C 1 rfl rfl d_M_byteAt_23 ?_
    refine sr_iadd C d_M_byteAt_24 ?_
    obtain ⟨g2, h⟩ := h
    refine sr_iald C sm_l62 g2 d_M_byteAt_25 ?_
    refine sr_goto C (tgt := 30) (by decide) d_M_byteAt_26 ?_
    exact hR _ _ _ _ d_M_byteAt_30 rfl h
theorem d_M_whole_0 : decode prog_10_method_36_code 0 = .ok (.aload_n 0, 1) := by decide +kernel
theorem d_M_whole_1 : decode prog_10_method_36_code 1 = .ok (.invokevirtual 145, 3) := by decide +kernel
theorem d_M_whole_4 : decode prog_10_method_36_code 4 = .ok (.istore_n 1, 1) := by decide +kernel
theorem d_M_whole_5 : decode prog_10_method_36_code 5 = .ok (.aload_n 0, 1) := by decide +kernel
theorem d_M_whole_6 : decode prog_10_method_36_code 6 = .ok (.getfield 95, 3) := by decide +kernel
theorem d_M_whole_9 : decode prog_10_method_36_code 9 = .ok (.ifCond .eq 48, 3) := by decide +kernel
theorem d_M_whole_12 : decode prog_10_method_36_code 12 = .ok (.aload_n 0, 1) := by decide +kernel
theorem d_M_whole_13 : decode prog_10_method_36_code 13 = .ok (.aload_n 0, 1) := by decide +kernel
theorem d_M_whole_14 : decode prog_10_method_36_code 14 = .ok (.getfield 99, 3) := by decide +kernel
theorem d_M_whole_17 : decode prog_10_method_36_code 17 = .ok (.invokevirtual 102, 3) := by decide +kernel
theorem d_M_whole_20 : decode prog_10_method_36_code 20 = .ok (.bipush 124, 2) := by decide +kernel
theorem d_M_whole_22 : decode prog_10_method_36_code 22 = .ok (.if_icmp .ne 35, 3) := by decide +kernel
theorem d_M_whole_25 : decode prog_10_method_36_code 25 = .ok (.aload_n 0, 1) := by decide +kernel
theorem d_M_whole_26 : decode prog_10_method_36_code 26 = .ok (.dup, 1) := by decide +kernel
theorem d_M_whole_27 : decode prog_10_method_36_code 27 = .ok (.getfield 99, 3) := by decide +kernel
theorem d_M_whole_30 : decode prog_10_method_36_code 30 = .ok (.iconst 1, 1) := by decide +kernel
theorem d_M_whole_31 : decode prog_10_method_36_code 31 = .ok (.iadd, 1) := by decide +kernel
theorem d_M_whole_32 : decode prog_10_method_36_code 32 = .ok (.putfield 99, 3) := by decide +kernel
theorem d_M_whole_35 : decode prog_10_method_36_code 35 = .ok (.aload_n 0, 1) := by decide +kernel
theorem d_M_whole_36 : decode prog_10_method_36_code 36 = .ok (.invokevirtual 145, 3) := by decide +kernel
theorem d_M_whole_39 : decode prog_10_method_36_code 39 = .ok (.istore_n 2, 1) := by decide +kernel
theorem d_M_whole_40 : decode prog_10_method_36_code 40 = .ok (.iload_n 1, 1) := by decide +kernel
theorem d_M_whole_41 : decode prog_10_method_36_code 41 = .ok (.ifCond .ne 7, 3) := by decide +kernel
theorem d_M_whole_44 : decode prog_10_method_36_code 44 = .ok (.iload_n 2, 1) := by decide +kernel
theorem d_M_whole_45 : decode prog_10_method_36_code 45 = .ok (.ifCond .eq 7, 3) := by decide +kernel
theorem d_M_whole_48 : decode prog_10_method_36_code 48 = .ok (.iconst 1, 1) := by decide +kernel
theorem d_M_whole_49 : decode prog_10_method_36_code 49 = .ok (.goto 4, 3) := by decide +kernel
theorem d_M_whole_52 : decode prog_10_method_36_code 52 = .ok (.iconst 0, 1) := by decide +kernel
theorem d_M_whole_53 : decode prog_10_method_36_code 53 = .ok (.istore_n 1, 1) := by decide +kernel
theorem d_M_whole_54 : decode prog_10_method_36_code 54 = .ok (.goto (-49), 3) := by decide +kernel
theorem d_M_whole_57 : decode prog_10_method_36_code 57 = .ok (.iload_n 1, 1) := by decide +kernel
theorem d_M_whole_58 : decode prog_10_method_36_code 58 = .ok (.ireturn, 1) := by decide +kernel
def w_M_whole_53 (F : Nat → (Int32 → sm_Mem → Prop) → sm_Mem → Prop) (K : Int32 → sm_Mem → Prop) (J5 : Int32 → sm_Mem → Prop) (s0 : Int32) (μ : sm_Mem) : Prop := J5 s0 μ
def w_M_whole_48 (F : Nat → (Int32 → sm_Mem → Prop) → sm_Mem → Prop) (K : Int32 → sm_Mem → Prop) (J5 : Int32 → sm_Mem → Prop) (μ : sm_Mem) : Prop := w_M_whole_53 F K J5 1 μ
def w_M_whole_5 (F : Nat → (Int32 → sm_Mem → Prop) → sm_Mem → Prop) (K : Int32 → sm_Mem → Prop) (x1 : Int32) (μ : sm_Mem) : Prop := sm_lp1 (fun J5 x1 μ => if (μ 61 14) = 0 then K x1 μ else (w_M_byteAt (fun r5 μ4 => if r5 = 124 then (∀ μ7 : sm_Mem, μ7 = sm_st μ4 61 8 ((μ4 61 8) + 1) → F 1 (fun r9 μ8 => if x1 = 0 then (if r9 = 0 then w_M_whole_53 F K J5 0 μ8 else w_M_whole_48 F K J5 μ8) else w_M_whole_48 F K J5 μ8) μ7) else K x1 μ4) (μ 61 8) μ)) x1 μ
def w_M_whole (F : Nat → (Int32 → sm_Mem → Prop) → sm_Mem → Prop) (K : Int32 → sm_Mem → Prop) (μ : sm_Mem) : Prop := F 1 (fun r2 μ1 => w_M_whole_5 F K r2 μ1) μ
set_option maxHeartbeats 4000000 in
set_option maxRecDepth 100000 in
theorem P_M_whole (l : Launch) {F : Nat → (Int32 → sm_Mem → Prop) → sm_Mem → Prop} {n : Nat} (hF1 : ∀ {K : Int32 → sm_Mem → Prop} {μ : sm_Mem}, F 1 K μ → sm_MI l ⟨"SnowMoneyModel", "both", "()I"⟩ prog_10_method_35_code 3 (some .int) { frames := n + 4, cells := 0, slots := 0, locals := n * 40 + 120 } [sm_R 61] μ K) {K : Int32 → sm_Mem → Prop} {μ : sm_Mem} (h : w_M_whole F K μ) : sm_MI l ⟨"SnowMoneyModel", "whole", "()I"⟩ prog_10_method_36_code 3 (some .int) { frames := n + 1 + 4, cells := 0, slots := 0, locals := (n + 1) * 40 + 120 } [sm_R 61] μ K := by
  refine sm_ofI (by decide +kernel) (fun _ => Nat.le_of_ble_eq_true rfl) ?_
  intro p e s m args below meth c A Q G C hR
  have B53 : ∀ (s0 : Int32) (J5 : Int32 → sm_Mem → Prop) (hJ5 : ∀ (x1 : Int32) (μ : sm_Mem), J5 x1 μ → sm_W p l e { frames := n + 1 + 4, cells := 0, slots := 0, locals := (n + 1) * 40 + 120 } s m args below meth c A Q G 3 0 0 5 [] [(0, sm_R 61), (1, sm_I x1)] μ) (μ : sm_Mem), w_M_whole_53 F K J5 s0 μ → sm_W p l e { frames := n + 1 + 4, cells := 0, slots := 0, locals := (n + 1) * 40 + 120 } s m args below meth c A Q G 3 0 0 53 [sm_I s0] [(0, sm_R 61)] μ := by
    intro s0 J5 hJ5 μ h
    refine sr_istore_n C rfl (by decide) d_M_whole_53 ?_
    refine sr_goto C (tgt := 5) (by decide) d_M_whole_54 ?_
    refine sr_mask C [1, 0] rfl ?_
    exact hJ5 _ _ h
  have B48 : ∀ (J5 : Int32 → sm_Mem → Prop) (hJ5 : ∀ (x1 : Int32) (μ : sm_Mem), J5 x1 μ → sm_W p l e { frames := n + 1 + 4, cells := 0, slots := 0, locals := (n + 1) * 40 + 120 } s m args below meth c A Q G 3 0 0 5 [] [(0, sm_R 61), (1, sm_I x1)] μ) (μ : sm_Mem), w_M_whole_48 F K J5 μ → sm_W p l e { frames := n + 1 + 4, cells := 0, slots := 0, locals := (n + 1) * 40 + 120 } s m args below meth c A Q G 3 0 0 48 [] [(0, sm_R 61)] μ := by
    intro J5 hJ5 μ h
    refine sr_iconst C (v := 1) d_M_whole_48 (by decide) ?_
    refine sr_goto C (tgt := 53) (by decide) d_M_whole_49 ?_
    exact B53 _ _ hJ5 _ h
  have B5 : ∀ (x1 : Int32) (μ : sm_Mem), w_M_whole_5 F K x1 μ → sm_W p l e { frames := n + 1 + 4, cells := 0, slots := 0, locals := (n + 1) * 40 + 120 } s m args below meth c A Q G 3 0 0 5 [] [(0, sm_R 61), (1, sm_I x1)] μ := by
    intro x1 μ h
    refine sm_lp1_sound (P := fun x1 μ => sm_W p l e { frames := n + 1 + 4, cells := 0, slots := 0, locals := (n + 1) * 40 + 120 } s m args below meth c A Q G 3 0 0 5 [] [(0, sm_R 61), (1, sm_I x1)] μ) (fun J5 x1 μ hJ5 h => ?_) h
    refine sr_aload_n C 0 rfl rfl d_M_whole_5 ?_
    refine sr_getI C sm_F7 14 q_499 sm_l61 rfl (by decide) d_M_whole_6 ?_
    refine sr_if_eq C (tgt := 57) d_M_whole_9 (by decide) (fun c3 => ?_) (fun c3 => ?_)
    · replace h := Eq.mp (if_pos c3) h
      refine sr_iload_n C 1 rfl rfl d_M_whole_57 ?_
      exact hR _ _ _ _ d_M_whole_58 rfl h
    · replace h := Eq.mp (if_neg c3) h
      refine sr_aload_n C 0 rfl rfl d_M_whole_12 ?_
      refine sr_aload_n C 0 rfl rfl d_M_whole_13 ?_
      refine sr_getI C sm_F7 8 q_496 sm_l61 rfl (by decide) d_M_whole_14 ?_
      refine sr_callVI C [sm_I _] (P_M_byteAt l h) ok_113 sm_l61 rfl rfl rfl rfl ⟨by dsimp only; omega, by dsimp only; omega⟩ (Nat.le_of_ble_eq_true rfl) ⟨Nat.zero_le _, Nat.zero_le _⟩ d_M_whole_17 (fun r5 μ4 h => ?_)
      refine sr_bipush C (v := 124) d_M_whole_20 (by decide) ?_
      refine sr_icmp_ne C (tgt := 57) d_M_whole_22 (by decide) (fun c6 => ?_) (fun c6 => ?_)
      · replace h := Eq.mp (if_neg c6) h
        refine sr_iload_n C 1 rfl rfl d_M_whole_57 ?_
        exact hR _ _ _ _ d_M_whole_58 rfl h
      · replace h := Eq.mp (if_pos c6) h
        refine sr_aload_n C 0 rfl rfl d_M_whole_25 ?_
        refine sr_dup C rfl d_M_whole_26 ?_
        refine sr_getI C sm_F7 8 q_496 sm_l61 rfl (by decide) d_M_whole_27 ?_
        refine sr_iconst C (v := 1) d_M_whole_30 (by decide) ?_
        refine sr_iadd C d_M_whole_31 ?_
        refine sr_putI C sm_F7 8 q_496 sm_l61 rfl rfl (by decide) rfl d_M_whole_32 ?_
        replace h := h _ rfl
        refine sr_aload_n C 0 rfl rfl d_M_whole_35 ?_
        refine sr_callVI C [] (hF1 h) ok_112 sm_l61 rfl rfl rfl rfl ⟨by dsimp only; omega, by dsimp only; omega⟩ (Nat.le_of_ble_eq_true rfl) ⟨Nat.zero_le _, Nat.zero_le _⟩ d_M_whole_36 (fun r9 μ8 h => ?_)
        refine sr_istore_n C rfl (by decide) d_M_whole_39 ?_
        refine sr_iload_n C 2 rfl rfl d_M_whole_40 ?_
        refine sr_if_ne C (tgt := 48) d_M_whole_41 (by decide) (fun c10 => ?_) (fun c10 => ?_)
        · replace h := Eq.mp (if_neg c10) h
          refine sr_mask C [1] rfl ?_
          exact B48 _ hJ5 _ h
        · replace h := Eq.mp (if_pos c10) h
          refine sr_iload_n C 0 rfl rfl d_M_whole_44 ?_
          refine sr_if_eq C (tgt := 52) d_M_whole_45 (by decide) (fun c11 => ?_) (fun c11 => ?_)
          · replace h := Eq.mp (if_pos c11) h
            refine sr_iconst C (v := 0) d_M_whole_52 (by decide) ?_
            refine sr_mask C [1] rfl ?_
            exact B53 _ _ hJ5 _ h
          · replace h := Eq.mp (if_neg c11) h
            refine sr_mask C [1] rfl ?_
            exact B48 _ hJ5 _ h
  refine sr_aload_n C 0 rfl rfl d_M_whole_0 ?_
  refine sr_callVI C [] (hF1 h) ok_112 sm_l61 rfl rfl rfl rfl ⟨by dsimp only; omega, by dsimp only; omega⟩ (Nat.le_of_ble_eq_true rfl) ⟨Nat.zero_le _, Nat.zero_le _⟩ d_M_whole_1 (fun r2 μ1 h => ?_)
  refine sr_istore_n C rfl (by decide) d_M_whole_4 ?_
  refine sr_mask C [1, 0] rfl ?_
  exact B5 _ _ h
theorem d_M_both_0 : decode prog_10_method_35_code 0 = .ok (.aload_n 0, 1) := by decide +kernel
theorem d_M_both_1 : decode prog_10_method_35_code 1 = .ok (.invokevirtual 142, 3) := by decide +kernel
theorem d_M_both_4 : decode prog_10_method_35_code 4 = .ok (.istore_n 1, 1) := by decide +kernel
theorem d_M_both_5 : decode prog_10_method_35_code 5 = .ok (.aload_n 0, 1) := by decide +kernel
theorem d_M_both_6 : decode prog_10_method_35_code 6 = .ok (.getfield 95, 3) := by decide +kernel
theorem d_M_both_9 : decode prog_10_method_35_code 9 = .ok (.ifCond .eq 48, 3) := by decide +kernel
theorem d_M_both_12 : decode prog_10_method_35_code 12 = .ok (.aload_n 0, 1) := by decide +kernel
theorem d_M_both_13 : decode prog_10_method_35_code 13 = .ok (.aload_n 0, 1) := by decide +kernel
theorem d_M_both_14 : decode prog_10_method_35_code 14 = .ok (.getfield 99, 3) := by decide +kernel
theorem d_M_both_17 : decode prog_10_method_35_code 17 = .ok (.invokevirtual 102, 3) := by decide +kernel
theorem d_M_both_20 : decode prog_10_method_35_code 20 = .ok (.bipush 38, 2) := by decide +kernel
theorem d_M_both_22 : decode prog_10_method_35_code 22 = .ok (.if_icmp .ne 35, 3) := by decide +kernel
theorem d_M_both_25 : decode prog_10_method_35_code 25 = .ok (.aload_n 0, 1) := by decide +kernel
theorem d_M_both_26 : decode prog_10_method_35_code 26 = .ok (.dup, 1) := by decide +kernel
theorem d_M_both_27 : decode prog_10_method_35_code 27 = .ok (.getfield 99, 3) := by decide +kernel
theorem d_M_both_30 : decode prog_10_method_35_code 30 = .ok (.iconst 1, 1) := by decide +kernel
theorem d_M_both_31 : decode prog_10_method_35_code 31 = .ok (.iadd, 1) := by decide +kernel
theorem d_M_both_32 : decode prog_10_method_35_code 32 = .ok (.putfield 99, 3) := by decide +kernel
theorem d_M_both_35 : decode prog_10_method_35_code 35 = .ok (.aload_n 0, 1) := by decide +kernel
theorem d_M_both_36 : decode prog_10_method_35_code 36 = .ok (.invokevirtual 142, 3) := by decide +kernel
theorem d_M_both_39 : decode prog_10_method_35_code 39 = .ok (.istore_n 2, 1) := by decide +kernel
theorem d_M_both_40 : decode prog_10_method_35_code 40 = .ok (.iload_n 1, 1) := by decide +kernel
theorem d_M_both_41 : decode prog_10_method_35_code 41 = .ok (.ifCond .eq 11, 3) := by decide +kernel
theorem d_M_both_44 : decode prog_10_method_35_code 44 = .ok (.iload_n 2, 1) := by decide +kernel
theorem d_M_both_45 : decode prog_10_method_35_code 45 = .ok (.ifCond .eq 7, 3) := by decide +kernel
theorem d_M_both_48 : decode prog_10_method_35_code 48 = .ok (.iconst 1, 1) := by decide +kernel
theorem d_M_both_49 : decode prog_10_method_35_code 49 = .ok (.goto 4, 3) := by decide +kernel
theorem d_M_both_52 : decode prog_10_method_35_code 52 = .ok (.iconst 0, 1) := by decide +kernel
theorem d_M_both_53 : decode prog_10_method_35_code 53 = .ok (.istore_n 1, 1) := by decide +kernel
theorem d_M_both_54 : decode prog_10_method_35_code 54 = .ok (.goto (-49), 3) := by decide +kernel
theorem d_M_both_57 : decode prog_10_method_35_code 57 = .ok (.iload_n 1, 1) := by decide +kernel
theorem d_M_both_58 : decode prog_10_method_35_code 58 = .ok (.ireturn, 1) := by decide +kernel
def w_M_both_53 (F : Nat → (Int32 → sm_Mem → Prop) → sm_Mem → Prop) (K : Int32 → sm_Mem → Prop) (J5 : Int32 → sm_Mem → Prop) (s0 : Int32) (μ : sm_Mem) : Prop := J5 s0 μ
def w_M_both_52 (F : Nat → (Int32 → sm_Mem → Prop) → sm_Mem → Prop) (K : Int32 → sm_Mem → Prop) (J5 : Int32 → sm_Mem → Prop) (μ : sm_Mem) : Prop := w_M_both_53 F K J5 0 μ
def w_M_both_5 (F : Nat → (Int32 → sm_Mem → Prop) → sm_Mem → Prop) (K : Int32 → sm_Mem → Prop) (x1 : Int32) (μ : sm_Mem) : Prop := sm_lp1 (fun J5 x1 μ => if (μ 61 14) = 0 then K x1 μ else (w_M_byteAt (fun r5 μ4 => if r5 = 38 then (∀ μ7 : sm_Mem, μ7 = sm_st μ4 61 8 ((μ4 61 8) + 1) → F 2 (fun r9 μ8 => if x1 = 0 then w_M_both_52 F K J5 μ8 else (if r9 = 0 then w_M_both_52 F K J5 μ8 else w_M_both_53 F K J5 1 μ8)) μ7) else K x1 μ4) (μ 61 8) μ)) x1 μ
def w_M_both (F : Nat → (Int32 → sm_Mem → Prop) → sm_Mem → Prop) (K : Int32 → sm_Mem → Prop) (μ : sm_Mem) : Prop := F 2 (fun r2 μ1 => w_M_both_5 F K r2 μ1) μ
set_option maxHeartbeats 4000000 in
set_option maxRecDepth 100000 in
theorem P_M_both (l : Launch) {F : Nat → (Int32 → sm_Mem → Prop) → sm_Mem → Prop} {n : Nat} (hF2 : ∀ {K : Int32 → sm_Mem → Prop} {μ : sm_Mem}, F 2 K μ → sm_MI l ⟨"SnowMoneyModel", "compared", "()I"⟩ prog_10_method_34_code 5 (some .int) { frames := n + 4, cells := 0, slots := 0, locals := n * 40 + 120 } [sm_R 61] μ K) {K : Int32 → sm_Mem → Prop} {μ : sm_Mem} (h : w_M_both F K μ) : sm_MI l ⟨"SnowMoneyModel", "both", "()I"⟩ prog_10_method_35_code 3 (some .int) { frames := n + 1 + 4, cells := 0, slots := 0, locals := (n + 1) * 40 + 120 } [sm_R 61] μ K := by
  refine sm_ofI (by decide +kernel) (fun _ => Nat.le_of_ble_eq_true rfl) ?_
  intro p e s m args below meth c A Q G C hR
  have B53 : ∀ (s0 : Int32) (J5 : Int32 → sm_Mem → Prop) (hJ5 : ∀ (x1 : Int32) (μ : sm_Mem), J5 x1 μ → sm_W p l e { frames := n + 1 + 4, cells := 0, slots := 0, locals := (n + 1) * 40 + 120 } s m args below meth c A Q G 3 0 0 5 [] [(0, sm_R 61), (1, sm_I x1)] μ) (μ : sm_Mem), w_M_both_53 F K J5 s0 μ → sm_W p l e { frames := n + 1 + 4, cells := 0, slots := 0, locals := (n + 1) * 40 + 120 } s m args below meth c A Q G 3 0 0 53 [sm_I s0] [(0, sm_R 61)] μ := by
    intro s0 J5 hJ5 μ h
    refine sr_istore_n C rfl (by decide) d_M_both_53 ?_
    refine sr_goto C (tgt := 5) (by decide) d_M_both_54 ?_
    refine sr_mask C [1, 0] rfl ?_
    exact hJ5 _ _ h
  have B52 : ∀ (J5 : Int32 → sm_Mem → Prop) (hJ5 : ∀ (x1 : Int32) (μ : sm_Mem), J5 x1 μ → sm_W p l e { frames := n + 1 + 4, cells := 0, slots := 0, locals := (n + 1) * 40 + 120 } s m args below meth c A Q G 3 0 0 5 [] [(0, sm_R 61), (1, sm_I x1)] μ) (μ : sm_Mem), w_M_both_52 F K J5 μ → sm_W p l e { frames := n + 1 + 4, cells := 0, slots := 0, locals := (n + 1) * 40 + 120 } s m args below meth c A Q G 3 0 0 52 [] [(0, sm_R 61)] μ := by
    intro J5 hJ5 μ h
    refine sr_iconst C (v := 0) d_M_both_52 (by decide) ?_
    exact B53 _ _ hJ5 _ h
  have B5 : ∀ (x1 : Int32) (μ : sm_Mem), w_M_both_5 F K x1 μ → sm_W p l e { frames := n + 1 + 4, cells := 0, slots := 0, locals := (n + 1) * 40 + 120 } s m args below meth c A Q G 3 0 0 5 [] [(0, sm_R 61), (1, sm_I x1)] μ := by
    intro x1 μ h
    refine sm_lp1_sound (P := fun x1 μ => sm_W p l e { frames := n + 1 + 4, cells := 0, slots := 0, locals := (n + 1) * 40 + 120 } s m args below meth c A Q G 3 0 0 5 [] [(0, sm_R 61), (1, sm_I x1)] μ) (fun J5 x1 μ hJ5 h => ?_) h
    refine sr_aload_n C 0 rfl rfl d_M_both_5 ?_
    refine sr_getI C sm_F7 14 q_499 sm_l61 rfl (by decide) d_M_both_6 ?_
    refine sr_if_eq C (tgt := 57) d_M_both_9 (by decide) (fun c3 => ?_) (fun c3 => ?_)
    · replace h := Eq.mp (if_pos c3) h
      refine sr_iload_n C 1 rfl rfl d_M_both_57 ?_
      exact hR _ _ _ _ d_M_both_58 rfl h
    · replace h := Eq.mp (if_neg c3) h
      refine sr_aload_n C 0 rfl rfl d_M_both_12 ?_
      refine sr_aload_n C 0 rfl rfl d_M_both_13 ?_
      refine sr_getI C sm_F7 8 q_496 sm_l61 rfl (by decide) d_M_both_14 ?_
      refine sr_callVI C [sm_I _] (P_M_byteAt l h) ok_113 sm_l61 rfl rfl rfl rfl ⟨by dsimp only; omega, by dsimp only; omega⟩ (Nat.le_of_ble_eq_true rfl) ⟨Nat.zero_le _, Nat.zero_le _⟩ d_M_both_17 (fun r5 μ4 h => ?_)
      refine sr_bipush C (v := 38) d_M_both_20 (by decide) ?_
      refine sr_icmp_ne C (tgt := 57) d_M_both_22 (by decide) (fun c6 => ?_) (fun c6 => ?_)
      · replace h := Eq.mp (if_neg c6) h
        refine sr_iload_n C 1 rfl rfl d_M_both_57 ?_
        exact hR _ _ _ _ d_M_both_58 rfl h
      · replace h := Eq.mp (if_pos c6) h
        refine sr_aload_n C 0 rfl rfl d_M_both_25 ?_
        refine sr_dup C rfl d_M_both_26 ?_
        refine sr_getI C sm_F7 8 q_496 sm_l61 rfl (by decide) d_M_both_27 ?_
        refine sr_iconst C (v := 1) d_M_both_30 (by decide) ?_
        refine sr_iadd C d_M_both_31 ?_
        refine sr_putI C sm_F7 8 q_496 sm_l61 rfl rfl (by decide) rfl d_M_both_32 ?_
        replace h := h _ rfl
        refine sr_aload_n C 0 rfl rfl d_M_both_35 ?_
        refine sr_callVI C [] (hF2 h) ok_114 sm_l61 rfl rfl rfl rfl ⟨by dsimp only; omega, by dsimp only; omega⟩ (Nat.le_of_ble_eq_true rfl) ⟨Nat.zero_le _, Nat.zero_le _⟩ d_M_both_36 (fun r9 μ8 h => ?_)
        refine sr_istore_n C rfl (by decide) d_M_both_39 ?_
        refine sr_iload_n C 2 rfl rfl d_M_both_40 ?_
        refine sr_if_eq C (tgt := 52) d_M_both_41 (by decide) (fun c10 => ?_) (fun c10 => ?_)
        · replace h := Eq.mp (if_pos c10) h
          refine sr_mask C [1] rfl ?_
          exact B52 _ hJ5 _ h
        · replace h := Eq.mp (if_neg c10) h
          refine sr_iload_n C 0 rfl rfl d_M_both_44 ?_
          refine sr_if_eq C (tgt := 52) d_M_both_45 (by decide) (fun c11 => ?_) (fun c11 => ?_)
          · replace h := Eq.mp (if_pos c11) h
            refine sr_mask C [1] rfl ?_
            exact B52 _ hJ5 _ h
          · replace h := Eq.mp (if_neg c11) h
            refine sr_iconst C (v := 1) d_M_both_48 (by decide) ?_
            refine sr_goto C (tgt := 53) (by decide) d_M_both_49 ?_
            refine sr_mask C [1] rfl ?_
            exact B53 _ _ hJ5 _ h
  refine sr_aload_n C 0 rfl rfl d_M_both_0 ?_
  refine sr_callVI C [] (hF2 h) ok_114 sm_l61 rfl rfl rfl rfl ⟨by dsimp only; omega, by dsimp only; omega⟩ (Nat.le_of_ble_eq_true rfl) ⟨Nat.zero_le _, Nat.zero_le _⟩ d_M_both_1 (fun r2 μ1 h => ?_)
  refine sr_istore_n C rfl (by decide) d_M_both_4 ?_
  refine sr_mask C [1, 0] rfl ?_
  exact B5 _ _ h
theorem d_M_compared_0 : decode prog_10_method_34_code 0 = .ok (.aload_n 0, 1) := by decide +kernel
theorem d_M_compared_1 : decode prog_10_method_34_code 1 = .ok (.invokevirtual 139, 3) := by decide +kernel
theorem d_M_compared_4 : decode prog_10_method_34_code 4 = .ok (.istore_n 1, 1) := by decide +kernel
theorem d_M_compared_5 : decode prog_10_method_34_code 5 = .ok (.aload_n 0, 1) := by decide +kernel
theorem d_M_compared_6 : decode prog_10_method_34_code 6 = .ok (.getfield 95, 3) := by decide +kernel
theorem d_M_compared_9 : decode prog_10_method_34_code 9 = .ok (.ifCond .eq 14, 3) := by decide +kernel
theorem d_M_compared_12 : decode prog_10_method_34_code 12 = .ok (.aload_n 0, 1) := by decide +kernel
theorem d_M_compared_13 : decode prog_10_method_34_code 13 = .ok (.aload_n 0, 1) := by decide +kernel
theorem d_M_compared_14 : decode prog_10_method_34_code 14 = .ok (.getfield 99, 3) := by decide +kernel
theorem d_M_compared_17 : decode prog_10_method_34_code 17 = .ok (.invokevirtual 102, 3) := by decide +kernel
theorem d_M_compared_20 : decode prog_10_method_34_code 20 = .ok (.goto 4, 3) := by decide +kernel
theorem d_M_compared_23 : decode prog_10_method_34_code 23 = .ok (.iconst (-1), 1) := by decide +kernel
theorem d_M_compared_24 : decode prog_10_method_34_code 24 = .ok (.istore_n 2, 1) := by decide +kernel
theorem d_M_compared_25 : decode prog_10_method_34_code 25 = .ok (.iload_n 2, 1) := by decide +kernel
theorem d_M_compared_26 : decode prog_10_method_34_code 26 = .ok (.bipush 60, 2) := by decide +kernel
theorem d_M_compared_28 : decode prog_10_method_34_code 28 = .ok (.if_icmp .eq 17, 3) := by decide +kernel
theorem d_M_compared_31 : decode prog_10_method_34_code 31 = .ok (.iload_n 2, 1) := by decide +kernel
theorem d_M_compared_32 : decode prog_10_method_34_code 32 = .ok (.bipush 61, 2) := by decide +kernel
theorem d_M_compared_34 : decode prog_10_method_34_code 34 = .ok (.if_icmp .eq 11, 3) := by decide +kernel
theorem d_M_compared_37 : decode prog_10_method_34_code 37 = .ok (.iload_n 2, 1) := by decide +kernel
theorem d_M_compared_38 : decode prog_10_method_34_code 38 = .ok (.bipush 62, 2) := by decide +kernel
theorem d_M_compared_40 : decode prog_10_method_34_code 40 = .ok (.if_icmp .eq 5, 3) := by decide +kernel
theorem d_M_compared_43 : decode prog_10_method_34_code 43 = .ok (.iload_n 1, 1) := by decide +kernel
theorem d_M_compared_44 : decode prog_10_method_34_code 44 = .ok (.ireturn, 1) := by decide +kernel
theorem d_M_compared_45 : decode prog_10_method_34_code 45 = .ok (.aload_n 0, 1) := by decide +kernel
theorem d_M_compared_46 : decode prog_10_method_34_code 46 = .ok (.dup, 1) := by decide +kernel
theorem d_M_compared_47 : decode prog_10_method_34_code 47 = .ok (.getfield 99, 3) := by decide +kernel
theorem d_M_compared_50 : decode prog_10_method_34_code 50 = .ok (.iconst 1, 1) := by decide +kernel
theorem d_M_compared_51 : decode prog_10_method_34_code 51 = .ok (.iadd, 1) := by decide +kernel
theorem d_M_compared_52 : decode prog_10_method_34_code 52 = .ok (.putfield 99, 3) := by decide +kernel
theorem d_M_compared_55 : decode prog_10_method_34_code 55 = .ok (.aload_n 0, 1) := by decide +kernel
theorem d_M_compared_56 : decode prog_10_method_34_code 56 = .ok (.invokevirtual 139, 3) := by decide +kernel
theorem d_M_compared_59 : decode prog_10_method_34_code 59 = .ok (.istore_n 3, 1) := by decide +kernel
theorem d_M_compared_60 : decode prog_10_method_34_code 60 = .ok (.iload_n 2, 1) := by decide +kernel
theorem d_M_compared_61 : decode prog_10_method_34_code 61 = .ok (.bipush 60, 2) := by decide +kernel
theorem d_M_compared_63 : decode prog_10_method_34_code 63 = .ok (.if_icmp .ne 16, 3) := by decide +kernel
theorem d_M_compared_66 : decode prog_10_method_34_code 66 = .ok (.iload_n 1, 1) := by decide +kernel
theorem d_M_compared_67 : decode prog_10_method_34_code 67 = .ok (.iload_n 3, 1) := by decide +kernel
theorem d_M_compared_68 : decode prog_10_method_34_code 68 = .ok (.if_icmp .ge 7, 3) := by decide +kernel
theorem d_M_compared_71 : decode prog_10_method_34_code 71 = .ok (.iconst 1, 1) := by decide +kernel
theorem d_M_compared_72 : decode prog_10_method_34_code 72 = .ok (.goto 36, 3) := by decide +kernel
theorem d_M_compared_75 : decode prog_10_method_34_code 75 = .ok (.iconst 0, 1) := by decide +kernel
theorem d_M_compared_76 : decode prog_10_method_34_code 76 = .ok (.goto 32, 3) := by decide +kernel
theorem d_M_compared_79 : decode prog_10_method_34_code 79 = .ok (.iload_n 2, 1) := by decide +kernel
theorem d_M_compared_80 : decode prog_10_method_34_code 80 = .ok (.bipush 61, 2) := by decide +kernel
theorem d_M_compared_82 : decode prog_10_method_34_code 82 = .ok (.if_icmp .ne 16, 3) := by decide +kernel
theorem d_M_compared_85 : decode prog_10_method_34_code 85 = .ok (.iload_n 1, 1) := by decide +kernel
theorem d_M_compared_86 : decode prog_10_method_34_code 86 = .ok (.iload_n 3, 1) := by decide +kernel
theorem d_M_compared_87 : decode prog_10_method_34_code 87 = .ok (.if_icmp .ne 7, 3) := by decide +kernel
theorem d_M_compared_90 : decode prog_10_method_34_code 90 = .ok (.iconst 1, 1) := by decide +kernel
theorem d_M_compared_91 : decode prog_10_method_34_code 91 = .ok (.goto 17, 3) := by decide +kernel
theorem d_M_compared_94 : decode prog_10_method_34_code 94 = .ok (.iconst 0, 1) := by decide +kernel
theorem d_M_compared_95 : decode prog_10_method_34_code 95 = .ok (.goto 13, 3) := by decide +kernel
theorem d_M_compared_98 : decode prog_10_method_34_code 98 = .ok (.iload_n 1, 1) := by decide +kernel
theorem d_M_compared_99 : decode prog_10_method_34_code 99 = .ok (.iload_n 3, 1) := by decide +kernel
theorem d_M_compared_100 : decode prog_10_method_34_code 100 = .ok (.if_icmp .le 7, 3) := by decide +kernel
theorem d_M_compared_103 : decode prog_10_method_34_code 103 = .ok (.iconst 1, 1) := by decide +kernel
theorem d_M_compared_104 : decode prog_10_method_34_code 104 = .ok (.goto 4, 3) := by decide +kernel
theorem d_M_compared_107 : decode prog_10_method_34_code 107 = .ok (.iconst 0, 1) := by decide +kernel
theorem d_M_compared_108 : decode prog_10_method_34_code 108 = .ok (.istore 4, 2) := by decide +kernel
theorem d_M_compared_110 : decode prog_10_method_34_code 110 = .ok (.iload 4, 2) := by decide +kernel
theorem d_M_compared_112 : decode prog_10_method_34_code 112 = .ok (.ifCond .eq 7, 3) := by decide +kernel
theorem d_M_compared_115 : decode prog_10_method_34_code 115 = .ok (.iconst 1, 1) := by decide +kernel
theorem d_M_compared_116 : decode prog_10_method_34_code 116 = .ok (.goto 4, 3) := by decide +kernel
theorem d_M_compared_119 : decode prog_10_method_34_code 119 = .ok (.iconst 0, 1) := by decide +kernel
theorem d_M_compared_120 : decode prog_10_method_34_code 120 = .ok (.ireturn, 1) := by decide +kernel
def w_M_compared_108 (F : Nat → (Int32 → sm_Mem → Prop) → sm_Mem → Prop) (K : Int32 → sm_Mem → Prop) (s0 : Int32) (μ : sm_Mem) : Prop := if s0 = 0 then K 0 μ else K 1 μ
def w_M_compared_45 (F : Nat → (Int32 → sm_Mem → Prop) → sm_Mem → Prop) (K : Int32 → sm_Mem → Prop) (x1 : Int32) (x2 : Int32) (μ : sm_Mem) : Prop := ∀ μ5 : sm_Mem, μ5 = sm_st μ 61 8 ((μ 61 8) + 1) → F 3 (fun r7 μ6 => if x2 = 60 then (if r7 ≤ x1 then w_M_compared_108 F K 0 μ6 else w_M_compared_108 F K 1 μ6) else (if x2 = 61 then (if x1 = r7 then w_M_compared_108 F K 1 μ6 else w_M_compared_108 F K 0 μ6) else (if x1 ≤ r7 then w_M_compared_108 F K 0 μ6 else w_M_compared_108 F K 1 μ6))) μ5
def w_M_compared_24 (F : Nat → (Int32 → sm_Mem → Prop) → sm_Mem → Prop) (K : Int32 → sm_Mem → Prop) (x1 : Int32) (s0 : Int32) (μ : sm_Mem) : Prop := if s0 = 60 then w_M_compared_45 F K x1 s0 μ else (if s0 = 61 then w_M_compared_45 F K x1 s0 μ else (if s0 = 62 then w_M_compared_45 F K x1 s0 μ else K x1 μ))
def w_M_compared (F : Nat → (Int32 → sm_Mem → Prop) → sm_Mem → Prop) (K : Int32 → sm_Mem → Prop) (μ : sm_Mem) : Prop := F 3 (fun r2 μ1 => if (μ1 61 14) = 0 then w_M_compared_24 F K r2 (-1) μ1 else w_M_byteAt (fun r17 μ16 => w_M_compared_24 F K r2 r17 μ16) (μ1 61 8) μ1) μ
set_option maxHeartbeats 4000000 in
set_option maxRecDepth 100000 in
theorem P_M_compared (l : Launch) {F : Nat → (Int32 → sm_Mem → Prop) → sm_Mem → Prop} {n : Nat} (hF3 : ∀ {K : Int32 → sm_Mem → Prop} {μ : sm_Mem}, F 3 K μ → sm_MI l ⟨"SnowMoneyModel", "sum", "()I"⟩ prog_10_method_33_code 4 (some .int) { frames := n + 4, cells := 0, slots := 0, locals := n * 40 + 120 } [sm_R 61] μ K) {K : Int32 → sm_Mem → Prop} {μ : sm_Mem} (h : w_M_compared F K μ) : sm_MI l ⟨"SnowMoneyModel", "compared", "()I"⟩ prog_10_method_34_code 5 (some .int) { frames := n + 1 + 4, cells := 0, slots := 0, locals := (n + 1) * 40 + 120 } [sm_R 61] μ K := by
  refine sm_ofI (by decide +kernel) (fun _ => Nat.le_of_ble_eq_true rfl) ?_
  intro p e s m args below meth c A Q G C hR
  have B108 : ∀ (s0 : Int32) (μ : sm_Mem), w_M_compared_108 F K s0 μ → sm_W p l e { frames := n + 1 + 4, cells := 0, slots := 0, locals := (n + 1) * 40 + 120 } s m args below meth c A Q G 5 0 0 108 [sm_I s0] [] μ := by
    intro s0 μ h
    refine sr_istore C (by decide) d_M_compared_108 ?_
    refine sr_iload C 0 rfl d_M_compared_110 ?_
    refine sr_if_eq C (tgt := 119) d_M_compared_112 (by decide) (fun c11 => ?_) (fun c11 => ?_)
    · replace h := Eq.mp (if_pos c11) h
      refine sr_iconst C (v := 0) d_M_compared_119 (by decide) ?_
      exact hR _ _ _ _ d_M_compared_120 rfl h
    · replace h := Eq.mp (if_neg c11) h
      refine sr_iconst C (v := 1) d_M_compared_115 (by decide) ?_
      refine sr_goto C (tgt := 120) (by decide) d_M_compared_116 ?_
      exact hR _ _ _ _ d_M_compared_120 rfl h
  have B45 : ∀ (x1 : Int32) (x2 : Int32) (μ : sm_Mem), w_M_compared_45 F K x1 x2 μ → sm_W p l e { frames := n + 1 + 4, cells := 0, slots := 0, locals := (n + 1) * 40 + 120 } s m args below meth c A Q G 5 0 0 45 [] [(0, sm_R 61), (1, sm_I x1), (2, sm_I x2)] μ := by
    intro x1 x2 μ h
    refine sr_aload_n C 0 rfl rfl d_M_compared_45 ?_
    refine sr_dup C rfl d_M_compared_46 ?_
    refine sr_getI C sm_F7 8 q_496 sm_l61 rfl (by decide) d_M_compared_47 ?_
    refine sr_iconst C (v := 1) d_M_compared_50 (by decide) ?_
    refine sr_iadd C d_M_compared_51 ?_
    refine sr_putI C sm_F7 8 q_496 sm_l61 rfl rfl (by decide) rfl d_M_compared_52 ?_
    replace h := h _ rfl
    refine sr_aload_n C 0 rfl rfl d_M_compared_55 ?_
    refine sr_callVI C [] (hF3 h) ok_115 sm_l61 rfl rfl rfl rfl ⟨by dsimp only; omega, by dsimp only; omega⟩ (Nat.le_of_ble_eq_true rfl) ⟨Nat.zero_le _, Nat.zero_le _⟩ d_M_compared_56 (fun r7 μ6 h => ?_)
    refine sr_istore_n C rfl (by decide) d_M_compared_59 ?_
    refine sr_iload_n C 3 rfl rfl d_M_compared_60 ?_
    refine sr_bipush C (v := 60) d_M_compared_61 (by decide) ?_
    refine sr_icmp_ne C (tgt := 79) d_M_compared_63 (by decide) (fun c8 => ?_) (fun c8 => ?_)
    · replace h := Eq.mp (if_neg c8) h
      refine sr_iload_n C 3 rfl rfl d_M_compared_79 ?_
      refine sr_bipush C (v := 61) d_M_compared_80 (by decide) ?_
      refine sr_icmp_ne C (tgt := 98) d_M_compared_82 (by decide) (fun c9 => ?_) (fun c9 => ?_)
      · replace h := Eq.mp (if_neg c9) h
        refine sr_iload_n C 2 rfl rfl d_M_compared_98 ?_
        refine sr_iload_n C 0 rfl rfl d_M_compared_99 ?_
        refine sr_icmp_le C (tgt := 107) d_M_compared_100 (by decide) (fun c10 => ?_) (fun c10 => ?_)
        · replace h := Eq.mp (if_pos c10) h
          refine sr_iconst C (v := 0) d_M_compared_107 (by decide) ?_
          refine sr_mask C [] rfl ?_
          exact B108 _ _ h
        · replace h := Eq.mp (if_neg c10) h
          refine sr_iconst C (v := 1) d_M_compared_103 (by decide) ?_
          refine sr_goto C (tgt := 108) (by decide) d_M_compared_104 ?_
          refine sr_mask C [] rfl ?_
          exact B108 _ _ h
      · replace h := Eq.mp (if_pos c9) h
        refine sr_iload_n C 2 rfl rfl d_M_compared_85 ?_
        refine sr_iload_n C 0 rfl rfl d_M_compared_86 ?_
        refine sr_icmp_ne C (tgt := 94) d_M_compared_87 (by decide) (fun c12 => ?_) (fun c12 => ?_)
        · replace h := Eq.mp (if_neg c12) h
          refine sr_iconst C (v := 0) d_M_compared_94 (by decide) ?_
          refine sr_goto C (tgt := 108) (by decide) d_M_compared_95 ?_
          refine sr_mask C [] rfl ?_
          exact B108 _ _ h
        · replace h := Eq.mp (if_pos c12) h
          refine sr_iconst C (v := 1) d_M_compared_90 (by decide) ?_
          refine sr_goto C (tgt := 108) (by decide) d_M_compared_91 ?_
          refine sr_mask C [] rfl ?_
          exact B108 _ _ h
    · replace h := Eq.mp (if_pos c8) h
      refine sr_iload_n C 2 rfl rfl d_M_compared_66 ?_
      refine sr_iload_n C 0 rfl rfl d_M_compared_67 ?_
      refine sr_icmp_ge C (tgt := 75) d_M_compared_68 (by decide) (fun c13 => ?_) (fun c13 => ?_)
      · replace h := Eq.mp (if_pos c13) h
        refine sr_iconst C (v := 0) d_M_compared_75 (by decide) ?_
        refine sr_goto C (tgt := 108) (by decide) d_M_compared_76 ?_
        refine sr_mask C [] rfl ?_
        exact B108 _ _ h
      · replace h := Eq.mp (if_neg c13) h
        refine sr_iconst C (v := 1) d_M_compared_71 (by decide) ?_
        refine sr_goto C (tgt := 108) (by decide) d_M_compared_72 ?_
        refine sr_mask C [] rfl ?_
        exact B108 _ _ h
  have B24 : ∀ (x1 : Int32) (s0 : Int32) (μ : sm_Mem), w_M_compared_24 F K x1 s0 μ → sm_W p l e { frames := n + 1 + 4, cells := 0, slots := 0, locals := (n + 1) * 40 + 120 } s m args below meth c A Q G 5 0 0 24 [sm_I s0] [(0, sm_R 61), (1, sm_I x1)] μ := by
    intro x1 s0 μ h
    refine sr_istore_n C rfl (by decide) d_M_compared_24 ?_
    refine sr_iload_n C 0 rfl rfl d_M_compared_25 ?_
    refine sr_bipush C (v := 60) d_M_compared_26 (by decide) ?_
    refine sr_icmp_eq C (tgt := 45) d_M_compared_28 (by decide) (fun c4 => ?_) (fun c4 => ?_)
    · replace h := Eq.mp (if_pos c4) h
      refine sr_mask C [1, 2, 0] rfl ?_
      exact B45 _ _ _ h
    · replace h := Eq.mp (if_neg c4) h
      refine sr_iload_n C 0 rfl rfl d_M_compared_31 ?_
      refine sr_bipush C (v := 61) d_M_compared_32 (by decide) ?_
      refine sr_icmp_eq C (tgt := 45) d_M_compared_34 (by decide) (fun c14 => ?_) (fun c14 => ?_)
      · replace h := Eq.mp (if_pos c14) h
        refine sr_mask C [1, 2, 0] rfl ?_
        exact B45 _ _ _ h
      · replace h := Eq.mp (if_neg c14) h
        refine sr_iload_n C 0 rfl rfl d_M_compared_37 ?_
        refine sr_bipush C (v := 62) d_M_compared_38 (by decide) ?_
        refine sr_icmp_eq C (tgt := 45) d_M_compared_40 (by decide) (fun c15 => ?_) (fun c15 => ?_)
        · replace h := Eq.mp (if_pos c15) h
          refine sr_mask C [1, 2, 0] rfl ?_
          exact B45 _ _ _ h
        · replace h := Eq.mp (if_neg c15) h
          refine sr_iload_n C 2 rfl rfl d_M_compared_43 ?_
          exact hR _ _ _ _ d_M_compared_44 rfl h
  refine sr_aload_n C 0 rfl rfl d_M_compared_0 ?_
  refine sr_callVI C [] (hF3 h) ok_115 sm_l61 rfl rfl rfl rfl ⟨by dsimp only; omega, by dsimp only; omega⟩ (Nat.le_of_ble_eq_true rfl) ⟨Nat.zero_le _, Nat.zero_le _⟩ d_M_compared_1 (fun r2 μ1 h => ?_)
  refine sr_istore_n C rfl (by decide) d_M_compared_4 ?_
  refine sr_aload_n C 1 rfl rfl d_M_compared_5 ?_
  refine sr_getI C sm_F7 14 q_499 sm_l61 rfl (by decide) d_M_compared_6 ?_
  refine sr_if_eq C (tgt := 23) d_M_compared_9 (by decide) (fun c3 => ?_) (fun c3 => ?_)
  · replace h := Eq.mp (if_pos c3) h
    refine sr_iconst C (v := (-1)) d_M_compared_23 (by decide) ?_
    refine sr_mask C [1, 0] rfl ?_
    exact B24 _ _ _ h
  · replace h := Eq.mp (if_neg c3) h
    refine sr_aload_n C 1 rfl rfl d_M_compared_12 ?_
    refine sr_aload_n C 1 rfl rfl d_M_compared_13 ?_
    refine sr_getI C sm_F7 8 q_496 sm_l61 rfl (by decide) d_M_compared_14 ?_
    refine sr_callVI C [sm_I _] (P_M_byteAt l h) ok_113 sm_l61 rfl rfl rfl rfl ⟨by dsimp only; omega, by dsimp only; omega⟩ (Nat.le_of_ble_eq_true rfl) ⟨Nat.zero_le _, Nat.zero_le _⟩ d_M_compared_17 (fun r17 μ16 h => ?_)
    refine sr_goto C (tgt := 24) (by decide) d_M_compared_20 ?_
    refine sr_mask C [1, 0] rfl ?_
    exact B24 _ _ _ h
theorem d_M_sum_0 : decode prog_10_method_33_code 0 = .ok (.aload_n 0, 1) := by decide +kernel
theorem d_M_sum_1 : decode prog_10_method_33_code 1 = .ok (.invokevirtual 136, 3) := by decide +kernel
theorem d_M_sum_4 : decode prog_10_method_33_code 4 = .ok (.istore_n 1, 1) := by decide +kernel
theorem d_M_sum_5 : decode prog_10_method_33_code 5 = .ok (.aload_n 0, 1) := by decide +kernel
theorem d_M_sum_6 : decode prog_10_method_33_code 6 = .ok (.getfield 95, 3) := by decide +kernel
theorem d_M_sum_9 : decode prog_10_method_33_code 9 = .ok (.ifCond .eq 72, 3) := by decide +kernel
theorem d_M_sum_12 : decode prog_10_method_33_code 12 = .ok (.aload_n 0, 1) := by decide +kernel
theorem d_M_sum_13 : decode prog_10_method_33_code 13 = .ok (.aload_n 0, 1) := by decide +kernel
theorem d_M_sum_14 : decode prog_10_method_33_code 14 = .ok (.getfield 99, 3) := by decide +kernel
theorem d_M_sum_17 : decode prog_10_method_33_code 17 = .ok (.invokevirtual 102, 3) := by decide +kernel
theorem d_M_sum_20 : decode prog_10_method_33_code 20 = .ok (.bipush 43, 2) := by decide +kernel
theorem d_M_sum_22 : decode prog_10_method_33_code 22 = .ok (.if_icmp .eq 16, 3) := by decide +kernel
theorem d_M_sum_25 : decode prog_10_method_33_code 25 = .ok (.aload_n 0, 1) := by decide +kernel
theorem d_M_sum_26 : decode prog_10_method_33_code 26 = .ok (.aload_n 0, 1) := by decide +kernel
theorem d_M_sum_27 : decode prog_10_method_33_code 27 = .ok (.getfield 99, 3) := by decide +kernel
theorem d_M_sum_30 : decode prog_10_method_33_code 30 = .ok (.invokevirtual 102, 3) := by decide +kernel
theorem d_M_sum_33 : decode prog_10_method_33_code 33 = .ok (.bipush 45, 2) := by decide +kernel
theorem d_M_sum_35 : decode prog_10_method_33_code 35 = .ok (.if_icmp .ne 46, 3) := by decide +kernel
theorem d_M_sum_38 : decode prog_10_method_33_code 38 = .ok (.aload_n 0, 1) := by decide +kernel
theorem d_M_sum_39 : decode prog_10_method_33_code 39 = .ok (.aload_n 0, 1) := by decide +kernel
theorem d_M_sum_40 : decode prog_10_method_33_code 40 = .ok (.getfield 99, 3) := by decide +kernel
theorem d_M_sum_43 : decode prog_10_method_33_code 43 = .ok (.invokevirtual 102, 3) := by decide +kernel
theorem d_M_sum_46 : decode prog_10_method_33_code 46 = .ok (.istore_n 2, 1) := by decide +kernel
theorem d_M_sum_47 : decode prog_10_method_33_code 47 = .ok (.aload_n 0, 1) := by decide +kernel
theorem d_M_sum_48 : decode prog_10_method_33_code 48 = .ok (.dup, 1) := by decide +kernel
theorem d_M_sum_49 : decode prog_10_method_33_code 49 = .ok (.getfield 99, 3) := by decide +kernel
theorem d_M_sum_52 : decode prog_10_method_33_code 52 = .ok (.iconst 1, 1) := by decide +kernel
theorem d_M_sum_53 : decode prog_10_method_33_code 53 = .ok (.iadd, 1) := by decide +kernel
theorem d_M_sum_54 : decode prog_10_method_33_code 54 = .ok (.putfield 99, 3) := by decide +kernel
theorem d_M_sum_57 : decode prog_10_method_33_code 57 = .ok (.aload_n 0, 1) := by decide +kernel
theorem d_M_sum_58 : decode prog_10_method_33_code 58 = .ok (.invokevirtual 136, 3) := by decide +kernel
theorem d_M_sum_61 : decode prog_10_method_33_code 61 = .ok (.istore_n 3, 1) := by decide +kernel
theorem d_M_sum_62 : decode prog_10_method_33_code 62 = .ok (.iload_n 2, 1) := by decide +kernel
theorem d_M_sum_63 : decode prog_10_method_33_code 63 = .ok (.bipush 43, 2) := by decide +kernel
theorem d_M_sum_65 : decode prog_10_method_33_code 65 = .ok (.if_icmp .ne 9, 3) := by decide +kernel
theorem d_M_sum_68 : decode prog_10_method_33_code 68 = .ok (.iload_n 1, 1) := by decide +kernel
theorem d_M_sum_69 : decode prog_10_method_33_code 69 = .ok (.iload_n 3, 1) := by decide +kernel
theorem d_M_sum_70 : decode prog_10_method_33_code 70 = .ok (.iadd, 1) := by decide +kernel
theorem d_M_sum_71 : decode prog_10_method_33_code 71 = .ok (.goto 6, 3) := by decide +kernel
theorem d_M_sum_74 : decode prog_10_method_33_code 74 = .ok (.iload_n 1, 1) := by decide +kernel
theorem d_M_sum_75 : decode prog_10_method_33_code 75 = .ok (.iload_n 3, 1) := by decide +kernel
theorem d_M_sum_76 : decode prog_10_method_33_code 76 = .ok (.isub, 1) := by decide +kernel
theorem d_M_sum_77 : decode prog_10_method_33_code 77 = .ok (.istore_n 1, 1) := by decide +kernel
theorem d_M_sum_78 : decode prog_10_method_33_code 78 = .ok (.goto (-73), 3) := by decide +kernel
theorem d_M_sum_81 : decode prog_10_method_33_code 81 = .ok (.iload_n 1, 1) := by decide +kernel
theorem d_M_sum_82 : decode prog_10_method_33_code 82 = .ok (.ireturn, 1) := by decide +kernel
def w_M_sum_77 (F : Nat → (Int32 → sm_Mem → Prop) → sm_Mem → Prop) (K : Int32 → sm_Mem → Prop) (J5 : Int32 → sm_Mem → Prop) (s0 : Int32) (μ : sm_Mem) : Prop := J5 s0 μ
def w_M_sum_38 (F : Nat → (Int32 → sm_Mem → Prop) → sm_Mem → Prop) (K : Int32 → sm_Mem → Prop) (J5 : Int32 → sm_Mem → Prop) (x1 : Int32) (μ : sm_Mem) : Prop := w_M_byteAt (fun r8 μ7 => ∀ μ9 : sm_Mem, μ9 = sm_st μ7 61 8 ((μ7 61 8) + 1) → F 4 (fun r11 μ10 => if r8 = 43 then w_M_sum_77 F K J5 (x1 + r11) μ10 else w_M_sum_77 F K J5 (x1 - r11) μ10) μ9) (μ 61 8) μ
def w_M_sum_5 (F : Nat → (Int32 → sm_Mem → Prop) → sm_Mem → Prop) (K : Int32 → sm_Mem → Prop) (x1 : Int32) (μ : sm_Mem) : Prop := sm_lp1 (fun J5 x1 μ => if (μ 61 14) = 0 then K x1 μ else w_M_byteAt (fun r5 μ4 => if r5 = 43 then w_M_sum_38 F K J5 x1 μ4 else w_M_byteAt (fun r14 μ13 => if r14 = 45 then w_M_sum_38 F K J5 x1 μ13 else K x1 μ13) (μ4 61 8) μ4) (μ 61 8) μ) x1 μ
def w_M_sum (F : Nat → (Int32 → sm_Mem → Prop) → sm_Mem → Prop) (K : Int32 → sm_Mem → Prop) (μ : sm_Mem) : Prop := F 4 (fun r2 μ1 => w_M_sum_5 F K r2 μ1) μ
set_option maxHeartbeats 4000000 in
set_option maxRecDepth 100000 in
theorem P_M_sum (l : Launch) {F : Nat → (Int32 → sm_Mem → Prop) → sm_Mem → Prop} {n : Nat} (hF4 : ∀ {K : Int32 → sm_Mem → Prop} {μ : sm_Mem}, F 4 K μ → sm_MI l ⟨"SnowMoneyModel", "product", "()I"⟩ prog_10_method_32_code 4 (some .int) { frames := n + 4, cells := 0, slots := 0, locals := n * 40 + 120 } [sm_R 61] μ K) {K : Int32 → sm_Mem → Prop} {μ : sm_Mem} (h : w_M_sum F K μ) : sm_MI l ⟨"SnowMoneyModel", "sum", "()I"⟩ prog_10_method_33_code 4 (some .int) { frames := n + 1 + 4, cells := 0, slots := 0, locals := (n + 1) * 40 + 120 } [sm_R 61] μ K := by
  refine sm_ofI (by decide +kernel) (fun _ => Nat.le_of_ble_eq_true rfl) ?_
  intro p e s m args below meth c A Q G C hR
  have B77 : ∀ (s0 : Int32) (J5 : Int32 → sm_Mem → Prop) (hJ5 : ∀ (x1 : Int32) (μ : sm_Mem), J5 x1 μ → sm_W p l e { frames := n + 1 + 4, cells := 0, slots := 0, locals := (n + 1) * 40 + 120 } s m args below meth c A Q G 4 0 0 5 [] [(0, sm_R 61), (1, sm_I x1)] μ) (μ : sm_Mem), w_M_sum_77 F K J5 s0 μ → sm_W p l e { frames := n + 1 + 4, cells := 0, slots := 0, locals := (n + 1) * 40 + 120 } s m args below meth c A Q G 4 0 0 77 [sm_I s0] [(0, sm_R 61)] μ := by
    intro s0 J5 hJ5 μ h
    refine sr_istore_n C rfl (by decide) d_M_sum_77 ?_
    refine sr_goto C (tgt := 5) (by decide) d_M_sum_78 ?_
    refine sr_mask C [1, 0] rfl ?_
    exact hJ5 _ _ h
  have B38 : ∀ (x1 : Int32) (J5 : Int32 → sm_Mem → Prop) (hJ5 : ∀ (x1 : Int32) (μ : sm_Mem), J5 x1 μ → sm_W p l e { frames := n + 1 + 4, cells := 0, slots := 0, locals := (n + 1) * 40 + 120 } s m args below meth c A Q G 4 0 0 5 [] [(0, sm_R 61), (1, sm_I x1)] μ) (μ : sm_Mem), w_M_sum_38 F K J5 x1 μ → sm_W p l e { frames := n + 1 + 4, cells := 0, slots := 0, locals := (n + 1) * 40 + 120 } s m args below meth c A Q G 4 0 0 38 [] [(0, sm_R 61), (1, sm_I x1)] μ := by
    intro x1 J5 hJ5 μ h
    refine sr_aload_n C 0 rfl rfl d_M_sum_38 ?_
    refine sr_aload_n C 0 rfl rfl d_M_sum_39 ?_
    refine sr_getI C sm_F7 8 q_496 sm_l61 rfl (by decide) d_M_sum_40 ?_
    refine sr_callVI C [sm_I _] (P_M_byteAt l h) ok_113 sm_l61 rfl rfl rfl rfl ⟨by dsimp only; omega, by dsimp only; omega⟩ (Nat.le_of_ble_eq_true rfl) ⟨Nat.zero_le _, Nat.zero_le _⟩ d_M_sum_43 (fun r8 μ7 h => ?_)
    refine sr_istore_n C rfl (by decide) d_M_sum_46 ?_
    refine sr_aload_n C 1 rfl rfl d_M_sum_47 ?_
    refine sr_dup C rfl d_M_sum_48 ?_
    refine sr_getI C sm_F7 8 q_496 sm_l61 rfl (by decide) d_M_sum_49 ?_
    refine sr_iconst C (v := 1) d_M_sum_52 (by decide) ?_
    refine sr_iadd C d_M_sum_53 ?_
    refine sr_putI C sm_F7 8 q_496 sm_l61 rfl rfl (by decide) rfl d_M_sum_54 ?_
    replace h := h _ rfl
    refine sr_aload_n C 1 rfl rfl d_M_sum_57 ?_
    refine sr_callVI C [] (hF4 h) ok_116 sm_l61 rfl rfl rfl rfl ⟨by dsimp only; omega, by dsimp only; omega⟩ (Nat.le_of_ble_eq_true rfl) ⟨Nat.zero_le _, Nat.zero_le _⟩ d_M_sum_58 (fun r11 μ10 h => ?_)
    refine sr_istore_n C rfl (by decide) d_M_sum_61 ?_
    refine sr_iload_n C 1 rfl rfl d_M_sum_62 ?_
    refine sr_bipush C (v := 43) d_M_sum_63 (by decide) ?_
    refine sr_icmp_ne C (tgt := 74) d_M_sum_65 (by decide) (fun c12 => ?_) (fun c12 => ?_)
    · replace h := Eq.mp (if_neg c12) h
      refine sr_iload_n C 3 rfl rfl d_M_sum_74 ?_
      refine sr_iload_n C 0 rfl rfl d_M_sum_75 ?_
      refine sr_isub C d_M_sum_76 ?_
      refine sr_mask C [2] rfl ?_
      exact B77 _ _ hJ5 _ h
    · replace h := Eq.mp (if_pos c12) h
      refine sr_iload_n C 3 rfl rfl d_M_sum_68 ?_
      refine sr_iload_n C 0 rfl rfl d_M_sum_69 ?_
      refine sr_iadd C d_M_sum_70 ?_
      refine sr_goto C (tgt := 77) (by decide) d_M_sum_71 ?_
      refine sr_mask C [2] rfl ?_
      exact B77 _ _ hJ5 _ h
  have B5 : ∀ (x1 : Int32) (μ : sm_Mem), w_M_sum_5 F K x1 μ → sm_W p l e { frames := n + 1 + 4, cells := 0, slots := 0, locals := (n + 1) * 40 + 120 } s m args below meth c A Q G 4 0 0 5 [] [(0, sm_R 61), (1, sm_I x1)] μ := by
    intro x1 μ h
    refine sm_lp1_sound (P := fun x1 μ => sm_W p l e { frames := n + 1 + 4, cells := 0, slots := 0, locals := (n + 1) * 40 + 120 } s m args below meth c A Q G 4 0 0 5 [] [(0, sm_R 61), (1, sm_I x1)] μ) (fun J5 x1 μ hJ5 h => ?_) h
    refine sr_aload_n C 0 rfl rfl d_M_sum_5 ?_
    refine sr_getI C sm_F7 14 q_499 sm_l61 rfl (by decide) d_M_sum_6 ?_
    refine sr_if_eq C (tgt := 81) d_M_sum_9 (by decide) (fun c3 => ?_) (fun c3 => ?_)
    · replace h := Eq.mp (if_pos c3) h
      refine sr_iload_n C 1 rfl rfl d_M_sum_81 ?_
      exact hR _ _ _ _ d_M_sum_82 rfl h
    · replace h := Eq.mp (if_neg c3) h
      refine sr_aload_n C 0 rfl rfl d_M_sum_12 ?_
      refine sr_aload_n C 0 rfl rfl d_M_sum_13 ?_
      refine sr_getI C sm_F7 8 q_496 sm_l61 rfl (by decide) d_M_sum_14 ?_
      refine sr_callVI C [sm_I _] (P_M_byteAt l h) ok_113 sm_l61 rfl rfl rfl rfl ⟨by dsimp only; omega, by dsimp only; omega⟩ (Nat.le_of_ble_eq_true rfl) ⟨Nat.zero_le _, Nat.zero_le _⟩ d_M_sum_17 (fun r5 μ4 h => ?_)
      refine sr_bipush C (v := 43) d_M_sum_20 (by decide) ?_
      refine sr_icmp_eq C (tgt := 38) d_M_sum_22 (by decide) (fun c6 => ?_) (fun c6 => ?_)
      · replace h := Eq.mp (if_pos c6) h
        exact B38 _ _ hJ5 _ h
      · replace h := Eq.mp (if_neg c6) h
        refine sr_aload_n C 0 rfl rfl d_M_sum_25 ?_
        refine sr_aload_n C 0 rfl rfl d_M_sum_26 ?_
        refine sr_getI C sm_F7 8 q_496 sm_l61 rfl (by decide) d_M_sum_27 ?_
        refine sr_callVI C [sm_I _] (P_M_byteAt l h) ok_113 sm_l61 rfl rfl rfl rfl ⟨by dsimp only; omega, by dsimp only; omega⟩ (Nat.le_of_ble_eq_true rfl) ⟨Nat.zero_le _, Nat.zero_le _⟩ d_M_sum_30 (fun r14 μ13 h => ?_)
        refine sr_bipush C (v := 45) d_M_sum_33 (by decide) ?_
        refine sr_icmp_ne C (tgt := 81) d_M_sum_35 (by decide) (fun c15 => ?_) (fun c15 => ?_)
        · replace h := Eq.mp (if_neg c15) h
          refine sr_iload_n C 1 rfl rfl d_M_sum_81 ?_
          exact hR _ _ _ _ d_M_sum_82 rfl h
        · replace h := Eq.mp (if_pos c15) h
          exact B38 _ _ hJ5 _ h
  refine sr_aload_n C 0 rfl rfl d_M_sum_0 ?_
  refine sr_callVI C [] (hF4 h) ok_116 sm_l61 rfl rfl rfl rfl ⟨by dsimp only; omega, by dsimp only; omega⟩ (Nat.le_of_ble_eq_true rfl) ⟨Nat.zero_le _, Nat.zero_le _⟩ d_M_sum_1 (fun r2 μ1 h => ?_)
  refine sr_istore_n C rfl (by decide) d_M_sum_4 ?_
  refine sr_mask C [1, 0] rfl ?_
  exact B5 _ _ h
theorem d_M_product_0 : decode prog_10_method_32_code 0 = .ok (.aload_n 0, 1) := by decide +kernel
theorem d_M_product_1 : decode prog_10_method_32_code 1 = .ok (.invokevirtual 130, 3) := by decide +kernel
theorem d_M_product_4 : decode prog_10_method_32_code 4 = .ok (.istore_n 1, 1) := by decide +kernel
theorem d_M_product_5 : decode prog_10_method_32_code 5 = .ok (.aload_n 0, 1) := by decide +kernel
theorem d_M_product_6 : decode prog_10_method_32_code 6 = .ok (.getfield 95, 3) := by decide +kernel
theorem d_M_product_9 : decode prog_10_method_32_code 9 = .ok (.ifCond .eq 105, 3) := by decide +kernel
theorem d_M_product_12 : decode prog_10_method_32_code 12 = .ok (.aload_n 0, 1) := by decide +kernel
theorem d_M_product_13 : decode prog_10_method_32_code 13 = .ok (.aload_n 0, 1) := by decide +kernel
theorem d_M_product_14 : decode prog_10_method_32_code 14 = .ok (.getfield 99, 3) := by decide +kernel
theorem d_M_product_17 : decode prog_10_method_32_code 17 = .ok (.invokevirtual 102, 3) := by decide +kernel
theorem d_M_product_20 : decode prog_10_method_32_code 20 = .ok (.bipush 42, 2) := by decide +kernel
theorem d_M_product_22 : decode prog_10_method_32_code 22 = .ok (.if_icmp .eq 29, 3) := by decide +kernel
theorem d_M_product_25 : decode prog_10_method_32_code 25 = .ok (.aload_n 0, 1) := by decide +kernel
theorem d_M_product_26 : decode prog_10_method_32_code 26 = .ok (.aload_n 0, 1) := by decide +kernel
theorem d_M_product_27 : decode prog_10_method_32_code 27 = .ok (.getfield 99, 3) := by decide +kernel
theorem d_M_product_30 : decode prog_10_method_32_code 30 = .ok (.invokevirtual 102, 3) := by decide +kernel
theorem d_M_product_33 : decode prog_10_method_32_code 33 = .ok (.bipush 47, 2) := by decide +kernel
theorem d_M_product_35 : decode prog_10_method_32_code 35 = .ok (.if_icmp .eq 16, 3) := by decide +kernel
theorem d_M_product_38 : decode prog_10_method_32_code 38 = .ok (.aload_n 0, 1) := by decide +kernel
theorem d_M_product_39 : decode prog_10_method_32_code 39 = .ok (.aload_n 0, 1) := by decide +kernel
theorem d_M_product_40 : decode prog_10_method_32_code 40 = .ok (.getfield 99, 3) := by decide +kernel
theorem d_M_product_43 : decode prog_10_method_32_code 43 = .ok (.invokevirtual 102, 3) := by decide +kernel
theorem d_M_product_46 : decode prog_10_method_32_code 46 = .ok (.bipush 37, 2) := by decide +kernel
theorem d_M_product_48 : decode prog_10_method_32_code 48 = .ok (.if_icmp .ne 66, 3) := by decide +kernel
theorem d_M_product_51 : decode prog_10_method_32_code 51 = .ok (.aload_n 0, 1) := by decide +kernel
theorem d_M_product_52 : decode prog_10_method_32_code 52 = .ok (.aload_n 0, 1) := by decide +kernel
theorem d_M_product_53 : decode prog_10_method_32_code 53 = .ok (.getfield 99, 3) := by decide +kernel
theorem d_M_product_56 : decode prog_10_method_32_code 56 = .ok (.invokevirtual 102, 3) := by decide +kernel
theorem d_M_product_59 : decode prog_10_method_32_code 59 = .ok (.istore_n 2, 1) := by decide +kernel
theorem d_M_product_60 : decode prog_10_method_32_code 60 = .ok (.aload_n 0, 1) := by decide +kernel
theorem d_M_product_61 : decode prog_10_method_32_code 61 = .ok (.dup, 1) := by decide +kernel
theorem d_M_product_62 : decode prog_10_method_32_code 62 = .ok (.getfield 99, 3) := by decide +kernel
theorem d_M_product_65 : decode prog_10_method_32_code 65 = .ok (.iconst 1, 1) := by decide +kernel
theorem d_M_product_66 : decode prog_10_method_32_code 66 = .ok (.iadd, 1) := by decide +kernel
theorem d_M_product_67 : decode prog_10_method_32_code 67 = .ok (.putfield 99, 3) := by decide +kernel
theorem d_M_product_70 : decode prog_10_method_32_code 70 = .ok (.aload_n 0, 1) := by decide +kernel
theorem d_M_product_71 : decode prog_10_method_32_code 71 = .ok (.invokevirtual 130, 3) := by decide +kernel
theorem d_M_product_74 : decode prog_10_method_32_code 74 = .ok (.istore_n 3, 1) := by decide +kernel
theorem d_M_product_75 : decode prog_10_method_32_code 75 = .ok (.iload_n 2, 1) := by decide +kernel
theorem d_M_product_76 : decode prog_10_method_32_code 76 = .ok (.bipush 42, 2) := by decide +kernel
theorem d_M_product_78 : decode prog_10_method_32_code 78 = .ok (.if_icmp .ne 9, 3) := by decide +kernel
theorem d_M_product_81 : decode prog_10_method_32_code 81 = .ok (.iload_n 1, 1) := by decide +kernel
theorem d_M_product_82 : decode prog_10_method_32_code 82 = .ok (.iload_n 3, 1) := by decide +kernel
theorem d_M_product_83 : decode prog_10_method_32_code 83 = .ok (.imul, 1) := by decide +kernel
theorem d_M_product_84 : decode prog_10_method_32_code 84 = .ok (.goto 26, 3) := by decide +kernel
theorem d_M_product_87 : decode prog_10_method_32_code 87 = .ok (.iload_n 3, 1) := by decide +kernel
theorem d_M_product_88 : decode prog_10_method_32_code 88 = .ok (.ifCond .ne 7, 3) := by decide +kernel
theorem d_M_product_91 : decode prog_10_method_32_code 91 = .ok (.iconst 0, 1) := by decide +kernel
theorem d_M_product_92 : decode prog_10_method_32_code 92 = .ok (.goto 18, 3) := by decide +kernel
theorem d_M_product_95 : decode prog_10_method_32_code 95 = .ok (.iload_n 2, 1) := by decide +kernel
theorem d_M_product_96 : decode prog_10_method_32_code 96 = .ok (.bipush 47, 2) := by decide +kernel
theorem d_M_product_98 : decode prog_10_method_32_code 98 = .ok (.if_icmp .ne 9, 3) := by decide +kernel
theorem d_M_product_101 : decode prog_10_method_32_code 101 = .ok (.iload_n 1, 1) := by decide +kernel
theorem d_M_product_102 : decode prog_10_method_32_code 102 = .ok (.iload_n 3, 1) := by decide +kernel
theorem d_M_product_103 : decode prog_10_method_32_code 103 = .ok (.idiv, 1) := by decide +kernel
theorem d_M_product_104 : decode prog_10_method_32_code 104 = .ok (.goto 6, 3) := by decide +kernel
theorem d_M_product_107 : decode prog_10_method_32_code 107 = .ok (.iload_n 1, 1) := by decide +kernel
theorem d_M_product_108 : decode prog_10_method_32_code 108 = .ok (.iload_n 3, 1) := by decide +kernel
theorem d_M_product_109 : decode prog_10_method_32_code 109 = .ok (.irem, 1) := by decide +kernel
theorem d_M_product_110 : decode prog_10_method_32_code 110 = .ok (.istore_n 1, 1) := by decide +kernel
theorem d_M_product_111 : decode prog_10_method_32_code 111 = .ok (.goto (-106), 3) := by decide +kernel
theorem d_M_product_114 : decode prog_10_method_32_code 114 = .ok (.iload_n 1, 1) := by decide +kernel
theorem d_M_product_115 : decode prog_10_method_32_code 115 = .ok (.ireturn, 1) := by decide +kernel
def w_M_product_110 (F : Nat → (Int32 → sm_Mem → Prop) → sm_Mem → Prop) (K : Int32 → sm_Mem → Prop) (J5 : Int32 → sm_Mem → Prop) (s0 : Int32) (μ : sm_Mem) : Prop := J5 s0 μ
def w_M_product_51 (F : Nat → (Int32 → sm_Mem → Prop) → sm_Mem → Prop) (K : Int32 → sm_Mem → Prop) (J5 : Int32 → sm_Mem → Prop) (x1 : Int32) (μ : sm_Mem) : Prop := w_M_byteAt (fun r8 μ7 => ∀ μ9 : sm_Mem, μ9 = sm_st μ7 61 8 ((μ7 61 8) + 1) → F 5 (fun r11 μ10 => if r8 = 42 then w_M_product_110 F K J5 (x1 * r11) μ10 else (if r11 = 0 then w_M_product_110 F K J5 0 μ10 else (if r8 = 47 then ((¬ r11 = 0) ∧ w_M_product_110 F K J5 (x1 / r11) μ10) else ((¬ r11 = 0) ∧ w_M_product_110 F K J5 (x1 % r11) μ10)))) μ9) (μ 61 8) μ
def w_M_product_5 (F : Nat → (Int32 → sm_Mem → Prop) → sm_Mem → Prop) (K : Int32 → sm_Mem → Prop) (x1 : Int32) (μ : sm_Mem) : Prop := sm_lp1 (fun J5 x1 μ => if (μ 61 14) = 0 then K x1 μ else w_M_byteAt (fun r5 μ4 => if r5 = 42 then w_M_product_51 F K J5 x1 μ4 else w_M_byteAt (fun r18 μ17 => if r18 = 47 then w_M_product_51 F K J5 x1 μ17 else w_M_byteAt (fun r21 μ20 => if r21 = 37 then w_M_product_51 F K J5 x1 μ20 else K x1 μ20) (μ17 61 8) μ17) (μ4 61 8) μ4) (μ 61 8) μ) x1 μ
def w_M_product (F : Nat → (Int32 → sm_Mem → Prop) → sm_Mem → Prop) (K : Int32 → sm_Mem → Prop) (μ : sm_Mem) : Prop := F 5 (fun r2 μ1 => w_M_product_5 F K r2 μ1) μ
set_option maxHeartbeats 4000000 in
set_option maxRecDepth 100000 in
theorem P_M_product (l : Launch) {F : Nat → (Int32 → sm_Mem → Prop) → sm_Mem → Prop} {n : Nat} (hF5 : ∀ {K : Int32 → sm_Mem → Prop} {μ : sm_Mem}, F 5 K μ → sm_MI l ⟨"SnowMoneyModel", "factor", "()I"⟩ prog_10_method_31_code 3 (some .int) { frames := n + 4, cells := 0, slots := 0, locals := n * 40 + 120 } [sm_R 61] μ K) {K : Int32 → sm_Mem → Prop} {μ : sm_Mem} (h : w_M_product F K μ) : sm_MI l ⟨"SnowMoneyModel", "product", "()I"⟩ prog_10_method_32_code 4 (some .int) { frames := n + 1 + 4, cells := 0, slots := 0, locals := (n + 1) * 40 + 120 } [sm_R 61] μ K := by
  refine sm_ofI (by decide +kernel) (fun _ => Nat.le_of_ble_eq_true rfl) ?_
  intro p e s m args below meth c A Q G C hR
  have B110 : ∀ (s0 : Int32) (J5 : Int32 → sm_Mem → Prop) (hJ5 : ∀ (x1 : Int32) (μ : sm_Mem), J5 x1 μ → sm_W p l e { frames := n + 1 + 4, cells := 0, slots := 0, locals := (n + 1) * 40 + 120 } s m args below meth c A Q G 4 0 0 5 [] [(0, sm_R 61), (1, sm_I x1)] μ) (μ : sm_Mem), w_M_product_110 F K J5 s0 μ → sm_W p l e { frames := n + 1 + 4, cells := 0, slots := 0, locals := (n + 1) * 40 + 120 } s m args below meth c A Q G 4 0 0 110 [sm_I s0] [(0, sm_R 61)] μ := by
    intro s0 J5 hJ5 μ h
    refine sr_istore_n C rfl (by decide) d_M_product_110 ?_
    refine sr_goto C (tgt := 5) (by decide) d_M_product_111 ?_
    refine sr_mask C [1, 0] rfl ?_
    exact hJ5 _ _ h
  have B51 : ∀ (x1 : Int32) (J5 : Int32 → sm_Mem → Prop) (hJ5 : ∀ (x1 : Int32) (μ : sm_Mem), J5 x1 μ → sm_W p l e { frames := n + 1 + 4, cells := 0, slots := 0, locals := (n + 1) * 40 + 120 } s m args below meth c A Q G 4 0 0 5 [] [(0, sm_R 61), (1, sm_I x1)] μ) (μ : sm_Mem), w_M_product_51 F K J5 x1 μ → sm_W p l e { frames := n + 1 + 4, cells := 0, slots := 0, locals := (n + 1) * 40 + 120 } s m args below meth c A Q G 4 0 0 51 [] [(0, sm_R 61), (1, sm_I x1)] μ := by
    intro x1 J5 hJ5 μ h
    refine sr_aload_n C 0 rfl rfl d_M_product_51 ?_
    refine sr_aload_n C 0 rfl rfl d_M_product_52 ?_
    refine sr_getI C sm_F7 8 q_496 sm_l61 rfl (by decide) d_M_product_53 ?_
    refine sr_callVI C [sm_I _] (P_M_byteAt l h) ok_113 sm_l61 rfl rfl rfl rfl ⟨by dsimp only; omega, by dsimp only; omega⟩ (Nat.le_of_ble_eq_true rfl) ⟨Nat.zero_le _, Nat.zero_le _⟩ d_M_product_56 (fun r8 μ7 h => ?_)
    refine sr_istore_n C rfl (by decide) d_M_product_59 ?_
    refine sr_aload_n C 1 rfl rfl d_M_product_60 ?_
    refine sr_dup C rfl d_M_product_61 ?_
    refine sr_getI C sm_F7 8 q_496 sm_l61 rfl (by decide) d_M_product_62 ?_
    refine sr_iconst C (v := 1) d_M_product_65 (by decide) ?_
    refine sr_iadd C d_M_product_66 ?_
    refine sr_putI C sm_F7 8 q_496 sm_l61 rfl rfl (by decide) rfl d_M_product_67 ?_
    replace h := h _ rfl
    refine sr_aload_n C 1 rfl rfl d_M_product_70 ?_
    refine sr_callVI C [] (hF5 h) ok_117 sm_l61 rfl rfl rfl rfl ⟨by dsimp only; omega, by dsimp only; omega⟩ (Nat.le_of_ble_eq_true rfl) ⟨Nat.zero_le _, Nat.zero_le _⟩ d_M_product_71 (fun r11 μ10 h => ?_)
    refine sr_istore_n C rfl (by decide) d_M_product_74 ?_
    refine sr_iload_n C 1 rfl rfl d_M_product_75 ?_
    refine sr_bipush C (v := 42) d_M_product_76 (by decide) ?_
    refine sr_icmp_ne C (tgt := 87) d_M_product_78 (by decide) (fun c12 => ?_) (fun c12 => ?_)
    · replace h := Eq.mp (if_neg c12) h
      refine sr_iload_n C 0 rfl rfl d_M_product_87 ?_
      refine sr_if_ne C (tgt := 95) d_M_product_88 (by decide) (fun c13 => ?_) (fun c13 => ?_)
      · replace h := Eq.mp (if_neg c13) h
        refine sr_iload_n C 1 rfl rfl d_M_product_95 ?_
        refine sr_bipush C (v := 47) d_M_product_96 (by decide) ?_
        refine sr_icmp_ne C (tgt := 107) d_M_product_98 (by decide) (fun c14 => ?_) (fun c14 => ?_)
        · replace h := Eq.mp (if_neg c14) h
          refine sr_iload_n C 3 rfl rfl d_M_product_107 ?_
          refine sr_iload_n C 0 rfl rfl d_M_product_108 ?_
          obtain ⟨g15, h⟩ := h
          refine sr_irem C g15 d_M_product_109 ?_
          refine sr_mask C [2] rfl ?_
          exact B110 _ _ hJ5 _ h
        · replace h := Eq.mp (if_pos c14) h
          refine sr_iload_n C 3 rfl rfl d_M_product_101 ?_
          refine sr_iload_n C 0 rfl rfl d_M_product_102 ?_
          obtain ⟨g16, h⟩ := h
          refine sr_idiv C g16 d_M_product_103 ?_
          refine sr_goto C (tgt := 110) (by decide) d_M_product_104 ?_
          refine sr_mask C [2] rfl ?_
          exact B110 _ _ hJ5 _ h
      · replace h := Eq.mp (if_pos c13) h
        refine sr_iconst C (v := 0) d_M_product_91 (by decide) ?_
        refine sr_goto C (tgt := 110) (by decide) d_M_product_92 ?_
        refine sr_mask C [2] rfl ?_
        exact B110 _ _ hJ5 _ h
    · replace h := Eq.mp (if_pos c12) h
      refine sr_iload_n C 3 rfl rfl d_M_product_81 ?_
      refine sr_iload_n C 0 rfl rfl d_M_product_82 ?_
      refine sr_imul C d_M_product_83 ?_
      refine sr_goto C (tgt := 110) (by decide) d_M_product_84 ?_
      refine sr_mask C [2] rfl ?_
      exact B110 _ _ hJ5 _ h
  have B5 : ∀ (x1 : Int32) (μ : sm_Mem), w_M_product_5 F K x1 μ → sm_W p l e { frames := n + 1 + 4, cells := 0, slots := 0, locals := (n + 1) * 40 + 120 } s m args below meth c A Q G 4 0 0 5 [] [(0, sm_R 61), (1, sm_I x1)] μ := by
    intro x1 μ h
    refine sm_lp1_sound (P := fun x1 μ => sm_W p l e { frames := n + 1 + 4, cells := 0, slots := 0, locals := (n + 1) * 40 + 120 } s m args below meth c A Q G 4 0 0 5 [] [(0, sm_R 61), (1, sm_I x1)] μ) (fun J5 x1 μ hJ5 h => ?_) h
    refine sr_aload_n C 0 rfl rfl d_M_product_5 ?_
    refine sr_getI C sm_F7 14 q_499 sm_l61 rfl (by decide) d_M_product_6 ?_
    refine sr_if_eq C (tgt := 114) d_M_product_9 (by decide) (fun c3 => ?_) (fun c3 => ?_)
    · replace h := Eq.mp (if_pos c3) h
      refine sr_iload_n C 1 rfl rfl d_M_product_114 ?_
      exact hR _ _ _ _ d_M_product_115 rfl h
    · replace h := Eq.mp (if_neg c3) h
      refine sr_aload_n C 0 rfl rfl d_M_product_12 ?_
      refine sr_aload_n C 0 rfl rfl d_M_product_13 ?_
      refine sr_getI C sm_F7 8 q_496 sm_l61 rfl (by decide) d_M_product_14 ?_
      refine sr_callVI C [sm_I _] (P_M_byteAt l h) ok_113 sm_l61 rfl rfl rfl rfl ⟨by dsimp only; omega, by dsimp only; omega⟩ (Nat.le_of_ble_eq_true rfl) ⟨Nat.zero_le _, Nat.zero_le _⟩ d_M_product_17 (fun r5 μ4 h => ?_)
      refine sr_bipush C (v := 42) d_M_product_20 (by decide) ?_
      refine sr_icmp_eq C (tgt := 51) d_M_product_22 (by decide) (fun c6 => ?_) (fun c6 => ?_)
      · replace h := Eq.mp (if_pos c6) h
        exact B51 _ _ hJ5 _ h
      · replace h := Eq.mp (if_neg c6) h
        refine sr_aload_n C 0 rfl rfl d_M_product_25 ?_
        refine sr_aload_n C 0 rfl rfl d_M_product_26 ?_
        refine sr_getI C sm_F7 8 q_496 sm_l61 rfl (by decide) d_M_product_27 ?_
        refine sr_callVI C [sm_I _] (P_M_byteAt l h) ok_113 sm_l61 rfl rfl rfl rfl ⟨by dsimp only; omega, by dsimp only; omega⟩ (Nat.le_of_ble_eq_true rfl) ⟨Nat.zero_le _, Nat.zero_le _⟩ d_M_product_30 (fun r18 μ17 h => ?_)
        refine sr_bipush C (v := 47) d_M_product_33 (by decide) ?_
        refine sr_icmp_eq C (tgt := 51) d_M_product_35 (by decide) (fun c19 => ?_) (fun c19 => ?_)
        · replace h := Eq.mp (if_pos c19) h
          exact B51 _ _ hJ5 _ h
        · replace h := Eq.mp (if_neg c19) h
          refine sr_aload_n C 0 rfl rfl d_M_product_38 ?_
          refine sr_aload_n C 0 rfl rfl d_M_product_39 ?_
          refine sr_getI C sm_F7 8 q_496 sm_l61 rfl (by decide) d_M_product_40 ?_
          refine sr_callVI C [sm_I _] (P_M_byteAt l h) ok_113 sm_l61 rfl rfl rfl rfl ⟨by dsimp only; omega, by dsimp only; omega⟩ (Nat.le_of_ble_eq_true rfl) ⟨Nat.zero_le _, Nat.zero_le _⟩ d_M_product_43 (fun r21 μ20 h => ?_)
          refine sr_bipush C (v := 37) d_M_product_46 (by decide) ?_
          refine sr_icmp_ne C (tgt := 114) d_M_product_48 (by decide) (fun c22 => ?_) (fun c22 => ?_)
          · replace h := Eq.mp (if_neg c22) h
            refine sr_iload_n C 1 rfl rfl d_M_product_114 ?_
            exact hR _ _ _ _ d_M_product_115 rfl h
          · replace h := Eq.mp (if_pos c22) h
            exact B51 _ _ hJ5 _ h
  refine sr_aload_n C 0 rfl rfl d_M_product_0 ?_
  refine sr_callVI C [] (hF5 h) ok_117 sm_l61 rfl rfl rfl rfl ⟨by dsimp only; omega, by dsimp only; omega⟩ (Nat.le_of_ble_eq_true rfl) ⟨Nat.zero_le _, Nat.zero_le _⟩ d_M_product_1 (fun r2 μ1 h => ?_)
  refine sr_istore_n C rfl (by decide) d_M_product_4 ?_
  refine sr_mask C [1, 0] rfl ?_
  exact B5 _ _ h
theorem d_M_fails_0 : decode prog_10_method_28_code 0 = .ok (.aload_n 0, 1) := by decide +kernel
theorem d_M_fails_1 : decode prog_10_method_28_code 1 = .ok (.iconst 0, 1) := by decide +kernel
theorem d_M_fails_2 : decode prog_10_method_28_code 2 = .ok (.putfield 95, 3) := by decide +kernel
theorem d_M_fails_5 : decode prog_10_method_28_code 5 = .ok (.iconst 0, 1) := by decide +kernel
theorem d_M_fails_6 : decode prog_10_method_28_code 6 = .ok (.ireturn, 1) := by decide +kernel
def w_M_fails (K : Int32 → sm_Mem → Prop) (μ : sm_Mem) : Prop := ∀ μ1 : sm_Mem, μ1 = sm_st μ 61 14 0 → K 0 μ1
set_option maxHeartbeats 4000000 in
set_option maxRecDepth 100000 in
theorem P_M_fails (l : Launch) {K : Int32 → sm_Mem → Prop} {μ : sm_Mem} (h : w_M_fails K μ) : sm_MI l ⟨"SnowMoneyModel", "fails", "()I"⟩ prog_10_method_28_code 1 (some .int) { frames := 0, cells := 0, slots := 0, locals := 0 } [sm_R 61] μ K := by
  refine sm_ofI (by decide +kernel) (fun _ => Nat.le_of_ble_eq_true rfl) ?_
  intro p e s m args below meth c A Q G C hR
  refine sr_aload_n C 0 rfl rfl d_M_fails_0 ?_
  refine sr_iconst C (v := 0) d_M_fails_1 (by decide) ?_
  refine sr_putZ C sm_F7 14 q_499 sm_l61 (by decide) rfl rfl (by decide) rfl d_M_fails_2 ?_
  replace h := h _ rfl
  refine sr_iconst C (v := 0) d_M_fails_5 (by decide) ?_
  exact hR _ _ _ _ d_M_fails_6 rfl h
theorem d_M_isDigit_0 : decode prog_10_method_27_code 0 = .ok (.iload_n 0, 1) := by decide +kernel
theorem d_M_isDigit_1 : decode prog_10_method_27_code 1 = .ok (.bipush 48, 2) := by decide +kernel
theorem d_M_isDigit_3 : decode prog_10_method_27_code 3 = .ok (.bipush 57, 2) := by decide +kernel
theorem d_M_isDigit_5 : decode prog_10_method_27_code 5 = .ok (.invokestatic 44, 3) := by decide +kernel
theorem d_M_isDigit_8 : decode prog_10_method_27_code 8 = .ok (.ireturn, 1) := by decide +kernel
def w_M_isDigit (K : Int32 → sm_Mem → Prop) (p0 : Int32) (μ : sm_Mem) : Prop := w_M_in (fun r2 μ1 => (r2 = 0 ∨ r2 = 1) ∧ K r2 μ1) p0 48 57 μ
set_option maxHeartbeats 4000000 in
set_option maxRecDepth 100000 in
theorem P_M_isDigit (l : Launch) {K : Int32 → sm_Mem → Prop} {p0 : Int32} {μ : sm_Mem} (h : w_M_isDigit K p0 μ) : sm_MI l ⟨"SnowMoneyModel", "isDigit", "(I)Z"⟩ prog_10_method_27_code 1 (some .boolean) { frames := 1, cells := 0, slots := 0, locals := 22 } [sm_I p0] μ K := by
  refine sm_ofI (by decide +kernel) (fun _ => Nat.le_of_ble_eq_true rfl) ?_
  intro p e s m args below meth c A Q G C hR
  refine sr_iload_n C 0 rfl rfl d_M_isDigit_0 ?_
  refine sr_bipush C (v := 48) d_M_isDigit_1 (by decide) ?_
  refine sr_bipush C (v := 57) d_M_isDigit_3 (by decide) ?_
  refine sr_callSI C [sm_I _, sm_I _, sm_I _] (P_M_in l h) ok_96 rfl rfl rfl ⟨Nat.le_of_ble_eq_true rfl, Nat.le_of_ble_eq_true rfl⟩ (Nat.le_of_ble_eq_true rfl) ⟨Nat.zero_le _, Nat.zero_le _⟩ d_M_isDigit_5 (fun r2 μ1 h => ?_)
  obtain ⟨g3, h⟩ := h
  exact hR _ _ _ _ d_M_isDigit_8 (sm_narZ g3) h
theorem d_M_named_0 : decode prog_10_method_30_code 0 = .ok (.iload_n 1, 1) := by decide +kernel
theorem d_M_named_1 : decode prog_10_method_30_code 1 = .ok (.aload_n 0, 1) := by decide +kernel
theorem d_M_named_2 : decode prog_10_method_30_code 2 = .ok (.getfield 92, 3) := by decide +kernel
theorem d_M_named_5 : decode prog_10_method_30_code 5 = .ok (.ifCond .ne 8, 3) := by decide +kernel
theorem d_M_named_8 : decode prog_10_method_30_code 8 = .ok (.bipush 119, 2) := by decide +kernel
theorem d_M_named_10 : decode prog_10_method_30_code 10 = .ok (.goto 5, 3) := by decide +kernel
theorem d_M_named_13 : decode prog_10_method_30_code 13 = .ok (.bipush 115, 2) := by decide +kernel
theorem d_M_named_15 : decode prog_10_method_30_code 15 = .ok (.if_icmp .ne 7, 3) := by decide +kernel
theorem d_M_named_18 : decode prog_10_method_30_code 18 = .ok (.iconst 1, 1) := by decide +kernel
theorem d_M_named_19 : decode prog_10_method_30_code 19 = .ok (.goto 4, 3) := by decide +kernel
theorem d_M_named_22 : decode prog_10_method_30_code 22 = .ok (.iconst 0, 1) := by decide +kernel
theorem d_M_named_23 : decode prog_10_method_30_code 23 = .ok (.istore_n 2, 1) := by decide +kernel
theorem d_M_named_24 : decode prog_10_method_30_code 24 = .ok (.iload_n 1, 1) := by decide +kernel
theorem d_M_named_25 : decode prog_10_method_30_code 25 = .ok (.aload_n 0, 1) := by decide +kernel
theorem d_M_named_26 : decode prog_10_method_30_code 26 = .ok (.getfield 92, 3) := by decide +kernel
theorem d_M_named_29 : decode prog_10_method_30_code 29 = .ok (.ifCond .ne 8, 3) := by decide +kernel
theorem d_M_named_32 : decode prog_10_method_30_code 32 = .ok (.bipush 121, 2) := by decide +kernel
theorem d_M_named_34 : decode prog_10_method_30_code 34 = .ok (.goto 5, 3) := by decide +kernel
theorem d_M_named_37 : decode prog_10_method_30_code 37 = .ok (.bipush 109, 2) := by decide +kernel
theorem d_M_named_39 : decode prog_10_method_30_code 39 = .ok (.if_icmp .ne 7, 3) := by decide +kernel
theorem d_M_named_42 : decode prog_10_method_30_code 42 = .ok (.iconst 1, 1) := by decide +kernel
theorem d_M_named_43 : decode prog_10_method_30_code 43 = .ok (.goto 4, 3) := by decide +kernel
theorem d_M_named_46 : decode prog_10_method_30_code 46 = .ok (.iconst 0, 1) := by decide +kernel
theorem d_M_named_47 : decode prog_10_method_30_code 47 = .ok (.istore_n 3, 1) := by decide +kernel
theorem d_M_named_48 : decode prog_10_method_30_code 48 = .ok (.iload_n 1, 1) := by decide +kernel
theorem d_M_named_49 : decode prog_10_method_30_code 49 = .ok (.aload_n 0, 1) := by decide +kernel
theorem d_M_named_50 : decode prog_10_method_30_code 50 = .ok (.getfield 92, 3) := by decide +kernel
theorem d_M_named_53 : decode prog_10_method_30_code 53 = .ok (.ifCond .ne 8, 3) := by decide +kernel
theorem d_M_named_56 : decode prog_10_method_30_code 56 = .ok (.bipush 104, 2) := by decide +kernel
theorem d_M_named_58 : decode prog_10_method_30_code 58 = .ok (.goto 5, 3) := by decide +kernel
theorem d_M_named_61 : decode prog_10_method_30_code 61 = .ok (.bipush 111, 2) := by decide +kernel
theorem d_M_named_63 : decode prog_10_method_30_code 63 = .ok (.if_icmp .ne 7, 3) := by decide +kernel
theorem d_M_named_66 : decode prog_10_method_30_code 66 = .ok (.iconst 1, 1) := by decide +kernel
theorem d_M_named_67 : decode prog_10_method_30_code 67 = .ok (.goto 4, 3) := by decide +kernel
theorem d_M_named_70 : decode prog_10_method_30_code 70 = .ok (.iconst 0, 1) := by decide +kernel
theorem d_M_named_71 : decode prog_10_method_30_code 71 = .ok (.istore 4, 2) := by decide +kernel
theorem d_M_named_73 : decode prog_10_method_30_code 73 = .ok (.iload_n 2, 1) := by decide +kernel
theorem d_M_named_74 : decode prog_10_method_30_code 74 = .ok (.ifCond .ne 17, 3) := by decide +kernel
theorem d_M_named_77 : decode prog_10_method_30_code 77 = .ok (.iload_n 3, 1) := by decide +kernel
theorem d_M_named_78 : decode prog_10_method_30_code 78 = .ok (.ifCond .ne 13, 3) := by decide +kernel
theorem d_M_named_81 : decode prog_10_method_30_code 81 = .ok (.iload 4, 2) := by decide +kernel
theorem d_M_named_83 : decode prog_10_method_30_code 83 = .ok (.ifCond .ne 8, 3) := by decide +kernel
theorem d_M_named_86 : decode prog_10_method_30_code 86 = .ok (.aload_n 0, 1) := by decide +kernel
theorem d_M_named_87 : decode prog_10_method_30_code 87 = .ok (.invokevirtual 108, 3) := by decide +kernel
theorem d_M_named_90 : decode prog_10_method_30_code 90 = .ok (.ireturn, 1) := by decide +kernel
theorem d_M_named_91 : decode prog_10_method_30_code 91 = .ok (.aload_n 0, 1) := by decide +kernel
theorem d_M_named_92 : decode prog_10_method_30_code 92 = .ok (.dup, 1) := by decide +kernel
theorem d_M_named_93 : decode prog_10_method_30_code 93 = .ok (.getfield 99, 3) := by decide +kernel
theorem d_M_named_96 : decode prog_10_method_30_code 96 = .ok (.iconst 1, 1) := by decide +kernel
theorem d_M_named_97 : decode prog_10_method_30_code 97 = .ok (.iadd, 1) := by decide +kernel
theorem d_M_named_98 : decode prog_10_method_30_code 98 = .ok (.putfield 99, 3) := by decide +kernel
theorem d_M_named_101 : decode prog_10_method_30_code 101 = .ok (.iload_n 2, 1) := by decide +kernel
theorem d_M_named_102 : decode prog_10_method_30_code 102 = .ok (.ifCond .eq 10, 3) := by decide +kernel
theorem d_M_named_105 : decode prog_10_method_30_code 105 = .ok (.aload_n 0, 1) := by decide +kernel
theorem d_M_named_106 : decode prog_10_method_30_code 106 = .ok (.getfield 112, 3) := by decide +kernel
theorem d_M_named_109 : decode prog_10_method_30_code 109 = .ok (.goto 18, 3) := by decide +kernel
theorem d_M_named_112 : decode prog_10_method_30_code 112 = .ok (.iload_n 3, 1) := by decide +kernel
theorem d_M_named_113 : decode prog_10_method_30_code 113 = .ok (.ifCond .eq 10, 3) := by decide +kernel
theorem d_M_named_116 : decode prog_10_method_30_code 116 = .ok (.aload_n 0, 1) := by decide +kernel
theorem d_M_named_117 : decode prog_10_method_30_code 117 = .ok (.getfield 115, 3) := by decide +kernel
theorem d_M_named_120 : decode prog_10_method_30_code 120 = .ok (.goto 7, 3) := by decide +kernel
theorem d_M_named_123 : decode prog_10_method_30_code 123 = .ok (.aload_n 0, 1) := by decide +kernel
theorem d_M_named_124 : decode prog_10_method_30_code 124 = .ok (.getfield 118, 3) := by decide +kernel
theorem d_M_named_127 : decode prog_10_method_30_code 127 = .ok (.ireturn, 1) := by decide +kernel
def w_M_named_91 (K : Int32 → sm_Mem → Prop) (p0 : Int32) (x2 : Int32) (x3 : Int32) (μ : sm_Mem) : Prop := ∀ μ8 : sm_Mem, μ8 = sm_st μ 61 8 ((μ 61 8) + 1) → if x2 = 0 then (if x3 = 0 then K (μ8 61 13) μ8 else K (μ8 61 12) μ8) else K (μ8 61 11) μ8
def w_M_named_71 (K : Int32 → sm_Mem → Prop) (p0 : Int32) (x2 : Int32) (x3 : Int32) (s0 : Int32) (μ : sm_Mem) : Prop := if x2 = 0 then (if x3 = 0 then (if s0 = 0 then w_M_fails (fun r14 μ13 => K r14 μ13) μ else w_M_named_91 K p0 x2 x3 μ) else w_M_named_91 K p0 x2 x3 μ) else w_M_named_91 K p0 x2 x3 μ
def w_M_named_63 (K : Int32 → sm_Mem → Prop) (p0 : Int32) (x2 : Int32) (x3 : Int32) (s0 : Int32) (s1 : Int32) (μ : sm_Mem) : Prop := if s1 = s0 then w_M_named_71 K p0 x2 x3 1 μ else w_M_named_71 K p0 x2 x3 0 μ
def w_M_named_47 (K : Int32 → sm_Mem → Prop) (p0 : Int32) (x2 : Int32) (s0 : Int32) (μ : sm_Mem) : Prop := if (μ 61 7) = 0 then w_M_named_63 K p0 x2 s0 104 p0 μ else w_M_named_63 K p0 x2 s0 111 p0 μ
def w_M_named_39 (K : Int32 → sm_Mem → Prop) (p0 : Int32) (x2 : Int32) (s0 : Int32) (s1 : Int32) (μ : sm_Mem) : Prop := if s1 = s0 then w_M_named_47 K p0 x2 1 μ else w_M_named_47 K p0 x2 0 μ
def w_M_named_23 (K : Int32 → sm_Mem → Prop) (p0 : Int32) (s0 : Int32) (μ : sm_Mem) : Prop := if (μ 61 7) = 0 then w_M_named_39 K p0 s0 121 p0 μ else w_M_named_39 K p0 s0 109 p0 μ
def w_M_named_15 (K : Int32 → sm_Mem → Prop) (p0 : Int32) (s0 : Int32) (s1 : Int32) (μ : sm_Mem) : Prop := if s1 = s0 then w_M_named_23 K p0 1 μ else w_M_named_23 K p0 0 μ
def w_M_named (K : Int32 → sm_Mem → Prop) (p0 : Int32) (μ : sm_Mem) : Prop := if (μ 61 7) = 0 then w_M_named_15 K p0 119 p0 μ else w_M_named_15 K p0 115 p0 μ
set_option maxHeartbeats 4000000 in
set_option maxRecDepth 100000 in
theorem P_M_named (l : Launch) {K : Int32 → sm_Mem → Prop} {p0 : Int32} {μ : sm_Mem} (h : w_M_named K p0 μ) : sm_MI l ⟨"SnowMoneyModel", "named", "(I)I"⟩ prog_10_method_30_code 5 (some .int) { frames := 1, cells := 0, slots := 0, locals := 20 } [sm_R 61, sm_I p0] μ K := by
  refine sm_ofI (by decide +kernel) (fun _ => Nat.le_of_ble_eq_true rfl) ?_
  intro p e s m args below meth c A Q G C hR
  have B91 : ∀ (x2 : Int32) (x3 : Int32) (μ : sm_Mem), w_M_named_91 K p0 x2 x3 μ → sm_W p l e { frames := 1, cells := 0, slots := 0, locals := 20 } s m args below meth c A Q G 5 0 0 91 [] [(0, sm_R 61), (2, sm_I x2), (3, sm_I x3)] μ := by
    intro x2 x3 μ h
    refine sr_aload_n C 0 rfl rfl d_M_named_91 ?_
    refine sr_dup C rfl d_M_named_92 ?_
    refine sr_getI C sm_F7 8 q_496 sm_l61 rfl (by decide) d_M_named_93 ?_
    refine sr_iconst C (v := 1) d_M_named_96 (by decide) ?_
    refine sr_iadd C d_M_named_97 ?_
    refine sr_putI C sm_F7 8 q_496 sm_l61 rfl rfl (by decide) rfl d_M_named_98 ?_
    replace h := h _ rfl
    refine sr_iload_n C 1 rfl rfl d_M_named_101 ?_
    refine sr_if_eq C (tgt := 112) d_M_named_102 (by decide) (fun c9 => ?_) (fun c9 => ?_)
    · replace h := Eq.mp (if_pos c9) h
      refine sr_iload_n C 2 rfl rfl d_M_named_112 ?_
      refine sr_if_eq C (tgt := 123) d_M_named_113 (by decide) (fun c10 => ?_) (fun c10 => ?_)
      · replace h := Eq.mp (if_pos c10) h
        refine sr_aload_n C 0 rfl rfl d_M_named_123 ?_
        refine sr_getI C sm_F7 13 q_502 sm_l61 rfl (by decide) d_M_named_124 ?_
        exact hR _ _ _ _ d_M_named_127 rfl h
      · replace h := Eq.mp (if_neg c10) h
        refine sr_aload_n C 0 rfl rfl d_M_named_116 ?_
        refine sr_getI C sm_F7 12 q_501 sm_l61 rfl (by decide) d_M_named_117 ?_
        refine sr_goto C (tgt := 127) (by decide) d_M_named_120 ?_
        exact hR _ _ _ _ d_M_named_127 rfl h
    · replace h := Eq.mp (if_neg c9) h
      refine sr_aload_n C 0 rfl rfl d_M_named_105 ?_
      refine sr_getI C sm_F7 11 q_500 sm_l61 rfl (by decide) d_M_named_106 ?_
      refine sr_goto C (tgt := 127) (by decide) d_M_named_109 ?_
      exact hR _ _ _ _ d_M_named_127 rfl h
  have B71 : ∀ (x2 : Int32) (x3 : Int32) (s0 : Int32) (μ : sm_Mem), w_M_named_71 K p0 x2 x3 s0 μ → sm_W p l e { frames := 1, cells := 0, slots := 0, locals := 20 } s m args below meth c A Q G 5 0 0 71 [sm_I s0] [(0, sm_R 61), (2, sm_I x2), (3, sm_I x3)] μ := by
    intro x2 x3 s0 μ h
    refine sr_istore C (by decide) d_M_named_71 ?_
    refine sr_iload_n C 2 rfl rfl d_M_named_73 ?_
    refine sr_if_ne C (tgt := 91) d_M_named_74 (by decide) (fun c7 => ?_) (fun c7 => ?_)
    · replace h := Eq.mp (if_neg c7) h
      refine sr_mask C [1, 2, 3] rfl ?_
      exact B91 _ _ _ h
    · replace h := Eq.mp (if_pos c7) h
      refine sr_iload_n C 3 rfl rfl d_M_named_77 ?_
      refine sr_if_ne C (tgt := 91) d_M_named_78 (by decide) (fun c11 => ?_) (fun c11 => ?_)
      · replace h := Eq.mp (if_neg c11) h
        refine sr_mask C [1, 2, 3] rfl ?_
        exact B91 _ _ _ h
      · replace h := Eq.mp (if_pos c11) h
        refine sr_iload C 0 rfl d_M_named_81 ?_
        refine sr_if_ne C (tgt := 91) d_M_named_83 (by decide) (fun c12 => ?_) (fun c12 => ?_)
        · replace h := Eq.mp (if_neg c12) h
          refine sr_mask C [1, 2, 3] rfl ?_
          exact B91 _ _ _ h
        · replace h := Eq.mp (if_pos c12) h
          refine sr_aload_n C 1 rfl rfl d_M_named_86 ?_
          refine sr_callVI C [] (P_M_fails l h) ok_119 sm_l61 rfl rfl rfl rfl ⟨Nat.le_of_ble_eq_true rfl, Nat.le_of_ble_eq_true rfl⟩ (Nat.le_of_ble_eq_true rfl) ⟨Nat.zero_le _, Nat.zero_le _⟩ d_M_named_87 (fun r14 μ13 h => ?_)
          exact hR _ _ _ _ d_M_named_90 rfl h
  have B63 : ∀ (x2 : Int32) (x3 : Int32) (s0 : Int32) (s1 : Int32) (μ : sm_Mem), w_M_named_63 K p0 x2 x3 s0 s1 μ → sm_W p l e { frames := 1, cells := 0, slots := 0, locals := 20 } s m args below meth c A Q G 5 0 0 63 [sm_I s0, sm_I s1] [(0, sm_R 61), (2, sm_I x2), (3, sm_I x3)] μ := by
    intro x2 x3 s0 s1 μ h
    refine sr_icmp_ne C (tgt := 70) d_M_named_63 (by decide) (fun c6 => ?_) (fun c6 => ?_)
    · replace h := Eq.mp (if_neg c6) h
      refine sr_iconst C (v := 0) d_M_named_70 (by decide) ?_
      exact B71 _ _ _ _ h
    · replace h := Eq.mp (if_pos c6) h
      refine sr_iconst C (v := 1) d_M_named_66 (by decide) ?_
      refine sr_goto C (tgt := 71) (by decide) d_M_named_67 ?_
      exact B71 _ _ _ _ h
  have B47 : ∀ (x2 : Int32) (s0 : Int32) (μ : sm_Mem), w_M_named_47 K p0 x2 s0 μ → sm_W p l e { frames := 1, cells := 0, slots := 0, locals := 20 } s m args below meth c A Q G 5 0 0 47 [sm_I s0] [(0, sm_R 61), (1, sm_I p0), (2, sm_I x2)] μ := by
    intro x2 s0 μ h
    refine sr_istore_n C rfl (by decide) d_M_named_47 ?_
    refine sr_iload_n C 2 rfl rfl d_M_named_48 ?_
    refine sr_aload_n C 1 rfl rfl d_M_named_49 ?_
    refine sr_getI C sm_F7 7 q_495 sm_l61 rfl (by decide) d_M_named_50 ?_
    refine sr_if_ne C (tgt := 61) d_M_named_53 (by decide) (fun c5 => ?_) (fun c5 => ?_)
    · replace h := Eq.mp (if_neg c5) h
      refine sr_bipush C (v := 111) d_M_named_61 (by decide) ?_
      refine sr_mask C [1, 3, 0] rfl ?_
      exact B63 _ _ _ _ _ h
    · replace h := Eq.mp (if_pos c5) h
      refine sr_bipush C (v := 104) d_M_named_56 (by decide) ?_
      refine sr_goto C (tgt := 63) (by decide) d_M_named_58 ?_
      refine sr_mask C [1, 3, 0] rfl ?_
      exact B63 _ _ _ _ _ h
  have B39 : ∀ (x2 : Int32) (s0 : Int32) (s1 : Int32) (μ : sm_Mem), w_M_named_39 K p0 x2 s0 s1 μ → sm_W p l e { frames := 1, cells := 0, slots := 0, locals := 20 } s m args below meth c A Q G 5 0 0 39 [sm_I s0, sm_I s1] [(0, sm_R 61), (1, sm_I p0), (2, sm_I x2)] μ := by
    intro x2 s0 s1 μ h
    refine sr_icmp_ne C (tgt := 46) d_M_named_39 (by decide) (fun c4 => ?_) (fun c4 => ?_)
    · replace h := Eq.mp (if_neg c4) h
      refine sr_iconst C (v := 0) d_M_named_46 (by decide) ?_
      exact B47 _ _ _ h
    · replace h := Eq.mp (if_pos c4) h
      refine sr_iconst C (v := 1) d_M_named_42 (by decide) ?_
      refine sr_goto C (tgt := 47) (by decide) d_M_named_43 ?_
      exact B47 _ _ _ h
  have B23 : ∀ (s0 : Int32) (μ : sm_Mem), w_M_named_23 K p0 s0 μ → sm_W p l e { frames := 1, cells := 0, slots := 0, locals := 20 } s m args below meth c A Q G 5 0 0 23 [sm_I s0] [(0, sm_R 61), (1, sm_I p0)] μ := by
    intro s0 μ h
    refine sr_istore_n C rfl (by decide) d_M_named_23 ?_
    refine sr_iload_n C 2 rfl rfl d_M_named_24 ?_
    refine sr_aload_n C 1 rfl rfl d_M_named_25 ?_
    refine sr_getI C sm_F7 7 q_495 sm_l61 rfl (by decide) d_M_named_26 ?_
    refine sr_if_ne C (tgt := 37) d_M_named_29 (by decide) (fun c3 => ?_) (fun c3 => ?_)
    · replace h := Eq.mp (if_neg c3) h
      refine sr_bipush C (v := 109) d_M_named_37 (by decide) ?_
      refine sr_mask C [1, 2, 0] rfl ?_
      exact B39 _ _ _ _ h
    · replace h := Eq.mp (if_pos c3) h
      refine sr_bipush C (v := 121) d_M_named_32 (by decide) ?_
      refine sr_goto C (tgt := 39) (by decide) d_M_named_34 ?_
      refine sr_mask C [1, 2, 0] rfl ?_
      exact B39 _ _ _ _ h
  have B15 : ∀ (s0 : Int32) (s1 : Int32) (μ : sm_Mem), w_M_named_15 K p0 s0 s1 μ → sm_W p l e { frames := 1, cells := 0, slots := 0, locals := 20 } s m args below meth c A Q G 5 0 0 15 [sm_I s0, sm_I s1] [(0, sm_R 61), (1, sm_I p0)] μ := by
    intro s0 s1 μ h
    refine sr_icmp_ne C (tgt := 22) d_M_named_15 (by decide) (fun c2 => ?_) (fun c2 => ?_)
    · replace h := Eq.mp (if_neg c2) h
      refine sr_iconst C (v := 0) d_M_named_22 (by decide) ?_
      exact B23 _ _ h
    · replace h := Eq.mp (if_pos c2) h
      refine sr_iconst C (v := 1) d_M_named_18 (by decide) ?_
      refine sr_goto C (tgt := 23) (by decide) d_M_named_19 ?_
      exact B23 _ _ h
  refine sr_iload_n C 1 rfl rfl d_M_named_0 ?_
  refine sr_aload_n C 0 rfl rfl d_M_named_1 ?_
  refine sr_getI C sm_F7 7 q_495 sm_l61 rfl (by decide) d_M_named_2 ?_
  refine sr_if_ne C (tgt := 13) d_M_named_5 (by decide) (fun c1 => ?_) (fun c1 => ?_)
  · replace h := Eq.mp (if_neg c1) h
    refine sr_bipush C (v := 115) d_M_named_13 (by decide) ?_
    exact B15 _ _ _ h
  · replace h := Eq.mp (if_pos c1) h
    refine sr_bipush C (v := 119) d_M_named_8 (by decide) ?_
    refine sr_goto C (tgt := 15) (by decide) d_M_named_10 ?_
    exact B15 _ _ _ h
theorem d_M_number_0 : decode prog_10_method_29_code 0 = .ok (.iconst 0, 1) := by decide +kernel
theorem d_M_number_1 : decode prog_10_method_29_code 1 = .ok (.istore_n 1, 1) := by decide +kernel
theorem d_M_number_2 : decode prog_10_method_29_code 2 = .ok (.iconst 0, 1) := by decide +kernel
theorem d_M_number_3 : decode prog_10_method_29_code 3 = .ok (.istore_n 2, 1) := by decide +kernel
theorem d_M_number_4 : decode prog_10_method_29_code 4 = .ok (.iload_n 2, 1) := by decide +kernel
theorem d_M_number_5 : decode prog_10_method_29_code 5 = .ok (.iconst 4, 1) := by decide +kernel
theorem d_M_number_6 : decode prog_10_method_29_code 6 = .ok (.if_icmp .ge 50, 3) := by decide +kernel
theorem d_M_number_9 : decode prog_10_method_29_code 9 = .ok (.aload_n 0, 1) := by decide +kernel
theorem d_M_number_10 : decode prog_10_method_29_code 10 = .ok (.aload_n 0, 1) := by decide +kernel
theorem d_M_number_11 : decode prog_10_method_29_code 11 = .ok (.getfield 99, 3) := by decide +kernel
theorem d_M_number_14 : decode prog_10_method_29_code 14 = .ok (.invokevirtual 102, 3) := by decide +kernel
theorem d_M_number_17 : decode prog_10_method_29_code 17 = .ok (.invokestatic 105, 3) := by decide +kernel
theorem d_M_number_20 : decode prog_10_method_29_code 20 = .ok (.ifCond .eq 36, 3) := by decide +kernel
theorem d_M_number_23 : decode prog_10_method_29_code 23 = .ok (.bipush 10, 2) := by decide +kernel
theorem d_M_number_25 : decode prog_10_method_29_code 25 = .ok (.iload_n 1, 1) := by decide +kernel
theorem d_M_number_26 : decode prog_10_method_29_code 26 = .ok (.imul, 1) := by decide +kernel
theorem d_M_number_27 : decode prog_10_method_29_code 27 = .ok (.aload_n 0, 1) := by decide +kernel
theorem d_M_number_28 : decode prog_10_method_29_code 28 = .ok (.aload_n 0, 1) := by decide +kernel
theorem d_M_number_29 : decode prog_10_method_29_code 29 = .ok (.getfield 99, 3) := by decide +kernel
theorem d_M_number_32 : decode prog_10_method_29_code 32 = .ok (.invokevirtual 102, 3) := by decide +kernel
theorem d_M_number_35 : decode prog_10_method_29_code 35 = .ok (.iadd, 1) := by decide +kernel
theorem d_M_number_36 : decode prog_10_method_29_code 36 = .ok (.bipush 48, 2) := by decide +kernel
theorem d_M_number_38 : decode prog_10_method_29_code 38 = .ok (.isub, 1) := by decide +kernel
theorem d_M_number_39 : decode prog_10_method_29_code 39 = .ok (.istore_n 1, 1) := by decide +kernel
theorem d_M_number_40 : decode prog_10_method_29_code 40 = .ok (.aload_n 0, 1) := by decide +kernel
theorem d_M_number_41 : decode prog_10_method_29_code 41 = .ok (.dup, 1) := by decide +kernel
theorem d_M_number_42 : decode prog_10_method_29_code 42 = .ok (.getfield 99, 3) := by decide +kernel
theorem d_M_number_45 : decode prog_10_method_29_code 45 = .ok (.iconst 1, 1) := by decide +kernel
theorem d_M_number_46 : decode prog_10_method_29_code 46 = .ok (.iadd, 1) := by decide +kernel
theorem d_M_number_47 : decode prog_10_method_29_code 47 = .ok (.putfield 99, 3) := by decide +kernel
theorem d_M_number_50 : decode prog_10_method_29_code 50 = .ok (.iinc 2 1, 3) := by decide +kernel
theorem d_M_number_53 : decode prog_10_method_29_code 53 = .ok (.goto (-49), 3) := by decide +kernel
theorem d_M_number_56 : decode prog_10_method_29_code 56 = .ok (.iload_n 1, 1) := by decide +kernel
theorem d_M_number_57 : decode prog_10_method_29_code 57 = .ok (.ireturn, 1) := by decide +kernel
def w_M_number_4 (K : Int32 → sm_Mem → Prop) (x1 : Int32) (x2 : Int32) (μ : sm_Mem) : Prop := sm_lp2 (fun J4 x1 x2 μ => if 4 ≤ x2 then K x1 μ else (w_M_byteAt (fun r3 μ2 => w_M_isDigit (fun r5 μ4 => if r5 = 0 then K x1 μ4 else (w_M_byteAt (fun r8 μ7 => ∀ v9 : Int32, v9 = (((10 * x1) + r8) - 48) → ∀ μ10 : sm_Mem, μ10 = sm_st μ7 61 8 ((μ7 61 8) + 1) → J4 v9 (x2 + 1) μ10) (μ4 61 8) μ4)) r3 μ2) (μ 61 8) μ)) x1 x2 μ
def w_M_number (K : Int32 → sm_Mem → Prop) (μ : sm_Mem) : Prop := w_M_number_4 K 0 0 μ
set_option maxHeartbeats 4000000 in
set_option maxRecDepth 100000 in
theorem P_M_number (l : Launch) {K : Int32 → sm_Mem → Prop} {μ : sm_Mem} (h : w_M_number K μ) : sm_MI l ⟨"SnowMoneyModel", "number", "()I"⟩ prog_10_method_29_code 3 (some .int) { frames := 2, cells := 0, slots := 0, locals := 42 } [sm_R 61] μ K := by
  refine sm_ofI (by decide +kernel) (fun _ => Nat.le_of_ble_eq_true rfl) ?_
  intro p e s m args below meth c A Q G C hR
  have B4 : ∀ (x1 : Int32) (x2 : Int32) (μ : sm_Mem), w_M_number_4 K x1 x2 μ → sm_W p l e { frames := 2, cells := 0, slots := 0, locals := 42 } s m args below meth c A Q G 3 0 0 4 [] [(0, sm_R 61), (1, sm_I x1), (2, sm_I x2)] μ := by
    intro x1 x2 μ h
    refine sm_lp2_sound (P := fun x1 x2 μ => sm_W p l e { frames := 2, cells := 0, slots := 0, locals := 42 } s m args below meth c A Q G 3 0 0 4 [] [(0, sm_R 61), (1, sm_I x1), (2, sm_I x2)] μ) (fun J4 x1 x2 μ hJ4 h => ?_) h
    refine sr_iload_n C 2 rfl rfl d_M_number_4 ?_
    refine sr_iconst C (v := 4) d_M_number_5 (by decide) ?_
    refine sr_icmp_ge C (tgt := 56) d_M_number_6 (by decide) (fun c1 => ?_) (fun c1 => ?_)
    · replace h := Eq.mp (if_pos c1) h
      refine sr_iload_n C 1 rfl rfl d_M_number_56 ?_
      exact hR _ _ _ _ d_M_number_57 rfl h
    · replace h := Eq.mp (if_neg c1) h
      refine sr_aload_n C 0 rfl rfl d_M_number_9 ?_
      refine sr_aload_n C 0 rfl rfl d_M_number_10 ?_
      refine sr_getI C sm_F7 8 q_496 sm_l61 rfl (by decide) d_M_number_11 ?_
      refine sr_callVI C [sm_I _] (P_M_byteAt l h) ok_113 sm_l61 rfl rfl rfl rfl ⟨Nat.le_of_ble_eq_true rfl, Nat.le_of_ble_eq_true rfl⟩ (Nat.le_of_ble_eq_true rfl) ⟨Nat.zero_le _, Nat.zero_le _⟩ d_M_number_14 (fun r3 μ2 h => ?_)
      refine sr_callSI C [sm_I _] (P_M_isDigit l h) ok_118 rfl rfl rfl ⟨Nat.le_of_ble_eq_true rfl, Nat.le_of_ble_eq_true rfl⟩ (Nat.le_of_ble_eq_true rfl) ⟨Nat.zero_le _, Nat.zero_le _⟩ d_M_number_17 (fun r5 μ4 h => ?_)
      refine sr_if_eq C (tgt := 56) d_M_number_20 (by decide) (fun c6 => ?_) (fun c6 => ?_)
      · replace h := Eq.mp (if_pos c6) h
        refine sr_iload_n C 1 rfl rfl d_M_number_56 ?_
        exact hR _ _ _ _ d_M_number_57 rfl h
      · replace h := Eq.mp (if_neg c6) h
        refine sr_bipush C (v := 10) d_M_number_23 (by decide) ?_
        refine sr_iload_n C 1 rfl rfl d_M_number_25 ?_
        refine sr_imul C d_M_number_26 ?_
        refine sr_aload_n C 0 rfl rfl d_M_number_27 ?_
        refine sr_aload_n C 0 rfl rfl d_M_number_28 ?_
        refine sr_getI C sm_F7 8 q_496 sm_l61 rfl (by decide) d_M_number_29 ?_
        refine sr_callVI C [sm_I _] (P_M_byteAt l h) ok_113 sm_l61 rfl rfl rfl rfl ⟨Nat.le_of_ble_eq_true rfl, Nat.le_of_ble_eq_true rfl⟩ (Nat.le_of_ble_eq_true rfl) ⟨Nat.zero_le _, Nat.zero_le _⟩ d_M_number_32 (fun r8 μ7 h => ?_)
        refine sr_iadd C d_M_number_35 ?_
        refine sr_bipush C (v := 48) d_M_number_36 (by decide) ?_
        refine sr_isub C d_M_number_38 ?_
        replace h := h _ rfl
        refine sr_istore_n C rfl (by decide) d_M_number_39 ?_
        refine sr_aload_n C 1 rfl rfl d_M_number_40 ?_
        refine sr_dup C rfl d_M_number_41 ?_
        refine sr_getI C sm_F7 8 q_496 sm_l61 rfl (by decide) d_M_number_42 ?_
        refine sr_iconst C (v := 1) d_M_number_45 (by decide) ?_
        refine sr_iadd C d_M_number_46 ?_
        refine sr_putI C sm_F7 8 q_496 sm_l61 rfl rfl (by decide) rfl d_M_number_47 ?_
        replace h := h _ rfl
        refine sr_iinc C 2 rfl (by decide) d_M_number_50 rfl ?_
        refine sr_goto C (tgt := 4) (by decide) d_M_number_53 ?_
        refine sr_mask C [2, 1, 0] rfl ?_
        exact hJ4 _ _ _ h
  refine sr_iconst C (v := 0) d_M_number_0 (by decide) ?_
  refine sr_istore_n C rfl (by decide) d_M_number_1 ?_
  refine sr_iconst C (v := 0) d_M_number_2 (by decide) ?_
  refine sr_istore_n C rfl (by decide) d_M_number_3 ?_
  refine sr_mask C [2, 1, 0] rfl ?_
  exact B4 _ _ _ h
theorem d_M_factor_0 : decode prog_10_method_31_code 0 = .ok (.aload_n 0, 1) := by decide +kernel
theorem d_M_factor_1 : decode prog_10_method_31_code 1 = .ok (.aload_n 0, 1) := by decide +kernel
theorem d_M_factor_2 : decode prog_10_method_31_code 2 = .ok (.getfield 99, 3) := by decide +kernel
theorem d_M_factor_5 : decode prog_10_method_31_code 5 = .ok (.invokevirtual 102, 3) := by decide +kernel
theorem d_M_factor_8 : decode prog_10_method_31_code 8 = .ok (.istore_n 1, 1) := by decide +kernel
theorem d_M_factor_9 : decode prog_10_method_31_code 9 = .ok (.iload_n 1, 1) := by decide +kernel
theorem d_M_factor_10 : decode prog_10_method_31_code 10 = .ok (.invokestatic 105, 3) := by decide +kernel
theorem d_M_factor_13 : decode prog_10_method_31_code 13 = .ok (.ifCond .eq 8, 3) := by decide +kernel
theorem d_M_factor_16 : decode prog_10_method_31_code 16 = .ok (.aload_n 0, 1) := by decide +kernel
theorem d_M_factor_17 : decode prog_10_method_31_code 17 = .ok (.invokevirtual 121, 3) := by decide +kernel
theorem d_M_factor_20 : decode prog_10_method_31_code 20 = .ok (.ireturn, 1) := by decide +kernel
theorem d_M_factor_21 : decode prog_10_method_31_code 21 = .ok (.iload_n 1, 1) := by decide +kernel
theorem d_M_factor_22 : decode prog_10_method_31_code 22 = .ok (.bipush 33, 2) := by decide +kernel
theorem d_M_factor_24 : decode prog_10_method_31_code 24 = .ok (.if_icmp .eq 15, 3) := by decide +kernel
theorem d_M_factor_27 : decode prog_10_method_31_code 27 = .ok (.iload_n 1, 1) := by decide +kernel
theorem d_M_factor_28 : decode prog_10_method_31_code 28 = .ok (.bipush 40, 2) := by decide +kernel
theorem d_M_factor_30 : decode prog_10_method_31_code 30 = .ok (.if_icmp .eq 9, 3) := by decide +kernel
theorem d_M_factor_33 : decode prog_10_method_31_code 33 = .ok (.aload_n 0, 1) := by decide +kernel
theorem d_M_factor_34 : decode prog_10_method_31_code 34 = .ok (.iload_n 1, 1) := by decide +kernel
theorem d_M_factor_35 : decode prog_10_method_31_code 35 = .ok (.invokevirtual 124, 3) := by decide +kernel
theorem d_M_factor_38 : decode prog_10_method_31_code 38 = .ok (.ireturn, 1) := by decide +kernel
theorem d_M_factor_39 : decode prog_10_method_31_code 39 = .ok (.aload_n 0, 1) := by decide +kernel
theorem d_M_factor_40 : decode prog_10_method_31_code 40 = .ok (.getfield 127, 3) := by decide +kernel
theorem d_M_factor_43 : decode prog_10_method_31_code 43 = .ok (.iconst 5, 1) := by decide +kernel
theorem d_M_factor_44 : decode prog_10_method_31_code 44 = .ok (.if_icmp .ne 8, 3) := by decide +kernel
theorem d_M_factor_47 : decode prog_10_method_31_code 47 = .ok (.aload_n 0, 1) := by decide +kernel
theorem d_M_factor_48 : decode prog_10_method_31_code 48 = .ok (.invokevirtual 108, 3) := by decide +kernel
theorem d_M_factor_51 : decode prog_10_method_31_code 51 = .ok (.ireturn, 1) := by decide +kernel
theorem d_M_factor_52 : decode prog_10_method_31_code 52 = .ok (.aload_n 0, 1) := by decide +kernel
theorem d_M_factor_53 : decode prog_10_method_31_code 53 = .ok (.dup, 1) := by decide +kernel
theorem d_M_factor_54 : decode prog_10_method_31_code 54 = .ok (.getfield 127, 3) := by decide +kernel
theorem d_M_factor_57 : decode prog_10_method_31_code 57 = .ok (.iconst 1, 1) := by decide +kernel
theorem d_M_factor_58 : decode prog_10_method_31_code 58 = .ok (.iadd, 1) := by decide +kernel
theorem d_M_factor_59 : decode prog_10_method_31_code 59 = .ok (.putfield 127, 3) := by decide +kernel
theorem d_M_factor_62 : decode prog_10_method_31_code 62 = .ok (.aload_n 0, 1) := by decide +kernel
theorem d_M_factor_63 : decode prog_10_method_31_code 63 = .ok (.dup, 1) := by decide +kernel
theorem d_M_factor_64 : decode prog_10_method_31_code 64 = .ok (.getfield 99, 3) := by decide +kernel
theorem d_M_factor_67 : decode prog_10_method_31_code 67 = .ok (.iconst 1, 1) := by decide +kernel
theorem d_M_factor_68 : decode prog_10_method_31_code 68 = .ok (.iadd, 1) := by decide +kernel
theorem d_M_factor_69 : decode prog_10_method_31_code 69 = .ok (.putfield 99, 3) := by decide +kernel
theorem d_M_factor_72 : decode prog_10_method_31_code 72 = .ok (.iload_n 1, 1) := by decide +kernel
theorem d_M_factor_73 : decode prog_10_method_31_code 73 = .ok (.bipush 33, 2) := by decide +kernel
theorem d_M_factor_75 : decode prog_10_method_31_code 75 = .ok (.if_icmp .ne 10, 3) := by decide +kernel
theorem d_M_factor_78 : decode prog_10_method_31_code 78 = .ok (.aload_n 0, 1) := by decide +kernel
theorem d_M_factor_79 : decode prog_10_method_31_code 79 = .ok (.invokevirtual 130, 3) := by decide +kernel
theorem d_M_factor_82 : decode prog_10_method_31_code 82 = .ok (.goto 7, 3) := by decide +kernel
theorem d_M_factor_85 : decode prog_10_method_31_code 85 = .ok (.aload_n 0, 1) := by decide +kernel
theorem d_M_factor_86 : decode prog_10_method_31_code 86 = .ok (.invokevirtual 133, 3) := by decide +kernel
theorem d_M_factor_89 : decode prog_10_method_31_code 89 = .ok (.istore_n 2, 1) := by decide +kernel
theorem d_M_factor_90 : decode prog_10_method_31_code 90 = .ok (.aload_n 0, 1) := by decide +kernel
theorem d_M_factor_91 : decode prog_10_method_31_code 91 = .ok (.dup, 1) := by decide +kernel
theorem d_M_factor_92 : decode prog_10_method_31_code 92 = .ok (.getfield 127, 3) := by decide +kernel
theorem d_M_factor_95 : decode prog_10_method_31_code 95 = .ok (.iconst 1, 1) := by decide +kernel
theorem d_M_factor_96 : decode prog_10_method_31_code 96 = .ok (.isub, 1) := by decide +kernel
theorem d_M_factor_97 : decode prog_10_method_31_code 97 = .ok (.putfield 127, 3) := by decide +kernel
theorem d_M_factor_100 : decode prog_10_method_31_code 100 = .ok (.iload_n 1, 1) := by decide +kernel
theorem d_M_factor_101 : decode prog_10_method_31_code 101 = .ok (.bipush 33, 2) := by decide +kernel
theorem d_M_factor_103 : decode prog_10_method_31_code 103 = .ok (.if_icmp .ne 13, 3) := by decide +kernel
theorem d_M_factor_106 : decode prog_10_method_31_code 106 = .ok (.iload_n 2, 1) := by decide +kernel
theorem d_M_factor_107 : decode prog_10_method_31_code 107 = .ok (.ifCond .ne 7, 3) := by decide +kernel
theorem d_M_factor_110 : decode prog_10_method_31_code 110 = .ok (.iconst 1, 1) := by decide +kernel
theorem d_M_factor_111 : decode prog_10_method_31_code 111 = .ok (.goto 4, 3) := by decide +kernel
theorem d_M_factor_114 : decode prog_10_method_31_code 114 = .ok (.iconst 0, 1) := by decide +kernel
theorem d_M_factor_115 : decode prog_10_method_31_code 115 = .ok (.ireturn, 1) := by decide +kernel
theorem d_M_factor_116 : decode prog_10_method_31_code 116 = .ok (.aload_n 0, 1) := by decide +kernel
theorem d_M_factor_117 : decode prog_10_method_31_code 117 = .ok (.getfield 95, 3) := by decide +kernel
theorem d_M_factor_120 : decode prog_10_method_31_code 120 = .ok (.ifCond .eq 28, 3) := by decide +kernel
theorem d_M_factor_123 : decode prog_10_method_31_code 123 = .ok (.aload_n 0, 1) := by decide +kernel
theorem d_M_factor_124 : decode prog_10_method_31_code 124 = .ok (.aload_n 0, 1) := by decide +kernel
theorem d_M_factor_125 : decode prog_10_method_31_code 125 = .ok (.getfield 99, 3) := by decide +kernel
theorem d_M_factor_128 : decode prog_10_method_31_code 128 = .ok (.invokevirtual 102, 3) := by decide +kernel
theorem d_M_factor_131 : decode prog_10_method_31_code 131 = .ok (.bipush 41, 2) := by decide +kernel
theorem d_M_factor_133 : decode prog_10_method_31_code 133 = .ok (.if_icmp .ne 15, 3) := by decide +kernel
theorem d_M_factor_136 : decode prog_10_method_31_code 136 = .ok (.aload_n 0, 1) := by decide +kernel
theorem d_M_factor_137 : decode prog_10_method_31_code 137 = .ok (.dup, 1) := by decide +kernel
theorem d_M_factor_138 : decode prog_10_method_31_code 138 = .ok (.getfield 99, 3) := by decide +kernel
theorem d_M_factor_141 : decode prog_10_method_31_code 141 = .ok (.iconst 1, 1) := by decide +kernel
theorem d_M_factor_142 : decode prog_10_method_31_code 142 = .ok (.iadd, 1) := by decide +kernel
theorem d_M_factor_143 : decode prog_10_method_31_code 143 = .ok (.putfield 99, 3) := by decide +kernel
theorem d_M_factor_146 : decode prog_10_method_31_code 146 = .ok (.iload_n 2, 1) := by decide +kernel
theorem d_M_factor_147 : decode prog_10_method_31_code 147 = .ok (.ireturn, 1) := by decide +kernel
theorem d_M_factor_148 : decode prog_10_method_31_code 148 = .ok (.aload_n 0, 1) := by decide +kernel
theorem d_M_factor_149 : decode prog_10_method_31_code 149 = .ok (.invokevirtual 108, 3) := by decide +kernel
theorem d_M_factor_152 : decode prog_10_method_31_code 152 = .ok (.ireturn, 1) := by decide +kernel
def w_M_factor_148 (F : Nat → (Int32 → sm_Mem → Prop) → sm_Mem → Prop) (K : Int32 → sm_Mem → Prop) (μ : sm_Mem) : Prop := w_M_fails (fun r17 μ16 => K r17 μ16) μ
def w_M_factor_89 (F : Nat → (Int32 → sm_Mem → Prop) → sm_Mem → Prop) (K : Int32 → sm_Mem → Prop) (x1 : Int32) (s0 : Int32) (μ : sm_Mem) : Prop := ∀ μ13 : sm_Mem, μ13 = sm_st μ 61 10 ((μ 61 10) - 1) → if x1 = 33 then (if s0 = 0 then K 1 μ13 else K 0 μ13) else (if (μ13 61 14) = 0 then w_M_factor_148 F K μ13 else (w_M_byteAt (fun r19 μ18 => if r19 = 41 then (∀ μ21 : sm_Mem, μ21 = sm_st μ18 61 8 ((μ18 61 8) + 1) → K s0 μ21) else w_M_factor_148 F K μ18) (μ13 61 8) μ13))
def w_M_factor_39 (F : Nat → (Int32 → sm_Mem → Prop) → sm_Mem → Prop) (K : Int32 → sm_Mem → Prop) (x1 : Int32) (μ : sm_Mem) : Prop := if (μ 61 10) = 5 then w_M_fails (fun r26 μ25 => K r26 μ25) μ else (∀ μ8 : sm_Mem, μ8 = sm_st μ 61 10 ((μ 61 10) + 1) → ∀ μ9 : sm_Mem, μ9 = sm_st μ8 61 8 ((μ8 61 8) + 1) → if x1 = 33 then F 5 (fun r24 μ23 => w_M_factor_89 F K x1 r24 μ23) μ9 else F 0 (fun r12 μ11 => w_M_factor_89 F K x1 r12 μ11) μ9)
def w_M_factor (F : Nat → (Int32 → sm_Mem → Prop) → sm_Mem → Prop) (K : Int32 → sm_Mem → Prop) (μ : sm_Mem) : Prop := w_M_byteAt (fun r2 μ1 => w_M_isDigit (fun r4 μ3 => if r4 = 0 then (if r2 = 33 then w_M_factor_39 F K r2 μ3 else (if r2 = 40 then w_M_factor_39 F K r2 μ3 else w_M_named (fun r29 μ28 => K r29 μ28) r2 μ3)) else w_M_number (fun r31 μ30 => K r31 μ30) μ3) r2 μ1) (μ 61 8) μ
set_option maxHeartbeats 4000000 in
set_option maxRecDepth 100000 in
theorem P_M_factor (l : Launch) {F : Nat → (Int32 → sm_Mem → Prop) → sm_Mem → Prop} {n : Nat} (hF0 : ∀ {K : Int32 → sm_Mem → Prop} {μ : sm_Mem}, F 0 K μ → sm_MI l ⟨"SnowMoneyModel", "whole", "()I"⟩ prog_10_method_36_code 3 (some .int) { frames := n + 4, cells := 0, slots := 0, locals := n * 40 + 120 } [sm_R 61] μ K) (hF5 : ∀ {K : Int32 → sm_Mem → Prop} {μ : sm_Mem}, F 5 K μ → sm_MI l ⟨"SnowMoneyModel", "factor", "()I"⟩ prog_10_method_31_code 3 (some .int) { frames := n + 4, cells := 0, slots := 0, locals := n * 40 + 120 } [sm_R 61] μ K) {K : Int32 → sm_Mem → Prop} {μ : sm_Mem} (h : w_M_factor F K μ) : sm_MI l ⟨"SnowMoneyModel", "factor", "()I"⟩ prog_10_method_31_code 3 (some .int) { frames := n + 1 + 4, cells := 0, slots := 0, locals := (n + 1) * 40 + 120 } [sm_R 61] μ K := by
  refine sm_ofI (by decide +kernel) (fun _ => Nat.le_of_ble_eq_true rfl) ?_
  intro p e s m args below meth c A Q G C hR
  have B148 : ∀ (μ : sm_Mem), w_M_factor_148 F K μ → sm_W p l e { frames := n + 1 + 4, cells := 0, slots := 0, locals := (n + 1) * 40 + 120 } s m args below meth c A Q G 3 0 0 148 [] [(0, sm_R 61)] μ := by
    intro μ h
    refine sr_aload_n C 0 rfl rfl d_M_factor_148 ?_
    refine sr_callVI C [] (P_M_fails l h) ok_119 sm_l61 rfl rfl rfl rfl ⟨by dsimp only; omega, by dsimp only; omega⟩ (Nat.le_of_ble_eq_true rfl) ⟨Nat.zero_le _, Nat.zero_le _⟩ d_M_factor_149 (fun r17 μ16 h => ?_)
    exact hR _ _ _ _ d_M_factor_152 rfl h
  have B89 : ∀ (x1 : Int32) (s0 : Int32) (μ : sm_Mem), w_M_factor_89 F K x1 s0 μ → sm_W p l e { frames := n + 1 + 4, cells := 0, slots := 0, locals := (n + 1) * 40 + 120 } s m args below meth c A Q G 3 0 0 89 [sm_I s0] [(0, sm_R 61), (1, sm_I x1)] μ := by
    intro x1 s0 μ h
    refine sr_istore_n C rfl (by decide) d_M_factor_89 ?_
    refine sr_aload_n C 1 rfl rfl d_M_factor_90 ?_
    refine sr_dup C rfl d_M_factor_91 ?_
    refine sr_getI C sm_F7 10 q_498 sm_l61 rfl (by decide) d_M_factor_92 ?_
    refine sr_iconst C (v := 1) d_M_factor_95 (by decide) ?_
    refine sr_isub C d_M_factor_96 ?_
    refine sr_putI C sm_F7 10 q_498 sm_l61 rfl rfl (by decide) rfl d_M_factor_97 ?_
    replace h := h _ rfl
    refine sr_iload_n C 2 rfl rfl d_M_factor_100 ?_
    refine sr_bipush C (v := 33) d_M_factor_101 (by decide) ?_
    refine sr_icmp_ne C (tgt := 116) d_M_factor_103 (by decide) (fun c14 => ?_) (fun c14 => ?_)
    · replace h := Eq.mp (if_neg c14) h
      refine sr_aload_n C 1 rfl rfl d_M_factor_116 ?_
      refine sr_getI C sm_F7 14 q_499 sm_l61 rfl (by decide) d_M_factor_117 ?_
      refine sr_if_eq C (tgt := 148) d_M_factor_120 (by decide) (fun c15 => ?_) (fun c15 => ?_)
      · replace h := Eq.mp (if_pos c15) h
        refine sr_mask C [1] rfl ?_
        exact B148 _ h
      · replace h := Eq.mp (if_neg c15) h
        refine sr_aload_n C 1 rfl rfl d_M_factor_123 ?_
        refine sr_aload_n C 1 rfl rfl d_M_factor_124 ?_
        refine sr_getI C sm_F7 8 q_496 sm_l61 rfl (by decide) d_M_factor_125 ?_
        refine sr_callVI C [sm_I _] (P_M_byteAt l h) ok_113 sm_l61 rfl rfl rfl rfl ⟨by dsimp only; omega, by dsimp only; omega⟩ (Nat.le_of_ble_eq_true rfl) ⟨Nat.zero_le _, Nat.zero_le _⟩ d_M_factor_128 (fun r19 μ18 h => ?_)
        refine sr_bipush C (v := 41) d_M_factor_131 (by decide) ?_
        refine sr_icmp_ne C (tgt := 148) d_M_factor_133 (by decide) (fun c20 => ?_) (fun c20 => ?_)
        · replace h := Eq.mp (if_neg c20) h
          refine sr_mask C [1] rfl ?_
          exact B148 _ h
        · replace h := Eq.mp (if_pos c20) h
          refine sr_aload_n C 1 rfl rfl d_M_factor_136 ?_
          refine sr_dup C rfl d_M_factor_137 ?_
          refine sr_getI C sm_F7 8 q_496 sm_l61 rfl (by decide) d_M_factor_138 ?_
          refine sr_iconst C (v := 1) d_M_factor_141 (by decide) ?_
          refine sr_iadd C d_M_factor_142 ?_
          refine sr_putI C sm_F7 8 q_496 sm_l61 rfl rfl (by decide) rfl d_M_factor_143 ?_
          replace h := h _ rfl
          refine sr_iload_n C 0 rfl rfl d_M_factor_146 ?_
          exact hR _ _ _ _ d_M_factor_147 rfl h
    · replace h := Eq.mp (if_pos c14) h
      refine sr_iload_n C 0 rfl rfl d_M_factor_106 ?_
      refine sr_if_ne C (tgt := 114) d_M_factor_107 (by decide) (fun c22 => ?_) (fun c22 => ?_)
      · replace h := Eq.mp (if_neg c22) h
        refine sr_iconst C (v := 0) d_M_factor_114 (by decide) ?_
        exact hR _ _ _ _ d_M_factor_115 rfl h
      · replace h := Eq.mp (if_pos c22) h
        refine sr_iconst C (v := 1) d_M_factor_110 (by decide) ?_
        refine sr_goto C (tgt := 115) (by decide) d_M_factor_111 ?_
        exact hR _ _ _ _ d_M_factor_115 rfl h
  have B39 : ∀ (x1 : Int32) (μ : sm_Mem), w_M_factor_39 F K x1 μ → sm_W p l e { frames := n + 1 + 4, cells := 0, slots := 0, locals := (n + 1) * 40 + 120 } s m args below meth c A Q G 3 0 0 39 [] [(0, sm_R 61), (1, sm_I x1)] μ := by
    intro x1 μ h
    refine sr_aload_n C 0 rfl rfl d_M_factor_39 ?_
    refine sr_getI C sm_F7 10 q_498 sm_l61 rfl (by decide) d_M_factor_40 ?_
    refine sr_iconst C (v := 5) d_M_factor_43 (by decide) ?_
    refine sr_icmp_ne C (tgt := 52) d_M_factor_44 (by decide) (fun c7 => ?_) (fun c7 => ?_)
    · replace h := Eq.mp (if_neg c7) h
      refine sr_aload_n C 0 rfl rfl d_M_factor_52 ?_
      refine sr_dup C rfl d_M_factor_53 ?_
      refine sr_getI C sm_F7 10 q_498 sm_l61 rfl (by decide) d_M_factor_54 ?_
      refine sr_iconst C (v := 1) d_M_factor_57 (by decide) ?_
      refine sr_iadd C d_M_factor_58 ?_
      refine sr_putI C sm_F7 10 q_498 sm_l61 rfl rfl (by decide) rfl d_M_factor_59 ?_
      replace h := h _ rfl
      refine sr_aload_n C 0 rfl rfl d_M_factor_62 ?_
      refine sr_dup C rfl d_M_factor_63 ?_
      refine sr_getI C sm_F7 8 q_496 sm_l61 rfl (by decide) d_M_factor_64 ?_
      refine sr_iconst C (v := 1) d_M_factor_67 (by decide) ?_
      refine sr_iadd C d_M_factor_68 ?_
      refine sr_putI C sm_F7 8 q_496 sm_l61 rfl rfl (by decide) rfl d_M_factor_69 ?_
      replace h := h _ rfl
      refine sr_iload_n C 1 rfl rfl d_M_factor_72 ?_
      refine sr_bipush C (v := 33) d_M_factor_73 (by decide) ?_
      refine sr_icmp_ne C (tgt := 85) d_M_factor_75 (by decide) (fun c10 => ?_) (fun c10 => ?_)
      · replace h := Eq.mp (if_neg c10) h
        refine sr_aload_n C 0 rfl rfl d_M_factor_85 ?_
        refine sr_callVI C [] (hF0 h) ok_111 sm_l61 rfl rfl rfl rfl ⟨by dsimp only; omega, by dsimp only; omega⟩ (Nat.le_of_ble_eq_true rfl) ⟨Nat.zero_le _, Nat.zero_le _⟩ d_M_factor_86 (fun r12 μ11 h => ?_)
        exact B89 _ _ _ h
      · replace h := Eq.mp (if_pos c10) h
        refine sr_aload_n C 0 rfl rfl d_M_factor_78 ?_
        refine sr_callVI C [] (hF5 h) ok_117 sm_l61 rfl rfl rfl rfl ⟨by dsimp only; omega, by dsimp only; omega⟩ (Nat.le_of_ble_eq_true rfl) ⟨Nat.zero_le _, Nat.zero_le _⟩ d_M_factor_79 (fun r24 μ23 h => ?_)
        refine sr_goto C (tgt := 89) (by decide) d_M_factor_82 ?_
        exact B89 _ _ _ h
    · replace h := Eq.mp (if_pos c7) h
      refine sr_aload_n C 0 rfl rfl d_M_factor_47 ?_
      refine sr_callVI C [] (P_M_fails l h) ok_119 sm_l61 rfl rfl rfl rfl ⟨by dsimp only; omega, by dsimp only; omega⟩ (Nat.le_of_ble_eq_true rfl) ⟨Nat.zero_le _, Nat.zero_le _⟩ d_M_factor_48 (fun r26 μ25 h => ?_)
      exact hR _ _ _ _ d_M_factor_51 rfl h
  refine sr_aload_n C 0 rfl rfl d_M_factor_0 ?_
  refine sr_aload_n C 0 rfl rfl d_M_factor_1 ?_
  refine sr_getI C sm_F7 8 q_496 sm_l61 rfl (by decide) d_M_factor_2 ?_
  refine sr_callVI C [sm_I _] (P_M_byteAt l h) ok_113 sm_l61 rfl rfl rfl rfl ⟨by dsimp only; omega, by dsimp only; omega⟩ (Nat.le_of_ble_eq_true rfl) ⟨Nat.zero_le _, Nat.zero_le _⟩ d_M_factor_5 (fun r2 μ1 h => ?_)
  refine sr_istore_n C rfl (by decide) d_M_factor_8 ?_
  refine sr_iload_n C 0 rfl rfl d_M_factor_9 ?_
  refine sr_callSI C [sm_I _] (P_M_isDigit l h) ok_118 rfl rfl rfl ⟨by dsimp only; omega, by dsimp only; omega⟩ (Nat.le_of_ble_eq_true rfl) ⟨Nat.zero_le _, Nat.zero_le _⟩ d_M_factor_10 (fun r4 μ3 h => ?_)
  refine sr_if_eq C (tgt := 21) d_M_factor_13 (by decide) (fun c5 => ?_) (fun c5 => ?_)
  · replace h := Eq.mp (if_pos c5) h
    refine sr_iload_n C 0 rfl rfl d_M_factor_21 ?_
    refine sr_bipush C (v := 33) d_M_factor_22 (by decide) ?_
    refine sr_icmp_eq C (tgt := 39) d_M_factor_24 (by decide) (fun c6 => ?_) (fun c6 => ?_)
    · replace h := Eq.mp (if_pos c6) h
      refine sr_mask C [1, 0] rfl ?_
      exact B39 _ _ h
    · replace h := Eq.mp (if_neg c6) h
      refine sr_iload_n C 0 rfl rfl d_M_factor_27 ?_
      refine sr_bipush C (v := 40) d_M_factor_28 (by decide) ?_
      refine sr_icmp_eq C (tgt := 39) d_M_factor_30 (by decide) (fun c27 => ?_) (fun c27 => ?_)
      · replace h := Eq.mp (if_pos c27) h
        refine sr_mask C [1, 0] rfl ?_
        exact B39 _ _ h
      · replace h := Eq.mp (if_neg c27) h
        refine sr_aload_n C 1 rfl rfl d_M_factor_33 ?_
        refine sr_iload_n C 0 rfl rfl d_M_factor_34 ?_
        refine sr_callVI C [sm_I _] (P_M_named l h) ok_120 sm_l61 rfl rfl rfl rfl ⟨by dsimp only; omega, by dsimp only; omega⟩ (Nat.le_of_ble_eq_true rfl) ⟨Nat.zero_le _, Nat.zero_le _⟩ d_M_factor_35 (fun r29 μ28 h => ?_)
        exact hR _ _ _ _ d_M_factor_38 rfl h
  · replace h := Eq.mp (if_neg c5) h
    refine sr_aload_n C 1 rfl rfl d_M_factor_16 ?_
    refine sr_callVI C [] (P_M_number l h) ok_121 sm_l61 rfl rfl rfl rfl ⟨by dsimp only; omega, by dsimp only; omega⟩ (Nat.le_of_ble_eq_true rfl) ⟨Nat.zero_le _, Nat.zero_le _⟩ d_M_factor_17 (fun r31 μ30 h => ?_)
    exact hR _ _ _ _ d_M_factor_20 rfl h
def wg_M : Nat → Nat → (Int32 → sm_Mem → Prop) → sm_Mem → Prop
  | 0, _ => fun _ _ => False
  | n + 1, 0 => w_M_whole (wg_M n)
  | n + 1, 1 => w_M_both (wg_M n)
  | n + 1, 2 => w_M_compared (wg_M n)
  | n + 1, 3 => w_M_sum (wg_M n)
  | n + 1, 4 => w_M_product (wg_M n)
  | n + 1, 5 => w_M_factor (wg_M n)
  | _ + 1, _ => fun _ _ => False
theorem PG_M (l : Launch) : ∀ n : Nat, (∀ {K : Int32 → sm_Mem → Prop} {μ : sm_Mem}, wg_M n 0 K μ → sm_MI l ⟨"SnowMoneyModel", "whole", "()I"⟩ prog_10_method_36_code 3 (some .int) { frames := n + 4, cells := 0, slots := 0, locals := n * 40 + 120 } [sm_R 61] μ K) ∧ (∀ {K : Int32 → sm_Mem → Prop} {μ : sm_Mem}, wg_M n 1 K μ → sm_MI l ⟨"SnowMoneyModel", "both", "()I"⟩ prog_10_method_35_code 3 (some .int) { frames := n + 4, cells := 0, slots := 0, locals := n * 40 + 120 } [sm_R 61] μ K) ∧ (∀ {K : Int32 → sm_Mem → Prop} {μ : sm_Mem}, wg_M n 2 K μ → sm_MI l ⟨"SnowMoneyModel", "compared", "()I"⟩ prog_10_method_34_code 5 (some .int) { frames := n + 4, cells := 0, slots := 0, locals := n * 40 + 120 } [sm_R 61] μ K) ∧ (∀ {K : Int32 → sm_Mem → Prop} {μ : sm_Mem}, wg_M n 3 K μ → sm_MI l ⟨"SnowMoneyModel", "sum", "()I"⟩ prog_10_method_33_code 4 (some .int) { frames := n + 4, cells := 0, slots := 0, locals := n * 40 + 120 } [sm_R 61] μ K) ∧ (∀ {K : Int32 → sm_Mem → Prop} {μ : sm_Mem}, wg_M n 4 K μ → sm_MI l ⟨"SnowMoneyModel", "product", "()I"⟩ prog_10_method_32_code 4 (some .int) { frames := n + 4, cells := 0, slots := 0, locals := n * 40 + 120 } [sm_R 61] μ K) ∧ (∀ {K : Int32 → sm_Mem → Prop} {μ : sm_Mem}, wg_M n 5 K μ → sm_MI l ⟨"SnowMoneyModel", "factor", "()I"⟩ prog_10_method_31_code 3 (some .int) { frames := n + 4, cells := 0, slots := 0, locals := n * 40 + 120 } [sm_R 61] μ K)
  | 0 => ⟨fun h => h.elim, fun h => h.elim, fun h => h.elim, fun h => h.elim, fun h => h.elim, fun h => h.elim⟩
  | n + 1 => ⟨fun h => P_M_whole l (F := wg_M n) (n := n) (PG_M l n).2.1 h, fun h => P_M_both l (F := wg_M n) (n := n) (PG_M l n).2.2.1 h, fun h => P_M_compared l (F := wg_M n) (n := n) (PG_M l n).2.2.2.1 h, fun h => P_M_sum l (F := wg_M n) (n := n) (PG_M l n).2.2.2.2.1 h, fun h => P_M_product l (F := wg_M n) (n := n) (PG_M l n).2.2.2.2.2 h, fun h => P_M_factor l (F := wg_M n) (n := n) (PG_M l n).1 (PG_M l n).2.2.2.2.2 h⟩
theorem PG_M_0 (l : Launch) (n : Nat) {K : Int32 → sm_Mem → Prop} {μ : sm_Mem} (h : wg_M n 0 K μ) : sm_MI l ⟨"SnowMoneyModel", "whole", "()I"⟩ prog_10_method_36_code 3 (some .int) { frames := n + 4, cells := 0, slots := 0, locals := n * 40 + 120 } [sm_R 61] μ K := (PG_M l n).1 h
theorem PG_M_1 (l : Launch) (n : Nat) {K : Int32 → sm_Mem → Prop} {μ : sm_Mem} (h : wg_M n 1 K μ) : sm_MI l ⟨"SnowMoneyModel", "both", "()I"⟩ prog_10_method_35_code 3 (some .int) { frames := n + 4, cells := 0, slots := 0, locals := n * 40 + 120 } [sm_R 61] μ K := (PG_M l n).2.1 h
theorem PG_M_2 (l : Launch) (n : Nat) {K : Int32 → sm_Mem → Prop} {μ : sm_Mem} (h : wg_M n 2 K μ) : sm_MI l ⟨"SnowMoneyModel", "compared", "()I"⟩ prog_10_method_34_code 5 (some .int) { frames := n + 4, cells := 0, slots := 0, locals := n * 40 + 120 } [sm_R 61] μ K := (PG_M l n).2.2.1 h
theorem PG_M_3 (l : Launch) (n : Nat) {K : Int32 → sm_Mem → Prop} {μ : sm_Mem} (h : wg_M n 3 K μ) : sm_MI l ⟨"SnowMoneyModel", "sum", "()I"⟩ prog_10_method_33_code 4 (some .int) { frames := n + 4, cells := 0, slots := 0, locals := n * 40 + 120 } [sm_R 61] μ K := (PG_M l n).2.2.2.1 h
theorem PG_M_4 (l : Launch) (n : Nat) {K : Int32 → sm_Mem → Prop} {μ : sm_Mem} (h : wg_M n 4 K μ) : sm_MI l ⟨"SnowMoneyModel", "product", "()I"⟩ prog_10_method_32_code 4 (some .int) { frames := n + 4, cells := 0, slots := 0, locals := n * 40 + 120 } [sm_R 61] μ K := (PG_M l n).2.2.2.2.1 h
theorem PG_M_5 (l : Launch) (n : Nat) {K : Int32 → sm_Mem → Prop} {μ : sm_Mem} (h : wg_M n 5 K μ) : sm_MI l ⟨"SnowMoneyModel", "factor", "()I"⟩ prog_10_method_31_code 3 (some .int) { frames := n + 4, cells := 0, slots := 0, locals := n * 40 + 120 } [sm_R 61] μ K := (PG_M l n).2.2.2.2.2 h
theorem d_M_walks_0 : decode prog_10_method_37_code 0 = .ok (.aload_n 0, 1) := by decide +kernel
theorem d_M_walks_1 : decode prog_10_method_37_code 1 = .ok (.iload_n 1, 1) := by decide +kernel
theorem d_M_walks_2 : decode prog_10_method_37_code 2 = .ok (.putfield 92, 3) := by decide +kernel
theorem d_M_walks_5 : decode prog_10_method_37_code 5 = .ok (.aload_n 0, 1) := by decide +kernel
theorem d_M_walks_6 : decode prog_10_method_37_code 6 = .ok (.iconst 0, 1) := by decide +kernel
theorem d_M_walks_7 : decode prog_10_method_37_code 7 = .ok (.putfield 99, 3) := by decide +kernel
theorem d_M_walks_10 : decode prog_10_method_37_code 10 = .ok (.aload_n 0, 1) := by decide +kernel
theorem d_M_walks_11 : decode prog_10_method_37_code 11 = .ok (.aload_n 0, 1) := by decide +kernel
theorem d_M_walks_12 : decode prog_10_method_37_code 12 = .ok (.getfield 7, 3) := by decide +kernel
theorem d_M_walks_15 : decode prog_10_method_37_code 15 = .ok (.iconst 5, 1) := by decide +kernel
theorem d_M_walks_16 : decode prog_10_method_37_code 16 = .ok (.iload_n 1, 1) := by decide +kernel
theorem d_M_walks_17 : decode prog_10_method_37_code 17 = .ok (.iadd, 1) := by decide +kernel
theorem d_M_walks_18 : decode prog_10_method_37_code 18 = .ok (.iaload, 1) := by decide +kernel
theorem d_M_walks_19 : decode prog_10_method_37_code 19 = .ok (.putfield 88, 3) := by decide +kernel
theorem d_M_walks_22 : decode prog_10_method_37_code 22 = .ok (.aload_n 0, 1) := by decide +kernel
theorem d_M_walks_23 : decode prog_10_method_37_code 23 = .ok (.iconst 0, 1) := by decide +kernel
theorem d_M_walks_24 : decode prog_10_method_37_code 24 = .ok (.putfield 127, 3) := by decide +kernel
theorem d_M_walks_27 : decode prog_10_method_37_code 27 = .ok (.aload_n 0, 1) := by decide +kernel
theorem d_M_walks_28 : decode prog_10_method_37_code 28 = .ok (.iconst 1, 1) := by decide +kernel
theorem d_M_walks_29 : decode prog_10_method_37_code 29 = .ok (.putfield 95, 3) := by decide +kernel
theorem d_M_walks_32 : decode prog_10_method_37_code 32 = .ok (.aload_n 0, 1) := by decide +kernel
theorem d_M_walks_33 : decode prog_10_method_37_code 33 = .ok (.iload_n 2, 1) := by decide +kernel
theorem d_M_walks_34 : decode prog_10_method_37_code 34 = .ok (.putfield 112, 3) := by decide +kernel
theorem d_M_walks_37 : decode prog_10_method_37_code 37 = .ok (.aload_n 0, 1) := by decide +kernel
theorem d_M_walks_38 : decode prog_10_method_37_code 38 = .ok (.iload_n 3, 1) := by decide +kernel
theorem d_M_walks_39 : decode prog_10_method_37_code 39 = .ok (.putfield 115, 3) := by decide +kernel
theorem d_M_walks_42 : decode prog_10_method_37_code 42 = .ok (.aload_n 0, 1) := by decide +kernel
theorem d_M_walks_43 : decode prog_10_method_37_code 43 = .ok (.iload 4, 2) := by decide +kernel
theorem d_M_walks_45 : decode prog_10_method_37_code 45 = .ok (.putfield 118, 3) := by decide +kernel
theorem d_M_walks_48 : decode prog_10_method_37_code 48 = .ok (.aload_n 0, 1) := by decide +kernel
theorem d_M_walks_49 : decode prog_10_method_37_code 49 = .ok (.invokevirtual 133, 3) := by decide +kernel
theorem d_M_walks_52 : decode prog_10_method_37_code 52 = .ok (.istore 5, 2) := by decide +kernel
theorem d_M_walks_54 : decode prog_10_method_37_code 54 = .ok (.aload_n 0, 1) := by decide +kernel
theorem d_M_walks_55 : decode prog_10_method_37_code 55 = .ok (.aload_n 0, 1) := by decide +kernel
theorem d_M_walks_56 : decode prog_10_method_37_code 56 = .ok (.getfield 95, 3) := by decide +kernel
theorem d_M_walks_59 : decode prog_10_method_37_code 59 = .ok (.ifCond .eq 18, 3) := by decide +kernel
theorem d_M_walks_62 : decode prog_10_method_37_code 62 = .ok (.aload_n 0, 1) := by decide +kernel
theorem d_M_walks_63 : decode prog_10_method_37_code 63 = .ok (.getfield 99, 3) := by decide +kernel
theorem d_M_walks_66 : decode prog_10_method_37_code 66 = .ok (.aload_n 0, 1) := by decide +kernel
theorem d_M_walks_67 : decode prog_10_method_37_code 67 = .ok (.getfield 88, 3) := by decide +kernel
theorem d_M_walks_70 : decode prog_10_method_37_code 70 = .ok (.if_icmp .ne 7, 3) := by decide +kernel
theorem d_M_walks_73 : decode prog_10_method_37_code 73 = .ok (.iconst 1, 1) := by decide +kernel
theorem d_M_walks_74 : decode prog_10_method_37_code 74 = .ok (.goto 4, 3) := by decide +kernel
theorem d_M_walks_77 : decode prog_10_method_37_code 77 = .ok (.iconst 0, 1) := by decide +kernel
theorem d_M_walks_78 : decode prog_10_method_37_code 78 = .ok (.putfield 95, 3) := by decide +kernel
theorem d_M_walks_81 : decode prog_10_method_37_code 81 = .ok (.iload 5, 2) := by decide +kernel
theorem d_M_walks_83 : decode prog_10_method_37_code 83 = .ok (.ireturn, 1) := by decide +kernel
def w_M_walks (K : Int32 → sm_Mem → Prop) (p0 : Int32) (p1 : Int32) (p2 : Int32) (p3 : Int32) (μ : sm_Mem) : Prop := ∀ μ1 : sm_Mem, μ1 = sm_st μ 61 7 p0 → ∀ μ2 : sm_Mem, μ2 = sm_st μ1 61 8 0 → vp_in (5 + p0) 271 ∧ ∀ μ4 : sm_Mem, μ4 = sm_st μ2 61 9 (μ2 62 (5 + p0).toNatClampNeg) → ∀ μ5 : sm_Mem, μ5 = sm_st μ4 61 10 0 → ∀ μ6 : sm_Mem, μ6 = sm_st μ5 61 14 1 → ∀ μ7 : sm_Mem, μ7 = sm_st μ6 61 11 p1 → ∀ μ8 : sm_Mem, μ8 = sm_st μ7 61 12 p2 → ∀ μ9 : sm_Mem, μ9 = sm_st μ8 61 13 p3 → wg_M 50 0 (fun r11 μ10 => if (μ10 61 14) = 0 then (∀ μ13 : sm_Mem, μ13 = sm_st μ10 61 14 0 → K r11 μ13) else (if (μ10 61 8) = (μ10 61 9) then (∀ μ16 : sm_Mem, μ16 = sm_st μ10 61 14 1 → K r11 μ16) else (∀ μ15 : sm_Mem, μ15 = sm_st μ10 61 14 0 → K r11 μ15))) μ9
set_option maxHeartbeats 4000000 in
set_option maxRecDepth 100000 in
theorem P_M_walks (l : Launch) {K : Int32 → sm_Mem → Prop} {p0 : Int32} {p1 : Int32} {p2 : Int32} {p3 : Int32} {μ : sm_Mem} (h : w_M_walks K p0 p1 p2 p3 μ) : sm_MI l ⟨"SnowMoneyModel", "walks", "(IIII)I"⟩ prog_10_method_37_code 6 (some .int) { frames := 55, cells := 0, slots := 0, locals := 2142 } [sm_R 61, sm_I p0, sm_I p1, sm_I p2, sm_I p3] μ K := by
  refine sm_ofI (by decide +kernel) (fun _ => Nat.le_of_ble_eq_true rfl) ?_
  intro p e s m args below meth c A Q G C hR
  refine sr_aload_n C 0 rfl rfl d_M_walks_0 ?_
  refine sr_iload_n C 1 rfl rfl d_M_walks_1 ?_
  refine sr_putI C sm_F7 7 q_495 sm_l61 rfl rfl (by decide) rfl d_M_walks_2 ?_
  replace h := h _ rfl
  refine sr_aload_n C 0 rfl rfl d_M_walks_5 ?_
  refine sr_iconst C (v := 0) d_M_walks_6 (by decide) ?_
  refine sr_putI C sm_F7 8 q_496 sm_l61 rfl rfl (by decide) rfl d_M_walks_7 ?_
  replace h := h _ rfl
  refine sr_aload_n C 0 rfl rfl d_M_walks_10 ?_
  refine sr_aload_n C 0 rfl rfl d_M_walks_11 ?_
  refine sr_getR C sm_F7 0 q_435 sm_l61 (r := 62) rfl (by decide) d_M_walks_12 ?_
  refine sr_iconst C (v := 5) d_M_walks_15 (by decide) ?_
  refine sr_iload_n C 1 rfl rfl d_M_walks_16 ?_
  refine sr_iadd C d_M_walks_17 ?_
  obtain ⟨g3, h⟩ := h
  refine sr_iald C sm_l62 g3 d_M_walks_18 ?_
  refine sr_putI C sm_F7 9 q_497 sm_l61 rfl rfl (by decide) rfl d_M_walks_19 ?_
  replace h := h _ rfl
  refine sr_aload_n C 0 rfl rfl d_M_walks_22 ?_
  refine sr_iconst C (v := 0) d_M_walks_23 (by decide) ?_
  refine sr_putI C sm_F7 10 q_498 sm_l61 rfl rfl (by decide) rfl d_M_walks_24 ?_
  replace h := h _ rfl
  refine sr_aload_n C 0 rfl rfl d_M_walks_27 ?_
  refine sr_iconst C (v := 1) d_M_walks_28 (by decide) ?_
  refine sr_putZ C sm_F7 14 q_499 sm_l61 (by decide) rfl rfl (by decide) rfl d_M_walks_29 ?_
  replace h := h _ rfl
  refine sr_aload_n C 0 rfl rfl d_M_walks_32 ?_
  refine sr_iload_n C 2 rfl rfl d_M_walks_33 ?_
  refine sr_putI C sm_F7 11 q_500 sm_l61 rfl rfl (by decide) rfl d_M_walks_34 ?_
  replace h := h _ rfl
  refine sr_aload_n C 0 rfl rfl d_M_walks_37 ?_
  refine sr_iload_n C 3 rfl rfl d_M_walks_38 ?_
  refine sr_putI C sm_F7 12 q_501 sm_l61 rfl rfl (by decide) rfl d_M_walks_39 ?_
  replace h := h _ rfl
  refine sr_aload_n C 0 rfl rfl d_M_walks_42 ?_
  refine sr_iload C 4 rfl d_M_walks_43 ?_
  refine sr_putI C sm_F7 13 q_502 sm_l61 rfl rfl (by decide) rfl d_M_walks_45 ?_
  replace h := h _ rfl
  refine sr_aload_n C 0 rfl rfl d_M_walks_48 ?_
  refine sr_callVI C [] (PG_M_0 l 50 h) ok_111 sm_l61 rfl rfl rfl rfl ⟨Nat.le_of_ble_eq_true rfl, Nat.le_of_ble_eq_true rfl⟩ (Nat.le_of_ble_eq_true rfl) ⟨Nat.zero_le _, Nat.zero_le _⟩ d_M_walks_49 (fun r11 μ10 h => ?_)
  refine sr_istore C (by decide) d_M_walks_52 ?_
  refine sr_aload_n C 1 rfl rfl d_M_walks_54 ?_
  refine sr_aload_n C 1 rfl rfl d_M_walks_55 ?_
  refine sr_getI C sm_F7 14 q_499 sm_l61 rfl (by decide) d_M_walks_56 ?_
  refine sr_if_eq C (tgt := 77) d_M_walks_59 (by decide) (fun c12 => ?_) (fun c12 => ?_)
  · replace h := Eq.mp (if_pos c12) h
    refine sr_iconst C (v := 0) d_M_walks_77 (by decide) ?_
    refine sr_putZ C sm_F7 14 q_499 sm_l61 (by decide) rfl rfl (by decide) rfl d_M_walks_78 ?_
    replace h := h _ rfl
    refine sr_iload C 0 rfl d_M_walks_81 ?_
    exact hR _ _ _ _ d_M_walks_83 rfl h
  · replace h := Eq.mp (if_neg c12) h
    refine sr_aload_n C 1 rfl rfl d_M_walks_62 ?_
    refine sr_getI C sm_F7 8 q_496 sm_l61 rfl (by decide) d_M_walks_63 ?_
    refine sr_aload_n C 1 rfl rfl d_M_walks_66 ?_
    refine sr_getI C sm_F7 9 q_497 sm_l61 rfl (by decide) d_M_walks_67 ?_
    refine sr_icmp_ne C (tgt := 77) d_M_walks_70 (by decide) (fun c14 => ?_) (fun c14 => ?_)
    · replace h := Eq.mp (if_neg c14) h
      refine sr_iconst C (v := 0) d_M_walks_77 (by decide) ?_
      refine sr_putZ C sm_F7 14 q_499 sm_l61 (by decide) rfl rfl (by decide) rfl d_M_walks_78 ?_
      replace h := h _ rfl
      refine sr_iload C 0 rfl d_M_walks_81 ?_
      exact hR _ _ _ _ d_M_walks_83 rfl h
    · replace h := Eq.mp (if_pos c14) h
      refine sr_iconst C (v := 1) d_M_walks_73 (by decide) ?_
      refine sr_goto C (tgt := 78) (by decide) d_M_walks_74 ?_
      refine sr_putZ C sm_F7 14 q_499 sm_l61 (by decide) rfl rfl (by decide) rfl d_M_walks_78 ?_
      replace h := h _ rfl
      refine sr_iload C 0 rfl d_M_walks_81 ?_
      exact hR _ _ _ _ d_M_walks_83 rfl h
theorem d_M_lawOf_0 : decode prog_10_method_38_code 0 = .ok (.iload_n 1, 1) := by decide +kernel
theorem d_M_lawOf_1 : decode prog_10_method_38_code 1 = .ok (.ifCond .ne 8, 3) := by decide +kernel
theorem d_M_lawOf_4 : decode prog_10_method_38_code 4 = .ok (.bipush 99, 2) := by decide +kernel
theorem d_M_lawOf_6 : decode prog_10_method_38_code 6 = .ok (.goto 4, 3) := by decide +kernel
theorem d_M_lawOf_9 : decode prog_10_method_38_code 9 = .ok (.iconst 1, 1) := by decide +kernel
theorem d_M_lawOf_10 : decode prog_10_method_38_code 10 = .ok (.istore 5, 2) := by decide +kernel
theorem d_M_lawOf_12 : decode prog_10_method_38_code 12 = .ok (.aload_n 0, 1) := by decide +kernel
theorem d_M_lawOf_13 : decode prog_10_method_38_code 13 = .ok (.getfield 7, 3) := by decide +kernel
theorem d_M_lawOf_16 : decode prog_10_method_38_code 16 = .ok (.iconst 5, 1) := by decide +kernel
theorem d_M_lawOf_17 : decode prog_10_method_38_code 17 = .ok (.iload_n 1, 1) := by decide +kernel
theorem d_M_lawOf_18 : decode prog_10_method_38_code 18 = .ok (.iadd, 1) := by decide +kernel
theorem d_M_lawOf_19 : decode prog_10_method_38_code 19 = .ok (.iaload, 1) := by decide +kernel
theorem d_M_lawOf_20 : decode prog_10_method_38_code 20 = .ok (.ifCond .lt 19, 3) := by decide +kernel
theorem d_M_lawOf_23 : decode prog_10_method_38_code 23 = .ok (.aload_n 0, 1) := by decide +kernel
theorem d_M_lawOf_24 : decode prog_10_method_38_code 24 = .ok (.iload_n 1, 1) := by decide +kernel
theorem d_M_lawOf_25 : decode prog_10_method_38_code 25 = .ok (.iload_n 2, 1) := by decide +kernel
theorem d_M_lawOf_26 : decode prog_10_method_38_code 26 = .ok (.iload_n 3, 1) := by decide +kernel
theorem d_M_lawOf_27 : decode prog_10_method_38_code 27 = .ok (.iload 4, 2) := by decide +kernel
theorem d_M_lawOf_29 : decode prog_10_method_38_code 29 = .ok (.invokevirtual 148, 3) := by decide +kernel
theorem d_M_lawOf_32 : decode prog_10_method_38_code 32 = .ok (.iconst 0, 1) := by decide +kernel
theorem d_M_lawOf_33 : decode prog_10_method_38_code 33 = .ok (.iload 5, 2) := by decide +kernel
theorem d_M_lawOf_35 : decode prog_10_method_38_code 35 = .ok (.invokestatic 152, 3) := by decide +kernel
theorem d_M_lawOf_38 : decode prog_10_method_38_code 38 = .ok (.ireturn, 1) := by decide +kernel
theorem d_M_lawOf_39 : decode prog_10_method_38_code 39 = .ok (.iload_n 1, 1) := by decide +kernel
theorem d_M_lawOf_40 : decode prog_10_method_38_code 40 = .ok (.ifCond .ne 17, 3) := by decide +kernel
theorem d_M_lawOf_43 : decode prog_10_method_38_code 43 = .ok (.iload_n 2, 1) := by decide +kernel
theorem d_M_lawOf_44 : decode prog_10_method_38_code 44 = .ok (.iload_n 3, 1) := by decide +kernel
theorem d_M_lawOf_45 : decode prog_10_method_38_code 45 = .ok (.iadd, 1) := by decide +kernel
theorem d_M_lawOf_46 : decode prog_10_method_38_code 46 = .ok (.iconst 3, 1) := by decide +kernel
theorem d_M_lawOf_47 : decode prog_10_method_38_code 47 = .ok (.isub, 1) := by decide +kernel
theorem d_M_lawOf_48 : decode prog_10_method_38_code 48 = .ok (.iconst 0, 1) := by decide +kernel
theorem d_M_lawOf_49 : decode prog_10_method_38_code 49 = .ok (.iload 5, 2) := by decide +kernel
theorem d_M_lawOf_51 : decode prog_10_method_38_code 51 = .ok (.invokestatic 152, 3) := by decide +kernel
theorem d_M_lawOf_54 : decode prog_10_method_38_code 54 = .ok (.goto 13, 3) := by decide +kernel
theorem d_M_lawOf_57 : decode prog_10_method_38_code 57 = .ok (.iload_n 2, 1) := by decide +kernel
theorem d_M_lawOf_58 : decode prog_10_method_38_code 58 = .ok (.iconst 5, 1) := by decide +kernel
theorem d_M_lawOf_59 : decode prog_10_method_38_code 59 = .ok (.if_icmp .ge 7, 3) := by decide +kernel
theorem d_M_lawOf_62 : decode prog_10_method_38_code 62 = .ok (.iconst 1, 1) := by decide +kernel
theorem d_M_lawOf_63 : decode prog_10_method_38_code 63 = .ok (.goto 4, 3) := by decide +kernel
theorem d_M_lawOf_66 : decode prog_10_method_38_code 66 = .ok (.iconst 0, 1) := by decide +kernel
theorem d_M_lawOf_67 : decode prog_10_method_38_code 67 = .ok (.ireturn, 1) := by decide +kernel
def w_M_lawOf_10 (K : Int32 → sm_Mem → Prop) (p0 : Int32) (p1 : Int32) (p2 : Int32) (p3 : Int32) (s0 : Int32) (μ : sm_Mem) : Prop := vp_in (5 + p0) 271 ∧ if (μ 62 (5 + p0).toNatClampNeg) < 0 then (if p0 = 0 then w_M_held (fun r7 μ6 => K r7 μ6) ((p1 + p2) - 3) 0 s0 μ else (if 5 ≤ p1 then K 0 μ else K 1 μ)) else w_M_walks (fun r9 μ8 => w_M_held (fun r11 μ10 => K r11 μ10) r9 0 s0 μ8) p0 p1 p2 p3 μ
def w_M_lawOf (K : Int32 → sm_Mem → Prop) (p0 : Int32) (p1 : Int32) (p2 : Int32) (p3 : Int32) (μ : sm_Mem) : Prop := if p0 = 0 then w_M_lawOf_10 K p0 p1 p2 p3 99 μ else w_M_lawOf_10 K p0 p1 p2 p3 1 μ
set_option maxHeartbeats 4000000 in
set_option maxRecDepth 100000 in
theorem P_M_lawOf (l : Launch) {K : Int32 → sm_Mem → Prop} {p0 : Int32} {p1 : Int32} {p2 : Int32} {p3 : Int32} {μ : sm_Mem} (h : w_M_lawOf K p0 p1 p2 p3 μ) : sm_MI l ⟨"SnowMoneyModel", "lawOf", "(IIII)I"⟩ prog_10_method_38_code 6 (some .int) { frames := 56, cells := 0, slots := 0, locals := 2167 } [sm_R 61, sm_I p0, sm_I p1, sm_I p2, sm_I p3] μ K := by
  refine sm_ofI (by decide +kernel) (fun _ => Nat.le_of_ble_eq_true rfl) ?_
  intro p e s m args below meth c A Q G C hR
  have B10 : ∀ (s0 : Int32) (μ : sm_Mem), w_M_lawOf_10 K p0 p1 p2 p3 s0 μ → sm_W p l e { frames := 56, cells := 0, slots := 0, locals := 2167 } s m args below meth c A Q G 6 0 0 10 [sm_I s0] [(0, sm_R 61), (1, sm_I p0), (2, sm_I p1), (3, sm_I p2), (4, sm_I p3)] μ := by
    intro s0 μ h
    refine sr_istore C (by decide) d_M_lawOf_10 ?_
    refine sr_aload_n C 1 rfl rfl d_M_lawOf_12 ?_
    refine sr_getR C sm_F7 0 q_435 sm_l61 (r := 62) rfl (by decide) d_M_lawOf_13 ?_
    refine sr_iconst C (v := 5) d_M_lawOf_16 (by decide) ?_
    refine sr_iload_n C 2 rfl rfl d_M_lawOf_17 ?_
    refine sr_iadd C d_M_lawOf_18 ?_
    obtain ⟨g2, h⟩ := h
    refine sr_iald C sm_l62 g2 d_M_lawOf_19 ?_
    refine sr_if_lt C (tgt := 39) d_M_lawOf_20 (by decide) (fun c3 => ?_) (fun c3 => ?_)
    · replace h := Eq.mp (if_pos c3) h
      refine sr_iload_n C 2 rfl rfl d_M_lawOf_39 ?_
      refine sr_if_ne C (tgt := 57) d_M_lawOf_40 (by decide) (fun c4 => ?_) (fun c4 => ?_)
      · replace h := Eq.mp (if_neg c4) h
        refine sr_iload_n C 3 rfl rfl d_M_lawOf_57 ?_
        refine sr_iconst C (v := 5) d_M_lawOf_58 (by decide) ?_
        refine sr_icmp_ge C (tgt := 66) d_M_lawOf_59 (by decide) (fun c5 => ?_) (fun c5 => ?_)
        · replace h := Eq.mp (if_pos c5) h
          refine sr_iconst C (v := 0) d_M_lawOf_66 (by decide) ?_
          exact hR _ _ _ _ d_M_lawOf_67 rfl h
        · replace h := Eq.mp (if_neg c5) h
          refine sr_iconst C (v := 1) d_M_lawOf_62 (by decide) ?_
          refine sr_goto C (tgt := 67) (by decide) d_M_lawOf_63 ?_
          exact hR _ _ _ _ d_M_lawOf_67 rfl h
      · replace h := Eq.mp (if_pos c4) h
        refine sr_iload_n C 3 rfl rfl d_M_lawOf_43 ?_
        refine sr_iload_n C 4 rfl rfl d_M_lawOf_44 ?_
        refine sr_iadd C d_M_lawOf_45 ?_
        refine sr_iconst C (v := 3) d_M_lawOf_46 (by decide) ?_
        refine sr_isub C d_M_lawOf_47 ?_
        refine sr_iconst C (v := 0) d_M_lawOf_48 (by decide) ?_
        refine sr_iload C 0 rfl d_M_lawOf_49 ?_
        refine sr_callSI C [sm_I _, sm_I _, sm_I _] (P_M_held l h) ok_109 rfl rfl rfl ⟨Nat.le_of_ble_eq_true rfl, Nat.le_of_ble_eq_true rfl⟩ (Nat.le_of_ble_eq_true rfl) ⟨Nat.zero_le _, Nat.zero_le _⟩ d_M_lawOf_51 (fun r7 μ6 h => ?_)
        refine sr_goto C (tgt := 67) (by decide) d_M_lawOf_54 ?_
        exact hR _ _ _ _ d_M_lawOf_67 rfl h
    · replace h := Eq.mp (if_neg c3) h
      refine sr_aload_n C 1 rfl rfl d_M_lawOf_23 ?_
      refine sr_iload_n C 2 rfl rfl d_M_lawOf_24 ?_
      refine sr_iload_n C 3 rfl rfl d_M_lawOf_25 ?_
      refine sr_iload_n C 4 rfl rfl d_M_lawOf_26 ?_
      refine sr_iload C 5 rfl d_M_lawOf_27 ?_
      refine sr_callVI C [sm_I _, sm_I _, sm_I _, sm_I _] (P_M_walks l h) ok_110 sm_l61 rfl rfl rfl rfl ⟨Nat.le_of_ble_eq_true rfl, Nat.le_of_ble_eq_true rfl⟩ (Nat.le_of_ble_eq_true rfl) ⟨Nat.zero_le _, Nat.zero_le _⟩ d_M_lawOf_29 (fun r9 μ8 h => ?_)
      refine sr_iconst C (v := 0) d_M_lawOf_32 (by decide) ?_
      refine sr_iload C 0 rfl d_M_lawOf_33 ?_
      refine sr_callSI C [sm_I _, sm_I _, sm_I _] (P_M_held l h) ok_109 rfl rfl rfl ⟨Nat.le_of_ble_eq_true rfl, Nat.le_of_ble_eq_true rfl⟩ (Nat.le_of_ble_eq_true rfl) ⟨Nat.zero_le _, Nat.zero_le _⟩ d_M_lawOf_35 (fun r11 μ10 h => ?_)
      exact hR _ _ _ _ d_M_lawOf_38 rfl h
  refine sr_iload_n C 1 rfl rfl d_M_lawOf_0 ?_
  refine sr_if_ne C (tgt := 9) d_M_lawOf_1 (by decide) (fun c1 => ?_) (fun c1 => ?_)
  · replace h := Eq.mp (if_neg c1) h
    refine sr_iconst C (v := 1) d_M_lawOf_9 (by decide) ?_
    exact B10 _ _ h
  · replace h := Eq.mp (if_pos c1) h
    refine sr_bipush C (v := 99) d_M_lawOf_4 (by decide) ?_
    refine sr_goto C (tgt := 10) (by decide) d_M_lawOf_6 ?_
    exact B10 _ _ h
theorem d_M_meltsAt_0 : decode prog_10_method_42_code 0 = .ok (.aload_n 0, 1) := by decide +kernel
theorem d_M_meltsAt_1 : decode prog_10_method_42_code 1 = .ok (.iconst 0, 1) := by decide +kernel
theorem d_M_meltsAt_2 : decode prog_10_method_42_code 2 = .ok (.aload_n 0, 1) := by decide +kernel
theorem d_M_meltsAt_3 : decode prog_10_method_42_code 3 = .ok (.getfield 7, 3) := by decide +kernel
theorem d_M_meltsAt_6 : decode prog_10_method_42_code 6 = .ok (.bipush 9, 2) := by decide +kernel
theorem d_M_meltsAt_8 : decode prog_10_method_42_code 8 = .ok (.iload_n 2, 1) := by decide +kernel
theorem d_M_meltsAt_9 : decode prog_10_method_42_code 9 = .ok (.iadd, 1) := by decide +kernel
theorem d_M_meltsAt_10 : decode prog_10_method_42_code 10 = .ok (.iaload, 1) := by decide +kernel
theorem d_M_meltsAt_11 : decode prog_10_method_42_code 11 = .ok (.aload_n 0, 1) := by decide +kernel
theorem d_M_meltsAt_12 : decode prog_10_method_42_code 12 = .ok (.getfield 165, 3) := by decide +kernel
theorem d_M_meltsAt_15 : decode prog_10_method_42_code 15 = .ok (.iadd, 1) := by decide +kernel
theorem d_M_meltsAt_16 : decode prog_10_method_42_code 16 = .ok (.aload_n 0, 1) := by decide +kernel
theorem d_M_meltsAt_17 : decode prog_10_method_42_code 17 = .ok (.getfield 7, 3) := by decide +kernel
theorem d_M_meltsAt_20 : decode prog_10_method_42_code 20 = .ok (.bipush 8, 2) := by decide +kernel
theorem d_M_meltsAt_22 : decode prog_10_method_42_code 22 = .ok (.iaload, 1) := by decide +kernel
theorem d_M_meltsAt_23 : decode prog_10_method_42_code 23 = .ok (.aload_n 0, 1) := by decide +kernel
theorem d_M_meltsAt_24 : decode prog_10_method_42_code 24 = .ok (.getfield 7, 3) := by decide +kernel
theorem d_M_meltsAt_27 : decode prog_10_method_42_code 27 = .ok (.iconst 0, 1) := by decide +kernel
theorem d_M_meltsAt_28 : decode prog_10_method_42_code 28 = .ok (.iaload, 1) := by decide +kernel
theorem d_M_meltsAt_29 : decode prog_10_method_42_code 29 = .ok (.bipush 24, 2) := by decide +kernel
theorem d_M_meltsAt_31 : decode prog_10_method_42_code 31 = .ok (.irem, 1) := by decide +kernel
theorem d_M_meltsAt_32 : decode prog_10_method_42_code 32 = .ok (.invokevirtual 156, 3) := by decide +kernel
theorem d_M_meltsAt_35 : decode prog_10_method_42_code 35 = .ok (.istore_n 3, 1) := by decide +kernel
theorem d_M_meltsAt_36 : decode prog_10_method_42_code 36 = .ok (.aload_n 0, 1) := by decide +kernel
theorem d_M_meltsAt_37 : decode prog_10_method_42_code 37 = .ok (.iload_n 1, 1) := by decide +kernel
theorem d_M_meltsAt_38 : decode prog_10_method_42_code 38 = .ok (.iconst 1, 1) := by decide +kernel
theorem d_M_meltsAt_39 : decode prog_10_method_42_code 39 = .ok (.invokevirtual 62, 3) := by decide +kernel
theorem d_M_meltsAt_42 : decode prog_10_method_42_code 42 = .ok (.istore 4, 2) := by decide +kernel
theorem d_M_meltsAt_44 : decode prog_10_method_42_code 44 = .ok (.iload_n 3, 1) := by decide +kernel
theorem d_M_meltsAt_45 : decode prog_10_method_42_code 45 = .ok (.iload 4, 2) := by decide +kernel
theorem d_M_meltsAt_47 : decode prog_10_method_42_code 47 = .ok (.if_icmp .le 10, 3) := by decide +kernel
theorem d_M_meltsAt_50 : decode prog_10_method_42_code 50 = .ok (.iload_n 3, 1) := by decide +kernel
theorem d_M_meltsAt_51 : decode prog_10_method_42_code 51 = .ok (.iload 4, 2) := by decide +kernel
theorem d_M_meltsAt_53 : decode prog_10_method_42_code 53 = .ok (.isub, 1) := by decide +kernel
theorem d_M_meltsAt_54 : decode prog_10_method_42_code 54 = .ok (.goto 4, 3) := by decide +kernel
theorem d_M_meltsAt_57 : decode prog_10_method_42_code 57 = .ok (.iconst 0, 1) := by decide +kernel
theorem d_M_meltsAt_58 : decode prog_10_method_42_code 58 = .ok (.istore 5, 2) := by decide +kernel
theorem d_M_meltsAt_60 : decode prog_10_method_42_code 60 = .ok (.aload_n 0, 1) := by decide +kernel
theorem d_M_meltsAt_61 : decode prog_10_method_42_code 61 = .ok (.iload_n 1, 1) := by decide +kernel
theorem d_M_meltsAt_62 : decode prog_10_method_42_code 62 = .ok (.iconst 0, 1) := by decide +kernel
theorem d_M_meltsAt_63 : decode prog_10_method_42_code 63 = .ok (.invokevirtual 62, 3) := by decide +kernel
theorem d_M_meltsAt_66 : decode prog_10_method_42_code 66 = .ok (.tableswitch 78 1 6 #[38, 57, 67, 42, 61, 70], 38) := by decide +kernel
theorem d_M_meltsAt_104 : decode prog_10_method_42_code 104 = .ok (.iload_n 3, 1) := by decide +kernel
theorem d_M_meltsAt_105 : decode prog_10_method_42_code 105 = .ok (.iconst 2, 1) := by decide +kernel
theorem d_M_meltsAt_106 : decode prog_10_method_42_code 106 = .ok (.idiv, 1) := by decide +kernel
theorem d_M_meltsAt_107 : decode prog_10_method_42_code 107 = .ok (.ireturn, 1) := by decide +kernel
theorem d_M_meltsAt_108 : decode prog_10_method_42_code 108 = .ok (.iload_n 3, 1) := by decide +kernel
theorem d_M_meltsAt_109 : decode prog_10_method_42_code 109 = .ok (.iconst 1, 1) := by decide +kernel
theorem d_M_meltsAt_110 : decode prog_10_method_42_code 110 = .ok (.if_icmp .le 11, 3) := by decide +kernel
theorem d_M_meltsAt_113 : decode prog_10_method_42_code 113 = .ok (.iload_n 3, 1) := by decide +kernel
theorem d_M_meltsAt_114 : decode prog_10_method_42_code 114 = .ok (.iconst 2, 1) := by decide +kernel
theorem d_M_meltsAt_115 : decode prog_10_method_42_code 115 = .ok (.idiv, 1) := by decide +kernel
theorem d_M_meltsAt_116 : decode prog_10_method_42_code 116 = .ok (.iconst 1, 1) := by decide +kernel
theorem d_M_meltsAt_117 : decode prog_10_method_42_code 117 = .ok (.isub, 1) := by decide +kernel
theorem d_M_meltsAt_118 : decode prog_10_method_42_code 118 = .ok (.goto 4, 3) := by decide +kernel
theorem d_M_meltsAt_121 : decode prog_10_method_42_code 121 = .ok (.iconst 0, 1) := by decide +kernel
theorem d_M_meltsAt_122 : decode prog_10_method_42_code 122 = .ok (.ireturn, 1) := by decide +kernel
theorem d_M_meltsAt_123 : decode prog_10_method_42_code 123 = .ok (.iload_n 3, 1) := by decide +kernel
theorem d_M_meltsAt_124 : decode prog_10_method_42_code 124 = .ok (.iconst 2, 1) := by decide +kernel
theorem d_M_meltsAt_125 : decode prog_10_method_42_code 125 = .ok (.iadd, 1) := by decide +kernel
theorem d_M_meltsAt_126 : decode prog_10_method_42_code 126 = .ok (.ireturn, 1) := by decide +kernel
theorem d_M_meltsAt_127 : decode prog_10_method_42_code 127 = .ok (.iconst 2, 1) := by decide +kernel
theorem d_M_meltsAt_128 : decode prog_10_method_42_code 128 = .ok (.iload_n 3, 1) := by decide +kernel
theorem d_M_meltsAt_129 : decode prog_10_method_42_code 129 = .ok (.imul, 1) := by decide +kernel
theorem d_M_meltsAt_130 : decode prog_10_method_42_code 130 = .ok (.iconst 4, 1) := by decide +kernel
theorem d_M_meltsAt_131 : decode prog_10_method_42_code 131 = .ok (.iadd, 1) := by decide +kernel
theorem d_M_meltsAt_132 : decode prog_10_method_42_code 132 = .ok (.ireturn, 1) := by decide +kernel
theorem d_M_meltsAt_133 : decode prog_10_method_42_code 133 = .ok (.iload 5, 2) := by decide +kernel
theorem d_M_meltsAt_135 : decode prog_10_method_42_code 135 = .ok (.ireturn, 1) := by decide +kernel
theorem d_M_meltsAt_136 : decode prog_10_method_42_code 136 = .ok (.iload_n 3, 1) := by decide +kernel
theorem d_M_meltsAt_137 : decode prog_10_method_42_code 137 = .ok (.iload 4, 2) := by decide +kernel
theorem d_M_meltsAt_139 : decode prog_10_method_42_code 139 = .ok (.isub, 1) := by decide +kernel
theorem d_M_meltsAt_140 : decode prog_10_method_42_code 140 = .ok (.bipush 9, 2) := by decide +kernel
theorem d_M_meltsAt_142 : decode prog_10_method_42_code 142 = .ok (.iadd, 1) := by decide +kernel
theorem d_M_meltsAt_143 : decode prog_10_method_42_code 143 = .ok (.ireturn, 1) := by decide +kernel
theorem d_M_meltsAt_144 : decode prog_10_method_42_code 144 = .ok (.iload_n 3, 1) := by decide +kernel
theorem d_M_meltsAt_145 : decode prog_10_method_42_code 145 = .ok (.ireturn, 1) := by decide +kernel
def w_M_meltsAt_58 (K : Int32 → sm_Mem → Prop) (p0 : Int32) (p1 : Int32) (x3 : Int32) (x4 : Int32) (s0 : Int32) (μ : sm_Mem) : Prop := w_M_its (fun r8 μ7 => ∀ v9 : Int32, v9 = r8 → if v9 = 1 then K (x3 / 2) μ7 else (if v9 = 2 then K (x3 + 2) μ7 else (if v9 = 3 then K s0 μ7 else (if v9 = 4 then (if x3 ≤ 1 then K 0 μ7 else K ((x3 / 2) - 1) μ7) else (if v9 = 5 then K ((2 * x3) + 4) μ7 else (if v9 = 6 then K ((x3 - x4) + 9) μ7 else K x3 μ7)))))) p0 0 μ
def w_M_meltsAt (K : Int32 → sm_Mem → Prop) (p0 : Int32) (p1 : Int32) (μ : sm_Mem) : Prop := vp_in (9 + p1) 271 ∧ w_M_lawOf (fun r3 μ2 => w_M_its (fun r5 μ4 => if r3 ≤ r5 then w_M_meltsAt_58 K p0 p1 r3 r5 0 μ4 else w_M_meltsAt_58 K p0 p1 r3 r5 (r3 - r5) μ4) p0 1 μ2) 0 ((μ 62 (9 + p1).toNatClampNeg) + (μ 61 15)) (μ 62 8) ((μ 62 0) % 24) μ
set_option maxHeartbeats 4000000 in
set_option maxRecDepth 100000 in
theorem P_M_meltsAt (l : Launch) {K : Int32 → sm_Mem → Prop} {p0 : Int32} {p1 : Int32} {μ : sm_Mem} (h : w_M_meltsAt K p0 p1 μ) : sm_MI l ⟨"SnowMoneyModel", "meltsAt", "(II)I"⟩ prog_10_method_42_code 6 (some .int) { frames := 57, cells := 0, slots := 0, locals := 2192 } [sm_R 61, sm_I p0, sm_I p1] μ K := by
  refine sm_ofI (by decide +kernel) (fun _ => Nat.le_of_ble_eq_true rfl) ?_
  intro p e s m args below meth c A Q G C hR
  have B58 : ∀ (x3 : Int32) (x4 : Int32) (s0 : Int32) (μ : sm_Mem), w_M_meltsAt_58 K p0 p1 x3 x4 s0 μ → sm_W p l e { frames := 57, cells := 0, slots := 0, locals := 2192 } s m args below meth c A Q G 6 0 0 58 [sm_I s0] [(0, sm_R 61), (1, sm_I p0), (3, sm_I x3), (4, sm_I x4)] μ := by
    intro x3 x4 s0 μ h
    refine sr_istore C (by decide) d_M_meltsAt_58 ?_
    refine sr_aload_n C 1 rfl rfl d_M_meltsAt_60 ?_
    refine sr_iload_n C 2 rfl rfl d_M_meltsAt_61 ?_
    refine sr_iconst C (v := 0) d_M_meltsAt_62 (by decide) ?_
    refine sr_callVI C [sm_I _, sm_I _] (P_M_its l h) ok_101 sm_l61 rfl rfl rfl rfl ⟨Nat.le_of_ble_eq_true rfl, Nat.le_of_ble_eq_true rfl⟩ (Nat.le_of_ble_eq_true rfl) ⟨Nat.zero_le _, Nat.zero_le _⟩ d_M_meltsAt_63 (fun r8 μ7 h => ?_)
    refine sm_name (fun v9 ev9 => ?_)
    replace h := h v9 ev9
    by_cases c10 : v9 = 1
    · replace h := Eq.mp (if_pos c10) h
      refine sr_tableIn C (tgt := 104) (off := 38) d_M_meltsAt_66 (by rw [c10]; decide) (by rw [c10]; decide) (by rw [c10]; decide) (by decide) ?_
      refine sr_iload_n C 3 rfl rfl d_M_meltsAt_104 ?_
      refine sr_iconst C (v := 2) d_M_meltsAt_105 (by decide) ?_
      refine sr_idiv C (by decide) d_M_meltsAt_106 ?_
      exact hR _ _ _ _ d_M_meltsAt_107 rfl h
    · replace h := Eq.mp (if_neg c10) h
      by_cases c11 : v9 = 2
      · replace h := Eq.mp (if_pos c11) h
        refine sr_tableIn C (tgt := 123) (off := 57) d_M_meltsAt_66 (by rw [c11]; decide) (by rw [c11]; decide) (by rw [c11]; decide) (by decide) ?_
        refine sr_iload_n C 3 rfl rfl d_M_meltsAt_123 ?_
        refine sr_iconst C (v := 2) d_M_meltsAt_124 (by decide) ?_
        refine sr_iadd C d_M_meltsAt_125 ?_
        exact hR _ _ _ _ d_M_meltsAt_126 rfl h
      · replace h := Eq.mp (if_neg c11) h
        by_cases c12 : v9 = 3
        · replace h := Eq.mp (if_pos c12) h
          refine sr_tableIn C (tgt := 133) (off := 67) d_M_meltsAt_66 (by rw [c12]; decide) (by rw [c12]; decide) (by rw [c12]; decide) (by decide) ?_
          refine sr_iload C 0 rfl d_M_meltsAt_133 ?_
          exact hR _ _ _ _ d_M_meltsAt_135 rfl h
        · replace h := Eq.mp (if_neg c12) h
          by_cases c13 : v9 = 4
          · replace h := Eq.mp (if_pos c13) h
            refine sr_tableIn C (tgt := 108) (off := 42) d_M_meltsAt_66 (by rw [c13]; decide) (by rw [c13]; decide) (by rw [c13]; decide) (by decide) ?_
            refine sr_iload_n C 3 rfl rfl d_M_meltsAt_108 ?_
            refine sr_iconst C (v := 1) d_M_meltsAt_109 (by decide) ?_
            refine sr_icmp_le C (tgt := 121) d_M_meltsAt_110 (by decide) (fun c14 => ?_) (fun c14 => ?_)
            · replace h := Eq.mp (if_pos c14) h
              refine sr_iconst C (v := 0) d_M_meltsAt_121 (by decide) ?_
              exact hR _ _ _ _ d_M_meltsAt_122 rfl h
            · replace h := Eq.mp (if_neg c14) h
              refine sr_iload_n C 3 rfl rfl d_M_meltsAt_113 ?_
              refine sr_iconst C (v := 2) d_M_meltsAt_114 (by decide) ?_
              refine sr_idiv C (by decide) d_M_meltsAt_115 ?_
              refine sr_iconst C (v := 1) d_M_meltsAt_116 (by decide) ?_
              refine sr_isub C d_M_meltsAt_117 ?_
              refine sr_goto C (tgt := 122) (by decide) d_M_meltsAt_118 ?_
              exact hR _ _ _ _ d_M_meltsAt_122 rfl h
          · replace h := Eq.mp (if_neg c13) h
            by_cases c15 : v9 = 5
            · replace h := Eq.mp (if_pos c15) h
              refine sr_tableIn C (tgt := 127) (off := 61) d_M_meltsAt_66 (by rw [c15]; decide) (by rw [c15]; decide) (by rw [c15]; decide) (by decide) ?_
              refine sr_iconst C (v := 2) d_M_meltsAt_127 (by decide) ?_
              refine sr_iload_n C 3 rfl rfl d_M_meltsAt_128 ?_
              refine sr_imul C d_M_meltsAt_129 ?_
              refine sr_iconst C (v := 4) d_M_meltsAt_130 (by decide) ?_
              refine sr_iadd C d_M_meltsAt_131 ?_
              exact hR _ _ _ _ d_M_meltsAt_132 rfl h
            · replace h := Eq.mp (if_neg c15) h
              by_cases c16 : v9 = 6
              · replace h := Eq.mp (if_pos c16) h
                refine sr_tableIn C (tgt := 136) (off := 70) d_M_meltsAt_66 (by rw [c16]; decide) (by rw [c16]; decide) (by rw [c16]; decide) (by decide) ?_
                refine sr_iload_n C 3 rfl rfl d_M_meltsAt_136 ?_
                refine sr_iload C 4 rfl d_M_meltsAt_137 ?_
                refine sr_isub C d_M_meltsAt_139 ?_
                refine sr_bipush C (v := 9) d_M_meltsAt_140 (by decide) ?_
                refine sr_iadd C d_M_meltsAt_142 ?_
                exact hR _ _ _ _ d_M_meltsAt_143 rfl h
              · replace h := Eq.mp (if_neg c16) h
                have i0 := sm_ne c10 (z := 1) (by decide)
                have i1 := sm_ne c11 (z := 2) (by decide)
                have i2 := sm_ne c12 (z := 3) (by decide)
                have i3 := sm_ne c13 (z := 4) (by decide)
                have i4 := sm_ne c15 (z := 5) (by decide)
                have i5 := sm_ne c16 (z := 6) (by decide)
                refine sr_tableOut C (tgt := 144) d_M_meltsAt_66 (by omega) (by decide) ?_
                refine sr_iload_n C 3 rfl rfl d_M_meltsAt_144 ?_
                exact hR _ _ _ _ d_M_meltsAt_145 rfl h
  refine sr_aload_n C 0 rfl rfl d_M_meltsAt_0 ?_
  refine sr_iconst C (v := 0) d_M_meltsAt_1 (by decide) ?_
  refine sr_aload_n C 0 rfl rfl d_M_meltsAt_2 ?_
  refine sr_getR C sm_F7 0 q_435 sm_l61 (r := 62) rfl (by decide) d_M_meltsAt_3 ?_
  refine sr_bipush C (v := 9) d_M_meltsAt_6 (by decide) ?_
  refine sr_iload_n C 2 rfl rfl d_M_meltsAt_8 ?_
  refine sr_iadd C d_M_meltsAt_9 ?_
  obtain ⟨g1, h⟩ := h
  refine sr_iald C sm_l62 g1 d_M_meltsAt_10 ?_
  refine sr_aload_n C 0 rfl rfl d_M_meltsAt_11 ?_
  refine sr_getI C sm_F7 15 q_483 sm_l61 rfl (by decide) d_M_meltsAt_12 ?_
  refine sr_iadd C d_M_meltsAt_15 ?_
  refine sr_aload_n C 0 rfl rfl d_M_meltsAt_16 ?_
  refine sr_getR C sm_F7 0 q_435 sm_l61 (r := 62) rfl (by decide) d_M_meltsAt_17 ?_
  refine sr_bipush C (v := 8) d_M_meltsAt_20 (by decide) ?_
  refine sr_ialdJ C sm_l62 (j := 8) (sm_vin (by decide)) (by decide) d_M_meltsAt_22 ?_
  refine sr_aload_n C 0 rfl rfl d_M_meltsAt_23 ?_
  refine sr_getR C sm_F7 0 q_435 sm_l61 (r := 62) rfl (by decide) d_M_meltsAt_24 ?_
  refine sr_iconst C (v := 0) d_M_meltsAt_27 (by decide) ?_
  refine sr_ialdJ C sm_l62 (j := 0) (sm_vin (by decide)) (by decide) d_M_meltsAt_28 ?_
  refine sr_bipush C (v := 24) d_M_meltsAt_29 (by decide) ?_
  refine sr_irem C (by decide) d_M_meltsAt_31 ?_
  refine sr_callVI C [sm_I _, sm_I _, sm_I _, sm_I _] (P_M_lawOf l h) ok_108 sm_l61 rfl rfl rfl rfl ⟨Nat.le_of_ble_eq_true rfl, Nat.le_of_ble_eq_true rfl⟩ (Nat.le_of_ble_eq_true rfl) ⟨Nat.zero_le _, Nat.zero_le _⟩ d_M_meltsAt_32 (fun r3 μ2 h => ?_)
  refine sr_istore_n C rfl (by decide) d_M_meltsAt_35 ?_
  refine sr_aload_n C 1 rfl rfl d_M_meltsAt_36 ?_
  refine sr_iload_n C 2 rfl rfl d_M_meltsAt_37 ?_
  refine sr_iconst C (v := 1) d_M_meltsAt_38 (by decide) ?_
  refine sr_callVI C [sm_I _, sm_I _] (P_M_its l h) ok_101 sm_l61 rfl rfl rfl rfl ⟨Nat.le_of_ble_eq_true rfl, Nat.le_of_ble_eq_true rfl⟩ (Nat.le_of_ble_eq_true rfl) ⟨Nat.zero_le _, Nat.zero_le _⟩ d_M_meltsAt_39 (fun r5 μ4 h => ?_)
  refine sr_istore C (by decide) d_M_meltsAt_42 ?_
  refine sr_iload_n C 1 rfl rfl d_M_meltsAt_44 ?_
  refine sr_iload C 0 rfl d_M_meltsAt_45 ?_
  refine sr_icmp_le C (tgt := 57) d_M_meltsAt_47 (by decide) (fun c6 => ?_) (fun c6 => ?_)
  · replace h := Eq.mp (if_pos c6) h
    refine sr_iconst C (v := 0) d_M_meltsAt_57 (by decide) ?_
    refine sr_mask C [2, 3, 1, 0] rfl ?_
    exact B58 _ _ _ _ h
  · replace h := Eq.mp (if_neg c6) h
    refine sr_iload_n C 1 rfl rfl d_M_meltsAt_50 ?_
    refine sr_iload C 0 rfl d_M_meltsAt_51 ?_
    refine sr_isub C d_M_meltsAt_53 ?_
    refine sr_goto C (tgt := 58) (by decide) d_M_meltsAt_54 ?_
    refine sr_mask C [2, 3, 1, 0] rfl ?_
    exact B58 _ _ _ _ h
theorem d_M_melts_0 : decode prog_10_method_43_code 0 = .ok (.aload_n 0, 1) := by decide +kernel
theorem d_M_melts_1 : decode prog_10_method_43_code 1 = .ok (.iload_n 1, 1) := by decide +kernel
theorem d_M_melts_2 : decode prog_10_method_43_code 2 = .ok (.aload_n 0, 1) := by decide +kernel
theorem d_M_melts_3 : decode prog_10_method_43_code 3 = .ok (.iload_n 1, 1) := by decide +kernel
theorem d_M_melts_4 : decode prog_10_method_43_code 4 = .ok (.iconst 3, 1) := by decide +kernel
theorem d_M_melts_5 : decode prog_10_method_43_code 5 = .ok (.invokevirtual 62, 3) := by decide +kernel
theorem d_M_melts_8 : decode prog_10_method_43_code 8 = .ok (.invokevirtual 168, 3) := by decide +kernel
theorem d_M_melts_11 : decode prog_10_method_43_code 11 = .ok (.ireturn, 1) := by decide +kernel
def w_M_melts (K : Int32 → sm_Mem → Prop) (p0 : Int32) (μ : sm_Mem) : Prop := w_M_its (fun r2 μ1 => w_M_meltsAt (fun r4 μ3 => K r4 μ3) p0 r2 μ1) p0 3 μ
set_option maxHeartbeats 4000000 in
set_option maxRecDepth 100000 in
theorem P_M_melts (l : Launch) {K : Int32 → sm_Mem → Prop} {p0 : Int32} {μ : sm_Mem} (h : w_M_melts K p0 μ) : sm_MI l ⟨"SnowMoneyModel", "melts", "(I)I"⟩ prog_10_method_43_code 2 (some .int) { frames := 58, cells := 0, slots := 0, locals := 2217 } [sm_R 61, sm_I p0] μ K := by
  refine sm_ofI (by decide +kernel) (fun _ => Nat.le_of_ble_eq_true rfl) ?_
  intro p e s m args below meth c A Q G C hR
  refine sr_aload_n C 0 rfl rfl d_M_melts_0 ?_
  refine sr_iload_n C 1 rfl rfl d_M_melts_1 ?_
  refine sr_aload_n C 0 rfl rfl d_M_melts_2 ?_
  refine sr_iload_n C 1 rfl rfl d_M_melts_3 ?_
  refine sr_iconst C (v := 3) d_M_melts_4 (by decide) ?_
  refine sr_callVI C [sm_I _, sm_I _] (P_M_its l h) ok_101 sm_l61 rfl rfl rfl rfl ⟨Nat.le_of_ble_eq_true rfl, Nat.le_of_ble_eq_true rfl⟩ (Nat.le_of_ble_eq_true rfl) ⟨Nat.zero_le _, Nat.zero_le _⟩ d_M_melts_5 (fun r2 μ1 h => ?_)
  refine sr_callVI C [sm_I _, sm_I _] (P_M_meltsAt l h) ok_107 sm_l61 rfl rfl rfl rfl ⟨Nat.le_of_ble_eq_true rfl, Nat.le_of_ble_eq_true rfl⟩ (Nat.le_of_ble_eq_true rfl) ⟨Nat.zero_le _, Nat.zero_le _⟩ d_M_melts_8 (fun r4 μ3 h => ?_)
  exact hR _ _ _ _ d_M_melts_11 rfl h

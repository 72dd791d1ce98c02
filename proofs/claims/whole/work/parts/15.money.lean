theorem d_X_within_0 : decode prog_1_method_44_code 0 = .ok (.iload_n 0, 1) := by decide +kernel
theorem d_X_within_1 : decode prog_1_method_44_code 1 = .ok (.iload_n 1, 1) := by decide +kernel
theorem d_X_within_2 : decode prog_1_method_44_code 2 = .ok (.if_icmp .lt 12, 3) := by decide +kernel
theorem d_X_within_5 : decode prog_1_method_44_code 5 = .ok (.iload_n 0, 1) := by decide +kernel
theorem d_X_within_6 : decode prog_1_method_44_code 6 = .ok (.iload_n 2, 1) := by decide +kernel
theorem d_X_within_7 : decode prog_1_method_44_code 7 = .ok (.if_icmp .gt 7, 3) := by decide +kernel
theorem d_X_within_10 : decode prog_1_method_44_code 10 = .ok (.iconst 1, 1) := by decide +kernel
theorem d_X_within_11 : decode prog_1_method_44_code 11 = .ok (.goto 4, 3) := by decide +kernel
theorem d_X_within_14 : decode prog_1_method_44_code 14 = .ok (.iconst 0, 1) := by decide +kernel
theorem d_X_within_15 : decode prog_1_method_44_code 15 = .ok (.ireturn, 1) := by decide +kernel
def w_X_within (K : Int32 → sm_Mem → Prop) (p0 : Int32) (p1 : Int32) (p2 : Int32) (μ : sm_Mem) : Prop := if p0 < p1 then K 0 μ else (if p2 < p0 then K 0 μ else K 1 μ)
set_option maxHeartbeats 4000000 in
set_option maxRecDepth 100000 in
theorem P_X_within (l : Launch) {K : Int32 → sm_Mem → Prop} {p0 : Int32} {p1 : Int32} {p2 : Int32} {μ : sm_Mem} (h : w_X_within K p0 p1 p2 μ) : sm_MI l ⟨"SnowMoney", "within", "(III)Z"⟩ prog_1_method_44_code 3 (some .boolean) { frames := 0, cells := 0, slots := 0, locals := 0 } [sm_I p0, sm_I p1, sm_I p2] μ K := by
  refine sm_ofI (by decide +kernel) (fun _ => Nat.le_of_ble_eq_true rfl) ?_
  intro p e s m args below meth c A Q G C hR
  refine sr_iload_n C 0 rfl rfl d_X_within_0 ?_
  refine sr_iload_n C 1 rfl rfl d_X_within_1 ?_
  refine sr_icmp_lt C (tgt := 14) d_X_within_2 (by decide) (fun c1 => ?_) (fun c1 => ?_)
  · replace h := Eq.mp (if_pos c1) h
    refine sr_iconst C (v := 0) d_X_within_14 (by decide) ?_
    exact hR _ _ _ _ d_X_within_15 rfl h
  · replace h := Eq.mp (if_neg c1) h
    refine sr_iload_n C 0 rfl rfl d_X_within_5 ?_
    refine sr_iload_n C 2 rfl rfl d_X_within_6 ?_
    refine sr_icmp_gt C (tgt := 14) d_X_within_7 (by decide) (fun c2 => ?_) (fun c2 => ?_)
    · replace h := Eq.mp (if_pos c2) h
      refine sr_iconst C (v := 0) d_X_within_14 (by decide) ?_
      exact hR _ _ _ _ d_X_within_15 rfl h
    · replace h := Eq.mp (if_neg c2) h
      refine sr_iconst C (v := 1) d_X_within_10 (by decide) ?_
      refine sr_goto C (tgt := 15) (by decide) d_X_within_11 ?_
      exact hR _ _ _ _ d_X_within_15 rfl h
theorem d_X_error_0 : decode prog_1_method_43_code 0 = .ok (.iload_n 1, 1) := by decide +kernel
theorem d_X_error_1 : decode prog_1_method_43_code 1 = .ok (.iconst 1, 1) := by decide +kernel
theorem d_X_error_2 : decode prog_1_method_43_code 2 = .ok (.iconst 5, 1) := by decide +kernel
theorem d_X_error_3 : decode prog_1_method_43_code 3 = .ok (.invokestatic 53, 3) := by decide +kernel
theorem d_X_error_6 : decode prog_1_method_43_code 6 = .ok (.ifCond .eq 13, 3) := by decide +kernel
theorem d_X_error_9 : decode prog_1_method_43_code 9 = .ok (.aload_n 0, 1) := by decide +kernel
theorem d_X_error_10 : decode prog_1_method_43_code 10 = .ok (.getfield 49, 3) := by decide +kernel
theorem d_X_error_13 : decode prog_1_method_43_code 13 = .ok (.iload_n 1, 1) := by decide +kernel
theorem d_X_error_14 : decode prog_1_method_43_code 14 = .ok (.dup2, 1) := by decide +kernel
theorem d_X_error_15 : decode prog_1_method_43_code 15 = .ok (.iaload, 1) := by decide +kernel
theorem d_X_error_16 : decode prog_1_method_43_code 16 = .ok (.iconst 1, 1) := by decide +kernel
theorem d_X_error_17 : decode prog_1_method_43_code 17 = .ok (.iadd, 1) := by decide +kernel
theorem d_X_error_18 : decode prog_1_method_43_code 18 = .ok (.iastore, 1) := by decide +kernel
theorem d_X_error_19 : decode prog_1_method_43_code 19 = .ok (.ldc_w 295, 3) := by decide +kernel
theorem d_X_error_22 : decode prog_1_method_43_code 22 = .ok (.iload_n 1, 1) := by decide +kernel
theorem d_X_error_23 : decode prog_1_method_43_code 23 = .ok (.isub, 1) := by decide +kernel
theorem d_X_error_24 : decode prog_1_method_43_code 24 = .ok (.ireturn, 1) := by decide +kernel
def w_X_error (K : Int32 → sm_Mem → Prop) (p0 : Int32) (μ : sm_Mem) : Prop := w_X_within (fun r2 μ1 => if r2 = 0 then K ((-1000000000) - p0) μ1 else (vp_in p0 6 ∧ vp_in p0 6 ∧ ∀ μ6 : sm_Mem, μ6 = sm_st μ1 60 (p0.toNatClampNeg) ((μ1 60 p0.toNatClampNeg) + 1) → K ((-1000000000) - p0) μ6)) p0 1 5 μ
set_option maxHeartbeats 4000000 in
set_option maxRecDepth 100000 in
theorem P_X_error (l : Launch) {K : Int32 → sm_Mem → Prop} {p0 : Int32} {μ : sm_Mem} (h : w_X_error K p0 μ) : sm_MI l ⟨"SnowMoney", "error", "(I)I"⟩ prog_1_method_43_code 2 (some .int) { frames := 1, cells := 0, slots := 0, locals := 22 } [sm_R 0, sm_I p0] μ K := by
  refine sm_ofI (by decide +kernel) (fun _ => Nat.le_of_ble_eq_true rfl) ?_
  intro p e s m args below meth c A Q G C hR
  refine sr_iload_n C 1 rfl rfl d_X_error_0 ?_
  refine sr_iconst C (v := 1) d_X_error_1 (by decide) ?_
  refine sr_iconst C (v := 5) d_X_error_2 (by decide) ?_
  refine sr_callSI C [sm_I _, sm_I _, sm_I _] (P_X_within l h) ok_0 rfl rfl rfl ⟨Nat.le_of_ble_eq_true rfl, Nat.le_of_ble_eq_true rfl⟩ (Nat.le_of_ble_eq_true rfl) ⟨Nat.zero_le _, Nat.zero_le _⟩ d_X_error_3 (fun r2 μ1 h => ?_)
  refine sr_if_eq C (tgt := 19) d_X_error_6 (by decide) (fun c3 => ?_) (fun c3 => ?_)
  · replace h := Eq.mp (if_pos c3) h
    refine sr_ldcw C q_11 d_X_error_19 ?_
    refine sr_iload_n C 1 rfl rfl d_X_error_22 ?_
    refine sr_isub C d_X_error_23 ?_
    exact hR _ _ _ _ d_X_error_24 rfl h
  · replace h := Eq.mp (if_neg c3) h
    refine sr_aload_n C 0 rfl rfl d_X_error_9 ?_
    refine sr_getR C sm_F6 6 q_12 sm_l0 (r := 60) rfl (by decide) d_X_error_10 ?_
    refine sr_iload_n C 1 rfl rfl d_X_error_13 ?_
    refine sr_dup2 C rfl rfl d_X_error_14 ?_
    obtain ⟨g4, h⟩ := h
    refine sr_iald C sm_l60 g4 d_X_error_15 ?_
    refine sr_iconst C (v := 1) d_X_error_16 (by decide) ?_
    refine sr_iadd C d_X_error_17 ?_
    obtain ⟨g5, h⟩ := h
    refine sr_iast C sm_l60 g5 d_X_error_18 ?_
    replace h := h _ rfl
    refine sr_ldcw C q_11 d_X_error_19 ?_
    refine sr_iload_n C 1 rfl rfl d_X_error_22 ?_
    refine sr_isub C d_X_error_23 ?_
    exact hR _ _ _ _ d_X_error_24 rfl h
theorem d_X_place_0 : decode prog_1_method_2_code 0 = .ok (.iload_n 1, 1) := by decide +kernel
theorem d_X_place_1 : decode prog_1_method_2_code 1 = .ok (.iconst 0, 1) := by decide +kernel
theorem d_X_place_2 : decode prog_1_method_2_code 2 = .ok (.bipush 9, 2) := by decide +kernel
theorem d_X_place_4 : decode prog_1_method_2_code 4 = .ok (.invokestatic 53, 3) := by decide +kernel
theorem d_X_place_7 : decode prog_1_method_2_code 7 = .ok (.ifCond .ne 9, 3) := by decide +kernel
theorem d_X_place_10 : decode prog_1_method_2_code 10 = .ok (.aload_n 0, 1) := by decide +kernel
theorem d_X_place_11 : decode prog_1_method_2_code 11 = .ok (.iconst 1, 1) := by decide +kernel
theorem d_X_place_12 : decode prog_1_method_2_code 12 = .ok (.invokevirtual 57, 3) := by decide +kernel
theorem d_X_place_15 : decode prog_1_method_2_code 15 = .ok (.ireturn, 1) := by decide +kernel
theorem d_X_place_16 : decode prog_1_method_2_code 16 = .ok (.aload_n 0, 1) := by decide +kernel
theorem d_X_place_17 : decode prog_1_method_2_code 17 = .ok (.getfield 10, 3) := by decide +kernel
theorem d_X_place_20 : decode prog_1_method_2_code 20 = .ok (.getfield 61, 3) := by decide +kernel
theorem d_X_place_23 : decode prog_1_method_2_code 23 = .ok (.bipush 6, 2) := by decide +kernel
theorem d_X_place_25 : decode prog_1_method_2_code 25 = .ok (.if_icmp .lt 9, 3) := by decide +kernel
theorem d_X_place_28 : decode prog_1_method_2_code 28 = .ok (.aload_n 0, 1) := by decide +kernel
theorem d_X_place_29 : decode prog_1_method_2_code 29 = .ok (.iconst 4, 1) := by decide +kernel
theorem d_X_place_30 : decode prog_1_method_2_code 30 = .ok (.invokevirtual 57, 3) := by decide +kernel
theorem d_X_place_33 : decode prog_1_method_2_code 33 = .ok (.ireturn, 1) := by decide +kernel
theorem d_X_place_34 : decode prog_1_method_2_code 34 = .ok (.aload_n 0, 1) := by decide +kernel
theorem d_X_place_35 : decode prog_1_method_2_code 35 = .ok (.getfield 10, 3) := by decide +kernel
theorem d_X_place_38 : decode prog_1_method_2_code 38 = .ok (.getfield 65, 3) := by decide +kernel
theorem d_X_place_41 : decode prog_1_method_2_code 41 = .ok (.aload_n 0, 1) := by decide +kernel
theorem d_X_place_42 : decode prog_1_method_2_code 42 = .ok (.getfield 10, 3) := by decide +kernel
theorem d_X_place_45 : decode prog_1_method_2_code 45 = .ok (.getfield 61, 3) := by decide +kernel
theorem d_X_place_48 : decode prog_1_method_2_code 48 = .ok (.iload_n 1, 1) := by decide +kernel
theorem d_X_place_49 : decode prog_1_method_2_code 49 = .ok (.iastore, 1) := by decide +kernel
theorem d_X_place_50 : decode prog_1_method_2_code 50 = .ok (.aload_n 0, 1) := by decide +kernel
theorem d_X_place_51 : decode prog_1_method_2_code 51 = .ok (.getfield 10, 3) := by decide +kernel
theorem d_X_place_54 : decode prog_1_method_2_code 54 = .ok (.dup, 1) := by decide +kernel
theorem d_X_place_55 : decode prog_1_method_2_code 55 = .ok (.getfield 61, 3) := by decide +kernel
theorem d_X_place_58 : decode prog_1_method_2_code 58 = .ok (.iconst 1, 1) := by decide +kernel
theorem d_X_place_59 : decode prog_1_method_2_code 59 = .ok (.iadd, 1) := by decide +kernel
theorem d_X_place_60 : decode prog_1_method_2_code 60 = .ok (.putfield 61, 3) := by decide +kernel
theorem d_X_place_63 : decode prog_1_method_2_code 63 = .ok (.aload_n 0, 1) := by decide +kernel
theorem d_X_place_64 : decode prog_1_method_2_code 64 = .ok (.getfield 10, 3) := by decide +kernel
theorem d_X_place_67 : decode prog_1_method_2_code 67 = .ok (.getfield 61, 3) := by decide +kernel
theorem d_X_place_70 : decode prog_1_method_2_code 70 = .ok (.iconst 1, 1) := by decide +kernel
theorem d_X_place_71 : decode prog_1_method_2_code 71 = .ok (.isub, 1) := by decide +kernel
theorem d_X_place_72 : decode prog_1_method_2_code 72 = .ok (.ireturn, 1) := by decide +kernel
def w_X_place (K : Int32 → sm_Mem → Prop) (p0 : Int32) (μ : sm_Mem) : Prop := w_X_within (fun r2 μ1 => if r2 = 0 then w_X_error (fun r11 μ10 => K r11 μ10) 1 μ1 else (if (μ1 1 11) < 6 then (vp_in (μ1 1 11) 6 ∧ ∀ μ6 : sm_Mem, μ6 = sm_st μ1 2 ((μ1 1 11).toNatClampNeg) p0 → ∀ μ7 : sm_Mem, μ7 = sm_st μ6 1 11 ((μ6 1 11) + 1) → K ((μ7 1 11) - 1) μ7) else w_X_error (fun r9 μ8 => K r9 μ8) 4 μ1)) p0 0 9 μ
set_option maxHeartbeats 4000000 in
set_option maxRecDepth 100000 in
theorem P_X_place (l : Launch) {K : Int32 → sm_Mem → Prop} {p0 : Int32} {μ : sm_Mem} (h : w_X_place K p0 μ) : sm_MI l ⟨"SnowMoney", "place", "(I)I"⟩ prog_1_method_2_code 2 (some .int) { frames := 2, cells := 0, slots := 0, locals := 43 } [sm_R 0, sm_I p0] μ K := by
  refine sm_ofI (by decide +kernel) (fun _ => Nat.le_of_ble_eq_true rfl) ?_
  intro p e s m args below meth c A Q G C hR
  refine sr_iload_n C 1 rfl rfl d_X_place_0 ?_
  refine sr_iconst C (v := 0) d_X_place_1 (by decide) ?_
  refine sr_bipush C (v := 9) d_X_place_2 (by decide) ?_
  refine sr_callSI C [sm_I _, sm_I _, sm_I _] (P_X_within l h) ok_0 rfl rfl rfl ⟨Nat.le_of_ble_eq_true rfl, Nat.le_of_ble_eq_true rfl⟩ (Nat.le_of_ble_eq_true rfl) ⟨Nat.zero_le _, Nat.zero_le _⟩ d_X_place_4 (fun r2 μ1 h => ?_)
  refine sr_if_ne C (tgt := 16) d_X_place_7 (by decide) (fun c3 => ?_) (fun c3 => ?_)
  · replace h := Eq.mp (if_neg c3) h
    refine sr_aload_n C 0 rfl rfl d_X_place_16 ?_
    refine sr_getR C sm_F6 0 q_4 sm_l0 (r := 1) rfl (by decide) d_X_place_17 ?_
    refine sr_getI C sm_F0 11 q_5 sm_l1 rfl (by decide) d_X_place_20 ?_
    refine sr_bipush C (v := 6) d_X_place_23 (by decide) ?_
    refine sr_icmp_lt C (tgt := 34) d_X_place_25 (by decide) (fun c4 => ?_) (fun c4 => ?_)
    · replace h := Eq.mp (if_pos c4) h
      refine sr_aload_n C 0 rfl rfl d_X_place_34 ?_
      refine sr_getR C sm_F6 0 q_4 sm_l0 (r := 1) rfl (by decide) d_X_place_35 ?_
      refine sr_getR C sm_F0 0 q_6 sm_l1 (r := 2) rfl (by decide) d_X_place_38 ?_
      refine sr_aload_n C 0 rfl rfl d_X_place_41 ?_
      refine sr_getR C sm_F6 0 q_4 sm_l0 (r := 1) rfl (by decide) d_X_place_42 ?_
      refine sr_getI C sm_F0 11 q_5 sm_l1 rfl (by decide) d_X_place_45 ?_
      refine sr_iload_n C 1 rfl rfl d_X_place_48 ?_
      obtain ⟨g5, h⟩ := h
      refine sr_iast C sm_l2 g5 d_X_place_49 ?_
      replace h := h _ rfl
      refine sr_aload_n C 0 rfl rfl d_X_place_50 ?_
      refine sr_getR C sm_F6 0 q_4 sm_l0 (r := 1) rfl (by decide) d_X_place_51 ?_
      refine sr_dup C rfl d_X_place_54 ?_
      refine sr_getI C sm_F0 11 q_5 sm_l1 rfl (by decide) d_X_place_55 ?_
      refine sr_iconst C (v := 1) d_X_place_58 (by decide) ?_
      refine sr_iadd C d_X_place_59 ?_
      refine sr_putI C sm_F0 11 q_5 sm_l1 rfl rfl (by decide) rfl d_X_place_60 ?_
      replace h := h _ rfl
      refine sr_aload_n C 0 rfl rfl d_X_place_63 ?_
      refine sr_getR C sm_F6 0 q_4 sm_l0 (r := 1) rfl (by decide) d_X_place_64 ?_
      refine sr_getI C sm_F0 11 q_5 sm_l1 rfl (by decide) d_X_place_67 ?_
      refine sr_iconst C (v := 1) d_X_place_70 (by decide) ?_
      refine sr_isub C d_X_place_71 ?_
      exact hR _ _ _ _ d_X_place_72 rfl h
    · replace h := Eq.mp (if_neg c4) h
      refine sr_aload_n C 0 rfl rfl d_X_place_28 ?_
      refine sr_iconst C (v := 4) d_X_place_29 (by decide) ?_
      refine sr_callVI C [sm_I _] (P_X_error l h) ok_1 sm_l0 rfl rfl rfl rfl ⟨Nat.le_of_ble_eq_true rfl, Nat.le_of_ble_eq_true rfl⟩ (Nat.le_of_ble_eq_true rfl) ⟨Nat.zero_le _, Nat.zero_le _⟩ d_X_place_30 (fun r9 μ8 h => ?_)
      exact hR _ _ _ _ d_X_place_33 rfl h
  · replace h := Eq.mp (if_pos c3) h
    refine sr_aload_n C 0 rfl rfl d_X_place_10 ?_
    refine sr_iconst C (v := 1) d_X_place_11 (by decide) ?_
    refine sr_callVI C [sm_I _] (P_X_error l h) ok_1 sm_l0 rfl rfl rfl rfl ⟨Nat.le_of_ble_eq_true rfl, Nat.le_of_ble_eq_true rfl⟩ (Nat.le_of_ble_eq_true rfl) ⟨Nat.zero_le _, Nat.zero_le _⟩ d_X_place_12 (fun r11 μ10 h => ?_)
    exact hR _ _ _ _ d_X_place_15 rfl h
theorem d_X_warm_0 : decode prog_1_method_3_code 0 = .ok (.aload_n 0, 1) := by decide +kernel
theorem d_X_warm_1 : decode prog_1_method_3_code 1 = .ok (.getfield 10, 3) := by decide +kernel
theorem d_X_warm_4 : decode prog_1_method_3_code 4 = .ok (.iload_n 1, 1) := by decide +kernel
theorem d_X_warm_5 : decode prog_1_method_3_code 5 = .ok (.invokevirtual 68, 3) := by decide +kernel
theorem d_X_warm_8 : decode prog_1_method_3_code 8 = .ok (.ifCond .eq 13, 3) := by decide +kernel
theorem d_X_warm_11 : decode prog_1_method_3_code 11 = .ok (.iload_n 2, 1) := by decide +kernel
theorem d_X_warm_12 : decode prog_1_method_3_code 12 = .ok (.iconst 0, 1) := by decide +kernel
theorem d_X_warm_13 : decode prog_1_method_3_code 13 = .ok (.bipush 9, 2) := by decide +kernel
theorem d_X_warm_15 : decode prog_1_method_3_code 15 = .ok (.invokestatic 53, 3) := by decide +kernel
theorem d_X_warm_18 : decode prog_1_method_3_code 18 = .ok (.ifCond .ne 9, 3) := by decide +kernel
theorem d_X_warm_21 : decode prog_1_method_3_code 21 = .ok (.aload_n 0, 1) := by decide +kernel
theorem d_X_warm_22 : decode prog_1_method_3_code 22 = .ok (.iconst 1, 1) := by decide +kernel
theorem d_X_warm_23 : decode prog_1_method_3_code 23 = .ok (.invokevirtual 57, 3) := by decide +kernel
theorem d_X_warm_26 : decode prog_1_method_3_code 26 = .ok (.ireturn, 1) := by decide +kernel
theorem d_X_warm_27 : decode prog_1_method_3_code 27 = .ok (.aload_n 0, 1) := by decide +kernel
theorem d_X_warm_28 : decode prog_1_method_3_code 28 = .ok (.getfield 10, 3) := by decide +kernel
theorem d_X_warm_31 : decode prog_1_method_3_code 31 = .ok (.getfield 65, 3) := by decide +kernel
theorem d_X_warm_34 : decode prog_1_method_3_code 34 = .ok (.iload_n 1, 1) := by decide +kernel
theorem d_X_warm_35 : decode prog_1_method_3_code 35 = .ok (.iaload, 1) := by decide +kernel
theorem d_X_warm_36 : decode prog_1_method_3_code 36 = .ok (.istore_n 3, 1) := by decide +kernel
theorem d_X_warm_37 : decode prog_1_method_3_code 37 = .ok (.aload_n 0, 1) := by decide +kernel
theorem d_X_warm_38 : decode prog_1_method_3_code 38 = .ok (.getfield 10, 3) := by decide +kernel
theorem d_X_warm_41 : decode prog_1_method_3_code 41 = .ok (.getfield 65, 3) := by decide +kernel
theorem d_X_warm_44 : decode prog_1_method_3_code 44 = .ok (.iload_n 1, 1) := by decide +kernel
theorem d_X_warm_45 : decode prog_1_method_3_code 45 = .ok (.iload_n 2, 1) := by decide +kernel
theorem d_X_warm_46 : decode prog_1_method_3_code 46 = .ok (.iastore, 1) := by decide +kernel
theorem d_X_warm_47 : decode prog_1_method_3_code 47 = .ok (.iload_n 3, 1) := by decide +kernel
theorem d_X_warm_48 : decode prog_1_method_3_code 48 = .ok (.ireturn, 1) := by decide +kernel
def w_X_warm_21 (K : Int32 → sm_Mem → Prop) (p0 : Int32) (p1 : Int32) (μ : sm_Mem) : Prop := w_X_error (fun r5 μ4 => K r5 μ4) 1 μ
def w_X_warm (K : Int32 → sm_Mem → Prop) (p0 : Int32) (p1 : Int32) (μ : sm_Mem) : Prop := w_D_hasPlace (fun r2 μ1 => if r2 = 0 then w_X_warm_21 K p0 p1 μ1 else (w_X_within (fun r7 μ6 => if r7 = 0 then w_X_warm_21 K p0 p1 μ6 else (vp_in p0 6 ∧ ∀ v10 : Int32, v10 = (μ6 2 p0.toNatClampNeg) → vp_in p0 6 ∧ ∀ μ12 : sm_Mem, μ12 = sm_st μ6 2 (p0.toNatClampNeg) p1 → K v10 μ12)) p1 0 9 μ1)) p0 μ
set_option maxHeartbeats 4000000 in
set_option maxRecDepth 100000 in
theorem P_X_warm (l : Launch) {K : Int32 → sm_Mem → Prop} {p0 : Int32} {p1 : Int32} {μ : sm_Mem} (h : w_X_warm K p0 p1 μ) : sm_MI l ⟨"SnowMoney", "warm", "(II)I"⟩ prog_1_method_3_code 4 (some .int) { frames := 2, cells := 0, slots := 0, locals := 43 } [sm_R 0, sm_I p0, sm_I p1] μ K := by
  refine sm_ofI (by decide +kernel) (fun _ => Nat.le_of_ble_eq_true rfl) ?_
  intro p e s m args below meth c A Q G C hR
  have B21 : ∀ (μ : sm_Mem), w_X_warm_21 K p0 p1 μ → sm_W p l e { frames := 2, cells := 0, slots := 0, locals := 43 } s m args below meth c A Q G 4 0 0 21 [] [(0, sm_R 0)] μ := by
    intro μ h
    refine sr_aload_n C 0 rfl rfl d_X_warm_21 ?_
    refine sr_iconst C (v := 1) d_X_warm_22 (by decide) ?_
    refine sr_callVI C [sm_I _] (P_X_error l h) ok_1 sm_l0 rfl rfl rfl rfl ⟨Nat.le_of_ble_eq_true rfl, Nat.le_of_ble_eq_true rfl⟩ (Nat.le_of_ble_eq_true rfl) ⟨Nat.zero_le _, Nat.zero_le _⟩ d_X_warm_23 (fun r5 μ4 h => ?_)
    exact hR _ _ _ _ d_X_warm_26 rfl h
  refine sr_aload_n C 0 rfl rfl d_X_warm_0 ?_
  refine sr_getR C sm_F6 0 q_4 sm_l0 (r := 1) rfl (by decide) d_X_warm_1 ?_
  refine sr_iload_n C 1 rfl rfl d_X_warm_4 ?_
  refine sr_callVI C [sm_I _] (P_D_hasPlace l h) ok_2 sm_l1 rfl rfl rfl rfl ⟨Nat.le_of_ble_eq_true rfl, Nat.le_of_ble_eq_true rfl⟩ (Nat.le_of_ble_eq_true rfl) ⟨Nat.zero_le _, Nat.zero_le _⟩ d_X_warm_5 (fun r2 μ1 h => ?_)
  refine sr_if_eq C (tgt := 21) d_X_warm_8 (by decide) (fun c3 => ?_) (fun c3 => ?_)
  · replace h := Eq.mp (if_pos c3) h
    refine sr_mask C [0] rfl ?_
    exact B21 _ h
  · replace h := Eq.mp (if_neg c3) h
    refine sr_iload_n C 2 rfl rfl d_X_warm_11 ?_
    refine sr_iconst C (v := 0) d_X_warm_12 (by decide) ?_
    refine sr_bipush C (v := 9) d_X_warm_13 (by decide) ?_
    refine sr_callSI C [sm_I _, sm_I _, sm_I _] (P_X_within l h) ok_0 rfl rfl rfl ⟨Nat.le_of_ble_eq_true rfl, Nat.le_of_ble_eq_true rfl⟩ (Nat.le_of_ble_eq_true rfl) ⟨Nat.zero_le _, Nat.zero_le _⟩ d_X_warm_15 (fun r7 μ6 h => ?_)
    refine sr_if_ne C (tgt := 27) d_X_warm_18 (by decide) (fun c8 => ?_) (fun c8 => ?_)
    · replace h := Eq.mp (if_neg c8) h
      refine sr_aload_n C 0 rfl rfl d_X_warm_27 ?_
      refine sr_getR C sm_F6 0 q_4 sm_l0 (r := 1) rfl (by decide) d_X_warm_28 ?_
      refine sr_getR C sm_F0 0 q_6 sm_l1 (r := 2) rfl (by decide) d_X_warm_31 ?_
      refine sr_iload_n C 1 rfl rfl d_X_warm_34 ?_
      obtain ⟨g9, h⟩ := h
      refine sr_iald C sm_l2 g9 d_X_warm_35 ?_
      replace h := h _ rfl
      refine sr_istore_n C rfl (by decide) d_X_warm_36 ?_
      refine sr_aload_n C 1 rfl rfl d_X_warm_37 ?_
      refine sr_getR C sm_F6 0 q_4 sm_l0 (r := 1) rfl (by decide) d_X_warm_38 ?_
      refine sr_getR C sm_F0 0 q_6 sm_l1 (r := 2) rfl (by decide) d_X_warm_41 ?_
      refine sr_iload_n C 2 rfl rfl d_X_warm_44 ?_
      refine sr_iload_n C 3 rfl rfl d_X_warm_45 ?_
      obtain ⟨g11, h⟩ := h
      refine sr_iast C sm_l2 g11 d_X_warm_46 ?_
      replace h := h _ rfl
      refine sr_iload_n C 0 rfl rfl d_X_warm_47 ?_
      exact hR _ _ _ _ d_X_warm_48 rfl h
    · replace h := Eq.mp (if_pos c8) h
      refine sr_mask C [0] rfl ?_
      exact B21 _ h
theorem d_X_ofPlace_0 : decode prog_1_method_4_code 0 = .ok (.aload_n 0, 1) := by decide +kernel
theorem d_X_ofPlace_1 : decode prog_1_method_4_code 1 = .ok (.getfield 10, 3) := by decide +kernel
theorem d_X_ofPlace_4 : decode prog_1_method_4_code 4 = .ok (.iload_n 1, 1) := by decide +kernel
theorem d_X_ofPlace_5 : decode prog_1_method_4_code 5 = .ok (.invokevirtual 68, 3) := by decide +kernel
theorem d_X_ofPlace_8 : decode prog_1_method_4_code 8 = .ok (.ifCond .eq 12, 3) := by decide +kernel
theorem d_X_ofPlace_11 : decode prog_1_method_4_code 11 = .ok (.iload_n 2, 1) := by decide +kernel
theorem d_X_ofPlace_12 : decode prog_1_method_4_code 12 = .ok (.iconst 0, 1) := by decide +kernel
theorem d_X_ofPlace_13 : decode prog_1_method_4_code 13 = .ok (.iconst 1, 1) := by decide +kernel
theorem d_X_ofPlace_14 : decode prog_1_method_4_code 14 = .ok (.invokestatic 53, 3) := by decide +kernel
theorem d_X_ofPlace_17 : decode prog_1_method_4_code 17 = .ok (.ifCond .ne 9, 3) := by decide +kernel
theorem d_X_ofPlace_20 : decode prog_1_method_4_code 20 = .ok (.aload_n 0, 1) := by decide +kernel
theorem d_X_ofPlace_21 : decode prog_1_method_4_code 21 = .ok (.iconst 1, 1) := by decide +kernel
theorem d_X_ofPlace_22 : decode prog_1_method_4_code 22 = .ok (.invokevirtual 57, 3) := by decide +kernel
theorem d_X_ofPlace_25 : decode prog_1_method_4_code 25 = .ok (.ireturn, 1) := by decide +kernel
theorem d_X_ofPlace_26 : decode prog_1_method_4_code 26 = .ok (.iload_n 2, 1) := by decide +kernel
theorem d_X_ofPlace_27 : decode prog_1_method_4_code 27 = .ok (.ifCond .ne 15, 3) := by decide +kernel
theorem d_X_ofPlace_30 : decode prog_1_method_4_code 30 = .ok (.aload_n 0, 1) := by decide +kernel
theorem d_X_ofPlace_31 : decode prog_1_method_4_code 31 = .ok (.getfield 10, 3) := by decide +kernel
theorem d_X_ofPlace_34 : decode prog_1_method_4_code 34 = .ok (.getfield 65, 3) := by decide +kernel
theorem d_X_ofPlace_37 : decode prog_1_method_4_code 37 = .ok (.iload_n 1, 1) := by decide +kernel
theorem d_X_ofPlace_38 : decode prog_1_method_4_code 38 = .ok (.iaload, 1) := by decide +kernel
theorem d_X_ofPlace_39 : decode prog_1_method_4_code 39 = .ok (.goto 11, 3) := by decide +kernel
theorem d_X_ofPlace_42 : decode prog_1_method_4_code 42 = .ok (.aload_n 0, 1) := by decide +kernel
theorem d_X_ofPlace_43 : decode prog_1_method_4_code 43 = .ok (.getfield 10, 3) := by decide +kernel
theorem d_X_ofPlace_46 : decode prog_1_method_4_code 46 = .ok (.iload_n 1, 1) := by decide +kernel
theorem d_X_ofPlace_47 : decode prog_1_method_4_code 47 = .ok (.invokevirtual 72, 3) := by decide +kernel
theorem d_X_ofPlace_50 : decode prog_1_method_4_code 50 = .ok (.ireturn, 1) := by decide +kernel
def w_X_ofPlace_20 (K : Int32 → sm_Mem → Prop) (p0 : Int32) (p1 : Int32) (μ : sm_Mem) : Prop := w_X_error (fun r5 μ4 => K r5 μ4) 1 μ
def w_X_ofPlace (K : Int32 → sm_Mem → Prop) (p0 : Int32) (p1 : Int32) (μ : sm_Mem) : Prop := w_D_hasPlace (fun r2 μ1 => if r2 = 0 then w_X_ofPlace_20 K p0 p1 μ1 else (w_X_within (fun r7 μ6 => if r7 = 0 then w_X_ofPlace_20 K p0 p1 μ6 else (if p1 = 0 then (vp_in p0 6 ∧ K (μ6 2 p0.toNatClampNeg) μ6) else w_D_notesAt (fun r11 μ10 => K r11 μ10) p0 μ6)) p1 0 1 μ1)) p0 μ
set_option maxHeartbeats 4000000 in
set_option maxRecDepth 100000 in
theorem P_X_ofPlace (l : Launch) {K : Int32 → sm_Mem → Prop} {p0 : Int32} {p1 : Int32} {μ : sm_Mem} (h : w_X_ofPlace K p0 p1 μ) : sm_MI l ⟨"SnowMoney", "ofPlace", "(II)I"⟩ prog_1_method_4_code 3 (some .int) { frames := 2, cells := 0, slots := 0, locals := 43 } [sm_R 0, sm_I p0, sm_I p1] μ K := by
  refine sm_ofI (by decide +kernel) (fun _ => Nat.le_of_ble_eq_true rfl) ?_
  intro p e s m args below meth c A Q G C hR
  have B20 : ∀ (μ : sm_Mem), w_X_ofPlace_20 K p0 p1 μ → sm_W p l e { frames := 2, cells := 0, slots := 0, locals := 43 } s m args below meth c A Q G 3 0 0 20 [] [(0, sm_R 0)] μ := by
    intro μ h
    refine sr_aload_n C 0 rfl rfl d_X_ofPlace_20 ?_
    refine sr_iconst C (v := 1) d_X_ofPlace_21 (by decide) ?_
    refine sr_callVI C [sm_I _] (P_X_error l h) ok_1 sm_l0 rfl rfl rfl rfl ⟨Nat.le_of_ble_eq_true rfl, Nat.le_of_ble_eq_true rfl⟩ (Nat.le_of_ble_eq_true rfl) ⟨Nat.zero_le _, Nat.zero_le _⟩ d_X_ofPlace_22 (fun r5 μ4 h => ?_)
    exact hR _ _ _ _ d_X_ofPlace_25 rfl h
  refine sr_aload_n C 0 rfl rfl d_X_ofPlace_0 ?_
  refine sr_getR C sm_F6 0 q_4 sm_l0 (r := 1) rfl (by decide) d_X_ofPlace_1 ?_
  refine sr_iload_n C 1 rfl rfl d_X_ofPlace_4 ?_
  refine sr_callVI C [sm_I _] (P_D_hasPlace l h) ok_2 sm_l1 rfl rfl rfl rfl ⟨Nat.le_of_ble_eq_true rfl, Nat.le_of_ble_eq_true rfl⟩ (Nat.le_of_ble_eq_true rfl) ⟨Nat.zero_le _, Nat.zero_le _⟩ d_X_ofPlace_5 (fun r2 μ1 h => ?_)
  refine sr_if_eq C (tgt := 20) d_X_ofPlace_8 (by decide) (fun c3 => ?_) (fun c3 => ?_)
  · replace h := Eq.mp (if_pos c3) h
    refine sr_mask C [0] rfl ?_
    exact B20 _ h
  · replace h := Eq.mp (if_neg c3) h
    refine sr_iload_n C 2 rfl rfl d_X_ofPlace_11 ?_
    refine sr_iconst C (v := 0) d_X_ofPlace_12 (by decide) ?_
    refine sr_iconst C (v := 1) d_X_ofPlace_13 (by decide) ?_
    refine sr_callSI C [sm_I _, sm_I _, sm_I _] (P_X_within l h) ok_0 rfl rfl rfl ⟨Nat.le_of_ble_eq_true rfl, Nat.le_of_ble_eq_true rfl⟩ (Nat.le_of_ble_eq_true rfl) ⟨Nat.zero_le _, Nat.zero_le _⟩ d_X_ofPlace_14 (fun r7 μ6 h => ?_)
    refine sr_if_ne C (tgt := 26) d_X_ofPlace_17 (by decide) (fun c8 => ?_) (fun c8 => ?_)
    · replace h := Eq.mp (if_neg c8) h
      refine sr_iload_n C 2 rfl rfl d_X_ofPlace_26 ?_
      refine sr_if_ne C (tgt := 42) d_X_ofPlace_27 (by decide) (fun c9 => ?_) (fun c9 => ?_)
      · replace h := Eq.mp (if_neg c9) h
        refine sr_aload_n C 0 rfl rfl d_X_ofPlace_42 ?_
        refine sr_getR C sm_F6 0 q_4 sm_l0 (r := 1) rfl (by decide) d_X_ofPlace_43 ?_
        refine sr_iload_n C 1 rfl rfl d_X_ofPlace_46 ?_
        refine sr_callVI C [sm_I _] (P_D_notesAt l h) ok_3 sm_l1 rfl rfl rfl rfl ⟨Nat.le_of_ble_eq_true rfl, Nat.le_of_ble_eq_true rfl⟩ (Nat.le_of_ble_eq_true rfl) ⟨Nat.zero_le _, Nat.zero_le _⟩ d_X_ofPlace_47 (fun r11 μ10 h => ?_)
        exact hR _ _ _ _ d_X_ofPlace_50 rfl h
      · replace h := Eq.mp (if_pos c9) h
        refine sr_aload_n C 0 rfl rfl d_X_ofPlace_30 ?_
        refine sr_getR C sm_F6 0 q_4 sm_l0 (r := 1) rfl (by decide) d_X_ofPlace_31 ?_
        refine sr_getR C sm_F0 0 q_6 sm_l1 (r := 2) rfl (by decide) d_X_ofPlace_34 ?_
        refine sr_iload_n C 1 rfl rfl d_X_ofPlace_37 ?_
        obtain ⟨g12, h⟩ := h
        refine sr_iald C sm_l2 g12 d_X_ofPlace_38 ?_
        refine sr_goto C (tgt := 50) (by decide) d_X_ofPlace_39 ?_
        exact hR _ _ _ _ d_X_ofPlace_50 rfl h
    · replace h := Eq.mp (if_pos c8) h
      refine sr_mask C [0] rfl ?_
      exact B20 _ h
theorem d_X_road_0 : decode prog_1_method_5_code 0 = .ok (.aload_n 0, 1) := by decide +kernel
theorem d_X_road_1 : decode prog_1_method_5_code 1 = .ok (.getfield 10, 3) := by decide +kernel
theorem d_X_road_4 : decode prog_1_method_5_code 4 = .ok (.iload_n 1, 1) := by decide +kernel
theorem d_X_road_5 : decode prog_1_method_5_code 5 = .ok (.invokevirtual 68, 3) := by decide +kernel
theorem d_X_road_8 : decode prog_1_method_5_code 8 = .ok (.ifCond .eq 29, 3) := by decide +kernel
theorem d_X_road_11 : decode prog_1_method_5_code 11 = .ok (.aload_n 0, 1) := by decide +kernel
theorem d_X_road_12 : decode prog_1_method_5_code 12 = .ok (.getfield 10, 3) := by decide +kernel
theorem d_X_road_15 : decode prog_1_method_5_code 15 = .ok (.iload_n 2, 1) := by decide +kernel
theorem d_X_road_16 : decode prog_1_method_5_code 16 = .ok (.invokevirtual 68, 3) := by decide +kernel
theorem d_X_road_19 : decode prog_1_method_5_code 19 = .ok (.ifCond .eq 18, 3) := by decide +kernel
theorem d_X_road_22 : decode prog_1_method_5_code 22 = .ok (.iload_n 1, 1) := by decide +kernel
theorem d_X_road_23 : decode prog_1_method_5_code 23 = .ok (.iload_n 2, 1) := by decide +kernel
theorem d_X_road_24 : decode prog_1_method_5_code 24 = .ok (.if_icmp .eq 13, 3) := by decide +kernel
theorem d_X_road_27 : decode prog_1_method_5_code 27 = .ok (.iload_n 3, 1) := by decide +kernel
theorem d_X_road_28 : decode prog_1_method_5_code 28 = .ok (.iconst 0, 1) := by decide +kernel
theorem d_X_road_29 : decode prog_1_method_5_code 29 = .ok (.bipush 9, 2) := by decide +kernel
theorem d_X_road_31 : decode prog_1_method_5_code 31 = .ok (.invokestatic 53, 3) := by decide +kernel
theorem d_X_road_34 : decode prog_1_method_5_code 34 = .ok (.ifCond .ne 9, 3) := by decide +kernel
theorem d_X_road_37 : decode prog_1_method_5_code 37 = .ok (.aload_n 0, 1) := by decide +kernel
theorem d_X_road_38 : decode prog_1_method_5_code 38 = .ok (.iconst 1, 1) := by decide +kernel
theorem d_X_road_39 : decode prog_1_method_5_code 39 = .ok (.invokevirtual 57, 3) := by decide +kernel
theorem d_X_road_42 : decode prog_1_method_5_code 42 = .ok (.ireturn, 1) := by decide +kernel
theorem d_X_road_43 : decode prog_1_method_5_code 43 = .ok (.aload_n 0, 1) := by decide +kernel
theorem d_X_road_44 : decode prog_1_method_5_code 44 = .ok (.getfield 10, 3) := by decide +kernel
theorem d_X_road_47 : decode prog_1_method_5_code 47 = .ok (.iload_n 1, 1) := by decide +kernel
theorem d_X_road_48 : decode prog_1_method_5_code 48 = .ok (.iload_n 2, 1) := by decide +kernel
theorem d_X_road_49 : decode prog_1_method_5_code 49 = .ok (.invokevirtual 75, 3) := by decide +kernel
theorem d_X_road_52 : decode prog_1_method_5_code 52 = .ok (.istore 4, 2) := by decide +kernel
theorem d_X_road_54 : decode prog_1_method_5_code 54 = .ok (.aload_n 0, 1) := by decide +kernel
theorem d_X_road_55 : decode prog_1_method_5_code 55 = .ok (.getfield 10, 3) := by decide +kernel
theorem d_X_road_58 : decode prog_1_method_5_code 58 = .ok (.iload_n 1, 1) := by decide +kernel
theorem d_X_road_59 : decode prog_1_method_5_code 59 = .ok (.iload_n 2, 1) := by decide +kernel
theorem d_X_road_60 : decode prog_1_method_5_code 60 = .ok (.iload_n 3, 1) := by decide +kernel
theorem d_X_road_61 : decode prog_1_method_5_code 61 = .ok (.invokevirtual 79, 3) := by decide +kernel
theorem d_X_road_64 : decode prog_1_method_5_code 64 = .ok (.iload 4, 2) := by decide +kernel
theorem d_X_road_66 : decode prog_1_method_5_code 66 = .ok (.ireturn, 1) := by decide +kernel
def w_X_road_37 (K : Int32 → sm_Mem → Prop) (p0 : Int32) (p1 : Int32) (p2 : Int32) (μ : sm_Mem) : Prop := w_X_error (fun r5 μ4 => K r5 μ4) 1 μ
def w_X_road (K : Int32 → sm_Mem → Prop) (p0 : Int32) (p1 : Int32) (p2 : Int32) (μ : sm_Mem) : Prop := w_D_hasPlace (fun r2 μ1 => if r2 = 0 then w_X_road_37 K p0 p1 p2 μ1 else w_D_hasPlace (fun r7 μ6 => if r7 = 0 then w_X_road_37 K p0 p1 p2 μ6 else (if p0 = p1 then w_X_road_37 K p0 p1 p2 μ6 else w_X_within (fun r11 μ10 => if r11 = 0 then w_X_road_37 K p0 p1 p2 μ10 else w_D_roadBetween (fun r14 μ13 => w_D_setRoad (fun μ15 => K r14 μ15) p0 p1 p2 μ13) p0 p1 μ10) p2 0 9 μ6)) p1 μ1) p0 μ
set_option maxHeartbeats 4000000 in
set_option maxRecDepth 100000 in
theorem P_X_road (l : Launch) {K : Int32 → sm_Mem → Prop} {p0 : Int32} {p1 : Int32} {p2 : Int32} {μ : sm_Mem} (h : w_X_road K p0 p1 p2 μ) : sm_MI l ⟨"SnowMoney", "road", "(III)I"⟩ prog_1_method_5_code 5 (some .int) { frames := 2, cells := 0, slots := 0, locals := 44 } [sm_R 0, sm_I p0, sm_I p1, sm_I p2] μ K := by
  refine sm_ofI (by decide +kernel) (fun _ => Nat.le_of_ble_eq_true rfl) ?_
  intro p e s m args below meth c A Q G C hR
  have B37 : ∀ (μ : sm_Mem), w_X_road_37 K p0 p1 p2 μ → sm_W p l e { frames := 2, cells := 0, slots := 0, locals := 44 } s m args below meth c A Q G 5 0 0 37 [] [(0, sm_R 0)] μ := by
    intro μ h
    refine sr_aload_n C 0 rfl rfl d_X_road_37 ?_
    refine sr_iconst C (v := 1) d_X_road_38 (by decide) ?_
    refine sr_callVI C [sm_I _] (P_X_error l h) ok_1 sm_l0 rfl rfl rfl rfl ⟨Nat.le_of_ble_eq_true rfl, Nat.le_of_ble_eq_true rfl⟩ (Nat.le_of_ble_eq_true rfl) ⟨Nat.zero_le _, Nat.zero_le _⟩ d_X_road_39 (fun r5 μ4 h => ?_)
    exact hR _ _ _ _ d_X_road_42 rfl h
  refine sr_aload_n C 0 rfl rfl d_X_road_0 ?_
  refine sr_getR C sm_F6 0 q_4 sm_l0 (r := 1) rfl (by decide) d_X_road_1 ?_
  refine sr_iload_n C 1 rfl rfl d_X_road_4 ?_
  refine sr_callVI C [sm_I _] (P_D_hasPlace l h) ok_2 sm_l1 rfl rfl rfl rfl ⟨Nat.le_of_ble_eq_true rfl, Nat.le_of_ble_eq_true rfl⟩ (Nat.le_of_ble_eq_true rfl) ⟨Nat.zero_le _, Nat.zero_le _⟩ d_X_road_5 (fun r2 μ1 h => ?_)
  refine sr_if_eq C (tgt := 37) d_X_road_8 (by decide) (fun c3 => ?_) (fun c3 => ?_)
  · replace h := Eq.mp (if_pos c3) h
    refine sr_mask C [0] rfl ?_
    exact B37 _ h
  · replace h := Eq.mp (if_neg c3) h
    refine sr_aload_n C 0 rfl rfl d_X_road_11 ?_
    refine sr_getR C sm_F6 0 q_4 sm_l0 (r := 1) rfl (by decide) d_X_road_12 ?_
    refine sr_iload_n C 2 rfl rfl d_X_road_15 ?_
    refine sr_callVI C [sm_I _] (P_D_hasPlace l h) ok_2 sm_l1 rfl rfl rfl rfl ⟨Nat.le_of_ble_eq_true rfl, Nat.le_of_ble_eq_true rfl⟩ (Nat.le_of_ble_eq_true rfl) ⟨Nat.zero_le _, Nat.zero_le _⟩ d_X_road_16 (fun r7 μ6 h => ?_)
    refine sr_if_eq C (tgt := 37) d_X_road_19 (by decide) (fun c8 => ?_) (fun c8 => ?_)
    · replace h := Eq.mp (if_pos c8) h
      refine sr_mask C [0] rfl ?_
      exact B37 _ h
    · replace h := Eq.mp (if_neg c8) h
      refine sr_iload_n C 1 rfl rfl d_X_road_22 ?_
      refine sr_iload_n C 2 rfl rfl d_X_road_23 ?_
      refine sr_icmp_eq C (tgt := 37) d_X_road_24 (by decide) (fun c9 => ?_) (fun c9 => ?_)
      · replace h := Eq.mp (if_pos c9) h
        refine sr_mask C [0] rfl ?_
        exact B37 _ h
      · replace h := Eq.mp (if_neg c9) h
        refine sr_iload_n C 3 rfl rfl d_X_road_27 ?_
        refine sr_iconst C (v := 0) d_X_road_28 (by decide) ?_
        refine sr_bipush C (v := 9) d_X_road_29 (by decide) ?_
        refine sr_callSI C [sm_I _, sm_I _, sm_I _] (P_X_within l h) ok_0 rfl rfl rfl ⟨Nat.le_of_ble_eq_true rfl, Nat.le_of_ble_eq_true rfl⟩ (Nat.le_of_ble_eq_true rfl) ⟨Nat.zero_le _, Nat.zero_le _⟩ d_X_road_31 (fun r11 μ10 h => ?_)
        refine sr_if_ne C (tgt := 43) d_X_road_34 (by decide) (fun c12 => ?_) (fun c12 => ?_)
        · replace h := Eq.mp (if_neg c12) h
          refine sr_aload_n C 0 rfl rfl d_X_road_43 ?_
          refine sr_getR C sm_F6 0 q_4 sm_l0 (r := 1) rfl (by decide) d_X_road_44 ?_
          refine sr_iload_n C 1 rfl rfl d_X_road_47 ?_
          refine sr_iload_n C 2 rfl rfl d_X_road_48 ?_
          refine sr_callVI C [sm_I _, sm_I _] (P_D_roadBetween l h) ok_4 sm_l1 rfl rfl rfl rfl ⟨Nat.le_of_ble_eq_true rfl, Nat.le_of_ble_eq_true rfl⟩ (Nat.le_of_ble_eq_true rfl) ⟨Nat.zero_le _, Nat.zero_le _⟩ d_X_road_49 (fun r14 μ13 h => ?_)
          refine sr_istore C (by decide) d_X_road_52 ?_
          refine sr_aload_n C 1 rfl rfl d_X_road_54 ?_
          refine sr_getR C sm_F6 0 q_4 sm_l0 (r := 1) rfl (by decide) d_X_road_55 ?_
          refine sr_iload_n C 2 rfl rfl d_X_road_58 ?_
          refine sr_iload_n C 3 rfl rfl d_X_road_59 ?_
          refine sr_iload_n C 4 rfl rfl d_X_road_60 ?_
          refine sr_callVV C [sm_I _, sm_I _, sm_I _] (P_D_setRoad l h) ok_5 sm_l1 rfl rfl rfl rfl ⟨Nat.le_of_ble_eq_true rfl, Nat.le_of_ble_eq_true rfl⟩ (Nat.le_of_ble_eq_true rfl) ⟨Nat.zero_le _, Nat.zero_le _⟩ d_X_road_61 (fun μ15 h => ?_)
          refine sr_iload C 0 rfl d_X_road_64 ?_
          exact hR _ _ _ _ d_X_road_66 rfl h
        · replace h := Eq.mp (if_pos c12) h
          refine sr_mask C [0] rfl ?_
          exact B37 _ h
theorem d_X_note_0 : decode prog_1_method_6_code 0 = .ok (.iload_n 1, 1) := by decide +kernel
theorem d_X_note_1 : decode prog_1_method_6_code 1 = .ok (.iconst 0, 1) := by decide +kernel
theorem d_X_note_2 : decode prog_1_method_6_code 2 = .ok (.bipush 69, 2) := by decide +kernel
theorem d_X_note_4 : decode prog_1_method_6_code 4 = .ok (.invokestatic 53, 3) := by decide +kernel
theorem d_X_note_7 : decode prog_1_method_6_code 7 = .ok (.ifCond .eq 35, 3) := by decide +kernel
theorem d_X_note_10 : decode prog_1_method_6_code 10 = .ok (.iload_n 2, 1) := by decide +kernel
theorem d_X_note_11 : decode prog_1_method_6_code 11 = .ok (.iconst 1, 1) := by decide +kernel
theorem d_X_note_12 : decode prog_1_method_6_code 12 = .ok (.sipush 999, 3) := by decide +kernel
theorem d_X_note_15 : decode prog_1_method_6_code 15 = .ok (.invokestatic 53, 3) := by decide +kernel
theorem d_X_note_18 : decode prog_1_method_6_code 18 = .ok (.ifCond .eq 24, 3) := by decide +kernel
theorem d_X_note_21 : decode prog_1_method_6_code 21 = .ok (.aload_n 0, 1) := by decide +kernel
theorem d_X_note_22 : decode prog_1_method_6_code 22 = .ok (.getfield 10, 3) := by decide +kernel
theorem d_X_note_25 : decode prog_1_method_6_code 25 = .ok (.iload_n 3, 1) := by decide +kernel
theorem d_X_note_26 : decode prog_1_method_6_code 26 = .ok (.invokevirtual 68, 3) := by decide +kernel
theorem d_X_note_29 : decode prog_1_method_6_code 29 = .ok (.ifCond .eq 13, 3) := by decide +kernel
theorem d_X_note_32 : decode prog_1_method_6_code 32 = .ok (.iload 4, 2) := by decide +kernel
theorem d_X_note_34 : decode prog_1_method_6_code 34 = .ok (.iconst 0, 1) := by decide +kernel
theorem d_X_note_35 : decode prog_1_method_6_code 35 = .ok (.iconst 3, 1) := by decide +kernel
theorem d_X_note_36 : decode prog_1_method_6_code 36 = .ok (.invokestatic 53, 3) := by decide +kernel
theorem d_X_note_39 : decode prog_1_method_6_code 39 = .ok (.ifCond .ne 9, 3) := by decide +kernel
theorem d_X_note_42 : decode prog_1_method_6_code 42 = .ok (.aload_n 0, 1) := by decide +kernel
theorem d_X_note_43 : decode prog_1_method_6_code 43 = .ok (.iconst 1, 1) := by decide +kernel
theorem d_X_note_44 : decode prog_1_method_6_code 44 = .ok (.invokevirtual 57, 3) := by decide +kernel
theorem d_X_note_47 : decode prog_1_method_6_code 47 = .ok (.ireturn, 1) := by decide +kernel
theorem d_X_note_48 : decode prog_1_method_6_code 48 = .ok (.aload_n 0, 1) := by decide +kernel
theorem d_X_note_49 : decode prog_1_method_6_code 49 = .ok (.getfield 10, 3) := by decide +kernel
theorem d_X_note_52 : decode prog_1_method_6_code 52 = .ok (.getfield 83, 3) := by decide +kernel
theorem d_X_note_55 : decode prog_1_method_6_code 55 = .ok (.bipush 10, 2) := by decide +kernel
theorem d_X_note_57 : decode prog_1_method_6_code 57 = .ok (.if_icmp .lt 9, 3) := by decide +kernel
theorem d_X_note_60 : decode prog_1_method_6_code 60 = .ok (.aload_n 0, 1) := by decide +kernel
theorem d_X_note_61 : decode prog_1_method_6_code 61 = .ok (.iconst 4, 1) := by decide +kernel
theorem d_X_note_62 : decode prog_1_method_6_code 62 = .ok (.invokevirtual 57, 3) := by decide +kernel
theorem d_X_note_65 : decode prog_1_method_6_code 65 = .ok (.ireturn, 1) := by decide +kernel
theorem d_X_note_66 : decode prog_1_method_6_code 66 = .ok (.aload_n 0, 1) := by decide +kernel
theorem d_X_note_67 : decode prog_1_method_6_code 67 = .ok (.getfield 10, 3) := by decide +kernel
theorem d_X_note_70 : decode prog_1_method_6_code 70 = .ok (.getfield 83, 3) := by decide +kernel
theorem d_X_note_73 : decode prog_1_method_6_code 73 = .ok (.istore 5, 2) := by decide +kernel
theorem d_X_note_75 : decode prog_1_method_6_code 75 = .ok (.aload_n 0, 1) := by decide +kernel
theorem d_X_note_76 : decode prog_1_method_6_code 76 = .ok (.getfield 10, 3) := by decide +kernel
theorem d_X_note_79 : decode prog_1_method_6_code 79 = .ok (.getfield 86, 3) := by decide +kernel
theorem d_X_note_82 : decode prog_1_method_6_code 82 = .ok (.iload 5, 2) := by decide +kernel
theorem d_X_note_84 : decode prog_1_method_6_code 84 = .ok (.iload_n 1, 1) := by decide +kernel
theorem d_X_note_85 : decode prog_1_method_6_code 85 = .ok (.bipush 10, 2) := by decide +kernel
theorem d_X_note_87 : decode prog_1_method_6_code 87 = .ok (.idiv, 1) := by decide +kernel
theorem d_X_note_88 : decode prog_1_method_6_code 88 = .ok (.iastore, 1) := by decide +kernel
theorem d_X_note_89 : decode prog_1_method_6_code 89 = .ok (.aload_n 0, 1) := by decide +kernel
theorem d_X_note_90 : decode prog_1_method_6_code 90 = .ok (.getfield 10, 3) := by decide +kernel
theorem d_X_note_93 : decode prog_1_method_6_code 93 = .ok (.getfield 89, 3) := by decide +kernel
theorem d_X_note_96 : decode prog_1_method_6_code 96 = .ok (.iload 5, 2) := by decide +kernel
theorem d_X_note_98 : decode prog_1_method_6_code 98 = .ok (.iload_n 1, 1) := by decide +kernel
theorem d_X_note_99 : decode prog_1_method_6_code 99 = .ok (.bipush 10, 2) := by decide +kernel
theorem d_X_note_101 : decode prog_1_method_6_code 101 = .ok (.irem, 1) := by decide +kernel
theorem d_X_note_102 : decode prog_1_method_6_code 102 = .ok (.iastore, 1) := by decide +kernel
theorem d_X_note_103 : decode prog_1_method_6_code 103 = .ok (.aload_n 0, 1) := by decide +kernel
theorem d_X_note_104 : decode prog_1_method_6_code 104 = .ok (.getfield 10, 3) := by decide +kernel
theorem d_X_note_107 : decode prog_1_method_6_code 107 = .ok (.getfield 92, 3) := by decide +kernel
theorem d_X_note_110 : decode prog_1_method_6_code 110 = .ok (.iload 5, 2) := by decide +kernel
theorem d_X_note_112 : decode prog_1_method_6_code 112 = .ok (.iload_n 2, 1) := by decide +kernel
theorem d_X_note_113 : decode prog_1_method_6_code 113 = .ok (.iastore, 1) := by decide +kernel
theorem d_X_note_114 : decode prog_1_method_6_code 114 = .ok (.aload_n 0, 1) := by decide +kernel
theorem d_X_note_115 : decode prog_1_method_6_code 115 = .ok (.getfield 10, 3) := by decide +kernel
theorem d_X_note_118 : decode prog_1_method_6_code 118 = .ok (.getfield 95, 3) := by decide +kernel
theorem d_X_note_121 : decode prog_1_method_6_code 121 = .ok (.iload 5, 2) := by decide +kernel
theorem d_X_note_123 : decode prog_1_method_6_code 123 = .ok (.iload_n 3, 1) := by decide +kernel
theorem d_X_note_124 : decode prog_1_method_6_code 124 = .ok (.iastore, 1) := by decide +kernel
theorem d_X_note_125 : decode prog_1_method_6_code 125 = .ok (.aload_n 0, 1) := by decide +kernel
theorem d_X_note_126 : decode prog_1_method_6_code 126 = .ok (.getfield 10, 3) := by decide +kernel
theorem d_X_note_129 : decode prog_1_method_6_code 129 = .ok (.getfield 98, 3) := by decide +kernel
theorem d_X_note_132 : decode prog_1_method_6_code 132 = .ok (.iload 5, 2) := by decide +kernel
theorem d_X_note_134 : decode prog_1_method_6_code 134 = .ok (.iload 4, 2) := by decide +kernel
theorem d_X_note_136 : decode prog_1_method_6_code 136 = .ok (.iastore, 1) := by decide +kernel
theorem d_X_note_137 : decode prog_1_method_6_code 137 = .ok (.aload_n 0, 1) := by decide +kernel
theorem d_X_note_138 : decode prog_1_method_6_code 138 = .ok (.getfield 10, 3) := by decide +kernel
theorem d_X_note_141 : decode prog_1_method_6_code 141 = .ok (.dup, 1) := by decide +kernel
theorem d_X_note_142 : decode prog_1_method_6_code 142 = .ok (.getfield 83, 3) := by decide +kernel
theorem d_X_note_145 : decode prog_1_method_6_code 145 = .ok (.iconst 1, 1) := by decide +kernel
theorem d_X_note_146 : decode prog_1_method_6_code 146 = .ok (.iadd, 1) := by decide +kernel
theorem d_X_note_147 : decode prog_1_method_6_code 147 = .ok (.putfield 83, 3) := by decide +kernel
theorem d_X_note_150 : decode prog_1_method_6_code 150 = .ok (.iload 5, 2) := by decide +kernel
theorem d_X_note_152 : decode prog_1_method_6_code 152 = .ok (.ireturn, 1) := by decide +kernel
def w_X_note_42 (K : Int32 → sm_Mem → Prop) (p0 : Int32) (p1 : Int32) (p2 : Int32) (p3 : Int32) (μ : sm_Mem) : Prop := w_X_error (fun r5 μ4 => K r5 μ4) 1 μ
def w_X_note (K : Int32 → sm_Mem → Prop) (p0 : Int32) (p1 : Int32) (p2 : Int32) (p3 : Int32) (μ : sm_Mem) : Prop := w_X_within (fun r2 μ1 => if r2 = 0 then w_X_note_42 K p0 p1 p2 p3 μ1 else (w_X_within (fun r7 μ6 => if r7 = 0 then w_X_note_42 K p0 p1 p2 p3 μ6 else (w_D_hasPlace (fun r10 μ9 => if r10 = 0 then w_X_note_42 K p0 p1 p2 p3 μ9 else (w_X_within (fun r13 μ12 => if r13 = 0 then w_X_note_42 K p0 p1 p2 p3 μ12 else (if (μ12 1 12) < 10 then (∀ v16 : Int32, v16 = (μ12 1 12) → vp_in v16 10 ∧ ∀ μ18 : sm_Mem, μ18 = sm_st μ12 4 (v16.toNatClampNeg) (p0 / 10) → vp_in v16 10 ∧ ∀ μ20 : sm_Mem, μ20 = sm_st μ18 5 (v16.toNatClampNeg) (p0 % 10) → vp_in v16 10 ∧ ∀ μ22 : sm_Mem, μ22 = sm_st μ20 6 (v16.toNatClampNeg) p1 → vp_in v16 10 ∧ ∀ μ24 : sm_Mem, μ24 = sm_st μ22 7 (v16.toNatClampNeg) p2 → vp_in v16 10 ∧ ∀ μ26 : sm_Mem, μ26 = sm_st μ24 8 (v16.toNatClampNeg) p3 → ∀ μ27 : sm_Mem, μ27 = sm_st μ26 1 12 ((μ26 1 12) + 1) → K v16 μ27) else w_X_error (fun r29 μ28 => K r29 μ28) 4 μ12)) p3 0 3 μ9)) p2 μ6)) p1 1 999 μ1)) p0 0 69 μ
set_option maxHeartbeats 4000000 in
set_option maxRecDepth 100000 in
theorem P_X_note (l : Launch) {K : Int32 → sm_Mem → Prop} {p0 : Int32} {p1 : Int32} {p2 : Int32} {p3 : Int32} {μ : sm_Mem} (h : w_X_note K p0 p1 p2 p3 μ) : sm_MI l ⟨"SnowMoney", "note", "(IIII)I"⟩ prog_1_method_6_code 6 (some .int) { frames := 2, cells := 0, slots := 0, locals := 43 } [sm_R 0, sm_I p0, sm_I p1, sm_I p2, sm_I p3] μ K := by
  refine sm_ofI (by decide +kernel) (fun _ => Nat.le_of_ble_eq_true rfl) ?_
  intro p e s m args below meth c A Q G C hR
  have B42 : ∀ (μ : sm_Mem), w_X_note_42 K p0 p1 p2 p3 μ → sm_W p l e { frames := 2, cells := 0, slots := 0, locals := 43 } s m args below meth c A Q G 6 0 0 42 [] [(0, sm_R 0)] μ := by
    intro μ h
    refine sr_aload_n C 0 rfl rfl d_X_note_42 ?_
    refine sr_iconst C (v := 1) d_X_note_43 (by decide) ?_
    refine sr_callVI C [sm_I _] (P_X_error l h) ok_1 sm_l0 rfl rfl rfl rfl ⟨Nat.le_of_ble_eq_true rfl, Nat.le_of_ble_eq_true rfl⟩ (Nat.le_of_ble_eq_true rfl) ⟨Nat.zero_le _, Nat.zero_le _⟩ d_X_note_44 (fun r5 μ4 h => ?_)
    exact hR _ _ _ _ d_X_note_47 rfl h
  refine sr_iload_n C 1 rfl rfl d_X_note_0 ?_
  refine sr_iconst C (v := 0) d_X_note_1 (by decide) ?_
  refine sr_bipush C (v := 69) d_X_note_2 (by decide) ?_
  refine sr_callSI C [sm_I _, sm_I _, sm_I _] (P_X_within l h) ok_0 rfl rfl rfl ⟨Nat.le_of_ble_eq_true rfl, Nat.le_of_ble_eq_true rfl⟩ (Nat.le_of_ble_eq_true rfl) ⟨Nat.zero_le _, Nat.zero_le _⟩ d_X_note_4 (fun r2 μ1 h => ?_)
  refine sr_if_eq C (tgt := 42) d_X_note_7 (by decide) (fun c3 => ?_) (fun c3 => ?_)
  · replace h := Eq.mp (if_pos c3) h
    refine sr_mask C [0] rfl ?_
    exact B42 _ h
  · replace h := Eq.mp (if_neg c3) h
    refine sr_iload_n C 2 rfl rfl d_X_note_10 ?_
    refine sr_iconst C (v := 1) d_X_note_11 (by decide) ?_
    refine sr_sipush C (v := 999) d_X_note_12 (by decide) ?_
    refine sr_callSI C [sm_I _, sm_I _, sm_I _] (P_X_within l h) ok_0 rfl rfl rfl ⟨Nat.le_of_ble_eq_true rfl, Nat.le_of_ble_eq_true rfl⟩ (Nat.le_of_ble_eq_true rfl) ⟨Nat.zero_le _, Nat.zero_le _⟩ d_X_note_15 (fun r7 μ6 h => ?_)
    refine sr_if_eq C (tgt := 42) d_X_note_18 (by decide) (fun c8 => ?_) (fun c8 => ?_)
    · replace h := Eq.mp (if_pos c8) h
      refine sr_mask C [0] rfl ?_
      exact B42 _ h
    · replace h := Eq.mp (if_neg c8) h
      refine sr_aload_n C 0 rfl rfl d_X_note_21 ?_
      refine sr_getR C sm_F6 0 q_4 sm_l0 (r := 1) rfl (by decide) d_X_note_22 ?_
      refine sr_iload_n C 3 rfl rfl d_X_note_25 ?_
      refine sr_callVI C [sm_I _] (P_D_hasPlace l h) ok_2 sm_l1 rfl rfl rfl rfl ⟨Nat.le_of_ble_eq_true rfl, Nat.le_of_ble_eq_true rfl⟩ (Nat.le_of_ble_eq_true rfl) ⟨Nat.zero_le _, Nat.zero_le _⟩ d_X_note_26 (fun r10 μ9 h => ?_)
      refine sr_if_eq C (tgt := 42) d_X_note_29 (by decide) (fun c11 => ?_) (fun c11 => ?_)
      · replace h := Eq.mp (if_pos c11) h
        refine sr_mask C [0] rfl ?_
        exact B42 _ h
      · replace h := Eq.mp (if_neg c11) h
        refine sr_iload C 4 rfl d_X_note_32 ?_
        refine sr_iconst C (v := 0) d_X_note_34 (by decide) ?_
        refine sr_iconst C (v := 3) d_X_note_35 (by decide) ?_
        refine sr_callSI C [sm_I _, sm_I _, sm_I _] (P_X_within l h) ok_0 rfl rfl rfl ⟨Nat.le_of_ble_eq_true rfl, Nat.le_of_ble_eq_true rfl⟩ (Nat.le_of_ble_eq_true rfl) ⟨Nat.zero_le _, Nat.zero_le _⟩ d_X_note_36 (fun r13 μ12 h => ?_)
        refine sr_if_ne C (tgt := 48) d_X_note_39 (by decide) (fun c14 => ?_) (fun c14 => ?_)
        · replace h := Eq.mp (if_neg c14) h
          refine sr_aload_n C 0 rfl rfl d_X_note_48 ?_
          refine sr_getR C sm_F6 0 q_4 sm_l0 (r := 1) rfl (by decide) d_X_note_49 ?_
          refine sr_getI C sm_F0 12 q_35 sm_l1 rfl (by decide) d_X_note_52 ?_
          refine sr_bipush C (v := 10) d_X_note_55 (by decide) ?_
          refine sr_icmp_lt C (tgt := 66) d_X_note_57 (by decide) (fun c15 => ?_) (fun c15 => ?_)
          · replace h := Eq.mp (if_pos c15) h
            refine sr_aload_n C 0 rfl rfl d_X_note_66 ?_
            refine sr_getR C sm_F6 0 q_4 sm_l0 (r := 1) rfl (by decide) d_X_note_67 ?_
            refine sr_getI C sm_F0 12 q_35 sm_l1 rfl (by decide) d_X_note_70 ?_
            replace h := h _ rfl
            refine sr_istore C (by decide) d_X_note_73 ?_
            refine sr_aload_n C 1 rfl rfl d_X_note_75 ?_
            refine sr_getR C sm_F6 0 q_4 sm_l0 (r := 1) rfl (by decide) d_X_note_76 ?_
            refine sr_getR C sm_F0 2 q_36 sm_l1 (r := 4) rfl (by decide) d_X_note_79 ?_
            refine sr_iload C 0 rfl d_X_note_82 ?_
            refine sr_iload_n C 2 rfl rfl d_X_note_84 ?_
            refine sr_bipush C (v := 10) d_X_note_85 (by decide) ?_
            refine sr_idiv C (by decide) d_X_note_87 ?_
            obtain ⟨g17, h⟩ := h
            refine sr_iast C sm_l4 g17 d_X_note_88 ?_
            replace h := h _ rfl
            refine sr_aload_n C 1 rfl rfl d_X_note_89 ?_
            refine sr_getR C sm_F6 0 q_4 sm_l0 (r := 1) rfl (by decide) d_X_note_90 ?_
            refine sr_getR C sm_F0 3 q_37 sm_l1 (r := 5) rfl (by decide) d_X_note_93 ?_
            refine sr_iload C 0 rfl d_X_note_96 ?_
            refine sr_iload_n C 2 rfl rfl d_X_note_98 ?_
            refine sr_bipush C (v := 10) d_X_note_99 (by decide) ?_
            refine sr_irem C (by decide) d_X_note_101 ?_
            obtain ⟨g19, h⟩ := h
            refine sr_iast C sm_l5 g19 d_X_note_102 ?_
            replace h := h _ rfl
            refine sr_aload_n C 1 rfl rfl d_X_note_103 ?_
            refine sr_getR C sm_F6 0 q_4 sm_l0 (r := 1) rfl (by decide) d_X_note_104 ?_
            refine sr_getR C sm_F0 4 q_38 sm_l1 (r := 6) rfl (by decide) d_X_note_107 ?_
            refine sr_iload C 0 rfl d_X_note_110 ?_
            refine sr_iload_n C 3 rfl rfl d_X_note_112 ?_
            obtain ⟨g21, h⟩ := h
            refine sr_iast C sm_l6 g21 d_X_note_113 ?_
            replace h := h _ rfl
            refine sr_aload_n C 1 rfl rfl d_X_note_114 ?_
            refine sr_getR C sm_F6 0 q_4 sm_l0 (r := 1) rfl (by decide) d_X_note_115 ?_
            refine sr_getR C sm_F0 5 q_39 sm_l1 (r := 7) rfl (by decide) d_X_note_118 ?_
            refine sr_iload C 0 rfl d_X_note_121 ?_
            refine sr_iload_n C 4 rfl rfl d_X_note_123 ?_
            obtain ⟨g23, h⟩ := h
            refine sr_iast C sm_l7 g23 d_X_note_124 ?_
            replace h := h _ rfl
            refine sr_aload_n C 1 rfl rfl d_X_note_125 ?_
            refine sr_getR C sm_F6 0 q_4 sm_l0 (r := 1) rfl (by decide) d_X_note_126 ?_
            refine sr_getR C sm_F0 6 q_40 sm_l1 (r := 8) rfl (by decide) d_X_note_129 ?_
            refine sr_iload C 0 rfl d_X_note_132 ?_
            refine sr_iload C 5 rfl d_X_note_134 ?_
            obtain ⟨g25, h⟩ := h
            refine sr_iast C sm_l8 g25 d_X_note_136 ?_
            replace h := h _ rfl
            refine sr_aload_n C 1 rfl rfl d_X_note_137 ?_
            refine sr_getR C sm_F6 0 q_4 sm_l0 (r := 1) rfl (by decide) d_X_note_138 ?_
            refine sr_dup C rfl d_X_note_141 ?_
            refine sr_getI C sm_F0 12 q_35 sm_l1 rfl (by decide) d_X_note_142 ?_
            refine sr_iconst C (v := 1) d_X_note_145 (by decide) ?_
            refine sr_iadd C d_X_note_146 ?_
            refine sr_putI C sm_F0 12 q_35 sm_l1 rfl rfl (by decide) rfl d_X_note_147 ?_
            replace h := h _ rfl
            refine sr_iload C 0 rfl d_X_note_150 ?_
            exact hR _ _ _ _ d_X_note_152 rfl h
          · replace h := Eq.mp (if_neg c15) h
            refine sr_aload_n C 0 rfl rfl d_X_note_60 ?_
            refine sr_iconst C (v := 4) d_X_note_61 (by decide) ?_
            refine sr_callVI C [sm_I _] (P_X_error l h) ok_1 sm_l0 rfl rfl rfl rfl ⟨Nat.le_of_ble_eq_true rfl, Nat.le_of_ble_eq_true rfl⟩ (Nat.le_of_ble_eq_true rfl) ⟨Nat.zero_le _, Nat.zero_le _⟩ d_X_note_62 (fun r29 μ28 h => ?_)
            exact hR _ _ _ _ d_X_note_65 rfl h
        · replace h := Eq.mp (if_pos c14) h
          refine sr_mask C [0] rfl ?_
          exact B42 _ h
theorem d_X_ofNote_0 : decode prog_1_method_7_code 0 = .ok (.aload_n 0, 1) := by decide +kernel
theorem d_X_ofNote_1 : decode prog_1_method_7_code 1 = .ok (.getfield 10, 3) := by decide +kernel
theorem d_X_ofNote_4 : decode prog_1_method_7_code 4 = .ok (.iload_n 1, 1) := by decide +kernel
theorem d_X_ofNote_5 : decode prog_1_method_7_code 5 = .ok (.invokevirtual 101, 3) := by decide +kernel
theorem d_X_ofNote_8 : decode prog_1_method_7_code 8 = .ok (.ifCond .ne 9, 3) := by decide +kernel
theorem d_X_ofNote_11 : decode prog_1_method_7_code 11 = .ok (.aload_n 0, 1) := by decide +kernel
theorem d_X_ofNote_12 : decode prog_1_method_7_code 12 = .ok (.iconst 1, 1) := by decide +kernel
theorem d_X_ofNote_13 : decode prog_1_method_7_code 13 = .ok (.invokevirtual 57, 3) := by decide +kernel
theorem d_X_ofNote_16 : decode prog_1_method_7_code 16 = .ok (.ireturn, 1) := by decide +kernel
theorem d_X_ofNote_17 : decode prog_1_method_7_code 17 = .ok (.iload_n 2, 1) := by decide +kernel
theorem d_X_ofNote_18 : decode prog_1_method_7_code 18 = .ok (.tableswitch 128 0 6 #[42, 52, 62, 72, 82, 92, 110], 42) := by decide +kernel
theorem d_X_ofNote_60 : decode prog_1_method_7_code 60 = .ok (.aload_n 0, 1) := by decide +kernel
theorem d_X_ofNote_61 : decode prog_1_method_7_code 61 = .ok (.getfield 10, 3) := by decide +kernel
theorem d_X_ofNote_64 : decode prog_1_method_7_code 64 = .ok (.getfield 86, 3) := by decide +kernel
theorem d_X_ofNote_67 : decode prog_1_method_7_code 67 = .ok (.iload_n 1, 1) := by decide +kernel
theorem d_X_ofNote_68 : decode prog_1_method_7_code 68 = .ok (.iaload, 1) := by decide +kernel
theorem d_X_ofNote_69 : decode prog_1_method_7_code 69 = .ok (.ireturn, 1) := by decide +kernel
theorem d_X_ofNote_70 : decode prog_1_method_7_code 70 = .ok (.aload_n 0, 1) := by decide +kernel
theorem d_X_ofNote_71 : decode prog_1_method_7_code 71 = .ok (.getfield 10, 3) := by decide +kernel
theorem d_X_ofNote_74 : decode prog_1_method_7_code 74 = .ok (.getfield 89, 3) := by decide +kernel
theorem d_X_ofNote_77 : decode prog_1_method_7_code 77 = .ok (.iload_n 1, 1) := by decide +kernel
theorem d_X_ofNote_78 : decode prog_1_method_7_code 78 = .ok (.iaload, 1) := by decide +kernel
theorem d_X_ofNote_79 : decode prog_1_method_7_code 79 = .ok (.ireturn, 1) := by decide +kernel
theorem d_X_ofNote_80 : decode prog_1_method_7_code 80 = .ok (.aload_n 0, 1) := by decide +kernel
theorem d_X_ofNote_81 : decode prog_1_method_7_code 81 = .ok (.getfield 10, 3) := by decide +kernel
theorem d_X_ofNote_84 : decode prog_1_method_7_code 84 = .ok (.getfield 92, 3) := by decide +kernel
theorem d_X_ofNote_87 : decode prog_1_method_7_code 87 = .ok (.iload_n 1, 1) := by decide +kernel
theorem d_X_ofNote_88 : decode prog_1_method_7_code 88 = .ok (.iaload, 1) := by decide +kernel
theorem d_X_ofNote_89 : decode prog_1_method_7_code 89 = .ok (.ireturn, 1) := by decide +kernel
theorem d_X_ofNote_90 : decode prog_1_method_7_code 90 = .ok (.aload_n 0, 1) := by decide +kernel
theorem d_X_ofNote_91 : decode prog_1_method_7_code 91 = .ok (.getfield 10, 3) := by decide +kernel
theorem d_X_ofNote_94 : decode prog_1_method_7_code 94 = .ok (.getfield 95, 3) := by decide +kernel
theorem d_X_ofNote_97 : decode prog_1_method_7_code 97 = .ok (.iload_n 1, 1) := by decide +kernel
theorem d_X_ofNote_98 : decode prog_1_method_7_code 98 = .ok (.iaload, 1) := by decide +kernel
theorem d_X_ofNote_99 : decode prog_1_method_7_code 99 = .ok (.ireturn, 1) := by decide +kernel
theorem d_X_ofNote_100 : decode prog_1_method_7_code 100 = .ok (.aload_n 0, 1) := by decide +kernel
theorem d_X_ofNote_101 : decode prog_1_method_7_code 101 = .ok (.getfield 10, 3) := by decide +kernel
theorem d_X_ofNote_104 : decode prog_1_method_7_code 104 = .ok (.getfield 98, 3) := by decide +kernel
theorem d_X_ofNote_107 : decode prog_1_method_7_code 107 = .ok (.iload_n 1, 1) := by decide +kernel
theorem d_X_ofNote_108 : decode prog_1_method_7_code 108 = .ok (.iaload, 1) := by decide +kernel
theorem d_X_ofNote_109 : decode prog_1_method_7_code 109 = .ok (.ireturn, 1) := by decide +kernel
theorem d_X_ofNote_110 : decode prog_1_method_7_code 110 = .ok (.aload_n 0, 1) := by decide +kernel
theorem d_X_ofNote_111 : decode prog_1_method_7_code 111 = .ok (.getfield 10, 3) := by decide +kernel
theorem d_X_ofNote_114 : decode prog_1_method_7_code 114 = .ok (.iload_n 1, 1) := by decide +kernel
theorem d_X_ofNote_115 : decode prog_1_method_7_code 115 = .ok (.aload_n 0, 1) := by decide +kernel
theorem d_X_ofNote_116 : decode prog_1_method_7_code 116 = .ok (.getfield 10, 3) := by decide +kernel
theorem d_X_ofNote_119 : decode prog_1_method_7_code 119 = .ok (.getfield 95, 3) := by decide +kernel
theorem d_X_ofNote_122 : decode prog_1_method_7_code 122 = .ok (.iload_n 1, 1) := by decide +kernel
theorem d_X_ofNote_123 : decode prog_1_method_7_code 123 = .ok (.iaload, 1) := by decide +kernel
theorem d_X_ofNote_124 : decode prog_1_method_7_code 124 = .ok (.invokevirtual 104, 3) := by decide +kernel
theorem d_X_ofNote_127 : decode prog_1_method_7_code 127 = .ok (.ireturn, 1) := by decide +kernel
theorem d_X_ofNote_128 : decode prog_1_method_7_code 128 = .ok (.aload_n 0, 1) := by decide +kernel
theorem d_X_ofNote_129 : decode prog_1_method_7_code 129 = .ok (.getfield 10, 3) := by decide +kernel
theorem d_X_ofNote_132 : decode prog_1_method_7_code 132 = .ok (.iload_n 1, 1) := by decide +kernel
theorem d_X_ofNote_133 : decode prog_1_method_7_code 133 = .ok (.aload_n 0, 1) := by decide +kernel
theorem d_X_ofNote_134 : decode prog_1_method_7_code 134 = .ok (.getfield 10, 3) := by decide +kernel
theorem d_X_ofNote_137 : decode prog_1_method_7_code 137 = .ok (.getfield 92, 3) := by decide +kernel
theorem d_X_ofNote_140 : decode prog_1_method_7_code 140 = .ok (.iload_n 1, 1) := by decide +kernel
theorem d_X_ofNote_141 : decode prog_1_method_7_code 141 = .ok (.iaload, 1) := by decide +kernel
theorem d_X_ofNote_142 : decode prog_1_method_7_code 142 = .ok (.invokevirtual 107, 3) := by decide +kernel
theorem d_X_ofNote_145 : decode prog_1_method_7_code 145 = .ok (.ireturn, 1) := by decide +kernel
theorem d_X_ofNote_146 : decode prog_1_method_7_code 146 = .ok (.aload_n 0, 1) := by decide +kernel
theorem d_X_ofNote_147 : decode prog_1_method_7_code 147 = .ok (.iconst 1, 1) := by decide +kernel
theorem d_X_ofNote_148 : decode prog_1_method_7_code 148 = .ok (.invokevirtual 57, 3) := by decide +kernel
theorem d_X_ofNote_151 : decode prog_1_method_7_code 151 = .ok (.ireturn, 1) := by decide +kernel
def w_X_ofNote (K : Int32 → sm_Mem → Prop) (p0 : Int32) (p1 : Int32) (μ : sm_Mem) : Prop := w_D_hasNote (fun r2 μ1 => if r2 = 0 then w_X_error (fun r26 μ25 => K r26 μ25) 1 μ1 else (∀ v4 : Int32, v4 = p1 → if v4 = 0 then (vp_in p0 10 ∧ K (μ1 4 p0.toNatClampNeg) μ1) else (if v4 = 1 then (vp_in p0 10 ∧ K (μ1 5 p0.toNatClampNeg) μ1) else (if v4 = 2 then (vp_in p0 10 ∧ K (μ1 6 p0.toNatClampNeg) μ1) else (if v4 = 3 then (vp_in p0 10 ∧ K (μ1 7 p0.toNatClampNeg) μ1) else (if v4 = 4 then (vp_in p0 10 ∧ K (μ1 8 p0.toNatClampNeg) μ1) else (if v4 = 5 then (vp_in p0 10 ∧ w_D_meltsNow (fun r18 μ17 => K r18 μ17) p0 (μ1 7 p0.toNatClampNeg) μ1) else (if v4 = 6 then (vp_in p0 10 ∧ w_D_paysWith (fun r22 μ21 => K r22 μ21) p0 (μ1 6 p0.toNatClampNeg) μ1) else w_X_error (fun r24 μ23 => K r24 μ23) 1 μ1)))))))) p0 μ
set_option maxHeartbeats 4000000 in
set_option maxRecDepth 100000 in
theorem P_X_ofNote (l : Launch) {K : Int32 → sm_Mem → Prop} {p0 : Int32} {p1 : Int32} {μ : sm_Mem} (h : w_X_ofNote K p0 p1 μ) : sm_MI l ⟨"SnowMoney", "ofNote", "(II)I"⟩ prog_1_method_7_code 3 (some .int) { frames := 4, cells := 0, slots := 0, locals := 95 } [sm_R 0, sm_I p0, sm_I p1] μ K := by
  refine sm_ofI (by decide +kernel) (fun _ => Nat.le_of_ble_eq_true rfl) ?_
  intro p e s m args below meth c A Q G C hR
  refine sr_aload_n C 0 rfl rfl d_X_ofNote_0 ?_
  refine sr_getR C sm_F6 0 q_4 sm_l0 (r := 1) rfl (by decide) d_X_ofNote_1 ?_
  refine sr_iload_n C 1 rfl rfl d_X_ofNote_4 ?_
  refine sr_callVI C [sm_I _] (P_D_hasNote l h) ok_7 sm_l1 rfl rfl rfl rfl ⟨Nat.le_of_ble_eq_true rfl, Nat.le_of_ble_eq_true rfl⟩ (Nat.le_of_ble_eq_true rfl) ⟨Nat.zero_le _, Nat.zero_le _⟩ d_X_ofNote_5 (fun r2 μ1 h => ?_)
  refine sr_if_ne C (tgt := 17) d_X_ofNote_8 (by decide) (fun c3 => ?_) (fun c3 => ?_)
  · replace h := Eq.mp (if_neg c3) h
    refine sr_iload_n C 2 rfl rfl d_X_ofNote_17 ?_
    refine sm_name (fun v4 ev4 => ?_)
    replace h := h v4 ev4
    by_cases c5 : v4 = 0
    · replace h := Eq.mp (if_pos c5) h
      refine sr_tableIn C (tgt := 60) (off := 42) d_X_ofNote_18 (by rw [c5]; decide) (by rw [c5]; decide) (by rw [c5]; decide) (by decide) ?_
      refine sr_aload_n C 0 rfl rfl d_X_ofNote_60 ?_
      refine sr_getR C sm_F6 0 q_4 sm_l0 (r := 1) rfl (by decide) d_X_ofNote_61 ?_
      refine sr_getR C sm_F0 2 q_36 sm_l1 (r := 4) rfl (by decide) d_X_ofNote_64 ?_
      refine sr_iload_n C 1 rfl rfl d_X_ofNote_67 ?_
      obtain ⟨g6, h⟩ := h
      refine sr_iald C sm_l4 g6 d_X_ofNote_68 ?_
      exact hR _ _ _ _ d_X_ofNote_69 rfl h
    · replace h := Eq.mp (if_neg c5) h
      by_cases c7 : v4 = 1
      · replace h := Eq.mp (if_pos c7) h
        refine sr_tableIn C (tgt := 70) (off := 52) d_X_ofNote_18 (by rw [c7]; decide) (by rw [c7]; decide) (by rw [c7]; decide) (by decide) ?_
        refine sr_aload_n C 0 rfl rfl d_X_ofNote_70 ?_
        refine sr_getR C sm_F6 0 q_4 sm_l0 (r := 1) rfl (by decide) d_X_ofNote_71 ?_
        refine sr_getR C sm_F0 3 q_37 sm_l1 (r := 5) rfl (by decide) d_X_ofNote_74 ?_
        refine sr_iload_n C 1 rfl rfl d_X_ofNote_77 ?_
        obtain ⟨g8, h⟩ := h
        refine sr_iald C sm_l5 g8 d_X_ofNote_78 ?_
        exact hR _ _ _ _ d_X_ofNote_79 rfl h
      · replace h := Eq.mp (if_neg c7) h
        by_cases c9 : v4 = 2
        · replace h := Eq.mp (if_pos c9) h
          refine sr_tableIn C (tgt := 80) (off := 62) d_X_ofNote_18 (by rw [c9]; decide) (by rw [c9]; decide) (by rw [c9]; decide) (by decide) ?_
          refine sr_aload_n C 0 rfl rfl d_X_ofNote_80 ?_
          refine sr_getR C sm_F6 0 q_4 sm_l0 (r := 1) rfl (by decide) d_X_ofNote_81 ?_
          refine sr_getR C sm_F0 4 q_38 sm_l1 (r := 6) rfl (by decide) d_X_ofNote_84 ?_
          refine sr_iload_n C 1 rfl rfl d_X_ofNote_87 ?_
          obtain ⟨g10, h⟩ := h
          refine sr_iald C sm_l6 g10 d_X_ofNote_88 ?_
          exact hR _ _ _ _ d_X_ofNote_89 rfl h
        · replace h := Eq.mp (if_neg c9) h
          by_cases c11 : v4 = 3
          · replace h := Eq.mp (if_pos c11) h
            refine sr_tableIn C (tgt := 90) (off := 72) d_X_ofNote_18 (by rw [c11]; decide) (by rw [c11]; decide) (by rw [c11]; decide) (by decide) ?_
            refine sr_aload_n C 0 rfl rfl d_X_ofNote_90 ?_
            refine sr_getR C sm_F6 0 q_4 sm_l0 (r := 1) rfl (by decide) d_X_ofNote_91 ?_
            refine sr_getR C sm_F0 5 q_39 sm_l1 (r := 7) rfl (by decide) d_X_ofNote_94 ?_
            refine sr_iload_n C 1 rfl rfl d_X_ofNote_97 ?_
            obtain ⟨g12, h⟩ := h
            refine sr_iald C sm_l7 g12 d_X_ofNote_98 ?_
            exact hR _ _ _ _ d_X_ofNote_99 rfl h
          · replace h := Eq.mp (if_neg c11) h
            by_cases c13 : v4 = 4
            · replace h := Eq.mp (if_pos c13) h
              refine sr_tableIn C (tgt := 100) (off := 82) d_X_ofNote_18 (by rw [c13]; decide) (by rw [c13]; decide) (by rw [c13]; decide) (by decide) ?_
              refine sr_aload_n C 0 rfl rfl d_X_ofNote_100 ?_
              refine sr_getR C sm_F6 0 q_4 sm_l0 (r := 1) rfl (by decide) d_X_ofNote_101 ?_
              refine sr_getR C sm_F0 6 q_40 sm_l1 (r := 8) rfl (by decide) d_X_ofNote_104 ?_
              refine sr_iload_n C 1 rfl rfl d_X_ofNote_107 ?_
              obtain ⟨g14, h⟩ := h
              refine sr_iald C sm_l8 g14 d_X_ofNote_108 ?_
              exact hR _ _ _ _ d_X_ofNote_109 rfl h
            · replace h := Eq.mp (if_neg c13) h
              by_cases c15 : v4 = 5
              · replace h := Eq.mp (if_pos c15) h
                refine sr_tableIn C (tgt := 110) (off := 92) d_X_ofNote_18 (by rw [c15]; decide) (by rw [c15]; decide) (by rw [c15]; decide) (by decide) ?_
                refine sr_aload_n C 0 rfl rfl d_X_ofNote_110 ?_
                refine sr_getR C sm_F6 0 q_4 sm_l0 (r := 1) rfl (by decide) d_X_ofNote_111 ?_
                refine sr_iload_n C 1 rfl rfl d_X_ofNote_114 ?_
                refine sr_aload_n C 0 rfl rfl d_X_ofNote_115 ?_
                refine sr_getR C sm_F6 0 q_4 sm_l0 (r := 1) rfl (by decide) d_X_ofNote_116 ?_
                refine sr_getR C sm_F0 5 q_39 sm_l1 (r := 7) rfl (by decide) d_X_ofNote_119 ?_
                refine sr_iload_n C 1 rfl rfl d_X_ofNote_122 ?_
                obtain ⟨g16, h⟩ := h
                refine sr_iald C sm_l7 g16 d_X_ofNote_123 ?_
                refine sr_callVI C [sm_I _, sm_I _] (P_D_meltsNow l h) ok_8 sm_l1 rfl rfl rfl rfl ⟨Nat.le_of_ble_eq_true rfl, Nat.le_of_ble_eq_true rfl⟩ (Nat.le_of_ble_eq_true rfl) ⟨Nat.zero_le _, Nat.zero_le _⟩ d_X_ofNote_124 (fun r18 μ17 h => ?_)
                exact hR _ _ _ _ d_X_ofNote_127 rfl h
              · replace h := Eq.mp (if_neg c15) h
                by_cases c19 : v4 = 6
                · replace h := Eq.mp (if_pos c19) h
                  refine sr_tableIn C (tgt := 128) (off := 110) d_X_ofNote_18 (by rw [c19]; decide) (by rw [c19]; decide) (by rw [c19]; decide) (by decide) ?_
                  refine sr_aload_n C 0 rfl rfl d_X_ofNote_128 ?_
                  refine sr_getR C sm_F6 0 q_4 sm_l0 (r := 1) rfl (by decide) d_X_ofNote_129 ?_
                  refine sr_iload_n C 1 rfl rfl d_X_ofNote_132 ?_
                  refine sr_aload_n C 0 rfl rfl d_X_ofNote_133 ?_
                  refine sr_getR C sm_F6 0 q_4 sm_l0 (r := 1) rfl (by decide) d_X_ofNote_134 ?_
                  refine sr_getR C sm_F0 4 q_38 sm_l1 (r := 6) rfl (by decide) d_X_ofNote_137 ?_
                  refine sr_iload_n C 1 rfl rfl d_X_ofNote_140 ?_
                  obtain ⟨g20, h⟩ := h
                  refine sr_iald C sm_l6 g20 d_X_ofNote_141 ?_
                  refine sr_callVI C [sm_I _, sm_I _] (P_D_paysWith l h) ok_9 sm_l1 rfl rfl rfl rfl ⟨Nat.le_of_ble_eq_true rfl, Nat.le_of_ble_eq_true rfl⟩ (Nat.le_of_ble_eq_true rfl) ⟨Nat.zero_le _, Nat.zero_le _⟩ d_X_ofNote_142 (fun r22 μ21 h => ?_)
                  exact hR _ _ _ _ d_X_ofNote_145 rfl h
                · replace h := Eq.mp (if_neg c19) h
                  have i0 := sm_ne c5 (z := 0) (by decide)
                  have i1 := sm_ne c7 (z := 1) (by decide)
                  have i2 := sm_ne c9 (z := 2) (by decide)
                  have i3 := sm_ne c11 (z := 3) (by decide)
                  have i4 := sm_ne c13 (z := 4) (by decide)
                  have i5 := sm_ne c15 (z := 5) (by decide)
                  have i6 := sm_ne c19 (z := 6) (by decide)
                  refine sr_tableOut C (tgt := 146) d_X_ofNote_18 (by omega) (by decide) ?_
                  refine sr_aload_n C 0 rfl rfl d_X_ofNote_146 ?_
                  refine sr_iconst C (v := 1) d_X_ofNote_147 (by decide) ?_
                  refine sr_callVI C [sm_I _] (P_X_error l h) ok_1 sm_l0 rfl rfl rfl rfl ⟨Nat.le_of_ble_eq_true rfl, Nat.le_of_ble_eq_true rfl⟩ (Nat.le_of_ble_eq_true rfl) ⟨Nat.zero_le _, Nat.zero_le _⟩ d_X_ofNote_148 (fun r24 μ23 h => ?_)
                  exact hR _ _ _ _ d_X_ofNote_151 rfl h
  · replace h := Eq.mp (if_pos c3) h
    refine sr_aload_n C 0 rfl rfl d_X_ofNote_11 ?_
    refine sr_iconst C (v := 1) d_X_ofNote_12 (by decide) ?_
    refine sr_callVI C [sm_I _] (P_X_error l h) ok_1 sm_l0 rfl rfl rfl rfl ⟨Nat.le_of_ble_eq_true rfl, Nat.le_of_ble_eq_true rfl⟩ (Nat.le_of_ble_eq_true rfl) ⟨Nat.zero_le _, Nat.zero_le _⟩ d_X_ofNote_13 (fun r26 μ25 h => ?_)
    exact hR _ _ _ _ d_X_ofNote_16 rfl h
theorem d_X_swap_0 : decode prog_1_method_45_code 0 = .ok (.aload_n 0, 1) := by decide +kernel
theorem d_X_swap_1 : decode prog_1_method_45_code 1 = .ok (.iload_n 1, 1) := by decide +kernel
theorem d_X_swap_2 : decode prog_1_method_45_code 2 = .ok (.iaload, 1) := by decide +kernel
theorem d_X_swap_3 : decode prog_1_method_45_code 3 = .ok (.istore_n 3, 1) := by decide +kernel
theorem d_X_swap_4 : decode prog_1_method_45_code 4 = .ok (.aload_n 0, 1) := by decide +kernel
theorem d_X_swap_5 : decode prog_1_method_45_code 5 = .ok (.iload_n 1, 1) := by decide +kernel
theorem d_X_swap_6 : decode prog_1_method_45_code 6 = .ok (.iload_n 2, 1) := by decide +kernel
theorem d_X_swap_7 : decode prog_1_method_45_code 7 = .ok (.iastore, 1) := by decide +kernel
theorem d_X_swap_8 : decode prog_1_method_45_code 8 = .ok (.iload_n 3, 1) := by decide +kernel
theorem d_X_swap_9 : decode prog_1_method_45_code 9 = .ok (.ireturn, 1) := by decide +kernel
def w_X_swap (K : Int32 → sm_Mem → Prop) (a0 : Nat) (p1 : Int32) (p2 : Int32) (μ : sm_Mem) : Prop := isArr a0 10 ∧ vp_in p1 10 ∧ ∀ v2 : Int32, v2 = (μ a0 p1.toNatClampNeg) → vp_in p1 10 ∧ ∀ μ4 : sm_Mem, μ4 = sm_st μ a0 (p1.toNatClampNeg) p2 → K v2 μ4
set_option maxHeartbeats 4000000 in
set_option maxRecDepth 100000 in
theorem P_X_swap (l : Launch) {K : Int32 → sm_Mem → Prop} {a0 : Nat} {p1 : Int32} {p2 : Int32} {μ : sm_Mem} (h : w_X_swap K a0 p1 p2 μ) : sm_MI l ⟨"SnowMoney", "swap", "([III)I"⟩ prog_1_method_45_code 4 (some .int) { frames := 0, cells := 0, slots := 0, locals := 0 } [sm_R a0, sm_I p1, sm_I p2] μ K := by
  refine sm_ofI (by decide +kernel) (fun _ => Nat.le_of_ble_eq_true rfl) ?_
  intro p e s m args below meth c A Q G C hR
  obtain ⟨t_a0, h⟩ := h
  refine sr_aload_n C 0 rfl rfl d_X_swap_0 ?_
  refine sr_iload_n C 1 rfl rfl d_X_swap_1 ?_
  obtain ⟨g1, h⟩ := h
  refine sr_iald C t_a0 g1 d_X_swap_2 ?_
  replace h := h _ rfl
  refine sr_istore_n C rfl (by decide) d_X_swap_3 ?_
  refine sr_aload_n C 1 rfl rfl d_X_swap_4 ?_
  refine sr_iload_n C 2 rfl rfl d_X_swap_5 ?_
  refine sr_iload_n C 3 rfl rfl d_X_swap_6 ?_
  obtain ⟨g3, h⟩ := h
  refine sr_iast C t_a0 g3 d_X_swap_7 ?_
  replace h := h _ rfl
  refine sr_iload_n C 0 rfl rfl d_X_swap_8 ?_
  exact hR _ _ _ _ d_X_swap_9 rfl h
theorem d_X_change_0 : decode prog_1_method_8_code 0 = .ok (.aload_n 0, 1) := by decide +kernel
theorem d_X_change_1 : decode prog_1_method_8_code 1 = .ok (.getfield 10, 3) := by decide +kernel
theorem d_X_change_4 : decode prog_1_method_8_code 4 = .ok (.iload_n 1, 1) := by decide +kernel
theorem d_X_change_5 : decode prog_1_method_8_code 5 = .ok (.invokevirtual 101, 3) := by decide +kernel
theorem d_X_change_8 : decode prog_1_method_8_code 8 = .ok (.ifCond .ne 9, 3) := by decide +kernel
theorem d_X_change_11 : decode prog_1_method_8_code 11 = .ok (.aload_n 0, 1) := by decide +kernel
theorem d_X_change_12 : decode prog_1_method_8_code 12 = .ok (.iconst 1, 1) := by decide +kernel
theorem d_X_change_13 : decode prog_1_method_8_code 13 = .ok (.invokevirtual 57, 3) := by decide +kernel
theorem d_X_change_16 : decode prog_1_method_8_code 16 = .ok (.ireturn, 1) := by decide +kernel
theorem d_X_change_17 : decode prog_1_method_8_code 17 = .ok (.iload_n 2, 1) := by decide +kernel
theorem d_X_change_18 : decode prog_1_method_8_code 18 = .ok (.tableswitch 120 0 2 #[26, 58, 90], 26) := by decide +kernel
theorem d_X_change_44 : decode prog_1_method_8_code 44 = .ok (.iload_n 3, 1) := by decide +kernel
theorem d_X_change_45 : decode prog_1_method_8_code 45 = .ok (.iconst 0, 1) := by decide +kernel
theorem d_X_change_46 : decode prog_1_method_8_code 46 = .ok (.sipush 999, 3) := by decide +kernel
theorem d_X_change_49 : decode prog_1_method_8_code 49 = .ok (.invokestatic 53, 3) := by decide +kernel
theorem d_X_change_52 : decode prog_1_method_8_code 52 = .ok (.ifCond .eq 18, 3) := by decide +kernel
theorem d_X_change_55 : decode prog_1_method_8_code 55 = .ok (.aload_n 0, 1) := by decide +kernel
theorem d_X_change_56 : decode prog_1_method_8_code 56 = .ok (.getfield 10, 3) := by decide +kernel
theorem d_X_change_59 : decode prog_1_method_8_code 59 = .ok (.getfield 92, 3) := by decide +kernel
theorem d_X_change_62 : decode prog_1_method_8_code 62 = .ok (.iload_n 1, 1) := by decide +kernel
theorem d_X_change_63 : decode prog_1_method_8_code 63 = .ok (.iload_n 3, 1) := by decide +kernel
theorem d_X_change_64 : decode prog_1_method_8_code 64 = .ok (.invokestatic 110, 3) := by decide +kernel
theorem d_X_change_67 : decode prog_1_method_8_code 67 = .ok (.goto 8, 3) := by decide +kernel
theorem d_X_change_70 : decode prog_1_method_8_code 70 = .ok (.aload_n 0, 1) := by decide +kernel
theorem d_X_change_71 : decode prog_1_method_8_code 71 = .ok (.iconst 1, 1) := by decide +kernel
theorem d_X_change_72 : decode prog_1_method_8_code 72 = .ok (.invokevirtual 57, 3) := by decide +kernel
theorem d_X_change_75 : decode prog_1_method_8_code 75 = .ok (.ireturn, 1) := by decide +kernel
theorem d_X_change_76 : decode prog_1_method_8_code 76 = .ok (.aload_n 0, 1) := by decide +kernel
theorem d_X_change_77 : decode prog_1_method_8_code 77 = .ok (.getfield 10, 3) := by decide +kernel
theorem d_X_change_80 : decode prog_1_method_8_code 80 = .ok (.iload_n 3, 1) := by decide +kernel
theorem d_X_change_81 : decode prog_1_method_8_code 81 = .ok (.invokevirtual 68, 3) := by decide +kernel
theorem d_X_change_84 : decode prog_1_method_8_code 84 = .ok (.ifCond .eq 18, 3) := by decide +kernel
theorem d_X_change_87 : decode prog_1_method_8_code 87 = .ok (.aload_n 0, 1) := by decide +kernel
theorem d_X_change_88 : decode prog_1_method_8_code 88 = .ok (.getfield 10, 3) := by decide +kernel
theorem d_X_change_91 : decode prog_1_method_8_code 91 = .ok (.getfield 95, 3) := by decide +kernel
theorem d_X_change_94 : decode prog_1_method_8_code 94 = .ok (.iload_n 1, 1) := by decide +kernel
theorem d_X_change_95 : decode prog_1_method_8_code 95 = .ok (.iload_n 3, 1) := by decide +kernel
theorem d_X_change_96 : decode prog_1_method_8_code 96 = .ok (.invokestatic 110, 3) := by decide +kernel
theorem d_X_change_99 : decode prog_1_method_8_code 99 = .ok (.goto 8, 3) := by decide +kernel
theorem d_X_change_102 : decode prog_1_method_8_code 102 = .ok (.aload_n 0, 1) := by decide +kernel
theorem d_X_change_103 : decode prog_1_method_8_code 103 = .ok (.iconst 1, 1) := by decide +kernel
theorem d_X_change_104 : decode prog_1_method_8_code 104 = .ok (.invokevirtual 57, 3) := by decide +kernel
theorem d_X_change_107 : decode prog_1_method_8_code 107 = .ok (.ireturn, 1) := by decide +kernel
theorem d_X_change_108 : decode prog_1_method_8_code 108 = .ok (.iload_n 3, 1) := by decide +kernel
theorem d_X_change_109 : decode prog_1_method_8_code 109 = .ok (.iconst 0, 1) := by decide +kernel
theorem d_X_change_110 : decode prog_1_method_8_code 110 = .ok (.iconst 3, 1) := by decide +kernel
theorem d_X_change_111 : decode prog_1_method_8_code 111 = .ok (.invokestatic 53, 3) := by decide +kernel
theorem d_X_change_114 : decode prog_1_method_8_code 114 = .ok (.ifCond .eq 18, 3) := by decide +kernel
theorem d_X_change_117 : decode prog_1_method_8_code 117 = .ok (.aload_n 0, 1) := by decide +kernel
theorem d_X_change_118 : decode prog_1_method_8_code 118 = .ok (.getfield 10, 3) := by decide +kernel
theorem d_X_change_121 : decode prog_1_method_8_code 121 = .ok (.getfield 98, 3) := by decide +kernel
theorem d_X_change_124 : decode prog_1_method_8_code 124 = .ok (.iload_n 1, 1) := by decide +kernel
theorem d_X_change_125 : decode prog_1_method_8_code 125 = .ok (.iload_n 3, 1) := by decide +kernel
theorem d_X_change_126 : decode prog_1_method_8_code 126 = .ok (.invokestatic 110, 3) := by decide +kernel
theorem d_X_change_129 : decode prog_1_method_8_code 129 = .ok (.goto 8, 3) := by decide +kernel
theorem d_X_change_132 : decode prog_1_method_8_code 132 = .ok (.aload_n 0, 1) := by decide +kernel
theorem d_X_change_133 : decode prog_1_method_8_code 133 = .ok (.iconst 1, 1) := by decide +kernel
theorem d_X_change_134 : decode prog_1_method_8_code 134 = .ok (.invokevirtual 57, 3) := by decide +kernel
theorem d_X_change_137 : decode prog_1_method_8_code 137 = .ok (.ireturn, 1) := by decide +kernel
theorem d_X_change_138 : decode prog_1_method_8_code 138 = .ok (.aload_n 0, 1) := by decide +kernel
theorem d_X_change_139 : decode prog_1_method_8_code 139 = .ok (.iconst 1, 1) := by decide +kernel
theorem d_X_change_140 : decode prog_1_method_8_code 140 = .ok (.invokevirtual 57, 3) := by decide +kernel
theorem d_X_change_143 : decode prog_1_method_8_code 143 = .ok (.ireturn, 1) := by decide +kernel
def w_X_change (K : Int32 → sm_Mem → Prop) (p0 : Int32) (p1 : Int32) (p2 : Int32) (μ : sm_Mem) : Prop := w_D_hasNote (fun r2 μ1 => if r2 = 0 then w_X_error (fun r32 μ31 => K r32 μ31) 1 μ1 else (∀ v4 : Int32, v4 = p1 → if v4 = 0 then w_X_within (fun r7 μ6 => if r7 = 0 then w_X_error (fun r10 μ9 => K r10 μ9) 1 μ6 else w_X_swap (fun r12 μ11 => K r12 μ11) 6 p0 p2 μ6) p2 0 999 μ1 else (if v4 = 1 then w_D_hasPlace (fun r15 μ14 => if r15 = 0 then w_X_error (fun r18 μ17 => K r18 μ17) 1 μ14 else w_X_swap (fun r20 μ19 => K r20 μ19) 7 p0 p2 μ14) p2 μ1 else (if v4 = 2 then w_X_within (fun r23 μ22 => if r23 = 0 then w_X_error (fun r26 μ25 => K r26 μ25) 1 μ22 else w_X_swap (fun r28 μ27 => K r28 μ27) 8 p0 p2 μ22) p2 0 3 μ1 else w_X_error (fun r30 μ29 => K r30 μ29) 1 μ1)))) p0 μ
set_option maxHeartbeats 4000000 in
set_option maxRecDepth 100000 in
theorem P_X_change (l : Launch) {K : Int32 → sm_Mem → Prop} {p0 : Int32} {p1 : Int32} {p2 : Int32} {μ : sm_Mem} (h : w_X_change K p0 p1 p2 μ) : sm_MI l ⟨"SnowMoney", "change", "(III)I"⟩ prog_1_method_8_code 4 (some .int) { frames := 2, cells := 0, slots := 0, locals := 43 } [sm_R 0, sm_I p0, sm_I p1, sm_I p2] μ K := by
  refine sm_ofI (by decide +kernel) (fun _ => Nat.le_of_ble_eq_true rfl) ?_
  intro p e s m args below meth c A Q G C hR
  refine sr_aload_n C 0 rfl rfl d_X_change_0 ?_
  refine sr_getR C sm_F6 0 q_4 sm_l0 (r := 1) rfl (by decide) d_X_change_1 ?_
  refine sr_iload_n C 1 rfl rfl d_X_change_4 ?_
  refine sr_callVI C [sm_I _] (P_D_hasNote l h) ok_7 sm_l1 rfl rfl rfl rfl ⟨Nat.le_of_ble_eq_true rfl, Nat.le_of_ble_eq_true rfl⟩ (Nat.le_of_ble_eq_true rfl) ⟨Nat.zero_le _, Nat.zero_le _⟩ d_X_change_5 (fun r2 μ1 h => ?_)
  refine sr_if_ne C (tgt := 17) d_X_change_8 (by decide) (fun c3 => ?_) (fun c3 => ?_)
  · replace h := Eq.mp (if_neg c3) h
    refine sr_iload_n C 2 rfl rfl d_X_change_17 ?_
    refine sm_name (fun v4 ev4 => ?_)
    replace h := h v4 ev4
    by_cases c5 : v4 = 0
    · replace h := Eq.mp (if_pos c5) h
      refine sr_tableIn C (tgt := 44) (off := 26) d_X_change_18 (by rw [c5]; decide) (by rw [c5]; decide) (by rw [c5]; decide) (by decide) ?_
      refine sr_iload_n C 3 rfl rfl d_X_change_44 ?_
      refine sr_iconst C (v := 0) d_X_change_45 (by decide) ?_
      refine sr_sipush C (v := 999) d_X_change_46 (by decide) ?_
      refine sr_callSI C [sm_I _, sm_I _, sm_I _] (P_X_within l h) ok_0 rfl rfl rfl ⟨Nat.le_of_ble_eq_true rfl, Nat.le_of_ble_eq_true rfl⟩ (Nat.le_of_ble_eq_true rfl) ⟨Nat.zero_le _, Nat.zero_le _⟩ d_X_change_49 (fun r7 μ6 h => ?_)
      refine sr_if_eq C (tgt := 70) d_X_change_52 (by decide) (fun c8 => ?_) (fun c8 => ?_)
      · replace h := Eq.mp (if_pos c8) h
        refine sr_aload_n C 0 rfl rfl d_X_change_70 ?_
        refine sr_iconst C (v := 1) d_X_change_71 (by decide) ?_
        refine sr_callVI C [sm_I _] (P_X_error l h) ok_1 sm_l0 rfl rfl rfl rfl ⟨Nat.le_of_ble_eq_true rfl, Nat.le_of_ble_eq_true rfl⟩ (Nat.le_of_ble_eq_true rfl) ⟨Nat.zero_le _, Nat.zero_le _⟩ d_X_change_72 (fun r10 μ9 h => ?_)
        exact hR _ _ _ _ d_X_change_75 rfl h
      · replace h := Eq.mp (if_neg c8) h
        refine sr_aload_n C 0 rfl rfl d_X_change_55 ?_
        refine sr_getR C sm_F6 0 q_4 sm_l0 (r := 1) rfl (by decide) d_X_change_56 ?_
        refine sr_getR C sm_F0 4 q_38 sm_l1 (r := 6) rfl (by decide) d_X_change_59 ?_
        refine sr_iload_n C 1 rfl rfl d_X_change_62 ?_
        refine sr_iload_n C 3 rfl rfl d_X_change_63 ?_
        refine sr_callSI C [sm_R _, sm_I _, sm_I _] (P_X_swap l h) ok_23 rfl rfl rfl ⟨Nat.le_of_ble_eq_true rfl, Nat.le_of_ble_eq_true rfl⟩ (Nat.le_of_ble_eq_true rfl) ⟨Nat.zero_le _, Nat.zero_le _⟩ d_X_change_64 (fun r12 μ11 h => ?_)
        refine sr_goto C (tgt := 75) (by decide) d_X_change_67 ?_
        exact hR _ _ _ _ d_X_change_75 rfl h
    · replace h := Eq.mp (if_neg c5) h
      by_cases c13 : v4 = 1
      · replace h := Eq.mp (if_pos c13) h
        refine sr_tableIn C (tgt := 76) (off := 58) d_X_change_18 (by rw [c13]; decide) (by rw [c13]; decide) (by rw [c13]; decide) (by decide) ?_
        refine sr_aload_n C 0 rfl rfl d_X_change_76 ?_
        refine sr_getR C sm_F6 0 q_4 sm_l0 (r := 1) rfl (by decide) d_X_change_77 ?_
        refine sr_iload_n C 3 rfl rfl d_X_change_80 ?_
        refine sr_callVI C [sm_I _] (P_D_hasPlace l h) ok_2 sm_l1 rfl rfl rfl rfl ⟨Nat.le_of_ble_eq_true rfl, Nat.le_of_ble_eq_true rfl⟩ (Nat.le_of_ble_eq_true rfl) ⟨Nat.zero_le _, Nat.zero_le _⟩ d_X_change_81 (fun r15 μ14 h => ?_)
        refine sr_if_eq C (tgt := 102) d_X_change_84 (by decide) (fun c16 => ?_) (fun c16 => ?_)
        · replace h := Eq.mp (if_pos c16) h
          refine sr_aload_n C 0 rfl rfl d_X_change_102 ?_
          refine sr_iconst C (v := 1) d_X_change_103 (by decide) ?_
          refine sr_callVI C [sm_I _] (P_X_error l h) ok_1 sm_l0 rfl rfl rfl rfl ⟨Nat.le_of_ble_eq_true rfl, Nat.le_of_ble_eq_true rfl⟩ (Nat.le_of_ble_eq_true rfl) ⟨Nat.zero_le _, Nat.zero_le _⟩ d_X_change_104 (fun r18 μ17 h => ?_)
          exact hR _ _ _ _ d_X_change_107 rfl h
        · replace h := Eq.mp (if_neg c16) h
          refine sr_aload_n C 0 rfl rfl d_X_change_87 ?_
          refine sr_getR C sm_F6 0 q_4 sm_l0 (r := 1) rfl (by decide) d_X_change_88 ?_
          refine sr_getR C sm_F0 5 q_39 sm_l1 (r := 7) rfl (by decide) d_X_change_91 ?_
          refine sr_iload_n C 1 rfl rfl d_X_change_94 ?_
          refine sr_iload_n C 3 rfl rfl d_X_change_95 ?_
          refine sr_callSI C [sm_R _, sm_I _, sm_I _] (P_X_swap l h) ok_23 rfl rfl rfl ⟨Nat.le_of_ble_eq_true rfl, Nat.le_of_ble_eq_true rfl⟩ (Nat.le_of_ble_eq_true rfl) ⟨Nat.zero_le _, Nat.zero_le _⟩ d_X_change_96 (fun r20 μ19 h => ?_)
          refine sr_goto C (tgt := 107) (by decide) d_X_change_99 ?_
          exact hR _ _ _ _ d_X_change_107 rfl h
      · replace h := Eq.mp (if_neg c13) h
        by_cases c21 : v4 = 2
        · replace h := Eq.mp (if_pos c21) h
          refine sr_tableIn C (tgt := 108) (off := 90) d_X_change_18 (by rw [c21]; decide) (by rw [c21]; decide) (by rw [c21]; decide) (by decide) ?_
          refine sr_iload_n C 3 rfl rfl d_X_change_108 ?_
          refine sr_iconst C (v := 0) d_X_change_109 (by decide) ?_
          refine sr_iconst C (v := 3) d_X_change_110 (by decide) ?_
          refine sr_callSI C [sm_I _, sm_I _, sm_I _] (P_X_within l h) ok_0 rfl rfl rfl ⟨Nat.le_of_ble_eq_true rfl, Nat.le_of_ble_eq_true rfl⟩ (Nat.le_of_ble_eq_true rfl) ⟨Nat.zero_le _, Nat.zero_le _⟩ d_X_change_111 (fun r23 μ22 h => ?_)
          refine sr_if_eq C (tgt := 132) d_X_change_114 (by decide) (fun c24 => ?_) (fun c24 => ?_)
          · replace h := Eq.mp (if_pos c24) h
            refine sr_aload_n C 0 rfl rfl d_X_change_132 ?_
            refine sr_iconst C (v := 1) d_X_change_133 (by decide) ?_
            refine sr_callVI C [sm_I _] (P_X_error l h) ok_1 sm_l0 rfl rfl rfl rfl ⟨Nat.le_of_ble_eq_true rfl, Nat.le_of_ble_eq_true rfl⟩ (Nat.le_of_ble_eq_true rfl) ⟨Nat.zero_le _, Nat.zero_le _⟩ d_X_change_134 (fun r26 μ25 h => ?_)
            exact hR _ _ _ _ d_X_change_137 rfl h
          · replace h := Eq.mp (if_neg c24) h
            refine sr_aload_n C 0 rfl rfl d_X_change_117 ?_
            refine sr_getR C sm_F6 0 q_4 sm_l0 (r := 1) rfl (by decide) d_X_change_118 ?_
            refine sr_getR C sm_F0 6 q_40 sm_l1 (r := 8) rfl (by decide) d_X_change_121 ?_
            refine sr_iload_n C 1 rfl rfl d_X_change_124 ?_
            refine sr_iload_n C 3 rfl rfl d_X_change_125 ?_
            refine sr_callSI C [sm_R _, sm_I _, sm_I _] (P_X_swap l h) ok_23 rfl rfl rfl ⟨Nat.le_of_ble_eq_true rfl, Nat.le_of_ble_eq_true rfl⟩ (Nat.le_of_ble_eq_true rfl) ⟨Nat.zero_le _, Nat.zero_le _⟩ d_X_change_126 (fun r28 μ27 h => ?_)
            refine sr_goto C (tgt := 137) (by decide) d_X_change_129 ?_
            exact hR _ _ _ _ d_X_change_137 rfl h
        · replace h := Eq.mp (if_neg c21) h
          have i0 := sm_ne c5 (z := 0) (by decide)
          have i1 := sm_ne c13 (z := 1) (by decide)
          have i2 := sm_ne c21 (z := 2) (by decide)
          refine sr_tableOut C (tgt := 138) d_X_change_18 (by omega) (by decide) ?_
          refine sr_aload_n C 0 rfl rfl d_X_change_138 ?_
          refine sr_iconst C (v := 1) d_X_change_139 (by decide) ?_
          refine sr_callVI C [sm_I _] (P_X_error l h) ok_1 sm_l0 rfl rfl rfl rfl ⟨Nat.le_of_ble_eq_true rfl, Nat.le_of_ble_eq_true rfl⟩ (Nat.le_of_ble_eq_true rfl) ⟨Nat.zero_le _, Nat.zero_le _⟩ d_X_change_140 (fun r30 μ29 h => ?_)
          exact hR _ _ _ _ d_X_change_143 rfl h
  · replace h := Eq.mp (if_pos c3) h
    refine sr_aload_n C 0 rfl rfl d_X_change_11 ?_
    refine sr_iconst C (v := 1) d_X_change_12 (by decide) ?_
    refine sr_callVI C [sm_I _] (P_X_error l h) ok_1 sm_l0 rfl rfl rfl rfl ⟨Nat.le_of_ble_eq_true rfl, Nat.le_of_ble_eq_true rfl⟩ (Nat.le_of_ble_eq_true rfl) ⟨Nat.zero_le _, Nat.zero_le _⟩ d_X_change_13 (fun r32 μ31 h => ?_)
    exact hR _ _ _ _ d_X_change_16 rfl h
theorem d_X_become_0 : decode prog_1_method_9_code 0 = .ok (.aload_n 0, 1) := by decide +kernel
theorem d_X_become_1 : decode prog_1_method_9_code 1 = .ok (.getfield 10, 3) := by decide +kernel
theorem d_X_become_4 : decode prog_1_method_9_code 4 = .ok (.iload_n 1, 1) := by decide +kernel
theorem d_X_become_5 : decode prog_1_method_9_code 5 = .ok (.invokevirtual 101, 3) := by decide +kernel
theorem d_X_become_8 : decode prog_1_method_9_code 8 = .ok (.ifCond .eq 13, 3) := by decide +kernel
theorem d_X_become_11 : decode prog_1_method_9_code 11 = .ok (.iload_n 2, 1) := by decide +kernel
theorem d_X_become_12 : decode prog_1_method_9_code 12 = .ok (.iconst 0, 1) := by decide +kernel
theorem d_X_become_13 : decode prog_1_method_9_code 13 = .ok (.bipush 69, 2) := by decide +kernel
theorem d_X_become_15 : decode prog_1_method_9_code 15 = .ok (.invokestatic 53, 3) := by decide +kernel
theorem d_X_become_18 : decode prog_1_method_9_code 18 = .ok (.ifCond .ne 9, 3) := by decide +kernel
theorem d_X_become_21 : decode prog_1_method_9_code 21 = .ok (.aload_n 0, 1) := by decide +kernel
theorem d_X_become_22 : decode prog_1_method_9_code 22 = .ok (.iconst 1, 1) := by decide +kernel
theorem d_X_become_23 : decode prog_1_method_9_code 23 = .ok (.invokevirtual 57, 3) := by decide +kernel
theorem d_X_become_26 : decode prog_1_method_9_code 26 = .ok (.ireturn, 1) := by decide +kernel
theorem d_X_become_27 : decode prog_1_method_9_code 27 = .ok (.aload_n 0, 1) := by decide +kernel
theorem d_X_become_28 : decode prog_1_method_9_code 28 = .ok (.getfield 10, 3) := by decide +kernel
theorem d_X_become_31 : decode prog_1_method_9_code 31 = .ok (.getfield 86, 3) := by decide +kernel
theorem d_X_become_34 : decode prog_1_method_9_code 34 = .ok (.iload_n 1, 1) := by decide +kernel
theorem d_X_become_35 : decode prog_1_method_9_code 35 = .ok (.iaload, 1) := by decide +kernel
theorem d_X_become_36 : decode prog_1_method_9_code 36 = .ok (.istore_n 3, 1) := by decide +kernel
theorem d_X_become_37 : decode prog_1_method_9_code 37 = .ok (.aload_n 0, 1) := by decide +kernel
theorem d_X_become_38 : decode prog_1_method_9_code 38 = .ok (.getfield 10, 3) := by decide +kernel
theorem d_X_become_41 : decode prog_1_method_9_code 41 = .ok (.getfield 86, 3) := by decide +kernel
theorem d_X_become_44 : decode prog_1_method_9_code 44 = .ok (.iload_n 1, 1) := by decide +kernel
theorem d_X_become_45 : decode prog_1_method_9_code 45 = .ok (.iload_n 2, 1) := by decide +kernel
theorem d_X_become_46 : decode prog_1_method_9_code 46 = .ok (.bipush 10, 2) := by decide +kernel
theorem d_X_become_48 : decode prog_1_method_9_code 48 = .ok (.idiv, 1) := by decide +kernel
theorem d_X_become_49 : decode prog_1_method_9_code 49 = .ok (.iastore, 1) := by decide +kernel
theorem d_X_become_50 : decode prog_1_method_9_code 50 = .ok (.aload_n 0, 1) := by decide +kernel
theorem d_X_become_51 : decode prog_1_method_9_code 51 = .ok (.getfield 10, 3) := by decide +kernel
theorem d_X_become_54 : decode prog_1_method_9_code 54 = .ok (.getfield 89, 3) := by decide +kernel
theorem d_X_become_57 : decode prog_1_method_9_code 57 = .ok (.iload_n 1, 1) := by decide +kernel
theorem d_X_become_58 : decode prog_1_method_9_code 58 = .ok (.iload_n 2, 1) := by decide +kernel
theorem d_X_become_59 : decode prog_1_method_9_code 59 = .ok (.bipush 10, 2) := by decide +kernel
theorem d_X_become_61 : decode prog_1_method_9_code 61 = .ok (.irem, 1) := by decide +kernel
theorem d_X_become_62 : decode prog_1_method_9_code 62 = .ok (.iastore, 1) := by decide +kernel
theorem d_X_become_63 : decode prog_1_method_9_code 63 = .ok (.iload_n 3, 1) := by decide +kernel
theorem d_X_become_64 : decode prog_1_method_9_code 64 = .ok (.ireturn, 1) := by decide +kernel
def w_X_become_21 (K : Int32 → sm_Mem → Prop) (p0 : Int32) (p1 : Int32) (μ : sm_Mem) : Prop := w_X_error (fun r5 μ4 => K r5 μ4) 1 μ
def w_X_become (K : Int32 → sm_Mem → Prop) (p0 : Int32) (p1 : Int32) (μ : sm_Mem) : Prop := w_D_hasNote (fun r2 μ1 => if r2 = 0 then w_X_become_21 K p0 p1 μ1 else (w_X_within (fun r7 μ6 => if r7 = 0 then w_X_become_21 K p0 p1 μ6 else (vp_in p0 10 ∧ ∀ v10 : Int32, v10 = (μ6 4 p0.toNatClampNeg) → vp_in p0 10 ∧ ∀ μ12 : sm_Mem, μ12 = sm_st μ6 4 (p0.toNatClampNeg) (p1 / 10) → vp_in p0 10 ∧ ∀ μ14 : sm_Mem, μ14 = sm_st μ12 5 (p0.toNatClampNeg) (p1 % 10) → K v10 μ14)) p1 0 69 μ1)) p0 μ
set_option maxHeartbeats 4000000 in
set_option maxRecDepth 100000 in
theorem P_X_become (l : Launch) {K : Int32 → sm_Mem → Prop} {p0 : Int32} {p1 : Int32} {μ : sm_Mem} (h : w_X_become K p0 p1 μ) : sm_MI l ⟨"SnowMoney", "become", "(II)I"⟩ prog_1_method_9_code 4 (some .int) { frames := 2, cells := 0, slots := 0, locals := 43 } [sm_R 0, sm_I p0, sm_I p1] μ K := by
  refine sm_ofI (by decide +kernel) (fun _ => Nat.le_of_ble_eq_true rfl) ?_
  intro p e s m args below meth c A Q G C hR
  have B21 : ∀ (μ : sm_Mem), w_X_become_21 K p0 p1 μ → sm_W p l e { frames := 2, cells := 0, slots := 0, locals := 43 } s m args below meth c A Q G 4 0 0 21 [] [(0, sm_R 0)] μ := by
    intro μ h
    refine sr_aload_n C 0 rfl rfl d_X_become_21 ?_
    refine sr_iconst C (v := 1) d_X_become_22 (by decide) ?_
    refine sr_callVI C [sm_I _] (P_X_error l h) ok_1 sm_l0 rfl rfl rfl rfl ⟨Nat.le_of_ble_eq_true rfl, Nat.le_of_ble_eq_true rfl⟩ (Nat.le_of_ble_eq_true rfl) ⟨Nat.zero_le _, Nat.zero_le _⟩ d_X_become_23 (fun r5 μ4 h => ?_)
    exact hR _ _ _ _ d_X_become_26 rfl h
  refine sr_aload_n C 0 rfl rfl d_X_become_0 ?_
  refine sr_getR C sm_F6 0 q_4 sm_l0 (r := 1) rfl (by decide) d_X_become_1 ?_
  refine sr_iload_n C 1 rfl rfl d_X_become_4 ?_
  refine sr_callVI C [sm_I _] (P_D_hasNote l h) ok_7 sm_l1 rfl rfl rfl rfl ⟨Nat.le_of_ble_eq_true rfl, Nat.le_of_ble_eq_true rfl⟩ (Nat.le_of_ble_eq_true rfl) ⟨Nat.zero_le _, Nat.zero_le _⟩ d_X_become_5 (fun r2 μ1 h => ?_)
  refine sr_if_eq C (tgt := 21) d_X_become_8 (by decide) (fun c3 => ?_) (fun c3 => ?_)
  · replace h := Eq.mp (if_pos c3) h
    refine sr_mask C [0] rfl ?_
    exact B21 _ h
  · replace h := Eq.mp (if_neg c3) h
    refine sr_iload_n C 2 rfl rfl d_X_become_11 ?_
    refine sr_iconst C (v := 0) d_X_become_12 (by decide) ?_
    refine sr_bipush C (v := 69) d_X_become_13 (by decide) ?_
    refine sr_callSI C [sm_I _, sm_I _, sm_I _] (P_X_within l h) ok_0 rfl rfl rfl ⟨Nat.le_of_ble_eq_true rfl, Nat.le_of_ble_eq_true rfl⟩ (Nat.le_of_ble_eq_true rfl) ⟨Nat.zero_le _, Nat.zero_le _⟩ d_X_become_15 (fun r7 μ6 h => ?_)
    refine sr_if_ne C (tgt := 27) d_X_become_18 (by decide) (fun c8 => ?_) (fun c8 => ?_)
    · replace h := Eq.mp (if_neg c8) h
      refine sr_aload_n C 0 rfl rfl d_X_become_27 ?_
      refine sr_getR C sm_F6 0 q_4 sm_l0 (r := 1) rfl (by decide) d_X_become_28 ?_
      refine sr_getR C sm_F0 2 q_36 sm_l1 (r := 4) rfl (by decide) d_X_become_31 ?_
      refine sr_iload_n C 1 rfl rfl d_X_become_34 ?_
      obtain ⟨g9, h⟩ := h
      refine sr_iald C sm_l4 g9 d_X_become_35 ?_
      replace h := h _ rfl
      refine sr_istore_n C rfl (by decide) d_X_become_36 ?_
      refine sr_aload_n C 1 rfl rfl d_X_become_37 ?_
      refine sr_getR C sm_F6 0 q_4 sm_l0 (r := 1) rfl (by decide) d_X_become_38 ?_
      refine sr_getR C sm_F0 2 q_36 sm_l1 (r := 4) rfl (by decide) d_X_become_41 ?_
      refine sr_iload_n C 2 rfl rfl d_X_become_44 ?_
      refine sr_iload_n C 3 rfl rfl d_X_become_45 ?_
      refine sr_bipush C (v := 10) d_X_become_46 (by decide) ?_
      refine sr_idiv C (by decide) d_X_become_48 ?_
      obtain ⟨g11, h⟩ := h
      refine sr_iast C sm_l4 g11 d_X_become_49 ?_
      replace h := h _ rfl
      refine sr_aload_n C 1 rfl rfl d_X_become_50 ?_
      refine sr_getR C sm_F6 0 q_4 sm_l0 (r := 1) rfl (by decide) d_X_become_51 ?_
      refine sr_getR C sm_F0 3 q_37 sm_l1 (r := 5) rfl (by decide) d_X_become_54 ?_
      refine sr_iload_n C 2 rfl rfl d_X_become_57 ?_
      refine sr_iload_n C 3 rfl rfl d_X_become_58 ?_
      refine sr_bipush C (v := 10) d_X_become_59 (by decide) ?_
      refine sr_irem C (by decide) d_X_become_61 ?_
      obtain ⟨g13, h⟩ := h
      refine sr_iast C sm_l5 g13 d_X_become_62 ?_
      replace h := h _ rfl
      refine sr_iload_n C 0 rfl rfl d_X_become_63 ?_
      exact hR _ _ _ _ d_X_become_64 rfl h
    · replace h := Eq.mp (if_pos c8) h
      refine sr_mask C [0] rfl ?_
      exact B21 _ h
theorem d_X_as_0 : decode prog_1_method_10_code 0 = .ok (.aload_n 0, 1) := by decide +kernel
theorem d_X_as_1 : decode prog_1_method_10_code 1 = .ok (.getfield 10, 3) := by decide +kernel
theorem d_X_as_4 : decode prog_1_method_10_code 4 = .ok (.iload_n 1, 1) := by decide +kernel
theorem d_X_as_5 : decode prog_1_method_10_code 5 = .ok (.invokevirtual 101, 3) := by decide +kernel
theorem d_X_as_8 : decode prog_1_method_10_code 8 = .ok (.ifCond .eq 13, 3) := by decide +kernel
theorem d_X_as_11 : decode prog_1_method_10_code 11 = .ok (.iload_n 2, 1) := by decide +kernel
theorem d_X_as_12 : decode prog_1_method_10_code 12 = .ok (.iconst 0, 1) := by decide +kernel
theorem d_X_as_13 : decode prog_1_method_10_code 13 = .ok (.bipush 6, 2) := by decide +kernel
theorem d_X_as_15 : decode prog_1_method_10_code 15 = .ok (.invokestatic 53, 3) := by decide +kernel
theorem d_X_as_18 : decode prog_1_method_10_code 18 = .ok (.ifCond .ne 9, 3) := by decide +kernel
theorem d_X_as_21 : decode prog_1_method_10_code 21 = .ok (.aload_n 0, 1) := by decide +kernel
theorem d_X_as_22 : decode prog_1_method_10_code 22 = .ok (.iconst 1, 1) := by decide +kernel
theorem d_X_as_23 : decode prog_1_method_10_code 23 = .ok (.invokevirtual 57, 3) := by decide +kernel
theorem d_X_as_26 : decode prog_1_method_10_code 26 = .ok (.ireturn, 1) := by decide +kernel
theorem d_X_as_27 : decode prog_1_method_10_code 27 = .ok (.aload_n 0, 1) := by decide +kernel
theorem d_X_as_28 : decode prog_1_method_10_code 28 = .ok (.getfield 10, 3) := by decide +kernel
theorem d_X_as_31 : decode prog_1_method_10_code 31 = .ok (.getfield 86, 3) := by decide +kernel
theorem d_X_as_34 : decode prog_1_method_10_code 34 = .ok (.iload_n 1, 1) := by decide +kernel
theorem d_X_as_35 : decode prog_1_method_10_code 35 = .ok (.iaload, 1) := by decide +kernel
theorem d_X_as_36 : decode prog_1_method_10_code 36 = .ok (.iload_n 2, 1) := by decide +kernel
theorem d_X_as_37 : decode prog_1_method_10_code 37 = .ok (.invokestatic 116, 3) := by decide +kernel
theorem d_X_as_40 : decode prog_1_method_10_code 40 = .ok (.ifCond .eq 15, 3) := by decide +kernel
theorem d_X_as_43 : decode prog_1_method_10_code 43 = .ok (.aload_n 0, 1) := by decide +kernel
theorem d_X_as_44 : decode prog_1_method_10_code 44 = .ok (.getfield 10, 3) := by decide +kernel
theorem d_X_as_47 : decode prog_1_method_10_code 47 = .ok (.getfield 89, 3) := by decide +kernel
theorem d_X_as_50 : decode prog_1_method_10_code 50 = .ok (.iload_n 1, 1) := by decide +kernel
theorem d_X_as_51 : decode prog_1_method_10_code 51 = .ok (.iaload, 1) := by decide +kernel
theorem d_X_as_52 : decode prog_1_method_10_code 52 = .ok (.goto 8, 3) := by decide +kernel
theorem d_X_as_55 : decode prog_1_method_10_code 55 = .ok (.aload_n 0, 1) := by decide +kernel
theorem d_X_as_56 : decode prog_1_method_10_code 56 = .ok (.iconst 5, 1) := by decide +kernel
theorem d_X_as_57 : decode prog_1_method_10_code 57 = .ok (.invokevirtual 57, 3) := by decide +kernel
theorem d_X_as_60 : decode prog_1_method_10_code 60 = .ok (.ireturn, 1) := by decide +kernel
def w_X_as_21 (K : Int32 → sm_Mem → Prop) (p0 : Int32) (p1 : Int32) (μ : sm_Mem) : Prop := w_X_error (fun r5 μ4 => K r5 μ4) 1 μ
def w_X_as (K : Int32 → sm_Mem → Prop) (p0 : Int32) (p1 : Int32) (μ : sm_Mem) : Prop := w_D_hasNote (fun r2 μ1 => if r2 = 0 then w_X_as_21 K p0 p1 μ1 else (w_X_within (fun r7 μ6 => if r7 = 0 then w_X_as_21 K p0 p1 μ6 else (vp_in p0 10 ∧ w_K_isOf (fun r11 μ10 => if r11 = 0 then w_X_error (fun r14 μ13 => K r14 μ13) 5 μ10 else (vp_in p0 10 ∧ K (μ10 5 p0.toNatClampNeg) μ10)) (μ6 4 p0.toNatClampNeg) p1 μ6)) p1 0 6 μ1)) p0 μ
set_option maxHeartbeats 4000000 in
set_option maxRecDepth 100000 in
theorem P_X_as (l : Launch) {K : Int32 → sm_Mem → Prop} {p0 : Int32} {p1 : Int32} {μ : sm_Mem} (h : w_X_as K p0 p1 μ) : sm_MI l ⟨"SnowMoney", "as", "(II)I"⟩ prog_1_method_10_code 3 (some .int) { frames := 2, cells := 0, slots := 0, locals := 43 } [sm_R 0, sm_I p0, sm_I p1] μ K := by
  refine sm_ofI (by decide +kernel) (fun _ => Nat.le_of_ble_eq_true rfl) ?_
  intro p e s m args below meth c A Q G C hR
  have B21 : ∀ (μ : sm_Mem), w_X_as_21 K p0 p1 μ → sm_W p l e { frames := 2, cells := 0, slots := 0, locals := 43 } s m args below meth c A Q G 3 0 0 21 [] [(0, sm_R 0)] μ := by
    intro μ h
    refine sr_aload_n C 0 rfl rfl d_X_as_21 ?_
    refine sr_iconst C (v := 1) d_X_as_22 (by decide) ?_
    refine sr_callVI C [sm_I _] (P_X_error l h) ok_1 sm_l0 rfl rfl rfl rfl ⟨Nat.le_of_ble_eq_true rfl, Nat.le_of_ble_eq_true rfl⟩ (Nat.le_of_ble_eq_true rfl) ⟨Nat.zero_le _, Nat.zero_le _⟩ d_X_as_23 (fun r5 μ4 h => ?_)
    exact hR _ _ _ _ d_X_as_26 rfl h
  refine sr_aload_n C 0 rfl rfl d_X_as_0 ?_
  refine sr_getR C sm_F6 0 q_4 sm_l0 (r := 1) rfl (by decide) d_X_as_1 ?_
  refine sr_iload_n C 1 rfl rfl d_X_as_4 ?_
  refine sr_callVI C [sm_I _] (P_D_hasNote l h) ok_7 sm_l1 rfl rfl rfl rfl ⟨Nat.le_of_ble_eq_true rfl, Nat.le_of_ble_eq_true rfl⟩ (Nat.le_of_ble_eq_true rfl) ⟨Nat.zero_le _, Nat.zero_le _⟩ d_X_as_5 (fun r2 μ1 h => ?_)
  refine sr_if_eq C (tgt := 21) d_X_as_8 (by decide) (fun c3 => ?_) (fun c3 => ?_)
  · replace h := Eq.mp (if_pos c3) h
    refine sr_mask C [0] rfl ?_
    exact B21 _ h
  · replace h := Eq.mp (if_neg c3) h
    refine sr_iload_n C 2 rfl rfl d_X_as_11 ?_
    refine sr_iconst C (v := 0) d_X_as_12 (by decide) ?_
    refine sr_bipush C (v := 6) d_X_as_13 (by decide) ?_
    refine sr_callSI C [sm_I _, sm_I _, sm_I _] (P_X_within l h) ok_0 rfl rfl rfl ⟨Nat.le_of_ble_eq_true rfl, Nat.le_of_ble_eq_true rfl⟩ (Nat.le_of_ble_eq_true rfl) ⟨Nat.zero_le _, Nat.zero_le _⟩ d_X_as_15 (fun r7 μ6 h => ?_)
    refine sr_if_ne C (tgt := 27) d_X_as_18 (by decide) (fun c8 => ?_) (fun c8 => ?_)
    · replace h := Eq.mp (if_neg c8) h
      refine sr_aload_n C 0 rfl rfl d_X_as_27 ?_
      refine sr_getR C sm_F6 0 q_4 sm_l0 (r := 1) rfl (by decide) d_X_as_28 ?_
      refine sr_getR C sm_F0 2 q_36 sm_l1 (r := 4) rfl (by decide) d_X_as_31 ?_
      refine sr_iload_n C 1 rfl rfl d_X_as_34 ?_
      obtain ⟨g9, h⟩ := h
      refine sr_iald C sm_l4 g9 d_X_as_35 ?_
      refine sr_iload_n C 2 rfl rfl d_X_as_36 ?_
      refine sr_callSI C [sm_I _, sm_I _] (P_K_isOf l h) ok_24 rfl rfl rfl ⟨Nat.le_of_ble_eq_true rfl, Nat.le_of_ble_eq_true rfl⟩ (Nat.le_of_ble_eq_true rfl) ⟨Nat.zero_le _, Nat.zero_le _⟩ d_X_as_37 (fun r11 μ10 h => ?_)
      refine sr_if_eq C (tgt := 55) d_X_as_40 (by decide) (fun c12 => ?_) (fun c12 => ?_)
      · replace h := Eq.mp (if_pos c12) h
        refine sr_aload_n C 0 rfl rfl d_X_as_55 ?_
        refine sr_iconst C (v := 5) d_X_as_56 (by decide) ?_
        refine sr_callVI C [sm_I _] (P_X_error l h) ok_1 sm_l0 rfl rfl rfl rfl ⟨Nat.le_of_ble_eq_true rfl, Nat.le_of_ble_eq_true rfl⟩ (Nat.le_of_ble_eq_true rfl) ⟨Nat.zero_le _, Nat.zero_le _⟩ d_X_as_57 (fun r14 μ13 h => ?_)
        exact hR _ _ _ _ d_X_as_60 rfl h
      · replace h := Eq.mp (if_neg c12) h
        refine sr_aload_n C 0 rfl rfl d_X_as_43 ?_
        refine sr_getR C sm_F6 0 q_4 sm_l0 (r := 1) rfl (by decide) d_X_as_44 ?_
        refine sr_getR C sm_F0 3 q_37 sm_l1 (r := 5) rfl (by decide) d_X_as_47 ?_
        refine sr_iload_n C 1 rfl rfl d_X_as_50 ?_
        obtain ⟨g15, h⟩ := h
        refine sr_iald C sm_l5 g15 d_X_as_51 ?_
        refine sr_goto C (tgt := 60) (by decide) d_X_as_52 ?_
        exact hR _ _ _ _ d_X_as_60 rfl h
    · replace h := Eq.mp (if_pos c8) h
      refine sr_mask C [0] rfl ?_
      exact B21 _ h
theorem d_X_weather_0 : decode prog_1_method_11_code 0 = .ok (.iload_n 1, 1) := by decide +kernel
theorem d_X_weather_1 : decode prog_1_method_11_code 1 = .ok (.iconst 0, 1) := by decide +kernel
theorem d_X_weather_2 : decode prog_1_method_11_code 2 = .ok (.bipush 9, 2) := by decide +kernel
theorem d_X_weather_4 : decode prog_1_method_11_code 4 = .ok (.invokestatic 53, 3) := by decide +kernel
theorem d_X_weather_7 : decode prog_1_method_11_code 7 = .ok (.ifCond .ne 9, 3) := by decide +kernel
theorem d_X_weather_10 : decode prog_1_method_11_code 10 = .ok (.aload_n 0, 1) := by decide +kernel
theorem d_X_weather_11 : decode prog_1_method_11_code 11 = .ok (.iconst 1, 1) := by decide +kernel
theorem d_X_weather_12 : decode prog_1_method_11_code 12 = .ok (.invokevirtual 57, 3) := by decide +kernel
theorem d_X_weather_15 : decode prog_1_method_11_code 15 = .ok (.ireturn, 1) := by decide +kernel
theorem d_X_weather_16 : decode prog_1_method_11_code 16 = .ok (.aload_n 0, 1) := by decide +kernel
theorem d_X_weather_17 : decode prog_1_method_11_code 17 = .ok (.getfield 10, 3) := by decide +kernel
theorem d_X_weather_20 : decode prog_1_method_11_code 20 = .ok (.getfield 120, 3) := by decide +kernel
theorem d_X_weather_23 : decode prog_1_method_11_code 23 = .ok (.istore_n 2, 1) := by decide +kernel
theorem d_X_weather_24 : decode prog_1_method_11_code 24 = .ok (.aload_n 0, 1) := by decide +kernel
theorem d_X_weather_25 : decode prog_1_method_11_code 25 = .ok (.getfield 10, 3) := by decide +kernel
theorem d_X_weather_28 : decode prog_1_method_11_code 28 = .ok (.iload_n 1, 1) := by decide +kernel
theorem d_X_weather_29 : decode prog_1_method_11_code 29 = .ok (.putfield 120, 3) := by decide +kernel
theorem d_X_weather_32 : decode prog_1_method_11_code 32 = .ok (.iload_n 2, 1) := by decide +kernel
theorem d_X_weather_33 : decode prog_1_method_11_code 33 = .ok (.ireturn, 1) := by decide +kernel
def w_X_weather (K : Int32 → sm_Mem → Prop) (p0 : Int32) (μ : sm_Mem) : Prop := w_X_within (fun r2 μ1 => if r2 = 0 then w_X_error (fun r7 μ6 => K r7 μ6) 1 μ1 else (∀ v4 : Int32, v4 = (μ1 1 13) → ∀ μ5 : sm_Mem, μ5 = sm_st μ1 1 13 p0 → K v4 μ5)) p0 0 9 μ
set_option maxHeartbeats 4000000 in
set_option maxRecDepth 100000 in
theorem P_X_weather (l : Launch) {K : Int32 → sm_Mem → Prop} {p0 : Int32} {μ : sm_Mem} (h : w_X_weather K p0 μ) : sm_MI l ⟨"SnowMoney", "weather", "(I)I"⟩ prog_1_method_11_code 3 (some .int) { frames := 2, cells := 0, slots := 0, locals := 43 } [sm_R 0, sm_I p0] μ K := by
  refine sm_ofI (by decide +kernel) (fun _ => Nat.le_of_ble_eq_true rfl) ?_
  intro p e s m args below meth c A Q G C hR
  refine sr_iload_n C 1 rfl rfl d_X_weather_0 ?_
  refine sr_iconst C (v := 0) d_X_weather_1 (by decide) ?_
  refine sr_bipush C (v := 9) d_X_weather_2 (by decide) ?_
  refine sr_callSI C [sm_I _, sm_I _, sm_I _] (P_X_within l h) ok_0 rfl rfl rfl ⟨Nat.le_of_ble_eq_true rfl, Nat.le_of_ble_eq_true rfl⟩ (Nat.le_of_ble_eq_true rfl) ⟨Nat.zero_le _, Nat.zero_le _⟩ d_X_weather_4 (fun r2 μ1 h => ?_)
  refine sr_if_ne C (tgt := 16) d_X_weather_7 (by decide) (fun c3 => ?_) (fun c3 => ?_)
  · replace h := Eq.mp (if_neg c3) h
    refine sr_aload_n C 0 rfl rfl d_X_weather_16 ?_
    refine sr_getR C sm_F6 0 q_4 sm_l0 (r := 1) rfl (by decide) d_X_weather_17 ?_
    refine sr_getI C sm_F0 13 q_117 sm_l1 rfl (by decide) d_X_weather_20 ?_
    replace h := h _ rfl
    refine sr_istore_n C rfl (by decide) d_X_weather_23 ?_
    refine sr_aload_n C 1 rfl rfl d_X_weather_24 ?_
    refine sr_getR C sm_F6 0 q_4 sm_l0 (r := 1) rfl (by decide) d_X_weather_25 ?_
    refine sr_iload_n C 2 rfl rfl d_X_weather_28 ?_
    refine sr_putI C sm_F0 13 q_117 sm_l1 rfl rfl (by decide) rfl d_X_weather_29 ?_
    replace h := h _ rfl
    refine sr_iload_n C 0 rfl rfl d_X_weather_32 ?_
    exact hR _ _ _ _ d_X_weather_33 rfl h
  · replace h := Eq.mp (if_pos c3) h
    refine sr_aload_n C 0 rfl rfl d_X_weather_10 ?_
    refine sr_iconst C (v := 1) d_X_weather_11 (by decide) ?_
    refine sr_callVI C [sm_I _] (P_X_error l h) ok_1 sm_l0 rfl rfl rfl rfl ⟨Nat.le_of_ble_eq_true rfl, Nat.le_of_ble_eq_true rfl⟩ (Nat.le_of_ble_eq_true rfl) ⟨Nat.zero_le _, Nat.zero_le _⟩ d_X_weather_12 (fun r7 μ6 h => ?_)
    exact hR _ _ _ _ d_X_weather_15 rfl h
theorem d_X_feed_0 : decode prog_1_method_12_code 0 = .ok (.iload_n 3, 1) := by decide +kernel
theorem d_X_feed_1 : decode prog_1_method_12_code 1 = .ok (.iconst 1, 1) := by decide +kernel
theorem d_X_feed_2 : decode prog_1_method_12_code 2 = .ok (.bipush 8, 2) := by decide +kernel
theorem d_X_feed_4 : decode prog_1_method_12_code 4 = .ok (.invokestatic 53, 3) := by decide +kernel
theorem d_X_feed_7 : decode prog_1_method_12_code 7 = .ok (.ifCond .ne 9, 3) := by decide +kernel
theorem d_X_feed_10 : decode prog_1_method_12_code 10 = .ok (.aload_n 0, 1) := by decide +kernel
theorem d_X_feed_11 : decode prog_1_method_12_code 11 = .ok (.iconst 1, 1) := by decide +kernel
theorem d_X_feed_12 : decode prog_1_method_12_code 12 = .ok (.invokevirtual 57, 3) := by decide +kernel
theorem d_X_feed_15 : decode prog_1_method_12_code 15 = .ok (.ireturn, 1) := by decide +kernel
theorem d_X_feed_16 : decode prog_1_method_12_code 16 = .ok (.aload_n 0, 1) := by decide +kernel
theorem d_X_feed_17 : decode prog_1_method_12_code 17 = .ok (.getfield 10, 3) := by decide +kernel
theorem d_X_feed_20 : decode prog_1_method_12_code 20 = .ok (.getfield 123, 3) := by decide +kernel
theorem d_X_feed_23 : decode prog_1_method_12_code 23 = .ok (.iload_n 3, 1) := by decide +kernel
theorem d_X_feed_24 : decode prog_1_method_12_code 24 = .ok (.iadd, 1) := by decide +kernel
theorem d_X_feed_25 : decode prog_1_method_12_code 25 = .ok (.bipush 50, 2) := by decide +kernel
theorem d_X_feed_27 : decode prog_1_method_12_code 27 = .ok (.if_icmp .le 9, 3) := by decide +kernel
theorem d_X_feed_30 : decode prog_1_method_12_code 30 = .ok (.aload_n 0, 1) := by decide +kernel
theorem d_X_feed_31 : decode prog_1_method_12_code 31 = .ok (.iconst 4, 1) := by decide +kernel
theorem d_X_feed_32 : decode prog_1_method_12_code 32 = .ok (.invokevirtual 57, 3) := by decide +kernel
theorem d_X_feed_35 : decode prog_1_method_12_code 35 = .ok (.ireturn, 1) := by decide +kernel
theorem d_X_feed_36 : decode prog_1_method_12_code 36 = .ok (.iconst 0, 1) := by decide +kernel
theorem d_X_feed_37 : decode prog_1_method_12_code 37 = .ok (.istore 4, 2) := by decide +kernel
theorem d_X_feed_39 : decode prog_1_method_12_code 39 = .ok (.iload 4, 2) := by decide +kernel
theorem d_X_feed_41 : decode prog_1_method_12_code 41 = .ok (.iload_n 3, 1) := by decide +kernel
theorem d_X_feed_42 : decode prog_1_method_12_code 42 = .ok (.if_icmp .ge 39, 3) := by decide +kernel
theorem d_X_feed_45 : decode prog_1_method_12_code 45 = .ok (.aload_n 0, 1) := by decide +kernel
theorem d_X_feed_46 : decode prog_1_method_12_code 46 = .ok (.getfield 10, 3) := by decide +kernel
theorem d_X_feed_49 : decode prog_1_method_12_code 49 = .ok (.getfield 126, 3) := by decide +kernel
theorem d_X_feed_52 : decode prog_1_method_12_code 52 = .ok (.aload_n 0, 1) := by decide +kernel
theorem d_X_feed_53 : decode prog_1_method_12_code 53 = .ok (.getfield 10, 3) := by decide +kernel
theorem d_X_feed_56 : decode prog_1_method_12_code 56 = .ok (.getfield 123, 3) := by decide +kernel
theorem d_X_feed_59 : decode prog_1_method_12_code 59 = .ok (.iload 4, 2) := by decide +kernel
theorem d_X_feed_61 : decode prog_1_method_12_code 61 = .ok (.iadd, 1) := by decide +kernel
theorem d_X_feed_62 : decode prog_1_method_12_code 62 = .ok (.lload_n 1, 1) := by decide +kernel
theorem d_X_feed_63 : decode prog_1_method_12_code 63 = .ok (.bipush 8, 2) := by decide +kernel
theorem d_X_feed_65 : decode prog_1_method_12_code 65 = .ok (.iload 4, 2) := by decide +kernel
theorem d_X_feed_67 : decode prog_1_method_12_code 67 = .ok (.imul, 1) := by decide +kernel
theorem d_X_feed_68 : decode prog_1_method_12_code 68 = .ok (.lushr, 1) := by decide +kernel
theorem d_X_feed_69 : decode prog_1_method_12_code 69 = .ok (.l2i, 1) := by decide +kernel
theorem d_X_feed_70 : decode prog_1_method_12_code 70 = .ok (.sipush 255, 3) := by decide +kernel
theorem d_X_feed_73 : decode prog_1_method_12_code 73 = .ok (.iand, 1) := by decide +kernel
theorem d_X_feed_74 : decode prog_1_method_12_code 74 = .ok (.iastore, 1) := by decide +kernel
theorem d_X_feed_75 : decode prog_1_method_12_code 75 = .ok (.iinc 4 1, 3) := by decide +kernel
theorem d_X_feed_78 : decode prog_1_method_12_code 78 = .ok (.goto (-39), 3) := by decide +kernel
theorem d_X_feed_81 : decode prog_1_method_12_code 81 = .ok (.aload_n 0, 1) := by decide +kernel
theorem d_X_feed_82 : decode prog_1_method_12_code 82 = .ok (.getfield 10, 3) := by decide +kernel
theorem d_X_feed_85 : decode prog_1_method_12_code 85 = .ok (.dup, 1) := by decide +kernel
theorem d_X_feed_86 : decode prog_1_method_12_code 86 = .ok (.getfield 123, 3) := by decide +kernel
theorem d_X_feed_89 : decode prog_1_method_12_code 89 = .ok (.iload_n 3, 1) := by decide +kernel
theorem d_X_feed_90 : decode prog_1_method_12_code 90 = .ok (.iadd, 1) := by decide +kernel
theorem d_X_feed_91 : decode prog_1_method_12_code 91 = .ok (.putfield 123, 3) := by decide +kernel
theorem d_X_feed_94 : decode prog_1_method_12_code 94 = .ok (.aload_n 0, 1) := by decide +kernel
theorem d_X_feed_95 : decode prog_1_method_12_code 95 = .ok (.getfield 10, 3) := by decide +kernel
theorem d_X_feed_98 : decode prog_1_method_12_code 98 = .ok (.getfield 123, 3) := by decide +kernel
theorem d_X_feed_101 : decode prog_1_method_12_code 101 = .ok (.ireturn, 1) := by decide +kernel
def w_X_feed_39 (K : Int32 → sm_Mem → Prop) (p0 : Int64) (p1 : Int32) (x4 : Int32) (μ : sm_Mem) : Prop := sm_lp1 (fun J39 x4 μ => if p1 ≤ x4 then (∀ μ6 : sm_Mem, μ6 = sm_st μ 1 15 ((μ 1 15) + p1) → K (μ6 1 15) μ6) else (vp_in ((μ 1 15) + x4) 50 ∧ ∀ μ8 : sm_Mem, μ8 = sm_st μ 9 (((μ 1 15) + x4).toNatClampNeg) (((p0.toUInt64 >>> ((8 * x4).toInt64.toUInt64 &&& Int64.toUInt64 63)).toInt64).toInt32 &&& 255) → J39 (x4 + 1) μ8)) x4 μ
def w_X_feed (K : Int32 → sm_Mem → Prop) (p0 : Int64) (p1 : Int32) (μ : sm_Mem) : Prop := w_X_within (fun r2 μ1 => if r2 = 0 then w_X_error (fun r12 μ11 => K r12 μ11) 1 μ1 else (if ((μ1 1 15) + p1) ≤ 50 then w_X_feed_39 K p0 p1 0 μ1 else w_X_error (fun r10 μ9 => K r10 μ9) 4 μ1)) p1 1 8 μ
set_option maxHeartbeats 4000000 in
set_option maxRecDepth 100000 in
theorem P_X_feed (l : Launch) {K : Int32 → sm_Mem → Prop} {p0 : Int64} {p1 : Int32} {μ : sm_Mem} (h : w_X_feed K p0 p1 μ) : sm_MI l ⟨"SnowMoney", "feed", "(JI)I"⟩ prog_1_method_12_code 5 (some .int) { frames := 2, cells := 0, slots := 0, locals := 43 } [sm_R 0, sm_L p0, sm_I p1] μ K := by
  refine sm_ofI (by decide +kernel) (fun _ => Nat.le_of_ble_eq_true rfl) ?_
  intro p e s m args below meth c A Q G C hR
  have B39 : ∀ (x4 : Int32) (μ : sm_Mem), w_X_feed_39 K p0 p1 x4 μ → sm_W p l e { frames := 2, cells := 0, slots := 0, locals := 43 } s m args below meth c A Q G 5 0 0 39 [] [(0, sm_R 0), (1, sm_L p0), (3, sm_I p1), (4, sm_I x4)] μ := by
    intro x4 μ h
    refine sm_lp1_sound (P := fun x4 μ => sm_W p l e { frames := 2, cells := 0, slots := 0, locals := 43 } s m args below meth c A Q G 5 0 0 39 [] [(0, sm_R 0), (1, sm_L p0), (3, sm_I p1), (4, sm_I x4)] μ) (fun J39 x4 μ hJ39 h => ?_) h
    refine sr_iload C 3 rfl d_X_feed_39 ?_
    refine sr_iload_n C 2 rfl rfl d_X_feed_41 ?_
    refine sr_icmp_ge C (tgt := 81) d_X_feed_42 (by decide) (fun c5 => ?_) (fun c5 => ?_)
    · replace h := Eq.mp (if_pos c5) h
      refine sr_aload_n C 0 rfl rfl d_X_feed_81 ?_
      refine sr_getR C sm_F6 0 q_4 sm_l0 (r := 1) rfl (by decide) d_X_feed_82 ?_
      refine sr_dup C rfl d_X_feed_85 ?_
      refine sr_getI C sm_F0 15 q_118 sm_l1 rfl (by decide) d_X_feed_86 ?_
      refine sr_iload_n C 2 rfl rfl d_X_feed_89 ?_
      refine sr_iadd C d_X_feed_90 ?_
      refine sr_putI C sm_F0 15 q_118 sm_l1 rfl rfl (by decide) rfl d_X_feed_91 ?_
      replace h := h _ rfl
      refine sr_aload_n C 0 rfl rfl d_X_feed_94 ?_
      refine sr_getR C sm_F6 0 q_4 sm_l0 (r := 1) rfl (by decide) d_X_feed_95 ?_
      refine sr_getI C sm_F0 15 q_118 sm_l1 rfl (by decide) d_X_feed_98 ?_
      exact hR _ _ _ _ d_X_feed_101 rfl h
    · replace h := Eq.mp (if_neg c5) h
      refine sr_aload_n C 0 rfl rfl d_X_feed_45 ?_
      refine sr_getR C sm_F6 0 q_4 sm_l0 (r := 1) rfl (by decide) d_X_feed_46 ?_
      refine sr_getR C sm_F0 7 q_119 sm_l1 (r := 9) rfl (by decide) d_X_feed_49 ?_
      refine sr_aload_n C 0 rfl rfl d_X_feed_52 ?_
      refine sr_getR C sm_F6 0 q_4 sm_l0 (r := 1) rfl (by decide) d_X_feed_53 ?_
      refine sr_getI C sm_F0 15 q_118 sm_l1 rfl (by decide) d_X_feed_56 ?_
      refine sr_iload C 3 rfl d_X_feed_59 ?_
      refine sr_iadd C d_X_feed_61 ?_
      refine sr_lload_n C 1 rfl rfl d_X_feed_62 ?_
      refine sr_bipush C (v := 8) d_X_feed_63 (by decide) ?_
      refine sr_iload C 3 rfl d_X_feed_65 ?_
      refine sr_imul C d_X_feed_67 ?_
      refine sr_lushr C d_X_feed_68 ?_
      refine sr_l2i C d_X_feed_69 ?_
      refine sr_sipush C (v := 255) d_X_feed_70 (by decide) ?_
      refine sr_iand C d_X_feed_73 ?_
      obtain ⟨g7, h⟩ := h
      refine sr_iast C sm_l9 g7 d_X_feed_74 ?_
      replace h := h _ rfl
      refine sr_iinc C 3 rfl (by decide) d_X_feed_75 rfl ?_
      refine sr_goto C (tgt := 39) (by decide) d_X_feed_78 ?_
      refine sr_mask C [1, 2, 3, 0] rfl ?_
      exact hJ39 _ _ h
  refine sr_iload_n C 2 rfl rfl d_X_feed_0 ?_
  refine sr_iconst C (v := 1) d_X_feed_1 (by decide) ?_
  refine sr_bipush C (v := 8) d_X_feed_2 (by decide) ?_
  refine sr_callSI C [sm_I _, sm_I _, sm_I _] (P_X_within l h) ok_0 rfl rfl rfl ⟨Nat.le_of_ble_eq_true rfl, Nat.le_of_ble_eq_true rfl⟩ (Nat.le_of_ble_eq_true rfl) ⟨Nat.zero_le _, Nat.zero_le _⟩ d_X_feed_4 (fun r2 μ1 h => ?_)
  refine sr_if_ne C (tgt := 16) d_X_feed_7 (by decide) (fun c3 => ?_) (fun c3 => ?_)
  · replace h := Eq.mp (if_neg c3) h
    refine sr_aload_n C 0 rfl rfl d_X_feed_16 ?_
    refine sr_getR C sm_F6 0 q_4 sm_l0 (r := 1) rfl (by decide) d_X_feed_17 ?_
    refine sr_getI C sm_F0 15 q_118 sm_l1 rfl (by decide) d_X_feed_20 ?_
    refine sr_iload_n C 2 rfl rfl d_X_feed_23 ?_
    refine sr_iadd C d_X_feed_24 ?_
    refine sr_bipush C (v := 50) d_X_feed_25 (by decide) ?_
    refine sr_icmp_le C (tgt := 36) d_X_feed_27 (by decide) (fun c4 => ?_) (fun c4 => ?_)
    · replace h := Eq.mp (if_pos c4) h
      refine sr_iconst C (v := 0) d_X_feed_36 (by decide) ?_
      refine sr_istore C (by decide) d_X_feed_37 ?_
      refine sr_mask C [1, 2, 3, 0] rfl ?_
      exact B39 _ _ h
    · replace h := Eq.mp (if_neg c4) h
      refine sr_aload_n C 0 rfl rfl d_X_feed_30 ?_
      refine sr_iconst C (v := 4) d_X_feed_31 (by decide) ?_
      refine sr_callVI C [sm_I _] (P_X_error l h) ok_1 sm_l0 rfl rfl rfl rfl ⟨Nat.le_of_ble_eq_true rfl, Nat.le_of_ble_eq_true rfl⟩ (Nat.le_of_ble_eq_true rfl) ⟨Nat.zero_le _, Nat.zero_le _⟩ d_X_feed_32 (fun r10 μ9 h => ?_)
      exact hR _ _ _ _ d_X_feed_35 rfl h
  · replace h := Eq.mp (if_pos c3) h
    refine sr_aload_n C 0 rfl rfl d_X_feed_10 ?_
    refine sr_iconst C (v := 1) d_X_feed_11 (by decide) ?_
    refine sr_callVI C [sm_I _] (P_X_error l h) ok_1 sm_l0 rfl rfl rfl rfl ⟨Nat.le_of_ble_eq_true rfl, Nat.le_of_ble_eq_true rfl⟩ (Nat.le_of_ble_eq_true rfl) ⟨Nat.zero_le _, Nat.zero_le _⟩ d_X_feed_12 (fun r12 μ11 h => ?_)
    exact hR _ _ _ _ d_X_feed_15 rfl h
theorem d_X_text_0 : decode prog_1_method_13_code 0 = .ok (.iload_n 1, 1) := by decide +kernel
theorem d_X_text_1 : decode prog_1_method_13_code 1 = .ok (.iconst 0, 1) := by decide +kernel
theorem d_X_text_2 : decode prog_1_method_13_code 2 = .ok (.iconst 1, 1) := by decide +kernel
theorem d_X_text_3 : decode prog_1_method_13_code 3 = .ok (.invokestatic 53, 3) := by decide +kernel
theorem d_X_text_6 : decode prog_1_method_13_code 6 = .ok (.ifCond .ne 9, 3) := by decide +kernel
theorem d_X_text_9 : decode prog_1_method_13_code 9 = .ok (.aload_n 0, 1) := by decide +kernel
theorem d_X_text_10 : decode prog_1_method_13_code 10 = .ok (.iconst 1, 1) := by decide +kernel
theorem d_X_text_11 : decode prog_1_method_13_code 11 = .ok (.invokevirtual 57, 3) := by decide +kernel
theorem d_X_text_14 : decode prog_1_method_13_code 14 = .ok (.ireturn, 1) := by decide +kernel
theorem d_X_text_15 : decode prog_1_method_13_code 15 = .ok (.aload_n 0, 1) := by decide +kernel
theorem d_X_text_16 : decode prog_1_method_13_code 16 = .ok (.getfield 31, 3) := by decide +kernel
theorem d_X_text_19 : decode prog_1_method_13_code 19 = .ok (.aload_n 0, 1) := by decide +kernel
theorem d_X_text_20 : decode prog_1_method_13_code 20 = .ok (.getfield 10, 3) := by decide +kernel
theorem d_X_text_23 : decode prog_1_method_13_code 23 = .ok (.getfield 126, 3) := by decide +kernel
theorem d_X_text_26 : decode prog_1_method_13_code 26 = .ok (.aload_n 0, 1) := by decide +kernel
theorem d_X_text_27 : decode prog_1_method_13_code 27 = .ok (.getfield 10, 3) := by decide +kernel
theorem d_X_text_30 : decode prog_1_method_13_code 30 = .ok (.getfield 123, 3) := by decide +kernel
theorem d_X_text_33 : decode prog_1_method_13_code 33 = .ok (.iload_n 1, 1) := by decide +kernel
theorem d_X_text_34 : decode prog_1_method_13_code 34 = .ok (.ifCond .ne 8, 3) := by decide +kernel
theorem d_X_text_37 : decode prog_1_method_13_code 37 = .ok (.ldc 129, 2) := by decide +kernel
theorem d_X_text_39 : decode prog_1_method_13_code 39 = .ok (.goto 5, 3) := by decide +kernel
theorem d_X_text_42 : decode prog_1_method_13_code 42 = .ok (.ldc 131, 2) := by decide +kernel
theorem d_X_text_44 : decode prog_1_method_13_code 44 = .ok (.invokevirtual 133, 3) := by decide +kernel
theorem d_X_text_47 : decode prog_1_method_13_code 47 = .ok (.istore_n 2, 1) := by decide +kernel
theorem d_X_text_48 : decode prog_1_method_13_code 48 = .ok (.aload_n 0, 1) := by decide +kernel
theorem d_X_text_49 : decode prog_1_method_13_code 49 = .ok (.getfield 10, 3) := by decide +kernel
theorem d_X_text_52 : decode prog_1_method_13_code 52 = .ok (.iconst 0, 1) := by decide +kernel
theorem d_X_text_53 : decode prog_1_method_13_code 53 = .ok (.putfield 123, 3) := by decide +kernel
theorem d_X_text_56 : decode prog_1_method_13_code 56 = .ok (.iload_n 2, 1) := by decide +kernel
theorem d_X_text_57 : decode prog_1_method_13_code 57 = .ok (.ifCond .lt 8, 3) := by decide +kernel
theorem d_X_text_60 : decode prog_1_method_13_code 60 = .ok (.bipush (-10), 2) := by decide +kernel
theorem d_X_text_62 : decode prog_1_method_13_code 62 = .ok (.iload_n 2, 1) := by decide +kernel
theorem d_X_text_63 : decode prog_1_method_13_code 63 = .ok (.isub, 1) := by decide +kernel
theorem d_X_text_64 : decode prog_1_method_13_code 64 = .ok (.ireturn, 1) := by decide +kernel
theorem d_X_text_65 : decode prog_1_method_13_code 65 = .ok (.iload_n 1, 1) := by decide +kernel
theorem d_X_text_66 : decode prog_1_method_13_code 66 = .ok (.ifCond .ne 13, 3) := by decide +kernel
theorem d_X_text_69 : decode prog_1_method_13_code 69 = .ok (.aload_n 0, 1) := by decide +kernel
theorem d_X_text_70 : decode prog_1_method_13_code 70 = .ok (.getfield 10, 3) := by decide +kernel
theorem d_X_text_73 : decode prog_1_method_13_code 73 = .ok (.getfield 137, 3) := by decide +kernel
theorem d_X_text_76 : decode prog_1_method_13_code 76 = .ok (.goto 10, 3) := by decide +kernel
theorem d_X_text_79 : decode prog_1_method_13_code 79 = .ok (.aload_n 0, 1) := by decide +kernel
theorem d_X_text_80 : decode prog_1_method_13_code 80 = .ok (.getfield 10, 3) := by decide +kernel
theorem d_X_text_83 : decode prog_1_method_13_code 83 = .ok (.getfield 141, 3) := by decide +kernel
theorem d_X_text_86 : decode prog_1_method_13_code 86 = .ok (.astore_n 3, 1) := by decide +kernel
theorem d_X_text_87 : decode prog_1_method_13_code 87 = .ok (.aload_n 3, 1) := by decide +kernel
theorem d_X_text_88 : decode prog_1_method_13_code 88 = .ok (.aload_n 0, 1) := by decide +kernel
theorem d_X_text_89 : decode prog_1_method_13_code 89 = .ok (.getfield 31, 3) := by decide +kernel
theorem d_X_text_92 : decode prog_1_method_13_code 92 = .ok (.getfield 144, 3) := by decide +kernel
theorem d_X_text_95 : decode prog_1_method_13_code 95 = .ok (.invokevirtual 147, 3) := by decide +kernel
theorem d_X_text_98 : decode prog_1_method_13_code 98 = .ok (.iconst 1, 1) := by decide +kernel
theorem d_X_text_99 : decode prog_1_method_13_code 99 = .ok (.ireturn, 1) := by decide +kernel
def w_X_text_86 (K : Int32 → sm_Mem → Prop) (p0 : Int32) (s0 : Nat) (μ : sm_Mem) : Prop := isText s0 ∧ w_T_take (fun μ10 => K 1 μ10) s0 44 μ
def w_X_text_44 (K : Int32 → sm_Mem → Prop) (p0 : Int32) (s0 : Int32) (s1 : Int32) (μ : sm_Mem) : Prop := w_R_read (fun r6 μ5 => ∀ μ7 : sm_Mem, μ7 = sm_st μ5 1 15 0 → if r6 < 0 then (if p0 = 0 then w_X_text_86 K p0 11 μ7 else w_X_text_86 K p0 15 μ7) else K ((-10) - r6) μ7) 9 s1 s0 μ
def w_X_text (K : Int32 → sm_Mem → Prop) (p0 : Int32) (μ : sm_Mem) : Prop := w_X_within (fun r2 μ1 => if r2 = 0 then w_X_error (fun r12 μ11 => K r12 μ11) 1 μ1 else (if p0 = 0 then w_X_text_44 K p0 1 (μ1 1 15) μ1 else w_X_text_44 K p0 2 (μ1 1 15) μ1)) p0 0 1 μ
set_option maxHeartbeats 4000000 in
set_option maxRecDepth 100000 in
theorem P_X_text (l : Launch) {K : Int32 → sm_Mem → Prop} {p0 : Int32} {μ : sm_Mem} (h : w_X_text K p0 μ) : sm_MI l ⟨"SnowMoney", "text", "(I)I"⟩ prog_1_method_13_code 4 (some .int) { frames := 64, cells := 0, slots := 0, locals := 2846 } [sm_R 0, sm_I p0] μ K := by
  refine sm_ofI (by decide +kernel) (fun _ => Nat.le_of_ble_eq_true rfl) ?_
  intro p e s m args below meth c A Q G C hR
  have B86 : ∀ (s0 : Nat) (μ : sm_Mem), w_X_text_86 K p0 s0 μ → sm_W p l e { frames := 64, cells := 0, slots := 0, locals := 2846 } s m args below meth c A Q G 4 0 0 86 [sm_R s0] [(0, sm_R 0)] μ := by
    intro s0 μ h
    obtain ⟨t_s0, h⟩ := h
    refine sr_astore_n C rfl (by decide) d_X_text_86 ?_
    refine sr_aload_n C 0 rfl rfl d_X_text_87 ?_
    refine sr_aload_n C 1 rfl rfl d_X_text_88 ?_
    refine sr_getR C sm_F6 3 q_120 sm_l0 (r := 43) rfl (by decide) d_X_text_89 ?_
    refine sr_getR C sm_F2 0 q_127 sm_l43 (r := 44) rfl (by decide) d_X_text_92 ?_
    refine sr_callVV C [sm_R _] (P_T_take l h) ok_26 t_s0.1 rfl rfl rfl rfl ⟨Nat.le_of_ble_eq_true rfl, Nat.le_of_ble_eq_true rfl⟩ (Nat.le_of_ble_eq_true rfl) ⟨Nat.zero_le _, Nat.zero_le _⟩ d_X_text_95 (fun μ10 h => ?_)
    refine sr_iconst C (v := 1) d_X_text_98 (by decide) ?_
    exact hR _ _ _ _ d_X_text_99 rfl h
  have B44 : ∀ (s0 : Int32) (s1 : Int32) (μ : sm_Mem), w_X_text_44 K p0 s0 s1 μ → sm_W p l e { frames := 64, cells := 0, slots := 0, locals := 2846 } s m args below meth c A Q G 4 0 0 44 [sm_R (100 + s0.toNatClampNeg), sm_I s1, sm_R 9, sm_R 43] [(0, sm_R 0), (1, sm_I p0)] μ := by
    intro s0 s1 μ h
    refine sr_callVI C [sm_R _, sm_I _, sm_R _] (P_R_read l h) ok_25 sm_l43 rfl rfl rfl rfl ⟨Nat.le_of_ble_eq_true rfl, Nat.le_of_ble_eq_true rfl⟩ (Nat.le_of_ble_eq_true rfl) ⟨Nat.zero_le _, Nat.zero_le _⟩ d_X_text_44 (fun r6 μ5 h => ?_)
    refine sr_istore_n C rfl (by decide) d_X_text_47 ?_
    refine sr_aload_n C 1 rfl rfl d_X_text_48 ?_
    refine sr_getR C sm_F6 0 q_4 sm_l0 (r := 1) rfl (by decide) d_X_text_49 ?_
    refine sr_iconst C (v := 0) d_X_text_52 (by decide) ?_
    refine sr_putI C sm_F0 15 q_118 sm_l1 rfl rfl (by decide) rfl d_X_text_53 ?_
    replace h := h _ rfl
    refine sr_iload_n C 0 rfl rfl d_X_text_56 ?_
    refine sr_if_lt C (tgt := 65) d_X_text_57 (by decide) (fun c8 => ?_) (fun c8 => ?_)
    · replace h := Eq.mp (if_pos c8) h
      refine sr_iload_n C 2 rfl rfl d_X_text_65 ?_
      refine sr_if_ne C (tgt := 79) d_X_text_66 (by decide) (fun c9 => ?_) (fun c9 => ?_)
      · replace h := Eq.mp (if_neg c9) h
        refine sr_aload_n C 1 rfl rfl d_X_text_79 ?_
        refine sr_getR C sm_F6 0 q_4 sm_l0 (r := 1) rfl (by decide) d_X_text_80 ?_
        refine sr_getR C sm_F0 10 q_126 sm_l1 (r := 15) rfl (by decide) d_X_text_83 ?_
        refine sr_mask C [1] rfl ?_
        exact B86 _ _ h
      · replace h := Eq.mp (if_pos c9) h
        refine sr_aload_n C 1 rfl rfl d_X_text_69 ?_
        refine sr_getR C sm_F6 0 q_4 sm_l0 (r := 1) rfl (by decide) d_X_text_70 ?_
        refine sr_getR C sm_F0 9 q_132 sm_l1 (r := 11) rfl (by decide) d_X_text_73 ?_
        refine sr_goto C (tgt := 86) (by decide) d_X_text_76 ?_
        refine sr_mask C [1] rfl ?_
        exact B86 _ _ h
    · replace h := Eq.mp (if_neg c8) h
      refine sr_bipush C (v := (-10)) d_X_text_60 (by decide) ?_
      refine sr_iload_n C 0 rfl rfl d_X_text_62 ?_
      refine sr_isub C d_X_text_63 ?_
      exact hR _ _ _ _ d_X_text_64 rfl h
  refine sr_iload_n C 1 rfl rfl d_X_text_0 ?_
  refine sr_iconst C (v := 0) d_X_text_1 (by decide) ?_
  refine sr_iconst C (v := 1) d_X_text_2 (by decide) ?_
  refine sr_callSI C [sm_I _, sm_I _, sm_I _] (P_X_within l h) ok_0 rfl rfl rfl ⟨Nat.le_of_ble_eq_true rfl, Nat.le_of_ble_eq_true rfl⟩ (Nat.le_of_ble_eq_true rfl) ⟨Nat.zero_le _, Nat.zero_le _⟩ d_X_text_3 (fun r2 μ1 h => ?_)
  refine sr_if_ne C (tgt := 15) d_X_text_6 (by decide) (fun c3 => ?_) (fun c3 => ?_)
  · replace h := Eq.mp (if_neg c3) h
    refine sr_aload_n C 0 rfl rfl d_X_text_15 ?_
    refine sr_getR C sm_F6 3 q_120 sm_l0 (r := 43) rfl (by decide) d_X_text_16 ?_
    refine sr_aload_n C 0 rfl rfl d_X_text_19 ?_
    refine sr_getR C sm_F6 0 q_4 sm_l0 (r := 1) rfl (by decide) d_X_text_20 ?_
    refine sr_getR C sm_F0 7 q_119 sm_l1 (r := 9) rfl (by decide) d_X_text_23 ?_
    refine sr_aload_n C 0 rfl rfl d_X_text_26 ?_
    refine sr_getR C sm_F6 0 q_4 sm_l0 (r := 1) rfl (by decide) d_X_text_27 ?_
    refine sr_getI C sm_F0 15 q_118 sm_l1 rfl (by decide) d_X_text_30 ?_
    refine sr_iload_n C 1 rfl rfl d_X_text_33 ?_
    refine sr_if_ne C (tgt := 42) d_X_text_34 (by decide) (fun c4 => ?_) (fun c4 => ?_)
    · replace h := Eq.mp (if_neg c4) h
      refine sr_ldcS C (q := 100 + (2 : Int32).toNatClampNeg) (by rw [show (2 : Int32).toNatClampNeg = 2 by decide +kernel]; exact C.2.2.2.2.2.2.2.2.2.2) d_X_text_42 ?_
      exact B44 _ _ _ h
    · replace h := Eq.mp (if_pos c4) h
      refine sr_ldcS C (q := 100 + (1 : Int32).toNatClampNeg) (by rw [show (1 : Int32).toNatClampNeg = 1 by decide +kernel]; exact C.2.2.2.2.2.2.2.2.2.1) d_X_text_37 ?_
      refine sr_goto C (tgt := 44) (by decide) d_X_text_39 ?_
      exact B44 _ _ _ h
  · replace h := Eq.mp (if_pos c3) h
    refine sr_aload_n C 0 rfl rfl d_X_text_9 ?_
    refine sr_iconst C (v := 1) d_X_text_10 (by decide) ?_
    refine sr_callVI C [sm_I _] (P_X_error l h) ok_1 sm_l0 rfl rfl rfl rfl ⟨Nat.le_of_ble_eq_true rfl, Nat.le_of_ble_eq_true rfl⟩ (Nat.le_of_ble_eq_true rfl) ⟨Nat.zero_le _, Nat.zero_le _⟩ d_X_text_11 (fun r12 μ11 h => ?_)
    exact hR _ _ _ _ d_X_text_14 rfl h
theorem d_X_law_0 : decode prog_1_method_14_code 0 = .ok (.iload_n 1, 1) := by decide +kernel
theorem d_X_law_1 : decode prog_1_method_14_code 1 = .ok (.lookupswitch 51 #[(0, 27), (1, 39)], 27) := by decide +kernel
theorem d_X_law_28 : decode prog_1_method_14_code 28 = .ok (.aload_n 0, 1) := by decide +kernel
theorem d_X_law_29 : decode prog_1_method_14_code 29 = .ok (.getfield 10, 3) := by decide +kernel
theorem d_X_law_32 : decode prog_1_method_14_code 32 = .ok (.iload_n 2, 1) := by decide +kernel
theorem d_X_law_33 : decode prog_1_method_14_code 33 = .ok (.iload_n 3, 1) := by decide +kernel
theorem d_X_law_34 : decode prog_1_method_14_code 34 = .ok (.iload 4, 2) := by decide +kernel
theorem d_X_law_36 : decode prog_1_method_14_code 36 = .ok (.invokevirtual 153, 3) := by decide +kernel
theorem d_X_law_39 : decode prog_1_method_14_code 39 = .ok (.ireturn, 1) := by decide +kernel
theorem d_X_law_40 : decode prog_1_method_14_code 40 = .ok (.aload_n 0, 1) := by decide +kernel
theorem d_X_law_41 : decode prog_1_method_14_code 41 = .ok (.getfield 10, 3) := by decide +kernel
theorem d_X_law_44 : decode prog_1_method_14_code 44 = .ok (.iload_n 2, 1) := by decide +kernel
theorem d_X_law_45 : decode prog_1_method_14_code 45 = .ok (.iload_n 3, 1) := by decide +kernel
theorem d_X_law_46 : decode prog_1_method_14_code 46 = .ok (.iload 4, 2) := by decide +kernel
theorem d_X_law_48 : decode prog_1_method_14_code 48 = .ok (.invokevirtual 157, 3) := by decide +kernel
theorem d_X_law_51 : decode prog_1_method_14_code 51 = .ok (.ireturn, 1) := by decide +kernel
theorem d_X_law_52 : decode prog_1_method_14_code 52 = .ok (.aload_n 0, 1) := by decide +kernel
theorem d_X_law_53 : decode prog_1_method_14_code 53 = .ok (.iconst 1, 1) := by decide +kernel
theorem d_X_law_54 : decode prog_1_method_14_code 54 = .ok (.invokevirtual 57, 3) := by decide +kernel
theorem d_X_law_57 : decode prog_1_method_14_code 57 = .ok (.ireturn, 1) := by decide +kernel
def w_X_law (K : Int32 → sm_Mem → Prop) (p0 : Int32) (p1 : Int32) (p2 : Int32) (p3 : Int32) (μ : sm_Mem) : Prop := ∀ v1 : Int32, v1 = p0 → if v1 = 0 then w_D_heatBy (fun r4 μ3 => K r4 μ3) p1 p2 p3 μ else (if v1 = 1 then w_D_foundBy (fun r7 μ6 => K r7 μ6) p1 p2 p3 μ else w_X_error (fun r9 μ8 => K r9 μ8) 1 μ)
set_option maxHeartbeats 4000000 in
set_option maxRecDepth 100000 in
theorem P_X_law (l : Launch) {K : Int32 → sm_Mem → Prop} {p0 : Int32} {p1 : Int32} {p2 : Int32} {p3 : Int32} {μ : sm_Mem} (h : w_X_law K p0 p1 p2 p3 μ) : sm_MI l ⟨"SnowMoney", "law", "(IIII)I"⟩ prog_1_method_14_code 5 (some .int) { frames := 3, cells := 0, slots := 0, locals := 73 } [sm_R 0, sm_I p0, sm_I p1, sm_I p2, sm_I p3] μ K := by
  refine sm_ofI (by decide +kernel) (fun _ => Nat.le_of_ble_eq_true rfl) ?_
  intro p e s m args below meth c A Q G C hR
  refine sr_iload_n C 1 rfl rfl d_X_law_0 ?_
  refine sm_name (fun v1 ev1 => ?_)
  replace h := h v1 ev1
  by_cases c2 : v1 = 0
  · replace h := Eq.mp (if_pos c2) h
    refine sr_lookup C (tgt := 28) (off := 27) d_X_law_1 (by decide) (by rw [c2]; decide) (by decide) ?_
    refine sr_aload_n C 0 rfl rfl d_X_law_28 ?_
    refine sr_getR C sm_F6 0 q_4 sm_l0 (r := 1) rfl (by decide) d_X_law_29 ?_
    refine sr_iload_n C 2 rfl rfl d_X_law_32 ?_
    refine sr_iload_n C 3 rfl rfl d_X_law_33 ?_
    refine sr_iload C 4 rfl d_X_law_34 ?_
    refine sr_callVI C [sm_I _, sm_I _, sm_I _] (P_D_heatBy l h) ok_41 sm_l1 rfl rfl rfl rfl ⟨Nat.le_of_ble_eq_true rfl, Nat.le_of_ble_eq_true rfl⟩ (Nat.le_of_ble_eq_true rfl) ⟨Nat.zero_le _, Nat.zero_le _⟩ d_X_law_36 (fun r4 μ3 h => ?_)
    exact hR _ _ _ _ d_X_law_39 rfl h
  · replace h := Eq.mp (if_neg c2) h
    by_cases c5 : v1 = 1
    · replace h := Eq.mp (if_pos c5) h
      refine sr_lookup C (tgt := 40) (off := 39) d_X_law_1 (by decide) (by rw [c5]; decide) (by decide) ?_
      refine sr_aload_n C 0 rfl rfl d_X_law_40 ?_
      refine sr_getR C sm_F6 0 q_4 sm_l0 (r := 1) rfl (by decide) d_X_law_41 ?_
      refine sr_iload_n C 2 rfl rfl d_X_law_44 ?_
      refine sr_iload_n C 3 rfl rfl d_X_law_45 ?_
      refine sr_iload C 4 rfl d_X_law_46 ?_
      refine sr_callVI C [sm_I _, sm_I _, sm_I _] (P_D_foundBy l h) ok_42 sm_l1 rfl rfl rfl rfl ⟨Nat.le_of_ble_eq_true rfl, Nat.le_of_ble_eq_true rfl⟩ (Nat.le_of_ble_eq_true rfl) ⟨Nat.zero_le _, Nat.zero_le _⟩ d_X_law_48 (fun r7 μ6 h => ?_)
      exact hR _ _ _ _ d_X_law_51 rfl h
    · replace h := Eq.mp (if_neg c5) h
      have i0 := sm_ne c2 (z := 0) (by decide)
      have i1 := sm_ne c5 (z := 1) (by decide)
      refine sr_lookup C (tgt := 52) (off := 51) d_X_law_1 (by decide) (by simp [Op.lookupswitch.offset, Ne.symm i0, Ne.symm i1]) (by decide) ?_
      refine sr_aload_n C 0 rfl rfl d_X_law_52 ?_
      refine sr_iconst C (v := 1) d_X_law_53 (by decide) ?_
      refine sr_callVI C [sm_I _] (P_X_error l h) ok_1 sm_l0 rfl rfl rfl rfl ⟨Nat.le_of_ble_eq_true rfl, Nat.le_of_ble_eq_true rfl⟩ (Nat.le_of_ble_eq_true rfl) ⟨Nat.zero_le _, Nat.zero_le _⟩ d_X_law_54 (fun r9 μ8 h => ?_)
      exact hR _ _ _ _ d_X_law_57 rfl h
theorem d_X_pass_0 : decode prog_1_method_47_code 0 = .ok (.iconst 0, 1) := by decide +kernel
theorem d_X_pass_1 : decode prog_1_method_47_code 1 = .ok (.istore_n 2, 1) := by decide +kernel
theorem d_X_pass_2 : decode prog_1_method_47_code 2 = .ok (.iload_n 2, 1) := by decide +kernel
theorem d_X_pass_3 : decode prog_1_method_47_code 3 = .ok (.aload_n 0, 1) := by decide +kernel
theorem d_X_pass_4 : decode prog_1_method_47_code 4 = .ok (.getfield 10, 3) := by decide +kernel
theorem d_X_pass_7 : decode prog_1_method_47_code 7 = .ok (.getfield 83, 3) := by decide +kernel
theorem d_X_pass_10 : decode prog_1_method_47_code 10 = .ok (.if_icmp .ge 42, 3) := by decide +kernel
theorem d_X_pass_13 : decode prog_1_method_47_code 13 = .ok (.aload_n 0, 1) := by decide +kernel
theorem d_X_pass_14 : decode prog_1_method_47_code 14 = .ok (.getfield 10, 3) := by decide +kernel
theorem d_X_pass_17 : decode prog_1_method_47_code 17 = .ok (.getfield 92, 3) := by decide +kernel
theorem d_X_pass_20 : decode prog_1_method_47_code 20 = .ok (.iload_n 2, 1) := by decide +kernel
theorem d_X_pass_21 : decode prog_1_method_47_code 21 = .ok (.aload_n 0, 1) := by decide +kernel
theorem d_X_pass_22 : decode prog_1_method_47_code 22 = .ok (.getfield 24, 3) := by decide +kernel
theorem d_X_pass_25 : decode prog_1_method_47_code 25 = .ok (.iload_n 2, 1) := by decide +kernel
theorem d_X_pass_26 : decode prog_1_method_47_code 26 = .ok (.aload_n 0, 1) := by decide +kernel
theorem d_X_pass_27 : decode prog_1_method_47_code 27 = .ok (.getfield 10, 3) := by decide +kernel
theorem d_X_pass_30 : decode prog_1_method_47_code 30 = .ok (.iload_n 2, 1) := by decide +kernel
theorem d_X_pass_31 : decode prog_1_method_47_code 31 = .ok (.invokevirtual 179, 3) := by decide +kernel
theorem d_X_pass_34 : decode prog_1_method_47_code 34 = .ok (.aload_n 0, 1) := by decide +kernel
theorem d_X_pass_35 : decode prog_1_method_47_code 35 = .ok (.getfield 10, 3) := by decide +kernel
theorem d_X_pass_38 : decode prog_1_method_47_code 38 = .ok (.getfield 120, 3) := by decide +kernel
theorem d_X_pass_41 : decode prog_1_method_47_code 41 = .ok (.iload_n 1, 1) := by decide +kernel
theorem d_X_pass_42 : decode prog_1_method_47_code 42 = .ok (.invokevirtual 182, 3) := by decide +kernel
theorem d_X_pass_45 : decode prog_1_method_47_code 45 = .ok (.iastore, 1) := by decide +kernel
theorem d_X_pass_46 : decode prog_1_method_47_code 46 = .ok (.iinc 2 1, 3) := by decide +kernel
theorem d_X_pass_49 : decode prog_1_method_47_code 49 = .ok (.goto (-47), 3) := by decide +kernel
theorem d_X_pass_52 : decode prog_1_method_47_code 52 = .ok (.aload_n 0, 1) := by decide +kernel
theorem d_X_pass_53 : decode prog_1_method_47_code 53 = .ok (.getfield 10, 3) := by decide +kernel
theorem d_X_pass_56 : decode prog_1_method_47_code 56 = .ok (.dup, 1) := by decide +kernel
theorem d_X_pass_57 : decode prog_1_method_47_code 57 = .ok (.getfield 160, 3) := by decide +kernel
theorem d_X_pass_60 : decode prog_1_method_47_code 60 = .ok (.iload_n 1, 1) := by decide +kernel
theorem d_X_pass_61 : decode prog_1_method_47_code 61 = .ok (.iadd, 1) := by decide +kernel
theorem d_X_pass_62 : decode prog_1_method_47_code 62 = .ok (.putfield 160, 3) := by decide +kernel
theorem d_X_pass_65 : decode prog_1_method_47_code 65 = .ok (.return_, 1) := by decide +kernel
def w_X_pass_2 (K : sm_Mem → Prop) (p0 : Int32) (x2 : Int32) (μ : sm_Mem) : Prop := sm_lp1 (fun J2 x2 μ => if (μ 1 12) ≤ x2 then (∀ μ2 : sm_Mem, μ2 = sm_st μ 1 14 ((μ 1 14) + p0) → K μ2) else (w_D_warmthAround (fun r4 μ3 => w_F_leftBy (fun r6 μ5 => vp_in x2 10 ∧ ∀ μ8 : sm_Mem, μ8 = sm_st μ5 6 (x2.toNatClampNeg) r6 → J2 (x2 + 1) μ8) x2 r4 (μ3 1 13) p0 μ3) x2 μ)) x2 μ
def w_X_pass (K : sm_Mem → Prop) (p0 : Int32) (μ : sm_Mem) : Prop := w_X_pass_2 K p0 0 μ
set_option maxHeartbeats 4000000 in
set_option maxRecDepth 100000 in
theorem P_X_pass (l : Launch) {K : sm_Mem → Prop} {p0 : Int32} {μ : sm_Mem} (h : w_X_pass K p0 μ) : sm_MV l ⟨"SnowMoney", "pass", "(I)V"⟩ prog_1_method_47_code 3 { frames := 5, cells := 0, slots := 0, locals := 123 } [sm_R 0, sm_I p0] μ K := by
  refine sm_ofV (by decide +kernel) (fun _ => Nat.le_of_ble_eq_true rfl) ?_
  intro p e s m args below meth c A Q G C hR
  have B2 : ∀ (x2 : Int32) (μ : sm_Mem), w_X_pass_2 K p0 x2 μ → sm_W p l e { frames := 5, cells := 0, slots := 0, locals := 123 } s m args below meth c A Q G 3 0 0 2 [] [(0, sm_R 0), (1, sm_I p0), (2, sm_I x2)] μ := by
    intro x2 μ h
    refine sm_lp1_sound (P := fun x2 μ => sm_W p l e { frames := 5, cells := 0, slots := 0, locals := 123 } s m args below meth c A Q G 3 0 0 2 [] [(0, sm_R 0), (1, sm_I p0), (2, sm_I x2)] μ) (fun J2 x2 μ hJ2 h => ?_) h
    refine sr_iload_n C 2 rfl rfl d_X_pass_2 ?_
    refine sr_aload_n C 0 rfl rfl d_X_pass_3 ?_
    refine sr_getR C sm_F6 0 q_4 sm_l0 (r := 1) rfl (by decide) d_X_pass_4 ?_
    refine sr_getI C sm_F0 12 q_35 sm_l1 rfl (by decide) d_X_pass_7 ?_
    refine sr_icmp_ge C (tgt := 52) d_X_pass_10 (by decide) (fun c1 => ?_) (fun c1 => ?_)
    · replace h := Eq.mp (if_pos c1) h
      refine sr_aload_n C 0 rfl rfl d_X_pass_52 ?_
      refine sr_getR C sm_F6 0 q_4 sm_l0 (r := 1) rfl (by decide) d_X_pass_53 ?_
      refine sr_dup C rfl d_X_pass_56 ?_
      refine sr_getI C sm_F0 14 q_200 sm_l1 rfl (by decide) d_X_pass_57 ?_
      refine sr_iload_n C 1 rfl rfl d_X_pass_60 ?_
      refine sr_iadd C d_X_pass_61 ?_
      refine sr_putI C sm_F0 14 q_200 sm_l1 rfl rfl (by decide) rfl d_X_pass_62 ?_
      replace h := h _ rfl
      exact hR _ _ _ d_X_pass_65 h
    · replace h := Eq.mp (if_neg c1) h
      refine sr_aload_n C 0 rfl rfl d_X_pass_13 ?_
      refine sr_getR C sm_F6 0 q_4 sm_l0 (r := 1) rfl (by decide) d_X_pass_14 ?_
      refine sr_getR C sm_F0 4 q_38 sm_l1 (r := 6) rfl (by decide) d_X_pass_17 ?_
      refine sr_iload_n C 2 rfl rfl d_X_pass_20 ?_
      refine sr_aload_n C 0 rfl rfl d_X_pass_21 ?_
      refine sr_getR C sm_F6 2 q_210 sm_l0 (r := 37) rfl (by decide) d_X_pass_22 ?_
      refine sr_iload_n C 2 rfl rfl d_X_pass_25 ?_
      refine sr_aload_n C 0 rfl rfl d_X_pass_26 ?_
      refine sr_getR C sm_F6 0 q_4 sm_l0 (r := 1) rfl (by decide) d_X_pass_27 ?_
      refine sr_iload_n C 2 rfl rfl d_X_pass_30 ?_
      refine sr_callVI C [sm_I _] (P_D_warmthAround l h) ok_45 sm_l1 rfl rfl rfl rfl ⟨Nat.le_of_ble_eq_true rfl, Nat.le_of_ble_eq_true rfl⟩ (Nat.le_of_ble_eq_true rfl) ⟨Nat.zero_le _, Nat.zero_le _⟩ d_X_pass_31 (fun r4 μ3 h => ?_)
      refine sr_aload_n C 0 rfl rfl d_X_pass_34 ?_
      refine sr_getR C sm_F6 0 q_4 sm_l0 (r := 1) rfl (by decide) d_X_pass_35 ?_
      refine sr_getI C sm_F0 13 q_117 sm_l1 rfl (by decide) d_X_pass_38 ?_
      refine sr_iload_n C 1 rfl rfl d_X_pass_41 ?_
      refine sr_callVI C [sm_I _, sm_I _, sm_I _, sm_I _] (P_F_leftBy l h) ok_46 sm_l37 rfl rfl rfl rfl ⟨Nat.le_of_ble_eq_true rfl, Nat.le_of_ble_eq_true rfl⟩ (Nat.le_of_ble_eq_true rfl) ⟨Nat.zero_le _, Nat.zero_le _⟩ d_X_pass_42 (fun r6 μ5 h => ?_)
      obtain ⟨g7, h⟩ := h
      refine sr_iast C sm_l6 g7 d_X_pass_45 ?_
      replace h := h _ rfl
      refine sr_iinc C 2 rfl (by decide) d_X_pass_46 rfl ?_
      refine sr_goto C (tgt := 2) (by decide) d_X_pass_49 ?_
      refine sr_mask C [1, 2, 0] rfl ?_
      exact hJ2 _ _ h
  refine sr_iconst C (v := 0) d_X_pass_0 (by decide) ?_
  refine sr_istore_n C rfl (by decide) d_X_pass_1 ?_
  refine sr_mask C [1, 2, 0] rfl ?_
  exact B2 _ _ h
theorem d_X_hours_0 : decode prog_1_method_15_code 0 = .ok (.iload_n 1, 1) := by decide +kernel
theorem d_X_hours_1 : decode prog_1_method_15_code 1 = .ok (.iconst 1, 1) := by decide +kernel
theorem d_X_hours_2 : decode prog_1_method_15_code 2 = .ok (.bipush 60, 2) := by decide +kernel
theorem d_X_hours_4 : decode prog_1_method_15_code 4 = .ok (.invokestatic 53, 3) := by decide +kernel
theorem d_X_hours_7 : decode prog_1_method_15_code 7 = .ok (.ifCond .ne 9, 3) := by decide +kernel
theorem d_X_hours_10 : decode prog_1_method_15_code 10 = .ok (.aload_n 0, 1) := by decide +kernel
theorem d_X_hours_11 : decode prog_1_method_15_code 11 = .ok (.iconst 1, 1) := by decide +kernel
theorem d_X_hours_12 : decode prog_1_method_15_code 12 = .ok (.invokevirtual 57, 3) := by decide +kernel
theorem d_X_hours_15 : decode prog_1_method_15_code 15 = .ok (.ireturn, 1) := by decide +kernel
theorem d_X_hours_16 : decode prog_1_method_15_code 16 = .ok (.aload_n 0, 1) := by decide +kernel
theorem d_X_hours_17 : decode prog_1_method_15_code 17 = .ok (.getfield 10, 3) := by decide +kernel
theorem d_X_hours_20 : decode prog_1_method_15_code 20 = .ok (.getfield 160, 3) := by decide +kernel
theorem d_X_hours_23 : decode prog_1_method_15_code 23 = .ok (.iload_n 1, 1) := by decide +kernel
theorem d_X_hours_24 : decode prog_1_method_15_code 24 = .ok (.iadd, 1) := by decide +kernel
theorem d_X_hours_25 : decode prog_1_method_15_code 25 = .ok (.sipush 9999, 3) := by decide +kernel
theorem d_X_hours_28 : decode prog_1_method_15_code 28 = .ok (.if_icmp .le 9, 3) := by decide +kernel
theorem d_X_hours_31 : decode prog_1_method_15_code 31 = .ok (.aload_n 0, 1) := by decide +kernel
theorem d_X_hours_32 : decode prog_1_method_15_code 32 = .ok (.iconst 3, 1) := by decide +kernel
theorem d_X_hours_33 : decode prog_1_method_15_code 33 = .ok (.invokevirtual 57, 3) := by decide +kernel
theorem d_X_hours_36 : decode prog_1_method_15_code 36 = .ok (.ireturn, 1) := by decide +kernel
theorem d_X_hours_37 : decode prog_1_method_15_code 37 = .ok (.aload_n 0, 1) := by decide +kernel
theorem d_X_hours_38 : decode prog_1_method_15_code 38 = .ok (.iload_n 1, 1) := by decide +kernel
theorem d_X_hours_39 : decode prog_1_method_15_code 39 = .ok (.invokevirtual 163, 3) := by decide +kernel
theorem d_X_hours_42 : decode prog_1_method_15_code 42 = .ok (.aload_n 0, 1) := by decide +kernel
theorem d_X_hours_43 : decode prog_1_method_15_code 43 = .ok (.getfield 10, 3) := by decide +kernel
theorem d_X_hours_46 : decode prog_1_method_15_code 46 = .ok (.invokevirtual 167, 3) := by decide +kernel
theorem d_X_hours_49 : decode prog_1_method_15_code 49 = .ok (.ireturn, 1) := by decide +kernel
def w_X_hours (K : Int32 → sm_Mem → Prop) (p0 : Int32) (μ : sm_Mem) : Prop := w_X_within (fun r2 μ1 => if r2 = 0 then w_X_error (fun r11 μ10 => K r11 μ10) 1 μ1 else (if ((μ1 1 14) + p0) ≤ 9999 then w_X_pass (fun μ5 => w_D_snowOfAll (fun r7 μ6 => K r7 μ6) μ5) p0 μ1 else w_X_error (fun r9 μ8 => K r9 μ8) 3 μ1)) p0 1 60 μ
set_option maxHeartbeats 4000000 in
set_option maxRecDepth 100000 in
theorem P_X_hours (l : Launch) {K : Int32 → sm_Mem → Prop} {p0 : Int32} {μ : sm_Mem} (h : w_X_hours K p0 μ) : sm_MI l ⟨"SnowMoney", "hours", "(I)I"⟩ prog_1_method_15_code 2 (some .int) { frames := 6, cells := 0, slots := 0, locals := 145 } [sm_R 0, sm_I p0] μ K := by
  refine sm_ofI (by decide +kernel) (fun _ => Nat.le_of_ble_eq_true rfl) ?_
  intro p e s m args below meth c A Q G C hR
  refine sr_iload_n C 1 rfl rfl d_X_hours_0 ?_
  refine sr_iconst C (v := 1) d_X_hours_1 (by decide) ?_
  refine sr_bipush C (v := 60) d_X_hours_2 (by decide) ?_
  refine sr_callSI C [sm_I _, sm_I _, sm_I _] (P_X_within l h) ok_0 rfl rfl rfl ⟨Nat.le_of_ble_eq_true rfl, Nat.le_of_ble_eq_true rfl⟩ (Nat.le_of_ble_eq_true rfl) ⟨Nat.zero_le _, Nat.zero_le _⟩ d_X_hours_4 (fun r2 μ1 h => ?_)
  refine sr_if_ne C (tgt := 16) d_X_hours_7 (by decide) (fun c3 => ?_) (fun c3 => ?_)
  · replace h := Eq.mp (if_neg c3) h
    refine sr_aload_n C 0 rfl rfl d_X_hours_16 ?_
    refine sr_getR C sm_F6 0 q_4 sm_l0 (r := 1) rfl (by decide) d_X_hours_17 ?_
    refine sr_getI C sm_F0 14 q_200 sm_l1 rfl (by decide) d_X_hours_20 ?_
    refine sr_iload_n C 1 rfl rfl d_X_hours_23 ?_
    refine sr_iadd C d_X_hours_24 ?_
    refine sr_sipush C (v := 9999) d_X_hours_25 (by decide) ?_
    refine sr_icmp_le C (tgt := 37) d_X_hours_28 (by decide) (fun c4 => ?_) (fun c4 => ?_)
    · replace h := Eq.mp (if_pos c4) h
      refine sr_aload_n C 0 rfl rfl d_X_hours_37 ?_
      refine sr_iload_n C 1 rfl rfl d_X_hours_38 ?_
      refine sr_callVV C [sm_I _] (P_X_pass l h) ok_43 sm_l0 rfl rfl rfl rfl ⟨Nat.le_of_ble_eq_true rfl, Nat.le_of_ble_eq_true rfl⟩ (Nat.le_of_ble_eq_true rfl) ⟨Nat.zero_le _, Nat.zero_le _⟩ d_X_hours_39 (fun μ5 h => ?_)
      refine sr_aload_n C 0 rfl rfl d_X_hours_42 ?_
      refine sr_getR C sm_F6 0 q_4 sm_l0 (r := 1) rfl (by decide) d_X_hours_43 ?_
      refine sr_callVI C [] (P_D_snowOfAll l h) ok_44 sm_l1 rfl rfl rfl rfl ⟨Nat.le_of_ble_eq_true rfl, Nat.le_of_ble_eq_true rfl⟩ (Nat.le_of_ble_eq_true rfl) ⟨Nat.zero_le _, Nat.zero_le _⟩ d_X_hours_46 (fun r7 μ6 h => ?_)
      exact hR _ _ _ _ d_X_hours_49 rfl h
    · replace h := Eq.mp (if_neg c4) h
      refine sr_aload_n C 0 rfl rfl d_X_hours_31 ?_
      refine sr_iconst C (v := 3) d_X_hours_32 (by decide) ?_
      refine sr_callVI C [sm_I _] (P_X_error l h) ok_1 sm_l0 rfl rfl rfl rfl ⟨Nat.le_of_ble_eq_true rfl, Nat.le_of_ble_eq_true rfl⟩ (Nat.le_of_ble_eq_true rfl) ⟨Nat.zero_le _, Nat.zero_le _⟩ d_X_hours_33 (fun r9 μ8 h => ?_)
      exact hR _ _ _ _ d_X_hours_36 rfl h
  · replace h := Eq.mp (if_pos c3) h
    refine sr_aload_n C 0 rfl rfl d_X_hours_10 ?_
    refine sr_iconst C (v := 1) d_X_hours_11 (by decide) ?_
    refine sr_callVI C [sm_I _] (P_X_error l h) ok_1 sm_l0 rfl rfl rfl rfl ⟨Nat.le_of_ble_eq_true rfl, Nat.le_of_ble_eq_true rfl⟩ (Nat.le_of_ble_eq_true rfl) ⟨Nat.zero_le _, Nat.zero_le _⟩ d_X_hours_12 (fun r11 μ10 h => ?_)
    exact hR _ _ _ _ d_X_hours_15 rfl h
theorem d_X_loose_0 : decode prog_1_method_16_code 0 = .ok (.iload_n 1, 1) := by decide +kernel
theorem d_X_loose_1 : decode prog_1_method_16_code 1 = .ok (.iconst 1, 1) := by decide +kernel
theorem d_X_loose_2 : decode prog_1_method_16_code 2 = .ok (.bipush 40, 2) := by decide +kernel
theorem d_X_loose_4 : decode prog_1_method_16_code 4 = .ok (.invokestatic 53, 3) := by decide +kernel
theorem d_X_loose_7 : decode prog_1_method_16_code 7 = .ok (.ifCond .ne 9, 3) := by decide +kernel
theorem d_X_loose_10 : decode prog_1_method_16_code 10 = .ok (.aload_n 0, 1) := by decide +kernel
theorem d_X_loose_11 : decode prog_1_method_16_code 11 = .ok (.iconst 1, 1) := by decide +kernel
theorem d_X_loose_12 : decode prog_1_method_16_code 12 = .ok (.invokevirtual 57, 3) := by decide +kernel
theorem d_X_loose_15 : decode prog_1_method_16_code 15 = .ok (.ireturn, 1) := by decide +kernel
theorem d_X_loose_16 : decode prog_1_method_16_code 16 = .ok (.aload_n 0, 1) := by decide +kernel
theorem d_X_loose_17 : decode prog_1_method_16_code 17 = .ok (.getfield 10, 3) := by decide +kernel
theorem d_X_loose_20 : decode prog_1_method_16_code 20 = .ok (.getfield 160, 3) := by decide +kernel
theorem d_X_loose_23 : decode prog_1_method_16_code 23 = .ok (.iload_n 1, 1) := by decide +kernel
theorem d_X_loose_24 : decode prog_1_method_16_code 24 = .ok (.iadd, 1) := by decide +kernel
theorem d_X_loose_25 : decode prog_1_method_16_code 25 = .ok (.sipush 9999, 3) := by decide +kernel
theorem d_X_loose_28 : decode prog_1_method_16_code 28 = .ok (.if_icmp .le 9, 3) := by decide +kernel
theorem d_X_loose_31 : decode prog_1_method_16_code 31 = .ok (.aload_n 0, 1) := by decide +kernel
theorem d_X_loose_32 : decode prog_1_method_16_code 32 = .ok (.iconst 3, 1) := by decide +kernel
theorem d_X_loose_33 : decode prog_1_method_16_code 33 = .ok (.invokevirtual 57, 3) := by decide +kernel
theorem d_X_loose_36 : decode prog_1_method_16_code 36 = .ok (.ireturn, 1) := by decide +kernel
theorem d_X_loose_37 : decode prog_1_method_16_code 37 = .ok (.iconst 0, 1) := by decide +kernel
theorem d_X_loose_38 : decode prog_1_method_16_code 38 = .ok (.istore_n 2, 1) := by decide +kernel
theorem d_X_loose_39 : decode prog_1_method_16_code 39 = .ok (.iload_n 2, 1) := by decide +kernel
theorem d_X_loose_40 : decode prog_1_method_16_code 40 = .ok (.iload_n 1, 1) := by decide +kernel
theorem d_X_loose_41 : decode prog_1_method_16_code 41 = .ok (.if_icmp .ge 31, 3) := by decide +kernel
theorem d_X_loose_44 : decode prog_1_method_16_code 44 = .ok (.aload_n 0, 1) := by decide +kernel
theorem d_X_loose_45 : decode prog_1_method_16_code 45 = .ok (.getfield 10, 3) := by decide +kernel
theorem d_X_loose_48 : decode prog_1_method_16_code 48 = .ok (.aload_n 0, 1) := by decide +kernel
theorem d_X_loose_49 : decode prog_1_method_16_code 49 = .ok (.getfield 10, 3) := by decide +kernel
theorem d_X_loose_52 : decode prog_1_method_16_code 52 = .ok (.invokevirtual 171, 3) := by decide +kernel
theorem d_X_loose_55 : decode prog_1_method_16_code 55 = .ok (.bipush 10, 2) := by decide +kernel
theorem d_X_loose_57 : decode prog_1_method_16_code 57 = .ok (.irem, 1) := by decide +kernel
theorem d_X_loose_58 : decode prog_1_method_16_code 58 = .ok (.putfield 120, 3) := by decide +kernel
theorem d_X_loose_61 : decode prog_1_method_16_code 61 = .ok (.aload_n 0, 1) := by decide +kernel
theorem d_X_loose_62 : decode prog_1_method_16_code 62 = .ok (.iconst 1, 1) := by decide +kernel
theorem d_X_loose_63 : decode prog_1_method_16_code 63 = .ok (.invokevirtual 163, 3) := by decide +kernel
theorem d_X_loose_66 : decode prog_1_method_16_code 66 = .ok (.iinc 2 1, 3) := by decide +kernel
theorem d_X_loose_69 : decode prog_1_method_16_code 69 = .ok (.goto (-30), 3) := by decide +kernel
theorem d_X_loose_72 : decode prog_1_method_16_code 72 = .ok (.aload_n 0, 1) := by decide +kernel
theorem d_X_loose_73 : decode prog_1_method_16_code 73 = .ok (.getfield 10, 3) := by decide +kernel
theorem d_X_loose_76 : decode prog_1_method_16_code 76 = .ok (.invokevirtual 167, 3) := by decide +kernel
theorem d_X_loose_79 : decode prog_1_method_16_code 79 = .ok (.ireturn, 1) := by decide +kernel
def w_X_loose_39 (K : Int32 → sm_Mem → Prop) (p0 : Int32) (x2 : Int32) (μ : sm_Mem) : Prop := sm_lp1 (fun J39 x2 μ => if p0 ≤ x2 then w_D_snowOfAll (fun r7 μ6 => K r7 μ6) μ else (w_D_draw (fun r9 μ8 => ∀ μ10 : sm_Mem, μ10 = sm_st μ8 1 13 (r9 % 10) → w_X_pass (fun μ11 => J39 (x2 + 1) μ11) 1 μ10) μ)) x2 μ
def w_X_loose (K : Int32 → sm_Mem → Prop) (p0 : Int32) (μ : sm_Mem) : Prop := w_X_within (fun r2 μ1 => if r2 = 0 then w_X_error (fun r15 μ14 => K r15 μ14) 1 μ1 else (if ((μ1 1 14) + p0) ≤ 9999 then w_X_loose_39 K p0 0 μ1 else w_X_error (fun r13 μ12 => K r13 μ12) 3 μ1)) p0 1 40 μ
set_option maxHeartbeats 4000000 in
set_option maxRecDepth 100000 in
theorem P_X_loose (l : Launch) {K : Int32 → sm_Mem → Prop} {p0 : Int32} {μ : sm_Mem} (h : w_X_loose K p0 μ) : sm_MI l ⟨"SnowMoney", "loose", "(I)I"⟩ prog_1_method_16_code 3 (some .int) { frames := 6, cells := 0, slots := 0, locals := 145 } [sm_R 0, sm_I p0] μ K := by
  refine sm_ofI (by decide +kernel) (fun _ => Nat.le_of_ble_eq_true rfl) ?_
  intro p e s m args below meth c A Q G C hR
  have B39 : ∀ (x2 : Int32) (μ : sm_Mem), w_X_loose_39 K p0 x2 μ → sm_W p l e { frames := 6, cells := 0, slots := 0, locals := 145 } s m args below meth c A Q G 3 0 0 39 [] [(0, sm_R 0), (1, sm_I p0), (2, sm_I x2)] μ := by
    intro x2 μ h
    refine sm_lp1_sound (P := fun x2 μ => sm_W p l e { frames := 6, cells := 0, slots := 0, locals := 145 } s m args below meth c A Q G 3 0 0 39 [] [(0, sm_R 0), (1, sm_I p0), (2, sm_I x2)] μ) (fun J39 x2 μ hJ39 h => ?_) h
    refine sr_iload_n C 2 rfl rfl d_X_loose_39 ?_
    refine sr_iload_n C 1 rfl rfl d_X_loose_40 ?_
    refine sr_icmp_ge C (tgt := 72) d_X_loose_41 (by decide) (fun c5 => ?_) (fun c5 => ?_)
    · replace h := Eq.mp (if_pos c5) h
      refine sr_aload_n C 0 rfl rfl d_X_loose_72 ?_
      refine sr_getR C sm_F6 0 q_4 sm_l0 (r := 1) rfl (by decide) d_X_loose_73 ?_
      refine sr_callVI C [] (P_D_snowOfAll l h) ok_44 sm_l1 rfl rfl rfl rfl ⟨Nat.le_of_ble_eq_true rfl, Nat.le_of_ble_eq_true rfl⟩ (Nat.le_of_ble_eq_true rfl) ⟨Nat.zero_le _, Nat.zero_le _⟩ d_X_loose_76 (fun r7 μ6 h => ?_)
      exact hR _ _ _ _ d_X_loose_79 rfl h
    · replace h := Eq.mp (if_neg c5) h
      refine sr_aload_n C 0 rfl rfl d_X_loose_44 ?_
      refine sr_getR C sm_F6 0 q_4 sm_l0 (r := 1) rfl (by decide) d_X_loose_45 ?_
      refine sr_aload_n C 0 rfl rfl d_X_loose_48 ?_
      refine sr_getR C sm_F6 0 q_4 sm_l0 (r := 1) rfl (by decide) d_X_loose_49 ?_
      refine sr_callVI C [] (P_D_draw l h) ok_52 sm_l1 rfl rfl rfl rfl ⟨Nat.le_of_ble_eq_true rfl, Nat.le_of_ble_eq_true rfl⟩ (Nat.le_of_ble_eq_true rfl) ⟨Nat.zero_le _, Nat.zero_le _⟩ d_X_loose_52 (fun r9 μ8 h => ?_)
      refine sr_bipush C (v := 10) d_X_loose_55 (by decide) ?_
      refine sr_irem C (by decide) d_X_loose_57 ?_
      refine sr_putI C sm_F0 13 q_117 sm_l1 rfl rfl (by decide) rfl d_X_loose_58 ?_
      replace h := h _ rfl
      refine sr_aload_n C 0 rfl rfl d_X_loose_61 ?_
      refine sr_iconst C (v := 1) d_X_loose_62 (by decide) ?_
      refine sr_callVV C [sm_I _] (P_X_pass l h) ok_43 sm_l0 rfl rfl rfl rfl ⟨Nat.le_of_ble_eq_true rfl, Nat.le_of_ble_eq_true rfl⟩ (Nat.le_of_ble_eq_true rfl) ⟨Nat.zero_le _, Nat.zero_le _⟩ d_X_loose_63 (fun μ11 h => ?_)
      refine sr_iinc C 2 rfl (by decide) d_X_loose_66 rfl ?_
      refine sr_goto C (tgt := 39) (by decide) d_X_loose_69 ?_
      refine sr_mask C [1, 2, 0] rfl ?_
      exact hJ39 _ _ h
  refine sr_iload_n C 1 rfl rfl d_X_loose_0 ?_
  refine sr_iconst C (v := 1) d_X_loose_1 (by decide) ?_
  refine sr_bipush C (v := 40) d_X_loose_2 (by decide) ?_
  refine sr_callSI C [sm_I _, sm_I _, sm_I _] (P_X_within l h) ok_0 rfl rfl rfl ⟨Nat.le_of_ble_eq_true rfl, Nat.le_of_ble_eq_true rfl⟩ (Nat.le_of_ble_eq_true rfl) ⟨Nat.zero_le _, Nat.zero_le _⟩ d_X_loose_4 (fun r2 μ1 h => ?_)
  refine sr_if_ne C (tgt := 16) d_X_loose_7 (by decide) (fun c3 => ?_) (fun c3 => ?_)
  · replace h := Eq.mp (if_neg c3) h
    refine sr_aload_n C 0 rfl rfl d_X_loose_16 ?_
    refine sr_getR C sm_F6 0 q_4 sm_l0 (r := 1) rfl (by decide) d_X_loose_17 ?_
    refine sr_getI C sm_F0 14 q_200 sm_l1 rfl (by decide) d_X_loose_20 ?_
    refine sr_iload_n C 1 rfl rfl d_X_loose_23 ?_
    refine sr_iadd C d_X_loose_24 ?_
    refine sr_sipush C (v := 9999) d_X_loose_25 (by decide) ?_
    refine sr_icmp_le C (tgt := 37) d_X_loose_28 (by decide) (fun c4 => ?_) (fun c4 => ?_)
    · replace h := Eq.mp (if_pos c4) h
      refine sr_iconst C (v := 0) d_X_loose_37 (by decide) ?_
      refine sr_istore_n C rfl (by decide) d_X_loose_38 ?_
      refine sr_mask C [1, 2, 0] rfl ?_
      exact B39 _ _ h
    · replace h := Eq.mp (if_neg c4) h
      refine sr_aload_n C 0 rfl rfl d_X_loose_31 ?_
      refine sr_iconst C (v := 3) d_X_loose_32 (by decide) ?_
      refine sr_callVI C [sm_I _] (P_X_error l h) ok_1 sm_l0 rfl rfl rfl rfl ⟨Nat.le_of_ble_eq_true rfl, Nat.le_of_ble_eq_true rfl⟩ (Nat.le_of_ble_eq_true rfl) ⟨Nat.zero_le _, Nat.zero_le _⟩ d_X_loose_33 (fun r13 μ12 h => ?_)
      exact hR _ _ _ _ d_X_loose_36 rfl h
  · replace h := Eq.mp (if_pos c3) h
    refine sr_aload_n C 0 rfl rfl d_X_loose_10 ?_
    refine sr_iconst C (v := 1) d_X_loose_11 (by decide) ?_
    refine sr_callVI C [sm_I _] (P_X_error l h) ok_1 sm_l0 rfl rfl rfl rfl ⟨Nat.le_of_ble_eq_true rfl, Nat.le_of_ble_eq_true rfl⟩ (Nat.le_of_ble_eq_true rfl) ⟨Nat.zero_le _, Nat.zero_le _⟩ d_X_loose_12 (fun r15 μ14 h => ?_)
    exact hR _ _ _ _ d_X_loose_15 rfl h
theorem d_X_carry_0 : decode prog_1_method_17_code 0 = .ok (.aload_n 0, 1) := by decide +kernel
theorem d_X_carry_1 : decode prog_1_method_17_code 1 = .ok (.getfield 10, 3) := by decide +kernel
theorem d_X_carry_4 : decode prog_1_method_17_code 4 = .ok (.iload_n 1, 1) := by decide +kernel
theorem d_X_carry_5 : decode prog_1_method_17_code 5 = .ok (.invokevirtual 101, 3) := by decide +kernel
theorem d_X_carry_8 : decode prog_1_method_17_code 8 = .ok (.ifCond .eq 14, 3) := by decide +kernel
theorem d_X_carry_11 : decode prog_1_method_17_code 11 = .ok (.aload_n 0, 1) := by decide +kernel
theorem d_X_carry_12 : decode prog_1_method_17_code 12 = .ok (.getfield 10, 3) := by decide +kernel
theorem d_X_carry_15 : decode prog_1_method_17_code 15 = .ok (.iload_n 2, 1) := by decide +kernel
theorem d_X_carry_16 : decode prog_1_method_17_code 16 = .ok (.invokevirtual 68, 3) := by decide +kernel
theorem d_X_carry_19 : decode prog_1_method_17_code 19 = .ok (.ifCond .ne 9, 3) := by decide +kernel
theorem d_X_carry_22 : decode prog_1_method_17_code 22 = .ok (.aload_n 0, 1) := by decide +kernel
theorem d_X_carry_23 : decode prog_1_method_17_code 23 = .ok (.iconst 1, 1) := by decide +kernel
theorem d_X_carry_24 : decode prog_1_method_17_code 24 = .ok (.invokevirtual 57, 3) := by decide +kernel
theorem d_X_carry_27 : decode prog_1_method_17_code 27 = .ok (.ireturn, 1) := by decide +kernel
theorem d_X_carry_28 : decode prog_1_method_17_code 28 = .ok (.aload_n 0, 1) := by decide +kernel
theorem d_X_carry_29 : decode prog_1_method_17_code 29 = .ok (.getfield 10, 3) := by decide +kernel
theorem d_X_carry_32 : decode prog_1_method_17_code 32 = .ok (.getfield 95, 3) := by decide +kernel
theorem d_X_carry_35 : decode prog_1_method_17_code 35 = .ok (.iload_n 1, 1) := by decide +kernel
theorem d_X_carry_36 : decode prog_1_method_17_code 36 = .ok (.iaload, 1) := by decide +kernel
theorem d_X_carry_37 : decode prog_1_method_17_code 37 = .ok (.istore_n 3, 1) := by decide +kernel
theorem d_X_carry_38 : decode prog_1_method_17_code 38 = .ok (.aload_n 0, 1) := by decide +kernel
theorem d_X_carry_39 : decode prog_1_method_17_code 39 = .ok (.getfield 10, 3) := by decide +kernel
theorem d_X_carry_42 : decode prog_1_method_17_code 42 = .ok (.iload_n 3, 1) := by decide +kernel
theorem d_X_carry_43 : decode prog_1_method_17_code 43 = .ok (.iload_n 2, 1) := by decide +kernel
theorem d_X_carry_44 : decode prog_1_method_17_code 44 = .ok (.invokevirtual 75, 3) := by decide +kernel
theorem d_X_carry_47 : decode prog_1_method_17_code 47 = .ok (.istore 4, 2) := by decide +kernel
theorem d_X_carry_49 : decode prog_1_method_17_code 49 = .ok (.iload 4, 2) := by decide +kernel
theorem d_X_carry_51 : decode prog_1_method_17_code 51 = .ok (.ifCond .ne 9, 3) := by decide +kernel
theorem d_X_carry_54 : decode prog_1_method_17_code 54 = .ok (.aload_n 0, 1) := by decide +kernel
theorem d_X_carry_55 : decode prog_1_method_17_code 55 = .ok (.iconst 3, 1) := by decide +kernel
theorem d_X_carry_56 : decode prog_1_method_17_code 56 = .ok (.invokevirtual 57, 3) := by decide +kernel
theorem d_X_carry_59 : decode prog_1_method_17_code 59 = .ok (.ireturn, 1) := by decide +kernel
theorem d_X_carry_60 : decode prog_1_method_17_code 60 = .ok (.iload 4, 2) := by decide +kernel
theorem d_X_carry_62 : decode prog_1_method_17_code 62 = .ok (.aload_n 0, 1) := by decide +kernel
theorem d_X_carry_63 : decode prog_1_method_17_code 63 = .ok (.getfield 10, 3) := by decide +kernel
theorem d_X_carry_66 : decode prog_1_method_17_code 66 = .ok (.iload_n 1, 1) := by decide +kernel
theorem d_X_carry_67 : decode prog_1_method_17_code 67 = .ok (.iload_n 3, 1) := by decide +kernel
theorem d_X_carry_68 : decode prog_1_method_17_code 68 = .ok (.invokevirtual 104, 3) := by decide +kernel
theorem d_X_carry_71 : decode prog_1_method_17_code 71 = .ok (.imul, 1) := by decide +kernel
theorem d_X_carry_72 : decode prog_1_method_17_code 72 = .ok (.istore 5, 2) := by decide +kernel
theorem d_X_carry_74 : decode prog_1_method_17_code 74 = .ok (.aload_n 0, 1) := by decide +kernel
theorem d_X_carry_75 : decode prog_1_method_17_code 75 = .ok (.getfield 10, 3) := by decide +kernel
theorem d_X_carry_78 : decode prog_1_method_17_code 78 = .ok (.getfield 92, 3) := by decide +kernel
theorem d_X_carry_81 : decode prog_1_method_17_code 81 = .ok (.iload_n 1, 1) := by decide +kernel
theorem d_X_carry_82 : decode prog_1_method_17_code 82 = .ok (.iconst 0, 1) := by decide +kernel
theorem d_X_carry_83 : decode prog_1_method_17_code 83 = .ok (.aload_n 0, 1) := by decide +kernel
theorem d_X_carry_84 : decode prog_1_method_17_code 84 = .ok (.getfield 10, 3) := by decide +kernel
theorem d_X_carry_87 : decode prog_1_method_17_code 87 = .ok (.getfield 92, 3) := by decide +kernel
theorem d_X_carry_90 : decode prog_1_method_17_code 90 = .ok (.iload_n 1, 1) := by decide +kernel
theorem d_X_carry_91 : decode prog_1_method_17_code 91 = .ok (.iaload, 1) := by decide +kernel
theorem d_X_carry_92 : decode prog_1_method_17_code 92 = .ok (.iload 5, 2) := by decide +kernel
theorem d_X_carry_94 : decode prog_1_method_17_code 94 = .ok (.isub, 1) := by decide +kernel
theorem d_X_carry_95 : decode prog_1_method_17_code 95 = .ok (.invokestatic 174, 3) := by decide +kernel
theorem d_X_carry_98 : decode prog_1_method_17_code 98 = .ok (.iastore, 1) := by decide +kernel
theorem d_X_carry_99 : decode prog_1_method_17_code 99 = .ok (.aload_n 0, 1) := by decide +kernel
theorem d_X_carry_100 : decode prog_1_method_17_code 100 = .ok (.getfield 10, 3) := by decide +kernel
theorem d_X_carry_103 : decode prog_1_method_17_code 103 = .ok (.getfield 95, 3) := by decide +kernel
theorem d_X_carry_106 : decode prog_1_method_17_code 106 = .ok (.iload_n 1, 1) := by decide +kernel
theorem d_X_carry_107 : decode prog_1_method_17_code 107 = .ok (.iload_n 2, 1) := by decide +kernel
theorem d_X_carry_108 : decode prog_1_method_17_code 108 = .ok (.iastore, 1) := by decide +kernel
theorem d_X_carry_109 : decode prog_1_method_17_code 109 = .ok (.aload_n 0, 1) := by decide +kernel
theorem d_X_carry_110 : decode prog_1_method_17_code 110 = .ok (.getfield 10, 3) := by decide +kernel
theorem d_X_carry_113 : decode prog_1_method_17_code 113 = .ok (.getfield 92, 3) := by decide +kernel
theorem d_X_carry_116 : decode prog_1_method_17_code 116 = .ok (.iload_n 1, 1) := by decide +kernel
theorem d_X_carry_117 : decode prog_1_method_17_code 117 = .ok (.iaload, 1) := by decide +kernel
theorem d_X_carry_118 : decode prog_1_method_17_code 118 = .ok (.ireturn, 1) := by decide +kernel
def w_X_carry_22 (K : Int32 → sm_Mem → Prop) (p0 : Int32) (p1 : Int32) (μ : sm_Mem) : Prop := w_X_error (fun r5 μ4 => K r5 μ4) 1 μ
def w_X_carry (K : Int32 → sm_Mem → Prop) (p0 : Int32) (p1 : Int32) (μ : sm_Mem) : Prop := w_D_hasNote (fun r2 μ1 => if r2 = 0 then w_X_carry_22 K p0 p1 μ1 else (w_D_hasPlace (fun r7 μ6 => if r7 = 0 then w_X_carry_22 K p0 p1 μ6 else (vp_in p0 10 ∧ ∀ v10 : Int32, v10 = (μ6 7 p0.toNatClampNeg) → w_D_roadBetween (fun r12 μ11 => if r12 = 0 then w_X_error (fun r24 μ23 => K r24 μ23) 3 μ11 else (w_D_meltsNow (fun r15 μ14 => ∀ v16 : Int32, v16 = (r12 * r15) → vp_in p0 10 ∧ vp_in p0 10 ∧ ∀ μ19 : sm_Mem, μ19 = sm_st μ14 6 (p0.toNatClampNeg) (if 0 < ((μ14 6 p0.toNatClampNeg) - v16) then ((μ14 6 p0.toNatClampNeg) - v16) else 0) → vp_in p0 10 ∧ ∀ μ21 : sm_Mem, μ21 = sm_st μ19 7 (p0.toNatClampNeg) p1 → vp_in p0 10 ∧ K (μ21 6 p0.toNatClampNeg) μ21) p0 v10 μ11)) v10 p1 μ6)) p1 μ1)) p0 μ
set_option maxHeartbeats 4000000 in
set_option maxRecDepth 100000 in
theorem P_X_carry (l : Launch) {K : Int32 → sm_Mem → Prop} {p0 : Int32} {p1 : Int32} {μ : sm_Mem} (h : w_X_carry K p0 p1 μ) : sm_MI l ⟨"SnowMoney", "carry", "(II)I"⟩ prog_1_method_17_code 6 (some .int) { frames := 4, cells := 0, slots := 0, locals := 95 } [sm_R 0, sm_I p0, sm_I p1] μ K := by
  refine sm_ofI (by decide +kernel) (fun _ => Nat.le_of_ble_eq_true rfl) ?_
  intro p e s m args below meth c A Q G C hR
  have B22 : ∀ (μ : sm_Mem), w_X_carry_22 K p0 p1 μ → sm_W p l e { frames := 4, cells := 0, slots := 0, locals := 95 } s m args below meth c A Q G 6 0 0 22 [] [(0, sm_R 0)] μ := by
    intro μ h
    refine sr_aload_n C 0 rfl rfl d_X_carry_22 ?_
    refine sr_iconst C (v := 1) d_X_carry_23 (by decide) ?_
    refine sr_callVI C [sm_I _] (P_X_error l h) ok_1 sm_l0 rfl rfl rfl rfl ⟨Nat.le_of_ble_eq_true rfl, Nat.le_of_ble_eq_true rfl⟩ (Nat.le_of_ble_eq_true rfl) ⟨Nat.zero_le _, Nat.zero_le _⟩ d_X_carry_24 (fun r5 μ4 h => ?_)
    exact hR _ _ _ _ d_X_carry_27 rfl h
  refine sr_aload_n C 0 rfl rfl d_X_carry_0 ?_
  refine sr_getR C sm_F6 0 q_4 sm_l0 (r := 1) rfl (by decide) d_X_carry_1 ?_
  refine sr_iload_n C 1 rfl rfl d_X_carry_4 ?_
  refine sr_callVI C [sm_I _] (P_D_hasNote l h) ok_7 sm_l1 rfl rfl rfl rfl ⟨Nat.le_of_ble_eq_true rfl, Nat.le_of_ble_eq_true rfl⟩ (Nat.le_of_ble_eq_true rfl) ⟨Nat.zero_le _, Nat.zero_le _⟩ d_X_carry_5 (fun r2 μ1 h => ?_)
  refine sr_if_eq C (tgt := 22) d_X_carry_8 (by decide) (fun c3 => ?_) (fun c3 => ?_)
  · replace h := Eq.mp (if_pos c3) h
    refine sr_mask C [0] rfl ?_
    exact B22 _ h
  · replace h := Eq.mp (if_neg c3) h
    refine sr_aload_n C 0 rfl rfl d_X_carry_11 ?_
    refine sr_getR C sm_F6 0 q_4 sm_l0 (r := 1) rfl (by decide) d_X_carry_12 ?_
    refine sr_iload_n C 2 rfl rfl d_X_carry_15 ?_
    refine sr_callVI C [sm_I _] (P_D_hasPlace l h) ok_2 sm_l1 rfl rfl rfl rfl ⟨Nat.le_of_ble_eq_true rfl, Nat.le_of_ble_eq_true rfl⟩ (Nat.le_of_ble_eq_true rfl) ⟨Nat.zero_le _, Nat.zero_le _⟩ d_X_carry_16 (fun r7 μ6 h => ?_)
    refine sr_if_ne C (tgt := 28) d_X_carry_19 (by decide) (fun c8 => ?_) (fun c8 => ?_)
    · replace h := Eq.mp (if_neg c8) h
      refine sr_aload_n C 0 rfl rfl d_X_carry_28 ?_
      refine sr_getR C sm_F6 0 q_4 sm_l0 (r := 1) rfl (by decide) d_X_carry_29 ?_
      refine sr_getR C sm_F0 5 q_39 sm_l1 (r := 7) rfl (by decide) d_X_carry_32 ?_
      refine sr_iload_n C 1 rfl rfl d_X_carry_35 ?_
      obtain ⟨g9, h⟩ := h
      refine sr_iald C sm_l7 g9 d_X_carry_36 ?_
      replace h := h _ rfl
      refine sr_istore_n C rfl (by decide) d_X_carry_37 ?_
      refine sr_aload_n C 1 rfl rfl d_X_carry_38 ?_
      refine sr_getR C sm_F6 0 q_4 sm_l0 (r := 1) rfl (by decide) d_X_carry_39 ?_
      refine sr_iload_n C 0 rfl rfl d_X_carry_42 ?_
      refine sr_iload_n C 3 rfl rfl d_X_carry_43 ?_
      refine sr_callVI C [sm_I _, sm_I _] (P_D_roadBetween l h) ok_4 sm_l1 rfl rfl rfl rfl ⟨Nat.le_of_ble_eq_true rfl, Nat.le_of_ble_eq_true rfl⟩ (Nat.le_of_ble_eq_true rfl) ⟨Nat.zero_le _, Nat.zero_le _⟩ d_X_carry_44 (fun r12 μ11 h => ?_)
      refine sr_istore C (by decide) d_X_carry_47 ?_
      refine sr_iload C 0 rfl d_X_carry_49 ?_
      refine sr_if_ne C (tgt := 60) d_X_carry_51 (by decide) (fun c13 => ?_) (fun c13 => ?_)
      · replace h := Eq.mp (if_neg c13) h
        refine sr_iload C 0 rfl d_X_carry_60 ?_
        refine sr_aload_n C 2 rfl rfl d_X_carry_62 ?_
        refine sr_getR C sm_F6 0 q_4 sm_l0 (r := 1) rfl (by decide) d_X_carry_63 ?_
        refine sr_iload_n C 3 rfl rfl d_X_carry_66 ?_
        refine sr_iload_n C 1 rfl rfl d_X_carry_67 ?_
        refine sr_callVI C [sm_I _, sm_I _] (P_D_meltsNow l h) ok_8 sm_l1 rfl rfl rfl rfl ⟨Nat.le_of_ble_eq_true rfl, Nat.le_of_ble_eq_true rfl⟩ (Nat.le_of_ble_eq_true rfl) ⟨Nat.zero_le _, Nat.zero_le _⟩ d_X_carry_68 (fun r15 μ14 h => ?_)
        refine sr_imul C d_X_carry_71 ?_
        replace h := h _ rfl
        refine sr_istore C (by decide) d_X_carry_72 ?_
        refine sr_aload_n C 3 rfl rfl d_X_carry_74 ?_
        refine sr_getR C sm_F6 0 q_4 sm_l0 (r := 1) rfl (by decide) d_X_carry_75 ?_
        refine sr_getR C sm_F0 4 q_38 sm_l1 (r := 6) rfl (by decide) d_X_carry_78 ?_
        refine sr_iload_n C 4 rfl rfl d_X_carry_81 ?_
        refine sr_iconst C (v := 0) d_X_carry_82 (by decide) ?_
        refine sr_aload_n C 3 rfl rfl d_X_carry_83 ?_
        refine sr_getR C sm_F6 0 q_4 sm_l0 (r := 1) rfl (by decide) d_X_carry_84 ?_
        refine sr_getR C sm_F0 4 q_38 sm_l1 (r := 6) rfl (by decide) d_X_carry_87 ?_
        refine sr_iload_n C 4 rfl rfl d_X_carry_90 ?_
        obtain ⟨g17, h⟩ := h
        refine sr_iald C sm_l6 g17 d_X_carry_91 ?_
        refine sr_iload C 0 rfl d_X_carry_92 ?_
        refine sr_isub C d_X_carry_94 ?_
        refine sr_mmax C q_246 q_mmax1 q_mini q_mmax2 (Nat.le_of_ble_eq_true rfl) (Nat.le_of_ble_eq_true rfl) ⟨Nat.zero_le _, Nat.zero_le _⟩ d_X_carry_95 ?_
        obtain ⟨g18, h⟩ := h
        refine sr_iast C sm_l6 g18 d_X_carry_98 ?_
        replace h := h _ rfl
        refine sr_aload_n C 3 rfl rfl d_X_carry_99 ?_
        refine sr_getR C sm_F6 0 q_4 sm_l0 (r := 1) rfl (by decide) d_X_carry_100 ?_
        refine sr_getR C sm_F0 5 q_39 sm_l1 (r := 7) rfl (by decide) d_X_carry_103 ?_
        refine sr_iload_n C 4 rfl rfl d_X_carry_106 ?_
        refine sr_iload_n C 5 rfl rfl d_X_carry_107 ?_
        obtain ⟨g20, h⟩ := h
        refine sr_iast C sm_l7 g20 d_X_carry_108 ?_
        replace h := h _ rfl
        refine sr_aload_n C 3 rfl rfl d_X_carry_109 ?_
        refine sr_getR C sm_F6 0 q_4 sm_l0 (r := 1) rfl (by decide) d_X_carry_110 ?_
        refine sr_getR C sm_F0 4 q_38 sm_l1 (r := 6) rfl (by decide) d_X_carry_113 ?_
        refine sr_iload_n C 4 rfl rfl d_X_carry_116 ?_
        obtain ⟨g22, h⟩ := h
        refine sr_iald C sm_l6 g22 d_X_carry_117 ?_
        exact hR _ _ _ _ d_X_carry_118 rfl h
      · replace h := Eq.mp (if_pos c13) h
        refine sr_aload_n C 2 rfl rfl d_X_carry_54 ?_
        refine sr_iconst C (v := 3) d_X_carry_55 (by decide) ?_
        refine sr_callVI C [sm_I _] (P_X_error l h) ok_1 sm_l0 rfl rfl rfl rfl ⟨Nat.le_of_ble_eq_true rfl, Nat.le_of_ble_eq_true rfl⟩ (Nat.le_of_ble_eq_true rfl) ⟨Nat.zero_le _, Nat.zero_le _⟩ d_X_carry_56 (fun r24 μ23 h => ?_)
        exact hR _ _ _ _ d_X_carry_59 rfl h
    · replace h := Eq.mp (if_pos c8) h
      refine sr_mask C [0] rfl ?_
      exact B22 _ h
theorem d_X_then_0 : decode prog_1_method_18_code 0 = .ok (.iload_n 1, 1) := by decide +kernel
theorem d_X_then_1 : decode prog_1_method_18_code 1 = .ok (.iconst 0, 1) := by decide +kernel
theorem d_X_then_2 : decode prog_1_method_18_code 2 = .ok (.bipush 60, 2) := by decide +kernel
theorem d_X_then_4 : decode prog_1_method_18_code 4 = .ok (.invokestatic 53, 3) := by decide +kernel
theorem d_X_then_7 : decode prog_1_method_18_code 7 = .ok (.ifCond .eq 23, 3) := by decide +kernel
theorem d_X_then_10 : decode prog_1_method_18_code 10 = .ok (.aload_n 0, 1) := by decide +kernel
theorem d_X_then_11 : decode prog_1_method_18_code 11 = .ok (.getfield 10, 3) := by decide +kernel
theorem d_X_then_14 : decode prog_1_method_18_code 14 = .ok (.iload_n 2, 1) := by decide +kernel
theorem d_X_then_15 : decode prog_1_method_18_code 15 = .ok (.invokevirtual 101, 3) := by decide +kernel
theorem d_X_then_18 : decode prog_1_method_18_code 18 = .ok (.ifCond .eq 12, 3) := by decide +kernel
theorem d_X_then_21 : decode prog_1_method_18_code 21 = .ok (.iload_n 3, 1) := by decide +kernel
theorem d_X_then_22 : decode prog_1_method_18_code 22 = .ok (.iconst 0, 1) := by decide +kernel
theorem d_X_then_23 : decode prog_1_method_18_code 23 = .ok (.iconst 1, 1) := by decide +kernel
theorem d_X_then_24 : decode prog_1_method_18_code 24 = .ok (.invokestatic 53, 3) := by decide +kernel
theorem d_X_then_27 : decode prog_1_method_18_code 27 = .ok (.ifCond .ne 9, 3) := by decide +kernel
theorem d_X_then_30 : decode prog_1_method_18_code 30 = .ok (.aload_n 0, 1) := by decide +kernel
theorem d_X_then_31 : decode prog_1_method_18_code 31 = .ok (.iconst 1, 1) := by decide +kernel
theorem d_X_then_32 : decode prog_1_method_18_code 32 = .ok (.invokevirtual 57, 3) := by decide +kernel
theorem d_X_then_35 : decode prog_1_method_18_code 35 = .ok (.ireturn, 1) := by decide +kernel
theorem d_X_then_36 : decode prog_1_method_18_code 36 = .ok (.aload_n 0, 1) := by decide +kernel
theorem d_X_then_37 : decode prog_1_method_18_code 37 = .ok (.getfield 24, 3) := by decide +kernel
theorem d_X_then_40 : decode prog_1_method_18_code 40 = .ok (.iload_n 2, 1) := by decide +kernel
theorem d_X_then_41 : decode prog_1_method_18_code 41 = .ok (.aload_n 0, 1) := by decide +kernel
theorem d_X_then_42 : decode prog_1_method_18_code 42 = .ok (.getfield 10, 3) := by decide +kernel
theorem d_X_then_45 : decode prog_1_method_18_code 45 = .ok (.iload_n 2, 1) := by decide +kernel
theorem d_X_then_46 : decode prog_1_method_18_code 46 = .ok (.invokevirtual 179, 3) := by decide +kernel
theorem d_X_then_49 : decode prog_1_method_18_code 49 = .ok (.aload_n 0, 1) := by decide +kernel
theorem d_X_then_50 : decode prog_1_method_18_code 50 = .ok (.getfield 10, 3) := by decide +kernel
theorem d_X_then_53 : decode prog_1_method_18_code 53 = .ok (.getfield 120, 3) := by decide +kernel
theorem d_X_then_56 : decode prog_1_method_18_code 56 = .ok (.iload_n 1, 1) := by decide +kernel
theorem d_X_then_57 : decode prog_1_method_18_code 57 = .ok (.invokevirtual 182, 3) := by decide +kernel
theorem d_X_then_60 : decode prog_1_method_18_code 60 = .ok (.istore 4, 2) := by decide +kernel
theorem d_X_then_62 : decode prog_1_method_18_code 62 = .ok (.iload_n 3, 1) := by decide +kernel
theorem d_X_then_63 : decode prog_1_method_18_code 63 = .ok (.ifCond .ne 8, 3) := by decide +kernel
theorem d_X_then_66 : decode prog_1_method_18_code 66 = .ok (.iload 4, 2) := by decide +kernel
theorem d_X_then_68 : decode prog_1_method_18_code 68 = .ok (.goto 13, 3) := by decide +kernel
theorem d_X_then_71 : decode prog_1_method_18_code 71 = .ok (.aload_n 0, 1) := by decide +kernel
theorem d_X_then_72 : decode prog_1_method_18_code 72 = .ok (.getfield 10, 3) := by decide +kernel
theorem d_X_then_75 : decode prog_1_method_18_code 75 = .ok (.iload_n 2, 1) := by decide +kernel
theorem d_X_then_76 : decode prog_1_method_18_code 76 = .ok (.iload 4, 2) := by decide +kernel
theorem d_X_then_78 : decode prog_1_method_18_code 78 = .ok (.invokevirtual 107, 3) := by decide +kernel
theorem d_X_then_81 : decode prog_1_method_18_code 81 = .ok (.ireturn, 1) := by decide +kernel
def w_X_then_30 (K : Int32 → sm_Mem → Prop) (p0 : Int32) (p1 : Int32) (p2 : Int32) (μ : sm_Mem) : Prop := w_X_error (fun r5 μ4 => K r5 μ4) 1 μ
def w_X_then (K : Int32 → sm_Mem → Prop) (p0 : Int32) (p1 : Int32) (p2 : Int32) (μ : sm_Mem) : Prop := w_X_within (fun r2 μ1 => if r2 = 0 then w_X_then_30 K p0 p1 p2 μ1 else w_D_hasNote (fun r7 μ6 => if r7 = 0 then w_X_then_30 K p0 p1 p2 μ6 else w_X_within (fun r10 μ9 => if r10 = 0 then w_X_then_30 K p0 p1 p2 μ9 else w_D_warmthAround (fun r13 μ12 => w_F_leftBy (fun r15 μ14 => if p2 = 0 then K r15 μ14 else w_D_paysWith (fun r18 μ17 => K r18 μ17) p1 r15 μ14) p1 r13 (μ12 1 13) p0 μ12) p1 μ9) p2 0 1 μ6) p1 μ1) p0 0 60 μ
set_option maxHeartbeats 4000000 in
set_option maxRecDepth 100000 in
theorem P_X_then (l : Launch) {K : Int32 → sm_Mem → Prop} {p0 : Int32} {p1 : Int32} {p2 : Int32} {μ : sm_Mem} (h : w_X_then K p0 p1 p2 μ) : sm_MI l ⟨"SnowMoney", "then", "(III)I"⟩ prog_1_method_18_code 5 (some .int) { frames := 5, cells := 0, slots := 0, locals := 123 } [sm_R 0, sm_I p0, sm_I p1, sm_I p2] μ K := by
  refine sm_ofI (by decide +kernel) (fun _ => Nat.le_of_ble_eq_true rfl) ?_
  intro p e s m args below meth c A Q G C hR
  have B30 : ∀ (μ : sm_Mem), w_X_then_30 K p0 p1 p2 μ → sm_W p l e { frames := 5, cells := 0, slots := 0, locals := 123 } s m args below meth c A Q G 5 0 0 30 [] [(0, sm_R 0)] μ := by
    intro μ h
    refine sr_aload_n C 0 rfl rfl d_X_then_30 ?_
    refine sr_iconst C (v := 1) d_X_then_31 (by decide) ?_
    refine sr_callVI C [sm_I _] (P_X_error l h) ok_1 sm_l0 rfl rfl rfl rfl ⟨Nat.le_of_ble_eq_true rfl, Nat.le_of_ble_eq_true rfl⟩ (Nat.le_of_ble_eq_true rfl) ⟨Nat.zero_le _, Nat.zero_le _⟩ d_X_then_32 (fun r5 μ4 h => ?_)
    exact hR _ _ _ _ d_X_then_35 rfl h
  refine sr_iload_n C 1 rfl rfl d_X_then_0 ?_
  refine sr_iconst C (v := 0) d_X_then_1 (by decide) ?_
  refine sr_bipush C (v := 60) d_X_then_2 (by decide) ?_
  refine sr_callSI C [sm_I _, sm_I _, sm_I _] (P_X_within l h) ok_0 rfl rfl rfl ⟨Nat.le_of_ble_eq_true rfl, Nat.le_of_ble_eq_true rfl⟩ (Nat.le_of_ble_eq_true rfl) ⟨Nat.zero_le _, Nat.zero_le _⟩ d_X_then_4 (fun r2 μ1 h => ?_)
  refine sr_if_eq C (tgt := 30) d_X_then_7 (by decide) (fun c3 => ?_) (fun c3 => ?_)
  · replace h := Eq.mp (if_pos c3) h
    refine sr_mask C [0] rfl ?_
    exact B30 _ h
  · replace h := Eq.mp (if_neg c3) h
    refine sr_aload_n C 0 rfl rfl d_X_then_10 ?_
    refine sr_getR C sm_F6 0 q_4 sm_l0 (r := 1) rfl (by decide) d_X_then_11 ?_
    refine sr_iload_n C 2 rfl rfl d_X_then_14 ?_
    refine sr_callVI C [sm_I _] (P_D_hasNote l h) ok_7 sm_l1 rfl rfl rfl rfl ⟨Nat.le_of_ble_eq_true rfl, Nat.le_of_ble_eq_true rfl⟩ (Nat.le_of_ble_eq_true rfl) ⟨Nat.zero_le _, Nat.zero_le _⟩ d_X_then_15 (fun r7 μ6 h => ?_)
    refine sr_if_eq C (tgt := 30) d_X_then_18 (by decide) (fun c8 => ?_) (fun c8 => ?_)
    · replace h := Eq.mp (if_pos c8) h
      refine sr_mask C [0] rfl ?_
      exact B30 _ h
    · replace h := Eq.mp (if_neg c8) h
      refine sr_iload_n C 3 rfl rfl d_X_then_21 ?_
      refine sr_iconst C (v := 0) d_X_then_22 (by decide) ?_
      refine sr_iconst C (v := 1) d_X_then_23 (by decide) ?_
      refine sr_callSI C [sm_I _, sm_I _, sm_I _] (P_X_within l h) ok_0 rfl rfl rfl ⟨Nat.le_of_ble_eq_true rfl, Nat.le_of_ble_eq_true rfl⟩ (Nat.le_of_ble_eq_true rfl) ⟨Nat.zero_le _, Nat.zero_le _⟩ d_X_then_24 (fun r10 μ9 h => ?_)
      refine sr_if_ne C (tgt := 36) d_X_then_27 (by decide) (fun c11 => ?_) (fun c11 => ?_)
      · replace h := Eq.mp (if_neg c11) h
        refine sr_aload_n C 0 rfl rfl d_X_then_36 ?_
        refine sr_getR C sm_F6 2 q_210 sm_l0 (r := 37) rfl (by decide) d_X_then_37 ?_
        refine sr_iload_n C 2 rfl rfl d_X_then_40 ?_
        refine sr_aload_n C 0 rfl rfl d_X_then_41 ?_
        refine sr_getR C sm_F6 0 q_4 sm_l0 (r := 1) rfl (by decide) d_X_then_42 ?_
        refine sr_iload_n C 2 rfl rfl d_X_then_45 ?_
        refine sr_callVI C [sm_I _] (P_D_warmthAround l h) ok_45 sm_l1 rfl rfl rfl rfl ⟨Nat.le_of_ble_eq_true rfl, Nat.le_of_ble_eq_true rfl⟩ (Nat.le_of_ble_eq_true rfl) ⟨Nat.zero_le _, Nat.zero_le _⟩ d_X_then_46 (fun r13 μ12 h => ?_)
        refine sr_aload_n C 0 rfl rfl d_X_then_49 ?_
        refine sr_getR C sm_F6 0 q_4 sm_l0 (r := 1) rfl (by decide) d_X_then_50 ?_
        refine sr_getI C sm_F0 13 q_117 sm_l1 rfl (by decide) d_X_then_53 ?_
        refine sr_iload_n C 1 rfl rfl d_X_then_56 ?_
        refine sr_callVI C [sm_I _, sm_I _, sm_I _, sm_I _] (P_F_leftBy l h) ok_46 sm_l37 rfl rfl rfl rfl ⟨Nat.le_of_ble_eq_true rfl, Nat.le_of_ble_eq_true rfl⟩ (Nat.le_of_ble_eq_true rfl) ⟨Nat.zero_le _, Nat.zero_le _⟩ d_X_then_57 (fun r15 μ14 h => ?_)
        refine sr_istore C (by decide) d_X_then_60 ?_
        refine sr_iload_n C 4 rfl rfl d_X_then_62 ?_
        refine sr_if_ne C (tgt := 71) d_X_then_63 (by decide) (fun c16 => ?_) (fun c16 => ?_)
        · replace h := Eq.mp (if_neg c16) h
          refine sr_aload_n C 1 rfl rfl d_X_then_71 ?_
          refine sr_getR C sm_F6 0 q_4 sm_l0 (r := 1) rfl (by decide) d_X_then_72 ?_
          refine sr_iload_n C 3 rfl rfl d_X_then_75 ?_
          refine sr_iload C 0 rfl d_X_then_76 ?_
          refine sr_callVI C [sm_I _, sm_I _] (P_D_paysWith l h) ok_9 sm_l1 rfl rfl rfl rfl ⟨Nat.le_of_ble_eq_true rfl, Nat.le_of_ble_eq_true rfl⟩ (Nat.le_of_ble_eq_true rfl) ⟨Nat.zero_le _, Nat.zero_le _⟩ d_X_then_78 (fun r18 μ17 h => ?_)
          exact hR _ _ _ _ d_X_then_81 rfl h
        · replace h := Eq.mp (if_pos c16) h
          refine sr_iload C 0 rfl d_X_then_66 ?_
          refine sr_goto C (tgt := 81) (by decide) d_X_then_68 ?_
          exact hR _ _ _ _ d_X_then_81 rfl h
      · replace h := Eq.mp (if_pos c11) h
        refine sr_mask C [0] rfl ?_
        exact B30 _ h
theorem d_X_first_0 : decode prog_1_method_19_code 0 = .ok (.iload_n 1, 1) := by decide +kernel
theorem d_X_first_1 : decode prog_1_method_19_code 1 = .ok (.iconst 0, 1) := by decide +kernel
theorem d_X_first_2 : decode prog_1_method_19_code 2 = .ok (.iconst 1, 1) := by decide +kernel
theorem d_X_first_3 : decode prog_1_method_19_code 3 = .ok (.invokestatic 53, 3) := by decide +kernel
theorem d_X_first_6 : decode prog_1_method_19_code 6 = .ok (.ifCond .ne 9, 3) := by decide +kernel
theorem d_X_first_9 : decode prog_1_method_19_code 9 = .ok (.aload_n 0, 1) := by decide +kernel
theorem d_X_first_10 : decode prog_1_method_19_code 10 = .ok (.iconst 1, 1) := by decide +kernel
theorem d_X_first_11 : decode prog_1_method_19_code 11 = .ok (.invokevirtual 57, 3) := by decide +kernel
theorem d_X_first_14 : decode prog_1_method_19_code 14 = .ok (.ireturn, 1) := by decide +kernel
theorem d_X_first_15 : decode prog_1_method_19_code 15 = .ok (.aload_n 0, 1) := by decide +kernel
theorem d_X_first_16 : decode prog_1_method_19_code 16 = .ok (.getfield 24, 3) := by decide +kernel
theorem d_X_first_19 : decode prog_1_method_19_code 19 = .ok (.invokevirtual 186, 3) := by decide +kernel
theorem d_X_first_22 : decode prog_1_method_19_code 22 = .ok (.ifCond .ne 9, 3) := by decide +kernel
theorem d_X_first_25 : decode prog_1_method_19_code 25 = .ok (.aload_n 0, 1) := by decide +kernel
theorem d_X_first_26 : decode prog_1_method_19_code 26 = .ok (.iconst 2, 1) := by decide +kernel
theorem d_X_first_27 : decode prog_1_method_19_code 27 = .ok (.invokevirtual 57, 3) := by decide +kernel
theorem d_X_first_30 : decode prog_1_method_19_code 30 = .ok (.ireturn, 1) := by decide +kernel
theorem d_X_first_31 : decode prog_1_method_19_code 31 = .ok (.iload_n 1, 1) := by decide +kernel
theorem d_X_first_32 : decode prog_1_method_19_code 32 = .ok (.ifCond .ne 13, 3) := by decide +kernel
theorem d_X_first_35 : decode prog_1_method_19_code 35 = .ok (.aload_n 0, 1) := by decide +kernel
theorem d_X_first_36 : decode prog_1_method_19_code 36 = .ok (.getfield 24, 3) := by decide +kernel
theorem d_X_first_39 : decode prog_1_method_19_code 39 = .ok (.getfield 190, 3) := by decide +kernel
theorem d_X_first_42 : decode prog_1_method_19_code 42 = .ok (.goto 10, 3) := by decide +kernel
theorem d_X_first_45 : decode prog_1_method_19_code 45 = .ok (.aload_n 0, 1) := by decide +kernel
theorem d_X_first_46 : decode prog_1_method_19_code 46 = .ok (.getfield 24, 3) := by decide +kernel
theorem d_X_first_49 : decode prog_1_method_19_code 49 = .ok (.getfield 193, 3) := by decide +kernel
theorem d_X_first_52 : decode prog_1_method_19_code 52 = .ok (.ireturn, 1) := by decide +kernel
def w_X_first (K : Int32 → sm_Mem → Prop) (p0 : Int32) (μ : sm_Mem) : Prop := w_X_within (fun r2 μ1 => if r2 = 0 then w_X_error (fun r11 μ10 => K r11 μ10) 1 μ1 else w_F_findFirstGone (fun r5 μ4 => if r5 = 0 then w_X_error (fun r9 μ8 => K r9 μ8) 2 μ4 else (if p0 = 0 then K (μ4 37 7) μ4 else K (μ4 37 8) μ4)) μ1) p0 0 1 μ
set_option maxHeartbeats 4000000 in
set_option maxRecDepth 100000 in
theorem P_X_first (l : Launch) {K : Int32 → sm_Mem → Prop} {p0 : Int32} {μ : sm_Mem} (h : w_X_first K p0 μ) : sm_MI l ⟨"SnowMoney", "first", "(I)I"⟩ prog_1_method_19_code 2 (some .int) { frames := 7, cells := 0, slots := 0, locals := 169 } [sm_R 0, sm_I p0] μ K := by
  refine sm_ofI (by decide +kernel) (fun _ => Nat.le_of_ble_eq_true rfl) ?_
  intro p e s m args below meth c A Q G C hR
  refine sr_iload_n C 1 rfl rfl d_X_first_0 ?_
  refine sr_iconst C (v := 0) d_X_first_1 (by decide) ?_
  refine sr_iconst C (v := 1) d_X_first_2 (by decide) ?_
  refine sr_callSI C [sm_I _, sm_I _, sm_I _] (P_X_within l h) ok_0 rfl rfl rfl ⟨Nat.le_of_ble_eq_true rfl, Nat.le_of_ble_eq_true rfl⟩ (Nat.le_of_ble_eq_true rfl) ⟨Nat.zero_le _, Nat.zero_le _⟩ d_X_first_3 (fun r2 μ1 h => ?_)
  refine sr_if_ne C (tgt := 15) d_X_first_6 (by decide) (fun c3 => ?_) (fun c3 => ?_)
  · replace h := Eq.mp (if_neg c3) h
    refine sr_aload_n C 0 rfl rfl d_X_first_15 ?_
    refine sr_getR C sm_F6 2 q_210 sm_l0 (r := 37) rfl (by decide) d_X_first_16 ?_
    refine sr_callVI C [] (P_F_findFirstGone l h) ok_53 sm_l37 rfl rfl rfl rfl ⟨Nat.le_of_ble_eq_true rfl, Nat.le_of_ble_eq_true rfl⟩ (Nat.le_of_ble_eq_true rfl) ⟨Nat.zero_le _, Nat.zero_le _⟩ d_X_first_19 (fun r5 μ4 h => ?_)
    refine sr_if_ne C (tgt := 31) d_X_first_22 (by decide) (fun c6 => ?_) (fun c6 => ?_)
    · replace h := Eq.mp (if_neg c6) h
      refine sr_iload_n C 1 rfl rfl d_X_first_31 ?_
      refine sr_if_ne C (tgt := 45) d_X_first_32 (by decide) (fun c7 => ?_) (fun c7 => ?_)
      · replace h := Eq.mp (if_neg c7) h
        refine sr_aload_n C 0 rfl rfl d_X_first_45 ?_
        refine sr_getR C sm_F6 2 q_210 sm_l0 (r := 37) rfl (by decide) d_X_first_46 ?_
        refine sr_getI C sm_F1 8 q_251 sm_l37 rfl (by decide) d_X_first_49 ?_
        exact hR _ _ _ _ d_X_first_52 rfl h
      · replace h := Eq.mp (if_pos c7) h
        refine sr_aload_n C 0 rfl rfl d_X_first_35 ?_
        refine sr_getR C sm_F6 2 q_210 sm_l0 (r := 37) rfl (by decide) d_X_first_36 ?_
        refine sr_getI C sm_F1 7 q_252 sm_l37 rfl (by decide) d_X_first_39 ?_
        refine sr_goto C (tgt := 52) (by decide) d_X_first_42 ?_
        exact hR _ _ _ _ d_X_first_52 rfl h
    · replace h := Eq.mp (if_pos c6) h
      refine sr_aload_n C 0 rfl rfl d_X_first_25 ?_
      refine sr_iconst C (v := 2) d_X_first_26 (by decide) ?_
      refine sr_callVI C [sm_I _] (P_X_error l h) ok_1 sm_l0 rfl rfl rfl rfl ⟨Nat.le_of_ble_eq_true rfl, Nat.le_of_ble_eq_true rfl⟩ (Nat.le_of_ble_eq_true rfl) ⟨Nat.zero_le _, Nat.zero_le _⟩ d_X_first_27 (fun r9 μ8 h => ?_)
      exact hR _ _ _ _ d_X_first_30 rfl h
  · replace h := Eq.mp (if_pos c3) h
    refine sr_aload_n C 0 rfl rfl d_X_first_9 ?_
    refine sr_iconst C (v := 1) d_X_first_10 (by decide) ?_
    refine sr_callVI C [sm_I _] (P_X_error l h) ok_1 sm_l0 rfl rfl rfl rfl ⟨Nat.le_of_ble_eq_true rfl, Nat.le_of_ble_eq_true rfl⟩ (Nat.le_of_ble_eq_true rfl) ⟨Nat.zero_le _, Nat.zero_le _⟩ d_X_first_11 (fun r11 μ10 h => ?_)
    exact hR _ _ _ _ d_X_first_14 rfl h
theorem d_X_worth_0 : decode prog_1_method_20_code 0 = .ok (.iload_n 1, 1) := by decide +kernel
theorem d_X_worth_1 : decode prog_1_method_20_code 1 = .ok (.iconst 0, 1) := by decide +kernel
theorem d_X_worth_2 : decode prog_1_method_20_code 2 = .ok (.iconst 3, 1) := by decide +kernel
theorem d_X_worth_3 : decode prog_1_method_20_code 3 = .ok (.invokestatic 53, 3) := by decide +kernel
theorem d_X_worth_6 : decode prog_1_method_20_code 6 = .ok (.ifCond .ne 9, 3) := by decide +kernel
theorem d_X_worth_9 : decode prog_1_method_20_code 9 = .ok (.aload_n 0, 1) := by decide +kernel
theorem d_X_worth_10 : decode prog_1_method_20_code 10 = .ok (.iconst 1, 1) := by decide +kernel
theorem d_X_worth_11 : decode prog_1_method_20_code 11 = .ok (.invokevirtual 57, 3) := by decide +kernel
theorem d_X_worth_14 : decode prog_1_method_20_code 14 = .ok (.ireturn, 1) := by decide +kernel
theorem d_X_worth_15 : decode prog_1_method_20_code 15 = .ok (.aload_n 0, 1) := by decide +kernel
theorem d_X_worth_16 : decode prog_1_method_20_code 16 = .ok (.getfield 24, 3) := by decide +kernel
theorem d_X_worth_19 : decode prog_1_method_20_code 19 = .ok (.iload_n 1, 1) := by decide +kernel
theorem d_X_worth_20 : decode prog_1_method_20_code 20 = .ok (.iconst 0, 1) := by decide +kernel
theorem d_X_worth_21 : decode prog_1_method_20_code 21 = .ok (.invokevirtual 196, 3) := by decide +kernel
theorem d_X_worth_24 : decode prog_1_method_20_code 24 = .ok (.ireturn, 1) := by decide +kernel
def w_X_worth (K : Int32 → sm_Mem → Prop) (p0 : Int32) (μ : sm_Mem) : Prop := w_X_within (fun r2 μ1 => if r2 = 0 then w_X_error (fun r7 μ6 => K r7 μ6) 1 μ1 else w_F_worthBehind (fun r5 μ4 => K r5 μ4) p0 0 μ1) p0 0 3 μ
set_option maxHeartbeats 4000000 in
set_option maxRecDepth 100000 in
theorem P_X_worth (l : Launch) {K : Int32 → sm_Mem → Prop} {p0 : Int32} {μ : sm_Mem} (h : w_X_worth K p0 μ) : sm_MI l ⟨"SnowMoney", "worth", "(I)I"⟩ prog_1_method_20_code 2 (some .int) { frames := 6, cells := 0, slots := 0, locals := 148 } [sm_R 0, sm_I p0] μ K := by
  refine sm_ofI (by decide +kernel) (fun _ => Nat.le_of_ble_eq_true rfl) ?_
  intro p e s m args below meth c A Q G C hR
  refine sr_iload_n C 1 rfl rfl d_X_worth_0 ?_
  refine sr_iconst C (v := 0) d_X_worth_1 (by decide) ?_
  refine sr_iconst C (v := 3) d_X_worth_2 (by decide) ?_
  refine sr_callSI C [sm_I _, sm_I _, sm_I _] (P_X_within l h) ok_0 rfl rfl rfl ⟨Nat.le_of_ble_eq_true rfl, Nat.le_of_ble_eq_true rfl⟩ (Nat.le_of_ble_eq_true rfl) ⟨Nat.zero_le _, Nat.zero_le _⟩ d_X_worth_3 (fun r2 μ1 h => ?_)
  refine sr_if_ne C (tgt := 15) d_X_worth_6 (by decide) (fun c3 => ?_) (fun c3 => ?_)
  · replace h := Eq.mp (if_neg c3) h
    refine sr_aload_n C 0 rfl rfl d_X_worth_15 ?_
    refine sr_getR C sm_F6 2 q_210 sm_l0 (r := 37) rfl (by decide) d_X_worth_16 ?_
    refine sr_iload_n C 1 rfl rfl d_X_worth_19 ?_
    refine sr_iconst C (v := 0) d_X_worth_20 (by decide) ?_
    refine sr_callVI C [sm_I _, sm_I _] (P_F_worthBehind l h) ok_57 sm_l37 rfl rfl rfl rfl ⟨Nat.le_of_ble_eq_true rfl, Nat.le_of_ble_eq_true rfl⟩ (Nat.le_of_ble_eq_true rfl) ⟨Nat.zero_le _, Nat.zero_le _⟩ d_X_worth_21 (fun r5 μ4 h => ?_)
    exact hR _ _ _ _ d_X_worth_24 rfl h
  · replace h := Eq.mp (if_pos c3) h
    refine sr_aload_n C 0 rfl rfl d_X_worth_9 ?_
    refine sr_iconst C (v := 1) d_X_worth_10 (by decide) ?_
    refine sr_callVI C [sm_I _] (P_X_error l h) ok_1 sm_l0 rfl rfl rfl rfl ⟨Nat.le_of_ble_eq_true rfl, Nat.le_of_ble_eq_true rfl⟩ (Nat.le_of_ble_eq_true rfl) ⟨Nat.zero_le _, Nat.zero_le _⟩ d_X_worth_11 (fun r7 μ6 h => ?_)
    exact hR _ _ _ _ d_X_worth_14 rfl h
theorem d_X_keep_0 : decode prog_1_method_21_code 0 = .ok (.aload_n 0, 1) := by decide +kernel
theorem d_X_keep_1 : decode prog_1_method_21_code 1 = .ok (.getfield 10, 3) := by decide +kernel
theorem d_X_keep_4 : decode prog_1_method_21_code 4 = .ok (.iload_n 1, 1) := by decide +kernel
theorem d_X_keep_5 : decode prog_1_method_21_code 5 = .ok (.invokevirtual 101, 3) := by decide +kernel
theorem d_X_keep_8 : decode prog_1_method_21_code 8 = .ok (.ifCond .eq 22, 3) := by decide +kernel
theorem d_X_keep_11 : decode prog_1_method_21_code 11 = .ok (.iload_n 2, 1) := by decide +kernel
theorem d_X_keep_12 : decode prog_1_method_21_code 12 = .ok (.iconst 0, 1) := by decide +kernel
theorem d_X_keep_13 : decode prog_1_method_21_code 13 = .ok (.bipush 60, 2) := by decide +kernel
theorem d_X_keep_15 : decode prog_1_method_21_code 15 = .ok (.invokestatic 53, 3) := by decide +kernel
theorem d_X_keep_18 : decode prog_1_method_21_code 18 = .ok (.ifCond .eq 12, 3) := by decide +kernel
theorem d_X_keep_21 : decode prog_1_method_21_code 21 = .ok (.iload_n 3, 1) := by decide +kernel
theorem d_X_keep_22 : decode prog_1_method_21_code 22 = .ok (.iconst 0, 1) := by decide +kernel
theorem d_X_keep_23 : decode prog_1_method_21_code 23 = .ok (.iconst 1, 1) := by decide +kernel
theorem d_X_keep_24 : decode prog_1_method_21_code 24 = .ok (.invokestatic 53, 3) := by decide +kernel
theorem d_X_keep_27 : decode prog_1_method_21_code 27 = .ok (.ifCond .ne 9, 3) := by decide +kernel
theorem d_X_keep_30 : decode prog_1_method_21_code 30 = .ok (.aload_n 0, 1) := by decide +kernel
theorem d_X_keep_31 : decode prog_1_method_21_code 31 = .ok (.iconst 1, 1) := by decide +kernel
theorem d_X_keep_32 : decode prog_1_method_21_code 32 = .ok (.invokevirtual 57, 3) := by decide +kernel
theorem d_X_keep_35 : decode prog_1_method_21_code 35 = .ok (.ireturn, 1) := by decide +kernel
theorem d_X_keep_36 : decode prog_1_method_21_code 36 = .ok (.aload_n 0, 1) := by decide +kernel
theorem d_X_keep_37 : decode prog_1_method_21_code 37 = .ok (.getfield 24, 3) := by decide +kernel
theorem d_X_keep_40 : decode prog_1_method_21_code 40 = .ok (.iload_n 1, 1) := by decide +kernel
theorem d_X_keep_41 : decode prog_1_method_21_code 41 = .ok (.iload_n 2, 1) := by decide +kernel
theorem d_X_keep_42 : decode prog_1_method_21_code 42 = .ok (.invokevirtual 199, 3) := by decide +kernel
theorem d_X_keep_45 : decode prog_1_method_21_code 45 = .ok (.iload_n 3, 1) := by decide +kernel
theorem d_X_keep_46 : decode prog_1_method_21_code 46 = .ok (.ifCond .ne 13, 3) := by decide +kernel
theorem d_X_keep_49 : decode prog_1_method_21_code 49 = .ok (.aload_n 0, 1) := by decide +kernel
theorem d_X_keep_50 : decode prog_1_method_21_code 50 = .ok (.getfield 24, 3) := by decide +kernel
theorem d_X_keep_53 : decode prog_1_method_21_code 53 = .ok (.getfield 193, 3) := by decide +kernel
theorem d_X_keep_56 : decode prog_1_method_21_code 56 = .ok (.goto 10, 3) := by decide +kernel
theorem d_X_keep_59 : decode prog_1_method_21_code 59 = .ok (.aload_n 0, 1) := by decide +kernel
theorem d_X_keep_60 : decode prog_1_method_21_code 60 = .ok (.getfield 24, 3) := by decide +kernel
theorem d_X_keep_63 : decode prog_1_method_21_code 63 = .ok (.getfield 190, 3) := by decide +kernel
theorem d_X_keep_66 : decode prog_1_method_21_code 66 = .ok (.ireturn, 1) := by decide +kernel
def w_X_keep_30 (K : Int32 → sm_Mem → Prop) (p0 : Int32) (p1 : Int32) (p2 : Int32) (μ : sm_Mem) : Prop := w_X_error (fun r5 μ4 => K r5 μ4) 1 μ
def w_X_keep (K : Int32 → sm_Mem → Prop) (p0 : Int32) (p1 : Int32) (p2 : Int32) (μ : sm_Mem) : Prop := w_D_hasNote (fun r2 μ1 => if r2 = 0 then w_X_keep_30 K p0 p1 p2 μ1 else w_X_within (fun r7 μ6 => if r7 = 0 then w_X_keep_30 K p0 p1 p2 μ6 else w_X_within (fun r10 μ9 => if r10 = 0 then w_X_keep_30 K p0 p1 p2 μ9 else w_F_findColdest (fun μ12 => if p2 = 0 then K (μ12 37 8) μ12 else K (μ12 37 7) μ12) p0 p1 μ9) p2 0 1 μ6) p1 0 60 μ1) p0 μ
set_option maxHeartbeats 4000000 in
set_option maxRecDepth 100000 in
theorem P_X_keep (l : Launch) {K : Int32 → sm_Mem → Prop} {p0 : Int32} {p1 : Int32} {p2 : Int32} {μ : sm_Mem} (h : w_X_keep K p0 p1 p2 μ) : sm_MI l ⟨"SnowMoney", "keep", "(III)I"⟩ prog_1_method_21_code 4 (some .int) { frames := 6, cells := 0, slots := 0, locals := 147 } [sm_R 0, sm_I p0, sm_I p1, sm_I p2] μ K := by
  refine sm_ofI (by decide +kernel) (fun _ => Nat.le_of_ble_eq_true rfl) ?_
  intro p e s m args below meth c A Q G C hR
  have B30 : ∀ (μ : sm_Mem), w_X_keep_30 K p0 p1 p2 μ → sm_W p l e { frames := 6, cells := 0, slots := 0, locals := 147 } s m args below meth c A Q G 4 0 0 30 [] [(0, sm_R 0)] μ := by
    intro μ h
    refine sr_aload_n C 0 rfl rfl d_X_keep_30 ?_
    refine sr_iconst C (v := 1) d_X_keep_31 (by decide) ?_
    refine sr_callVI C [sm_I _] (P_X_error l h) ok_1 sm_l0 rfl rfl rfl rfl ⟨Nat.le_of_ble_eq_true rfl, Nat.le_of_ble_eq_true rfl⟩ (Nat.le_of_ble_eq_true rfl) ⟨Nat.zero_le _, Nat.zero_le _⟩ d_X_keep_32 (fun r5 μ4 h => ?_)
    exact hR _ _ _ _ d_X_keep_35 rfl h
  refine sr_aload_n C 0 rfl rfl d_X_keep_0 ?_
  refine sr_getR C sm_F6 0 q_4 sm_l0 (r := 1) rfl (by decide) d_X_keep_1 ?_
  refine sr_iload_n C 1 rfl rfl d_X_keep_4 ?_
  refine sr_callVI C [sm_I _] (P_D_hasNote l h) ok_7 sm_l1 rfl rfl rfl rfl ⟨Nat.le_of_ble_eq_true rfl, Nat.le_of_ble_eq_true rfl⟩ (Nat.le_of_ble_eq_true rfl) ⟨Nat.zero_le _, Nat.zero_le _⟩ d_X_keep_5 (fun r2 μ1 h => ?_)
  refine sr_if_eq C (tgt := 30) d_X_keep_8 (by decide) (fun c3 => ?_) (fun c3 => ?_)
  · replace h := Eq.mp (if_pos c3) h
    refine sr_mask C [0] rfl ?_
    exact B30 _ h
  · replace h := Eq.mp (if_neg c3) h
    refine sr_iload_n C 2 rfl rfl d_X_keep_11 ?_
    refine sr_iconst C (v := 0) d_X_keep_12 (by decide) ?_
    refine sr_bipush C (v := 60) d_X_keep_13 (by decide) ?_
    refine sr_callSI C [sm_I _, sm_I _, sm_I _] (P_X_within l h) ok_0 rfl rfl rfl ⟨Nat.le_of_ble_eq_true rfl, Nat.le_of_ble_eq_true rfl⟩ (Nat.le_of_ble_eq_true rfl) ⟨Nat.zero_le _, Nat.zero_le _⟩ d_X_keep_15 (fun r7 μ6 h => ?_)
    refine sr_if_eq C (tgt := 30) d_X_keep_18 (by decide) (fun c8 => ?_) (fun c8 => ?_)
    · replace h := Eq.mp (if_pos c8) h
      refine sr_mask C [0] rfl ?_
      exact B30 _ h
    · replace h := Eq.mp (if_neg c8) h
      refine sr_iload_n C 3 rfl rfl d_X_keep_21 ?_
      refine sr_iconst C (v := 0) d_X_keep_22 (by decide) ?_
      refine sr_iconst C (v := 1) d_X_keep_23 (by decide) ?_
      refine sr_callSI C [sm_I _, sm_I _, sm_I _] (P_X_within l h) ok_0 rfl rfl rfl ⟨Nat.le_of_ble_eq_true rfl, Nat.le_of_ble_eq_true rfl⟩ (Nat.le_of_ble_eq_true rfl) ⟨Nat.zero_le _, Nat.zero_le _⟩ d_X_keep_24 (fun r10 μ9 h => ?_)
      refine sr_if_ne C (tgt := 36) d_X_keep_27 (by decide) (fun c11 => ?_) (fun c11 => ?_)
      · replace h := Eq.mp (if_neg c11) h
        refine sr_aload_n C 0 rfl rfl d_X_keep_36 ?_
        refine sr_getR C sm_F6 2 q_210 sm_l0 (r := 37) rfl (by decide) d_X_keep_37 ?_
        refine sr_iload_n C 1 rfl rfl d_X_keep_40 ?_
        refine sr_iload_n C 2 rfl rfl d_X_keep_41 ?_
        refine sr_callVV C [sm_I _, sm_I _] (P_F_findColdest l h) ok_59 sm_l37 rfl rfl rfl rfl ⟨Nat.le_of_ble_eq_true rfl, Nat.le_of_ble_eq_true rfl⟩ (Nat.le_of_ble_eq_true rfl) ⟨Nat.zero_le _, Nat.zero_le _⟩ d_X_keep_42 (fun μ12 h => ?_)
        refine sr_iload_n C 3 rfl rfl d_X_keep_45 ?_
        refine sr_if_ne C (tgt := 59) d_X_keep_46 (by decide) (fun c13 => ?_) (fun c13 => ?_)
        · replace h := Eq.mp (if_neg c13) h
          refine sr_aload_n C 0 rfl rfl d_X_keep_59 ?_
          refine sr_getR C sm_F6 2 q_210 sm_l0 (r := 37) rfl (by decide) d_X_keep_60 ?_
          refine sr_getI C sm_F1 7 q_252 sm_l37 rfl (by decide) d_X_keep_63 ?_
          exact hR _ _ _ _ d_X_keep_66 rfl h
        · replace h := Eq.mp (if_pos c13) h
          refine sr_aload_n C 0 rfl rfl d_X_keep_49 ?_
          refine sr_getR C sm_F6 2 q_210 sm_l0 (r := 37) rfl (by decide) d_X_keep_50 ?_
          refine sr_getI C sm_F1 8 q_251 sm_l37 rfl (by decide) d_X_keep_53 ?_
          refine sr_goto C (tgt := 66) (by decide) d_X_keep_56 ?_
          exact hR _ _ _ _ d_X_keep_66 rfl h
      · replace h := Eq.mp (if_pos c11) h
        refine sr_mask C [0] rfl ?_
        exact B30 _ h
theorem d_X_pay_0 : decode prog_1_method_22_code 0 = .ok (.iload_n 1, 1) := by decide +kernel
theorem d_X_pay_1 : decode prog_1_method_22_code 1 = .ok (.iconst 0, 1) := by decide +kernel
theorem d_X_pay_2 : decode prog_1_method_22_code 2 = .ok (.iconst 3, 1) := by decide +kernel
theorem d_X_pay_3 : decode prog_1_method_22_code 3 = .ok (.invokestatic 53, 3) := by decide +kernel
theorem d_X_pay_6 : decode prog_1_method_22_code 6 = .ok (.ifCond .eq 23, 3) := by decide +kernel
theorem d_X_pay_9 : decode prog_1_method_22_code 9 = .ok (.iload_n 2, 1) := by decide +kernel
theorem d_X_pay_10 : decode prog_1_method_22_code 10 = .ok (.iconst 1, 1) := by decide +kernel
theorem d_X_pay_11 : decode prog_1_method_22_code 11 = .ok (.sipush 9999, 3) := by decide +kernel
theorem d_X_pay_14 : decode prog_1_method_22_code 14 = .ok (.invokestatic 53, 3) := by decide +kernel
theorem d_X_pay_17 : decode prog_1_method_22_code 17 = .ok (.ifCond .eq 12, 3) := by decide +kernel
theorem d_X_pay_20 : decode prog_1_method_22_code 20 = .ok (.iload_n 3, 1) := by decide +kernel
theorem d_X_pay_21 : decode prog_1_method_22_code 21 = .ok (.iconst 0, 1) := by decide +kernel
theorem d_X_pay_22 : decode prog_1_method_22_code 22 = .ok (.iconst 1, 1) := by decide +kernel
theorem d_X_pay_23 : decode prog_1_method_22_code 23 = .ok (.invokestatic 53, 3) := by decide +kernel
theorem d_X_pay_26 : decode prog_1_method_22_code 26 = .ok (.ifCond .ne 9, 3) := by decide +kernel
theorem d_X_pay_29 : decode prog_1_method_22_code 29 = .ok (.aload_n 0, 1) := by decide +kernel
theorem d_X_pay_30 : decode prog_1_method_22_code 30 = .ok (.iconst 1, 1) := by decide +kernel
theorem d_X_pay_31 : decode prog_1_method_22_code 31 = .ok (.invokevirtual 57, 3) := by decide +kernel
theorem d_X_pay_34 : decode prog_1_method_22_code 34 = .ok (.ireturn, 1) := by decide +kernel
theorem d_X_pay_35 : decode prog_1_method_22_code 35 = .ok (.aload_n 0, 1) := by decide +kernel
theorem d_X_pay_36 : decode prog_1_method_22_code 36 = .ok (.getfield 24, 3) := by decide +kernel
theorem d_X_pay_39 : decode prog_1_method_22_code 39 = .ok (.iload_n 1, 1) := by decide +kernel
theorem d_X_pay_40 : decode prog_1_method_22_code 40 = .ok (.iload_n 2, 1) := by decide +kernel
theorem d_X_pay_41 : decode prog_1_method_22_code 41 = .ok (.invokevirtual 203, 3) := by decide +kernel
theorem d_X_pay_44 : decode prog_1_method_22_code 44 = .ok (.ifCond .ne 9, 3) := by decide +kernel
theorem d_X_pay_47 : decode prog_1_method_22_code 47 = .ok (.aload_n 0, 1) := by decide +kernel
theorem d_X_pay_48 : decode prog_1_method_22_code 48 = .ok (.iconst 2, 1) := by decide +kernel
theorem d_X_pay_49 : decode prog_1_method_22_code 49 = .ok (.invokevirtual 57, 3) := by decide +kernel
theorem d_X_pay_52 : decode prog_1_method_22_code 52 = .ok (.ireturn, 1) := by decide +kernel
theorem d_X_pay_53 : decode prog_1_method_22_code 53 = .ok (.iload_n 3, 1) := by decide +kernel
theorem d_X_pay_54 : decode prog_1_method_22_code 54 = .ok (.ifCond .ne 13, 3) := by decide +kernel
theorem d_X_pay_57 : decode prog_1_method_22_code 57 = .ok (.aload_n 0, 1) := by decide +kernel
theorem d_X_pay_58 : decode prog_1_method_22_code 58 = .ok (.getfield 24, 3) := by decide +kernel
theorem d_X_pay_61 : decode prog_1_method_22_code 61 = .ok (.getfield 193, 3) := by decide +kernel
theorem d_X_pay_64 : decode prog_1_method_22_code 64 = .ok (.goto 10, 3) := by decide +kernel
theorem d_X_pay_67 : decode prog_1_method_22_code 67 = .ok (.aload_n 0, 1) := by decide +kernel
theorem d_X_pay_68 : decode prog_1_method_22_code 68 = .ok (.getfield 24, 3) := by decide +kernel
theorem d_X_pay_71 : decode prog_1_method_22_code 71 = .ok (.getfield 190, 3) := by decide +kernel
theorem d_X_pay_74 : decode prog_1_method_22_code 74 = .ok (.ireturn, 1) := by decide +kernel
def w_X_pay_29 (K : Int32 → sm_Mem → Prop) (p0 : Int32) (p1 : Int32) (p2 : Int32) (μ : sm_Mem) : Prop := w_X_error (fun r5 μ4 => K r5 μ4) 1 μ
def w_X_pay (K : Int32 → sm_Mem → Prop) (p0 : Int32) (p1 : Int32) (p2 : Int32) (μ : sm_Mem) : Prop := w_X_within (fun r2 μ1 => if r2 = 0 then w_X_pay_29 K p0 p1 p2 μ1 else w_X_within (fun r7 μ6 => if r7 = 0 then w_X_pay_29 K p0 p1 p2 μ6 else w_X_within (fun r10 μ9 => if r10 = 0 then w_X_pay_29 K p0 p1 p2 μ9 else w_F_findPayment (fun r13 μ12 => if r13 = 0 then w_X_error (fun r17 μ16 => K r17 μ16) 2 μ12 else (if p2 = 0 then K (μ12 37 8) μ12 else K (μ12 37 7) μ12)) p0 p1 μ9) p2 0 1 μ6) p1 1 9999 μ1) p0 0 3 μ
set_option maxHeartbeats 4000000 in
set_option maxRecDepth 100000 in
theorem P_X_pay (l : Launch) {K : Int32 → sm_Mem → Prop} {p0 : Int32} {p1 : Int32} {p2 : Int32} {μ : sm_Mem} (h : w_X_pay K p0 p1 p2 μ) : sm_MI l ⟨"SnowMoney", "pay", "(III)I"⟩ prog_1_method_22_code 4 (some .int) { frames := 6, cells := 0, slots := 0, locals := 145 } [sm_R 0, sm_I p0, sm_I p1, sm_I p2] μ K := by
  refine sm_ofI (by decide +kernel) (fun _ => Nat.le_of_ble_eq_true rfl) ?_
  intro p e s m args below meth c A Q G C hR
  have B29 : ∀ (μ : sm_Mem), w_X_pay_29 K p0 p1 p2 μ → sm_W p l e { frames := 6, cells := 0, slots := 0, locals := 145 } s m args below meth c A Q G 4 0 0 29 [] [(0, sm_R 0)] μ := by
    intro μ h
    refine sr_aload_n C 0 rfl rfl d_X_pay_29 ?_
    refine sr_iconst C (v := 1) d_X_pay_30 (by decide) ?_
    refine sr_callVI C [sm_I _] (P_X_error l h) ok_1 sm_l0 rfl rfl rfl rfl ⟨Nat.le_of_ble_eq_true rfl, Nat.le_of_ble_eq_true rfl⟩ (Nat.le_of_ble_eq_true rfl) ⟨Nat.zero_le _, Nat.zero_le _⟩ d_X_pay_31 (fun r5 μ4 h => ?_)
    exact hR _ _ _ _ d_X_pay_34 rfl h
  refine sr_iload_n C 1 rfl rfl d_X_pay_0 ?_
  refine sr_iconst C (v := 0) d_X_pay_1 (by decide) ?_
  refine sr_iconst C (v := 3) d_X_pay_2 (by decide) ?_
  refine sr_callSI C [sm_I _, sm_I _, sm_I _] (P_X_within l h) ok_0 rfl rfl rfl ⟨Nat.le_of_ble_eq_true rfl, Nat.le_of_ble_eq_true rfl⟩ (Nat.le_of_ble_eq_true rfl) ⟨Nat.zero_le _, Nat.zero_le _⟩ d_X_pay_3 (fun r2 μ1 h => ?_)
  refine sr_if_eq C (tgt := 29) d_X_pay_6 (by decide) (fun c3 => ?_) (fun c3 => ?_)
  · replace h := Eq.mp (if_pos c3) h
    refine sr_mask C [0] rfl ?_
    exact B29 _ h
  · replace h := Eq.mp (if_neg c3) h
    refine sr_iload_n C 2 rfl rfl d_X_pay_9 ?_
    refine sr_iconst C (v := 1) d_X_pay_10 (by decide) ?_
    refine sr_sipush C (v := 9999) d_X_pay_11 (by decide) ?_
    refine sr_callSI C [sm_I _, sm_I _, sm_I _] (P_X_within l h) ok_0 rfl rfl rfl ⟨Nat.le_of_ble_eq_true rfl, Nat.le_of_ble_eq_true rfl⟩ (Nat.le_of_ble_eq_true rfl) ⟨Nat.zero_le _, Nat.zero_le _⟩ d_X_pay_14 (fun r7 μ6 h => ?_)
    refine sr_if_eq C (tgt := 29) d_X_pay_17 (by decide) (fun c8 => ?_) (fun c8 => ?_)
    · replace h := Eq.mp (if_pos c8) h
      refine sr_mask C [0] rfl ?_
      exact B29 _ h
    · replace h := Eq.mp (if_neg c8) h
      refine sr_iload_n C 3 rfl rfl d_X_pay_20 ?_
      refine sr_iconst C (v := 0) d_X_pay_21 (by decide) ?_
      refine sr_iconst C (v := 1) d_X_pay_22 (by decide) ?_
      refine sr_callSI C [sm_I _, sm_I _, sm_I _] (P_X_within l h) ok_0 rfl rfl rfl ⟨Nat.le_of_ble_eq_true rfl, Nat.le_of_ble_eq_true rfl⟩ (Nat.le_of_ble_eq_true rfl) ⟨Nat.zero_le _, Nat.zero_le _⟩ d_X_pay_23 (fun r10 μ9 h => ?_)
      refine sr_if_ne C (tgt := 35) d_X_pay_26 (by decide) (fun c11 => ?_) (fun c11 => ?_)
      · replace h := Eq.mp (if_neg c11) h
        refine sr_aload_n C 0 rfl rfl d_X_pay_35 ?_
        refine sr_getR C sm_F6 2 q_210 sm_l0 (r := 37) rfl (by decide) d_X_pay_36 ?_
        refine sr_iload_n C 1 rfl rfl d_X_pay_39 ?_
        refine sr_iload_n C 2 rfl rfl d_X_pay_40 ?_
        refine sr_callVI C [sm_I _, sm_I _] (P_F_findPayment l h) ok_61 sm_l37 rfl rfl rfl rfl ⟨Nat.le_of_ble_eq_true rfl, Nat.le_of_ble_eq_true rfl⟩ (Nat.le_of_ble_eq_true rfl) ⟨Nat.zero_le _, Nat.zero_le _⟩ d_X_pay_41 (fun r13 μ12 h => ?_)
        refine sr_if_ne C (tgt := 53) d_X_pay_44 (by decide) (fun c14 => ?_) (fun c14 => ?_)
        · replace h := Eq.mp (if_neg c14) h
          refine sr_iload_n C 3 rfl rfl d_X_pay_53 ?_
          refine sr_if_ne C (tgt := 67) d_X_pay_54 (by decide) (fun c15 => ?_) (fun c15 => ?_)
          · replace h := Eq.mp (if_neg c15) h
            refine sr_aload_n C 0 rfl rfl d_X_pay_67 ?_
            refine sr_getR C sm_F6 2 q_210 sm_l0 (r := 37) rfl (by decide) d_X_pay_68 ?_
            refine sr_getI C sm_F1 7 q_252 sm_l37 rfl (by decide) d_X_pay_71 ?_
            exact hR _ _ _ _ d_X_pay_74 rfl h
          · replace h := Eq.mp (if_pos c15) h
            refine sr_aload_n C 0 rfl rfl d_X_pay_57 ?_
            refine sr_getR C sm_F6 2 q_210 sm_l0 (r := 37) rfl (by decide) d_X_pay_58 ?_
            refine sr_getI C sm_F1 8 q_251 sm_l37 rfl (by decide) d_X_pay_61 ?_
            refine sr_goto C (tgt := 74) (by decide) d_X_pay_64 ?_
            exact hR _ _ _ _ d_X_pay_74 rfl h
        · replace h := Eq.mp (if_pos c14) h
          refine sr_aload_n C 0 rfl rfl d_X_pay_47 ?_
          refine sr_iconst C (v := 2) d_X_pay_48 (by decide) ?_
          refine sr_callVI C [sm_I _] (P_X_error l h) ok_1 sm_l0 rfl rfl rfl rfl ⟨Nat.le_of_ble_eq_true rfl, Nat.le_of_ble_eq_true rfl⟩ (Nat.le_of_ble_eq_true rfl) ⟨Nat.zero_le _, Nat.zero_le _⟩ d_X_pay_49 (fun r17 μ16 h => ?_)
          exact hR _ _ _ _ d_X_pay_52 rfl h
      · replace h := Eq.mp (if_pos c11) h
        refine sr_mask C [0] rfl ?_
        exact B29 _ h
theorem d_X_lasts_0 : decode prog_1_method_23_code 0 = .ok (.iload_n 1, 1) := by decide +kernel
theorem d_X_lasts_1 : decode prog_1_method_23_code 1 = .ok (.iconst 0, 1) := by decide +kernel
theorem d_X_lasts_2 : decode prog_1_method_23_code 2 = .ok (.iconst 3, 1) := by decide +kernel
theorem d_X_lasts_3 : decode prog_1_method_23_code 3 = .ok (.invokestatic 53, 3) := by decide +kernel
theorem d_X_lasts_6 : decode prog_1_method_23_code 6 = .ok (.ifCond .eq 14, 3) := by decide +kernel
theorem d_X_lasts_9 : decode prog_1_method_23_code 9 = .ok (.iload_n 2, 1) := by decide +kernel
theorem d_X_lasts_10 : decode prog_1_method_23_code 10 = .ok (.iconst 1, 1) := by decide +kernel
theorem d_X_lasts_11 : decode prog_1_method_23_code 11 = .ok (.sipush 9999, 3) := by decide +kernel
theorem d_X_lasts_14 : decode prog_1_method_23_code 14 = .ok (.invokestatic 53, 3) := by decide +kernel
theorem d_X_lasts_17 : decode prog_1_method_23_code 17 = .ok (.ifCond .ne 9, 3) := by decide +kernel
theorem d_X_lasts_20 : decode prog_1_method_23_code 20 = .ok (.aload_n 0, 1) := by decide +kernel
theorem d_X_lasts_21 : decode prog_1_method_23_code 21 = .ok (.iconst 1, 1) := by decide +kernel
theorem d_X_lasts_22 : decode prog_1_method_23_code 22 = .ok (.invokevirtual 57, 3) := by decide +kernel
theorem d_X_lasts_25 : decode prog_1_method_23_code 25 = .ok (.ireturn, 1) := by decide +kernel
theorem d_X_lasts_26 : decode prog_1_method_23_code 26 = .ok (.aload_n 0, 1) := by decide +kernel
theorem d_X_lasts_27 : decode prog_1_method_23_code 27 = .ok (.getfield 24, 3) := by decide +kernel
theorem d_X_lasts_30 : decode prog_1_method_23_code 30 = .ok (.iload_n 1, 1) := by decide +kernel
theorem d_X_lasts_31 : decode prog_1_method_23_code 31 = .ok (.iload_n 2, 1) := by decide +kernel
theorem d_X_lasts_32 : decode prog_1_method_23_code 32 = .ok (.invokevirtual 206, 3) := by decide +kernel
theorem d_X_lasts_35 : decode prog_1_method_23_code 35 = .ok (.istore_n 3, 1) := by decide +kernel
theorem d_X_lasts_36 : decode prog_1_method_23_code 36 = .ok (.iload_n 3, 1) := by decide +kernel
theorem d_X_lasts_37 : decode prog_1_method_23_code 37 = .ok (.ifCond .ge 11, 3) := by decide +kernel
theorem d_X_lasts_40 : decode prog_1_method_23_code 40 = .ok (.aload_n 0, 1) := by decide +kernel
theorem d_X_lasts_41 : decode prog_1_method_23_code 41 = .ok (.iconst 2, 1) := by decide +kernel
theorem d_X_lasts_42 : decode prog_1_method_23_code 42 = .ok (.invokevirtual 57, 3) := by decide +kernel
theorem d_X_lasts_45 : decode prog_1_method_23_code 45 = .ok (.goto 4, 3) := by decide +kernel
theorem d_X_lasts_48 : decode prog_1_method_23_code 48 = .ok (.iload_n 3, 1) := by decide +kernel
theorem d_X_lasts_49 : decode prog_1_method_23_code 49 = .ok (.ireturn, 1) := by decide +kernel
def w_X_lasts_20 (K : Int32 → sm_Mem → Prop) (p0 : Int32) (p1 : Int32) (μ : sm_Mem) : Prop := w_X_error (fun r5 μ4 => K r5 μ4) 1 μ
def w_X_lasts (K : Int32 → sm_Mem → Prop) (p0 : Int32) (p1 : Int32) (μ : sm_Mem) : Prop := w_X_within (fun r2 μ1 => if r2 = 0 then w_X_lasts_20 K p0 p1 μ1 else w_X_within (fun r7 μ6 => if r7 = 0 then w_X_lasts_20 K p0 p1 μ6 else w_F_lastHourWorth (fun r10 μ9 => if 0 ≤ r10 then K r10 μ9 else w_X_error (fun r13 μ12 => K r13 μ12) 2 μ9) p0 p1 μ6) p1 1 9999 μ1) p0 0 3 μ
set_option maxHeartbeats 4000000 in
set_option maxRecDepth 100000 in
theorem P_X_lasts (l : Launch) {K : Int32 → sm_Mem → Prop} {p0 : Int32} {p1 : Int32} {μ : sm_Mem} (h : w_X_lasts K p0 p1 μ) : sm_MI l ⟨"SnowMoney", "lasts", "(II)I"⟩ prog_1_method_23_code 4 (some .int) { frames := 6, cells := 0, slots := 0, locals := 147 } [sm_R 0, sm_I p0, sm_I p1] μ K := by
  refine sm_ofI (by decide +kernel) (fun _ => Nat.le_of_ble_eq_true rfl) ?_
  intro p e s m args below meth c A Q G C hR
  have B20 : ∀ (μ : sm_Mem), w_X_lasts_20 K p0 p1 μ → sm_W p l e { frames := 6, cells := 0, slots := 0, locals := 147 } s m args below meth c A Q G 4 0 0 20 [] [(0, sm_R 0)] μ := by
    intro μ h
    refine sr_aload_n C 0 rfl rfl d_X_lasts_20 ?_
    refine sr_iconst C (v := 1) d_X_lasts_21 (by decide) ?_
    refine sr_callVI C [sm_I _] (P_X_error l h) ok_1 sm_l0 rfl rfl rfl rfl ⟨Nat.le_of_ble_eq_true rfl, Nat.le_of_ble_eq_true rfl⟩ (Nat.le_of_ble_eq_true rfl) ⟨Nat.zero_le _, Nat.zero_le _⟩ d_X_lasts_22 (fun r5 μ4 h => ?_)
    exact hR _ _ _ _ d_X_lasts_25 rfl h
  refine sr_iload_n C 1 rfl rfl d_X_lasts_0 ?_
  refine sr_iconst C (v := 0) d_X_lasts_1 (by decide) ?_
  refine sr_iconst C (v := 3) d_X_lasts_2 (by decide) ?_
  refine sr_callSI C [sm_I _, sm_I _, sm_I _] (P_X_within l h) ok_0 rfl rfl rfl ⟨Nat.le_of_ble_eq_true rfl, Nat.le_of_ble_eq_true rfl⟩ (Nat.le_of_ble_eq_true rfl) ⟨Nat.zero_le _, Nat.zero_le _⟩ d_X_lasts_3 (fun r2 μ1 h => ?_)
  refine sr_if_eq C (tgt := 20) d_X_lasts_6 (by decide) (fun c3 => ?_) (fun c3 => ?_)
  · replace h := Eq.mp (if_pos c3) h
    refine sr_mask C [0] rfl ?_
    exact B20 _ h
  · replace h := Eq.mp (if_neg c3) h
    refine sr_iload_n C 2 rfl rfl d_X_lasts_9 ?_
    refine sr_iconst C (v := 1) d_X_lasts_10 (by decide) ?_
    refine sr_sipush C (v := 9999) d_X_lasts_11 (by decide) ?_
    refine sr_callSI C [sm_I _, sm_I _, sm_I _] (P_X_within l h) ok_0 rfl rfl rfl ⟨Nat.le_of_ble_eq_true rfl, Nat.le_of_ble_eq_true rfl⟩ (Nat.le_of_ble_eq_true rfl) ⟨Nat.zero_le _, Nat.zero_le _⟩ d_X_lasts_14 (fun r7 μ6 h => ?_)
    refine sr_if_ne C (tgt := 26) d_X_lasts_17 (by decide) (fun c8 => ?_) (fun c8 => ?_)
    · replace h := Eq.mp (if_neg c8) h
      refine sr_aload_n C 0 rfl rfl d_X_lasts_26 ?_
      refine sr_getR C sm_F6 2 q_210 sm_l0 (r := 37) rfl (by decide) d_X_lasts_27 ?_
      refine sr_iload_n C 1 rfl rfl d_X_lasts_30 ?_
      refine sr_iload_n C 2 rfl rfl d_X_lasts_31 ?_
      refine sr_callVI C [sm_I _, sm_I _] (P_F_lastHourWorth l h) ok_65 sm_l37 rfl rfl rfl rfl ⟨Nat.le_of_ble_eq_true rfl, Nat.le_of_ble_eq_true rfl⟩ (Nat.le_of_ble_eq_true rfl) ⟨Nat.zero_le _, Nat.zero_le _⟩ d_X_lasts_32 (fun r10 μ9 h => ?_)
      refine sr_istore_n C rfl (by decide) d_X_lasts_35 ?_
      refine sr_iload_n C 0 rfl rfl d_X_lasts_36 ?_
      refine sr_if_ge C (tgt := 48) d_X_lasts_37 (by decide) (fun c11 => ?_) (fun c11 => ?_)
      · replace h := Eq.mp (if_pos c11) h
        refine sr_iload_n C 0 rfl rfl d_X_lasts_48 ?_
        exact hR _ _ _ _ d_X_lasts_49 rfl h
      · replace h := Eq.mp (if_neg c11) h
        refine sr_aload_n C 1 rfl rfl d_X_lasts_40 ?_
        refine sr_iconst C (v := 2) d_X_lasts_41 (by decide) ?_
        refine sr_callVI C [sm_I _] (P_X_error l h) ok_1 sm_l0 rfl rfl rfl rfl ⟨Nat.le_of_ble_eq_true rfl, Nat.le_of_ble_eq_true rfl⟩ (Nat.le_of_ble_eq_true rfl) ⟨Nat.zero_le _, Nat.zero_le _⟩ d_X_lasts_42 (fun r13 μ12 h => ?_)
        refine sr_goto C (tgt := 49) (by decide) d_X_lasts_45 ?_
        exact hR _ _ _ _ d_X_lasts_49 rfl h
    · replace h := Eq.mp (if_pos c8) h
      refine sr_mask C [0] rfl ?_
      exact B20 _ h
theorem d_X_way_0 : decode prog_1_method_24_code 0 = .ok (.aload_n 0, 1) := by decide +kernel
theorem d_X_way_1 : decode prog_1_method_24_code 1 = .ok (.getfield 10, 3) := by decide +kernel
theorem d_X_way_4 : decode prog_1_method_24_code 4 = .ok (.iload_n 1, 1) := by decide +kernel
theorem d_X_way_5 : decode prog_1_method_24_code 5 = .ok (.invokevirtual 101, 3) := by decide +kernel
theorem d_X_way_8 : decode prog_1_method_24_code 8 = .ok (.ifCond .eq 23, 3) := by decide +kernel
theorem d_X_way_11 : decode prog_1_method_24_code 11 = .ok (.aload_n 0, 1) := by decide +kernel
theorem d_X_way_12 : decode prog_1_method_24_code 12 = .ok (.getfield 10, 3) := by decide +kernel
theorem d_X_way_15 : decode prog_1_method_24_code 15 = .ok (.iload_n 2, 1) := by decide +kernel
theorem d_X_way_16 : decode prog_1_method_24_code 16 = .ok (.invokevirtual 68, 3) := by decide +kernel
theorem d_X_way_19 : decode prog_1_method_24_code 19 = .ok (.ifCond .eq 12, 3) := by decide +kernel
theorem d_X_way_22 : decode prog_1_method_24_code 22 = .ok (.iload_n 3, 1) := by decide +kernel
theorem d_X_way_23 : decode prog_1_method_24_code 23 = .ok (.iconst 0, 1) := by decide +kernel
theorem d_X_way_24 : decode prog_1_method_24_code 24 = .ok (.iconst 1, 1) := by decide +kernel
theorem d_X_way_25 : decode prog_1_method_24_code 25 = .ok (.invokestatic 53, 3) := by decide +kernel
theorem d_X_way_28 : decode prog_1_method_24_code 28 = .ok (.ifCond .ne 9, 3) := by decide +kernel
theorem d_X_way_31 : decode prog_1_method_24_code 31 = .ok (.aload_n 0, 1) := by decide +kernel
theorem d_X_way_32 : decode prog_1_method_24_code 32 = .ok (.iconst 1, 1) := by decide +kernel
theorem d_X_way_33 : decode prog_1_method_24_code 33 = .ok (.invokevirtual 57, 3) := by decide +kernel
theorem d_X_way_36 : decode prog_1_method_24_code 36 = .ok (.ireturn, 1) := by decide +kernel
theorem d_X_way_37 : decode prog_1_method_24_code 37 = .ok (.aload_n 0, 1) := by decide +kernel
theorem d_X_way_38 : decode prog_1_method_24_code 38 = .ok (.getfield 24, 3) := by decide +kernel
theorem d_X_way_41 : decode prog_1_method_24_code 41 = .ok (.iload_n 1, 1) := by decide +kernel
theorem d_X_way_42 : decode prog_1_method_24_code 42 = .ok (.iload_n 2, 1) := by decide +kernel
theorem d_X_way_43 : decode prog_1_method_24_code 43 = .ok (.invokevirtual 209, 3) := by decide +kernel
theorem d_X_way_46 : decode prog_1_method_24_code 46 = .ok (.ifCond .ne 9, 3) := by decide +kernel
theorem d_X_way_49 : decode prog_1_method_24_code 49 = .ok (.aload_n 0, 1) := by decide +kernel
theorem d_X_way_50 : decode prog_1_method_24_code 50 = .ok (.iconst 2, 1) := by decide +kernel
theorem d_X_way_51 : decode prog_1_method_24_code 51 = .ok (.invokevirtual 57, 3) := by decide +kernel
theorem d_X_way_54 : decode prog_1_method_24_code 54 = .ok (.ireturn, 1) := by decide +kernel
theorem d_X_way_55 : decode prog_1_method_24_code 55 = .ok (.iload_n 3, 1) := by decide +kernel
theorem d_X_way_56 : decode prog_1_method_24_code 56 = .ok (.ifCond .ne 13, 3) := by decide +kernel
theorem d_X_way_59 : decode prog_1_method_24_code 59 = .ok (.aload_n 0, 1) := by decide +kernel
theorem d_X_way_60 : decode prog_1_method_24_code 60 = .ok (.getfield 24, 3) := by decide +kernel
theorem d_X_way_63 : decode prog_1_method_24_code 63 = .ok (.getfield 190, 3) := by decide +kernel
theorem d_X_way_66 : decode prog_1_method_24_code 66 = .ok (.goto 10, 3) := by decide +kernel
theorem d_X_way_69 : decode prog_1_method_24_code 69 = .ok (.aload_n 0, 1) := by decide +kernel
theorem d_X_way_70 : decode prog_1_method_24_code 70 = .ok (.getfield 24, 3) := by decide +kernel
theorem d_X_way_73 : decode prog_1_method_24_code 73 = .ok (.getfield 193, 3) := by decide +kernel
theorem d_X_way_76 : decode prog_1_method_24_code 76 = .ok (.ireturn, 1) := by decide +kernel
def w_X_way_31 (K : Int32 → sm_Mem → Prop) (p0 : Int32) (p1 : Int32) (p2 : Int32) (μ : sm_Mem) : Prop := w_X_error (fun r5 μ4 => K r5 μ4) 1 μ
def w_X_way (K : Int32 → sm_Mem → Prop) (p0 : Int32) (p1 : Int32) (p2 : Int32) (μ : sm_Mem) : Prop := w_D_hasNote (fun r2 μ1 => if r2 = 0 then w_X_way_31 K p0 p1 p2 μ1 else w_D_hasPlace (fun r7 μ6 => if r7 = 0 then w_X_way_31 K p0 p1 p2 μ6 else w_X_within (fun r10 μ9 => if r10 = 0 then w_X_way_31 K p0 p1 p2 μ9 else w_F_findWay (fun r13 μ12 => if r13 = 0 then w_X_error (fun r17 μ16 => K r17 μ16) 2 μ12 else (if p2 = 0 then K (μ12 37 7) μ12 else K (μ12 37 8) μ12)) p0 p1 μ9) p2 0 1 μ6) p1 μ1) p0 μ
set_option maxHeartbeats 4000000 in
set_option maxRecDepth 100000 in
theorem P_X_way (l : Launch) {K : Int32 → sm_Mem → Prop} {p0 : Int32} {p1 : Int32} {p2 : Int32} {μ : sm_Mem} (h : w_X_way K p0 p1 p2 μ) : sm_MI l ⟨"SnowMoney", "way", "(III)I"⟩ prog_1_method_24_code 4 (some .int) { frames := 14, cells := 0, slots := 0, locals := 652 } [sm_R 0, sm_I p0, sm_I p1, sm_I p2] μ K := by
  refine sm_ofI (by decide +kernel) (fun _ => Nat.le_of_ble_eq_true rfl) ?_
  intro p e s m args below meth c A Q G C hR
  have B31 : ∀ (μ : sm_Mem), w_X_way_31 K p0 p1 p2 μ → sm_W p l e { frames := 14, cells := 0, slots := 0, locals := 652 } s m args below meth c A Q G 4 0 0 31 [] [(0, sm_R 0)] μ := by
    intro μ h
    refine sr_aload_n C 0 rfl rfl d_X_way_31 ?_
    refine sr_iconst C (v := 1) d_X_way_32 (by decide) ?_
    refine sr_callVI C [sm_I _] (P_X_error l h) ok_1 sm_l0 rfl rfl rfl rfl ⟨Nat.le_of_ble_eq_true rfl, Nat.le_of_ble_eq_true rfl⟩ (Nat.le_of_ble_eq_true rfl) ⟨Nat.zero_le _, Nat.zero_le _⟩ d_X_way_33 (fun r5 μ4 h => ?_)
    exact hR _ _ _ _ d_X_way_36 rfl h
  refine sr_aload_n C 0 rfl rfl d_X_way_0 ?_
  refine sr_getR C sm_F6 0 q_4 sm_l0 (r := 1) rfl (by decide) d_X_way_1 ?_
  refine sr_iload_n C 1 rfl rfl d_X_way_4 ?_
  refine sr_callVI C [sm_I _] (P_D_hasNote l h) ok_7 sm_l1 rfl rfl rfl rfl ⟨Nat.le_of_ble_eq_true rfl, Nat.le_of_ble_eq_true rfl⟩ (Nat.le_of_ble_eq_true rfl) ⟨Nat.zero_le _, Nat.zero_le _⟩ d_X_way_5 (fun r2 μ1 h => ?_)
  refine sr_if_eq C (tgt := 31) d_X_way_8 (by decide) (fun c3 => ?_) (fun c3 => ?_)
  · replace h := Eq.mp (if_pos c3) h
    refine sr_mask C [0] rfl ?_
    exact B31 _ h
  · replace h := Eq.mp (if_neg c3) h
    refine sr_aload_n C 0 rfl rfl d_X_way_11 ?_
    refine sr_getR C sm_F6 0 q_4 sm_l0 (r := 1) rfl (by decide) d_X_way_12 ?_
    refine sr_iload_n C 2 rfl rfl d_X_way_15 ?_
    refine sr_callVI C [sm_I _] (P_D_hasPlace l h) ok_2 sm_l1 rfl rfl rfl rfl ⟨Nat.le_of_ble_eq_true rfl, Nat.le_of_ble_eq_true rfl⟩ (Nat.le_of_ble_eq_true rfl) ⟨Nat.zero_le _, Nat.zero_le _⟩ d_X_way_16 (fun r7 μ6 h => ?_)
    refine sr_if_eq C (tgt := 31) d_X_way_19 (by decide) (fun c8 => ?_) (fun c8 => ?_)
    · replace h := Eq.mp (if_pos c8) h
      refine sr_mask C [0] rfl ?_
      exact B31 _ h
    · replace h := Eq.mp (if_neg c8) h
      refine sr_iload_n C 3 rfl rfl d_X_way_22 ?_
      refine sr_iconst C (v := 0) d_X_way_23 (by decide) ?_
      refine sr_iconst C (v := 1) d_X_way_24 (by decide) ?_
      refine sr_callSI C [sm_I _, sm_I _, sm_I _] (P_X_within l h) ok_0 rfl rfl rfl ⟨Nat.le_of_ble_eq_true rfl, Nat.le_of_ble_eq_true rfl⟩ (Nat.le_of_ble_eq_true rfl) ⟨Nat.zero_le _, Nat.zero_le _⟩ d_X_way_25 (fun r10 μ9 h => ?_)
      refine sr_if_ne C (tgt := 37) d_X_way_28 (by decide) (fun c11 => ?_) (fun c11 => ?_)
      · replace h := Eq.mp (if_neg c11) h
        refine sr_aload_n C 0 rfl rfl d_X_way_37 ?_
        refine sr_getR C sm_F6 2 q_210 sm_l0 (r := 37) rfl (by decide) d_X_way_38 ?_
        refine sr_iload_n C 1 rfl rfl d_X_way_41 ?_
        refine sr_iload_n C 2 rfl rfl d_X_way_42 ?_
        refine sr_callVI C [sm_I _, sm_I _] (P_F_findWay l h) ok_67 sm_l37 rfl rfl rfl rfl ⟨Nat.le_of_ble_eq_true rfl, Nat.le_of_ble_eq_true rfl⟩ (Nat.le_of_ble_eq_true rfl) ⟨Nat.zero_le _, Nat.zero_le _⟩ d_X_way_43 (fun r13 μ12 h => ?_)
        refine sr_if_ne C (tgt := 55) d_X_way_46 (by decide) (fun c14 => ?_) (fun c14 => ?_)
        · replace h := Eq.mp (if_neg c14) h
          refine sr_iload_n C 3 rfl rfl d_X_way_55 ?_
          refine sr_if_ne C (tgt := 69) d_X_way_56 (by decide) (fun c15 => ?_) (fun c15 => ?_)
          · replace h := Eq.mp (if_neg c15) h
            refine sr_aload_n C 0 rfl rfl d_X_way_69 ?_
            refine sr_getR C sm_F6 2 q_210 sm_l0 (r := 37) rfl (by decide) d_X_way_70 ?_
            refine sr_getI C sm_F1 8 q_251 sm_l37 rfl (by decide) d_X_way_73 ?_
            exact hR _ _ _ _ d_X_way_76 rfl h
          · replace h := Eq.mp (if_pos c15) h
            refine sr_aload_n C 0 rfl rfl d_X_way_59 ?_
            refine sr_getR C sm_F6 2 q_210 sm_l0 (r := 37) rfl (by decide) d_X_way_60 ?_
            refine sr_getI C sm_F1 7 q_252 sm_l37 rfl (by decide) d_X_way_63 ?_
            refine sr_goto C (tgt := 76) (by decide) d_X_way_66 ?_
            exact hR _ _ _ _ d_X_way_76 rfl h
        · replace h := Eq.mp (if_pos c14) h
          refine sr_aload_n C 0 rfl rfl d_X_way_49 ?_
          refine sr_iconst C (v := 2) d_X_way_50 (by decide) ?_
          refine sr_callVI C [sm_I _] (P_X_error l h) ok_1 sm_l0 rfl rfl rfl rfl ⟨Nat.le_of_ble_eq_true rfl, Nat.le_of_ble_eq_true rfl⟩ (Nat.le_of_ble_eq_true rfl) ⟨Nat.zero_le _, Nat.zero_le _⟩ d_X_way_51 (fun r17 μ16 h => ?_)
          exact hR _ _ _ _ d_X_way_54 rfl h
      · replace h := Eq.mp (if_pos c11) h
        refine sr_mask C [0] rfl ?_
        exact B31 _ h
theorem d_X_rowOf_0 : decode prog_1_method_46_code 0 = .ok (.iload_n 1, 1) := by decide +kernel
theorem d_X_rowOf_1 : decode prog_1_method_46_code 1 = .ok (.iconst 0, 1) := by decide +kernel
theorem d_X_rowOf_2 : decode prog_1_method_46_code 2 = .ok (.aload_n 0, 1) := by decide +kernel
theorem d_X_rowOf_3 : decode prog_1_method_46_code 3 = .ok (.getfield 44, 3) := by decide +kernel
theorem d_X_rowOf_6 : decode prog_1_method_46_code 6 = .ok (.arraylength, 1) := by decide +kernel
theorem d_X_rowOf_7 : decode prog_1_method_46_code 7 = .ok (.iconst 1, 1) := by decide +kernel
theorem d_X_rowOf_8 : decode prog_1_method_46_code 8 = .ok (.isub, 1) := by decide +kernel
theorem d_X_rowOf_9 : decode prog_1_method_46_code 9 = .ok (.invokestatic 53, 3) := by decide +kernel
theorem d_X_rowOf_12 : decode prog_1_method_46_code 12 = .ok (.ifCond .eq 12, 3) := by decide +kernel
theorem d_X_rowOf_15 : decode prog_1_method_46_code 15 = .ok (.aload_n 0, 1) := by decide +kernel
theorem d_X_rowOf_16 : decode prog_1_method_46_code 16 = .ok (.getfield 44, 3) := by decide +kernel
theorem d_X_rowOf_19 : decode prog_1_method_46_code 19 = .ok (.iload_n 1, 1) := by decide +kernel
theorem d_X_rowOf_20 : decode prog_1_method_46_code 20 = .ok (.aaload, 1) := by decide +kernel
theorem d_X_rowOf_21 : decode prog_1_method_46_code 21 = .ok (.goto 4, 3) := by decide +kernel
theorem d_X_rowOf_24 : decode prog_1_method_46_code 24 = .ok (.aconst_null, 1) := by decide +kernel
theorem d_X_rowOf_25 : decode prog_1_method_46_code 25 = .ok (.areturn, 1) := by decide +kernel
def w_X_rowOf (K : Option Nat → sm_Mem → Prop) (p0 : Int32) (μ : sm_Mem) : Prop := w_X_within (fun r2 μ1 => if r2 = 0 then K none μ1 else (vp_in p0 4 ∧ ∀ k5 : Nat, ([52, 54, 56, 58] : List Nat)[p0.toNatClampNeg]? = some k5 → K (some k5) μ1)) p0 0 (4 - 1) μ
set_option maxHeartbeats 4000000 in
set_option maxRecDepth 100000 in
theorem P_X_rowOf (l : Launch) {K : Option Nat → sm_Mem → Prop} {p0 : Int32} {μ : sm_Mem} (h : w_X_rowOf K p0 μ) : sm_MR l ⟨"SnowMoney", "rowOf", "(I)LSnowMoney$Sheet;"⟩ prog_1_method_46_code 2 (some (.object "SnowMoney$Sheet")) { frames := 1, cells := 0, slots := 0, locals := 22 } [sm_R 0, sm_I p0] μ K := by
  refine sm_ofR (by decide +kernel) (fun _ => Nat.le_of_ble_eq_true rfl) ?_
  intro p e s m args below meth c A Q G C hR
  refine sr_iload_n C 1 rfl rfl d_X_rowOf_0 ?_
  refine sr_iconst C (v := 0) d_X_rowOf_1 (by decide) ?_
  refine sr_aload_n C 0 rfl rfl d_X_rowOf_2 ?_
  refine sr_getR C sm_F6 5 q_344 sm_l0 (r := 51) rfl (by decide) d_X_rowOf_3 ?_
  refine sr_alenR C sm_l51 (v := 4) (by decide) d_X_rowOf_6 ?_
  refine sr_iconst C (v := 1) d_X_rowOf_7 (by decide) ?_
  refine sr_isub C d_X_rowOf_8 ?_
  refine sr_callSI C [sm_I _, sm_I _, sm_I _] (P_X_within l h) ok_0 rfl rfl rfl ⟨Nat.le_of_ble_eq_true rfl, Nat.le_of_ble_eq_true rfl⟩ (Nat.le_of_ble_eq_true rfl) ⟨Nat.zero_le _, Nat.zero_le _⟩ d_X_rowOf_9 (fun r2 μ1 h => ?_)
  refine sr_if_eq C (tgt := 24) d_X_rowOf_12 (by decide) (fun c3 => ?_) (fun c3 => ?_)
  · replace h := Eq.mp (if_pos c3) h
    refine sr_null C d_X_rowOf_24 ?_
    exact hR _ none _ _ d_X_rowOf_25 h
  · replace h := Eq.mp (if_neg c3) h
    refine sr_aload_n C 0 rfl rfl d_X_rowOf_15 ?_
    refine sr_getR C sm_F6 5 q_344 sm_l0 (r := 51) rfl (by decide) d_X_rowOf_16 ?_
    refine sr_iload_n C 1 rfl rfl d_X_rowOf_19 ?_
    obtain ⟨g4, h⟩ := h
    obtain ⟨k5, g6⟩ := sm_row4 g4
    replace h := h _ g6
    refine sr_aald C sm_l51 g4 g6 d_X_rowOf_20 ?_
    refine sr_goto C (tgt := 25) (by decide) d_X_rowOf_21 ?_
    exact hR _ (some k5) _ _ d_X_rowOf_25 h
theorem d_X_forgers_0 : decode prog_1_method_25_code 0 = .ok (.aload_n 0, 1) := by decide +kernel
theorem d_X_forgers_1 : decode prog_1_method_25_code 1 = .ok (.iload_n 1, 1) := by decide +kernel
theorem d_X_forgers_2 : decode prog_1_method_25_code 2 = .ok (.invokevirtual 212, 3) := by decide +kernel
theorem d_X_forgers_5 : decode prog_1_method_25_code 5 = .ok (.astore_n 3, 1) := by decide +kernel
theorem d_X_forgers_6 : decode prog_1_method_25_code 6 = .ok (.aload_n 3, 1) := by decide +kernel
theorem d_X_forgers_7 : decode prog_1_method_25_code 7 = .ok (.ifnull 12, 3) := by decide +kernel
theorem d_X_forgers_10 : decode prog_1_method_25_code 10 = .ok (.iload_n 2, 1) := by decide +kernel
theorem d_X_forgers_11 : decode prog_1_method_25_code 11 = .ok (.iconst 0, 1) := by decide +kernel
theorem d_X_forgers_12 : decode prog_1_method_25_code 12 = .ok (.iconst 1, 1) := by decide +kernel
theorem d_X_forgers_13 : decode prog_1_method_25_code 13 = .ok (.invokestatic 53, 3) := by decide +kernel
theorem d_X_forgers_16 : decode prog_1_method_25_code 16 = .ok (.ifCond .ne 9, 3) := by decide +kernel
theorem d_X_forgers_19 : decode prog_1_method_25_code 19 = .ok (.aload_n 0, 1) := by decide +kernel
theorem d_X_forgers_20 : decode prog_1_method_25_code 20 = .ok (.iconst 1, 1) := by decide +kernel
theorem d_X_forgers_21 : decode prog_1_method_25_code 21 = .ok (.invokevirtual 57, 3) := by decide +kernel
theorem d_X_forgers_24 : decode prog_1_method_25_code 24 = .ok (.ireturn, 1) := by decide +kernel
theorem d_X_forgers_25 : decode prog_1_method_25_code 25 = .ok (.aload_n 3, 1) := by decide +kernel
theorem d_X_forgers_26 : decode prog_1_method_25_code 26 = .ok (.invokevirtual 216, 3) := by decide +kernel
theorem d_X_forgers_29 : decode prog_1_method_25_code 29 = .ok (.ifCond .ne 49, 3) := by decide +kernel
theorem d_X_forgers_32 : decode prog_1_method_25_code 32 = .ok (.aload_n 0, 1) := by decide +kernel
theorem d_X_forgers_33 : decode prog_1_method_25_code 33 = .ok (.getfield 10, 3) := by decide +kernel
theorem d_X_forgers_36 : decode prog_1_method_25_code 36 = .ok (.getfield 83, 3) := by decide +kernel
theorem d_X_forgers_39 : decode prog_1_method_25_code 39 = .ok (.ifCond .eq 39, 3) := by decide +kernel
theorem d_X_forgers_42 : decode prog_1_method_25_code 42 = .ok (.aload_n 3, 1) := by decide +kernel
theorem d_X_forgers_43 : decode prog_1_method_25_code 43 = .ok (.getfield 219, 3) := by decide +kernel
theorem d_X_forgers_46 : decode prog_1_method_25_code 46 = .ok (.aload_n 0, 1) := by decide +kernel
theorem d_X_forgers_47 : decode prog_1_method_25_code 47 = .ok (.getfield 10, 3) := by decide +kernel
theorem d_X_forgers_50 : decode prog_1_method_25_code 50 = .ok (.getfield 83, 3) := by decide +kernel
theorem d_X_forgers_53 : decode prog_1_method_25_code 53 = .ok (.iconst 1, 1) := by decide +kernel
theorem d_X_forgers_54 : decode prog_1_method_25_code 54 = .ok (.iadd, 1) := by decide +kernel
theorem d_X_forgers_55 : decode prog_1_method_25_code 55 = .ok (.if_icmp .ne 23, 3) := by decide +kernel
theorem d_X_forgers_58 : decode prog_1_method_25_code 58 = .ok (.aload_n 3, 1) := by decide +kernel
theorem d_X_forgers_59 : decode prog_1_method_25_code 59 = .ok (.aload_n 0, 1) := by decide +kernel
theorem d_X_forgers_60 : decode prog_1_method_25_code 60 = .ok (.getfield 10, 3) := by decide +kernel
theorem d_X_forgers_63 : decode prog_1_method_25_code 63 = .ok (.getfield 83, 3) := by decide +kernel
theorem d_X_forgers_66 : decode prog_1_method_25_code 66 = .ok (.invokevirtual 222, 3) := by decide +kernel
theorem d_X_forgers_69 : decode prog_1_method_25_code 69 = .ok (.iconst 0, 1) := by decide +kernel
theorem d_X_forgers_70 : decode prog_1_method_25_code 70 = .ok (.bipush 60, 2) := by decide +kernel
theorem d_X_forgers_72 : decode prog_1_method_25_code 72 = .ok (.invokestatic 53, 3) := by decide +kernel
theorem d_X_forgers_75 : decode prog_1_method_25_code 75 = .ok (.ifCond .ne 9, 3) := by decide +kernel
theorem d_X_forgers_78 : decode prog_1_method_25_code 78 = .ok (.aload_n 0, 1) := by decide +kernel
theorem d_X_forgers_79 : decode prog_1_method_25_code 79 = .ok (.iconst 2, 1) := by decide +kernel
theorem d_X_forgers_80 : decode prog_1_method_25_code 80 = .ok (.invokevirtual 57, 3) := by decide +kernel
theorem d_X_forgers_83 : decode prog_1_method_25_code 83 = .ok (.ireturn, 1) := by decide +kernel
theorem d_X_forgers_84 : decode prog_1_method_25_code 84 = .ok (.aload_n 0, 1) := by decide +kernel
theorem d_X_forgers_85 : decode prog_1_method_25_code 85 = .ok (.getfield 24, 3) := by decide +kernel
theorem d_X_forgers_88 : decode prog_1_method_25_code 88 = .ok (.aload_n 3, 1) := by decide +kernel
theorem d_X_forgers_89 : decode prog_1_method_25_code 89 = .ok (.invokevirtual 225, 3) := by decide +kernel
theorem d_X_forgers_92 : decode prog_1_method_25_code 92 = .ok (.iload_n 2, 1) := by decide +kernel
theorem d_X_forgers_93 : decode prog_1_method_25_code 93 = .ok (.ifCond .ne 13, 3) := by decide +kernel
theorem d_X_forgers_96 : decode prog_1_method_25_code 96 = .ok (.aload_n 0, 1) := by decide +kernel
theorem d_X_forgers_97 : decode prog_1_method_25_code 97 = .ok (.getfield 24, 3) := by decide +kernel
theorem d_X_forgers_100 : decode prog_1_method_25_code 100 = .ok (.getfield 190, 3) := by decide +kernel
theorem d_X_forgers_103 : decode prog_1_method_25_code 103 = .ok (.goto 10, 3) := by decide +kernel
theorem d_X_forgers_106 : decode prog_1_method_25_code 106 = .ok (.aload_n 0, 1) := by decide +kernel
theorem d_X_forgers_107 : decode prog_1_method_25_code 107 = .ok (.getfield 24, 3) := by decide +kernel
theorem d_X_forgers_110 : decode prog_1_method_25_code 110 = .ok (.getfield 193, 3) := by decide +kernel
theorem d_X_forgers_113 : decode prog_1_method_25_code 113 = .ok (.ireturn, 1) := by decide +kernel
def w_X_forgers_19 (K : Int32 → sm_Mem → Prop) (p0 : Int32) (p1 : Int32) (μ : sm_Mem) : Prop := w_X_error (fun r4 μ3 => K r4 μ3) 1 μ
def w_X_forgers_78 (K : Int32 → sm_Mem → Prop) (p0 : Int32) (p1 : Int32) (μ : sm_Mem) : Prop := w_X_error (fun r12 μ11 => K r12 μ11) 2 μ
def w_X_forgers (K : Int32 → sm_Mem → Prop) (p0 : Int32) (p1 : Int32) (μ : sm_Mem) : Prop := w_X_rowOf (fun z μ1 => match z with | none => w_X_forgers_19 K p0 p1 μ1 | some k2 => isSheet k2 ∧ w_X_within (fun r6 μ5 => if r6 = 0 then w_X_forgers_19 K p0 p1 μ5 else w_S_isMissing (fun r9 μ8 => if r9 = 0 then (if (μ8 1 12) = 0 then w_X_forgers_78 K p0 p1 μ8 else (if (μ8 k2 2) = ((μ8 1 12) + 1) then w_S_numberAt (fun r16 μ15 => w_X_within (fun r18 μ17 => if r18 = 0 then w_X_forgers_78 K p0 p1 μ17 else w_F_findForged (fun μ20 => if p1 = 0 then K (μ20 37 7) μ20 else K (μ20 37 8) μ20) k2 μ17) r16 0 60 μ15) k2 (μ8 1 12) μ8 else w_X_forgers_78 K p0 p1 μ8)) else w_X_forgers_78 K p0 p1 μ8) k2 μ5) p1 0 1 μ1) p0 μ
set_option maxHeartbeats 4000000 in
set_option maxRecDepth 100000 in
theorem P_X_forgers (l : Launch) {K : Int32 → sm_Mem → Prop} {p0 : Int32} {p1 : Int32} {μ : sm_Mem} (h : w_X_forgers K p0 p1 μ) : sm_MI l ⟨"SnowMoney", "forgers", "(II)I"⟩ prog_1_method_25_code 4 (some .int) { frames := 6, cells := 0, slots := 0, locals := 148 } [sm_R 0, sm_I p0, sm_I p1] μ K := by
  refine sm_ofI (by decide +kernel) (fun _ => Nat.le_of_ble_eq_true rfl) ?_
  intro p e s m args below meth c A Q G C hR
  have B19 : ∀ (μ : sm_Mem), w_X_forgers_19 K p0 p1 μ → sm_W p l e { frames := 6, cells := 0, slots := 0, locals := 148 } s m args below meth c A Q G 4 0 0 19 [] [(0, sm_R 0)] μ := by
    intro μ h
    refine sr_aload_n C 0 rfl rfl d_X_forgers_19 ?_
    refine sr_iconst C (v := 1) d_X_forgers_20 (by decide) ?_
    refine sr_callVI C [sm_I _] (P_X_error l h) ok_1 sm_l0 rfl rfl rfl rfl ⟨Nat.le_of_ble_eq_true rfl, Nat.le_of_ble_eq_true rfl⟩ (Nat.le_of_ble_eq_true rfl) ⟨Nat.zero_le _, Nat.zero_le _⟩ d_X_forgers_21 (fun r4 μ3 h => ?_)
    exact hR _ _ _ _ d_X_forgers_24 rfl h
  have B78 : ∀ (μ : sm_Mem), w_X_forgers_78 K p0 p1 μ → sm_W p l e { frames := 6, cells := 0, slots := 0, locals := 148 } s m args below meth c A Q G 4 0 0 78 [] [(0, sm_R 0)] μ := by
    intro μ h
    refine sr_aload_n C 0 rfl rfl d_X_forgers_78 ?_
    refine sr_iconst C (v := 2) d_X_forgers_79 (by decide) ?_
    refine sr_callVI C [sm_I _] (P_X_error l h) ok_1 sm_l0 rfl rfl rfl rfl ⟨Nat.le_of_ble_eq_true rfl, Nat.le_of_ble_eq_true rfl⟩ (Nat.le_of_ble_eq_true rfl) ⟨Nat.zero_le _, Nat.zero_le _⟩ d_X_forgers_80 (fun r12 μ11 h => ?_)
    exact hR _ _ _ _ d_X_forgers_83 rfl h
  refine sr_aload_n C 0 rfl rfl d_X_forgers_0 ?_
  refine sr_iload_n C 1 rfl rfl d_X_forgers_1 ?_
  refine sr_callVR C [sm_I _] (P_X_rowOf l h) ok_72 sm_l0 rfl rfl rfl rfl ⟨Nat.le_of_ble_eq_true rfl, Nat.le_of_ble_eq_true rfl⟩ (Nat.le_of_ble_eq_true rfl) ⟨Nat.zero_le _, Nat.zero_le _⟩ d_X_forgers_2 (fun z22 μ1 h => ?_)
  rcases z22 with _ | k2
  · refine sr_astoreN_n C rfl (by decide) d_X_forgers_5 ?_
    refine sr_aloadN_n C 0 rfl rfl d_X_forgers_6 ?_
    refine sr_ifnullN C (tgt := 19) (by decide) d_X_forgers_7 ?_
    refine sr_mask C [1] rfl ?_
    exact B19 _ h
  · obtain ⟨t_k2, h⟩ := h
    refine sr_astore_n C rfl (by decide) d_X_forgers_5 ?_
    refine sr_aload_n C 0 rfl rfl d_X_forgers_6 ?_
    refine sr_ifnullR C d_X_forgers_7 ?_
    refine sr_iload_n C 3 rfl rfl d_X_forgers_10 ?_
    refine sr_iconst C (v := 0) d_X_forgers_11 (by decide) ?_
    refine sr_iconst C (v := 1) d_X_forgers_12 (by decide) ?_
    refine sr_callSI C [sm_I _, sm_I _, sm_I _] (P_X_within l h) ok_0 rfl rfl rfl ⟨Nat.le_of_ble_eq_true rfl, Nat.le_of_ble_eq_true rfl⟩ (Nat.le_of_ble_eq_true rfl) ⟨Nat.zero_le _, Nat.zero_le _⟩ d_X_forgers_13 (fun r6 μ5 h => ?_)
    refine sr_if_ne C (tgt := 25) d_X_forgers_16 (by decide) (fun c7 => ?_) (fun c7 => ?_)
    · replace h := Eq.mp (if_neg c7) h
      refine sr_aload_n C 0 rfl rfl d_X_forgers_25 ?_
      refine sr_callVI C [] (P_S_isMissing l h) ok_73 t_k2.1 rfl rfl rfl rfl ⟨Nat.le_of_ble_eq_true rfl, Nat.le_of_ble_eq_true rfl⟩ (Nat.le_of_ble_eq_true rfl) ⟨Nat.zero_le _, Nat.zero_le _⟩ d_X_forgers_26 (fun r9 μ8 h => ?_)
      refine sr_if_ne C (tgt := 78) d_X_forgers_29 (by decide) (fun c10 => ?_) (fun c10 => ?_)
      · replace h := Eq.mp (if_neg c10) h
        refine sr_mask C [1] rfl ?_
        exact B78 _ h
      · replace h := Eq.mp (if_pos c10) h
        refine sr_aload_n C 1 rfl rfl d_X_forgers_32 ?_
        refine sr_getR C sm_F6 0 q_4 sm_l0 (r := 1) rfl (by decide) d_X_forgers_33 ?_
        refine sr_getI C sm_F0 12 q_35 sm_l1 rfl (by decide) d_X_forgers_36 ?_
        refine sr_if_eq C (tgt := 78) d_X_forgers_39 (by decide) (fun c13 => ?_) (fun c13 => ?_)
        · replace h := Eq.mp (if_pos c13) h
          refine sr_mask C [1] rfl ?_
          exact B78 _ h
        · replace h := Eq.mp (if_neg c13) h
          refine sr_aload_n C 0 rfl rfl d_X_forgers_42 ?_
          refine sr_getI C sm_F3 2 q_327 t_k2.1 rfl (by decide) d_X_forgers_43 ?_
          refine sr_aload_n C 1 rfl rfl d_X_forgers_46 ?_
          refine sr_getR C sm_F6 0 q_4 sm_l0 (r := 1) rfl (by decide) d_X_forgers_47 ?_
          refine sr_getI C sm_F0 12 q_35 sm_l1 rfl (by decide) d_X_forgers_50 ?_
          refine sr_iconst C (v := 1) d_X_forgers_53 (by decide) ?_
          refine sr_iadd C d_X_forgers_54 ?_
          refine sr_icmp_ne C (tgt := 78) d_X_forgers_55 (by decide) (fun c14 => ?_) (fun c14 => ?_)
          · replace h := Eq.mp (if_neg c14) h
            refine sr_mask C [1] rfl ?_
            exact B78 _ h
          · replace h := Eq.mp (if_pos c14) h
            refine sr_aload_n C 0 rfl rfl d_X_forgers_58 ?_
            refine sr_aload_n C 1 rfl rfl d_X_forgers_59 ?_
            refine sr_getR C sm_F6 0 q_4 sm_l0 (r := 1) rfl (by decide) d_X_forgers_60 ?_
            refine sr_getI C sm_F0 12 q_35 sm_l1 rfl (by decide) d_X_forgers_63 ?_
            refine sr_callVI C [sm_I _] (P_S_numberAt l h) ok_74 t_k2.1 rfl rfl rfl rfl ⟨Nat.le_of_ble_eq_true rfl, Nat.le_of_ble_eq_true rfl⟩ (Nat.le_of_ble_eq_true rfl) ⟨Nat.zero_le _, Nat.zero_le _⟩ d_X_forgers_66 (fun r16 μ15 h => ?_)
            refine sr_iconst C (v := 0) d_X_forgers_69 (by decide) ?_
            refine sr_bipush C (v := 60) d_X_forgers_70 (by decide) ?_
            refine sr_callSI C [sm_I _, sm_I _, sm_I _] (P_X_within l h) ok_0 rfl rfl rfl ⟨Nat.le_of_ble_eq_true rfl, Nat.le_of_ble_eq_true rfl⟩ (Nat.le_of_ble_eq_true rfl) ⟨Nat.zero_le _, Nat.zero_le _⟩ d_X_forgers_72 (fun r18 μ17 h => ?_)
            refine sr_if_ne C (tgt := 84) d_X_forgers_75 (by decide) (fun c19 => ?_) (fun c19 => ?_)
            · replace h := Eq.mp (if_neg c19) h
              refine sr_aload_n C 1 rfl rfl d_X_forgers_84 ?_
              refine sr_getR C sm_F6 2 q_210 sm_l0 (r := 37) rfl (by decide) d_X_forgers_85 ?_
              refine sr_aload_n C 0 rfl rfl d_X_forgers_88 ?_
              refine sr_callVV C [sm_R _] (P_F_findForged l h) ok_75 sm_l37 rfl rfl rfl rfl ⟨Nat.le_of_ble_eq_true rfl, Nat.le_of_ble_eq_true rfl⟩ (Nat.le_of_ble_eq_true rfl) ⟨Nat.zero_le _, Nat.zero_le _⟩ d_X_forgers_89 (fun μ20 h => ?_)
              refine sr_iload_n C 3 rfl rfl d_X_forgers_92 ?_
              refine sr_if_ne C (tgt := 106) d_X_forgers_93 (by decide) (fun c21 => ?_) (fun c21 => ?_)
              · replace h := Eq.mp (if_neg c21) h
                refine sr_aload_n C 1 rfl rfl d_X_forgers_106 ?_
                refine sr_getR C sm_F6 2 q_210 sm_l0 (r := 37) rfl (by decide) d_X_forgers_107 ?_
                refine sr_getI C sm_F1 8 q_251 sm_l37 rfl (by decide) d_X_forgers_110 ?_
                exact hR _ _ _ _ d_X_forgers_113 rfl h
              · replace h := Eq.mp (if_pos c21) h
                refine sr_aload_n C 1 rfl rfl d_X_forgers_96 ?_
                refine sr_getR C sm_F6 2 q_210 sm_l0 (r := 37) rfl (by decide) d_X_forgers_97 ?_
                refine sr_getI C sm_F1 7 q_252 sm_l37 rfl (by decide) d_X_forgers_100 ?_
                refine sr_goto C (tgt := 113) (by decide) d_X_forgers_103 ?_
                exact hR _ _ _ _ d_X_forgers_113 rfl h
            · replace h := Eq.mp (if_pos c19) h
              refine sr_mask C [1] rfl ?_
              exact B78 _ h
    · replace h := Eq.mp (if_pos c7) h
      refine sr_mask C [1] rfl ?_
      exact B19 _ h
theorem d_X_richest_0 : decode prog_1_method_26_code 0 = .ok (.iload_n 1, 1) := by decide +kernel
theorem d_X_richest_1 : decode prog_1_method_26_code 1 = .ok (.iconst 0, 1) := by decide +kernel
theorem d_X_richest_2 : decode prog_1_method_26_code 2 = .ok (.bipush 60, 2) := by decide +kernel
theorem d_X_richest_4 : decode prog_1_method_26_code 4 = .ok (.invokestatic 53, 3) := by decide +kernel
theorem d_X_richest_7 : decode prog_1_method_26_code 7 = .ok (.ifCond .eq 12, 3) := by decide +kernel
theorem d_X_richest_10 : decode prog_1_method_26_code 10 = .ok (.iload_n 2, 1) := by decide +kernel
theorem d_X_richest_11 : decode prog_1_method_26_code 11 = .ok (.iconst 0, 1) := by decide +kernel
theorem d_X_richest_12 : decode prog_1_method_26_code 12 = .ok (.iconst 1, 1) := by decide +kernel
theorem d_X_richest_13 : decode prog_1_method_26_code 13 = .ok (.invokestatic 53, 3) := by decide +kernel
theorem d_X_richest_16 : decode prog_1_method_26_code 16 = .ok (.ifCond .ne 9, 3) := by decide +kernel
theorem d_X_richest_19 : decode prog_1_method_26_code 19 = .ok (.aload_n 0, 1) := by decide +kernel
theorem d_X_richest_20 : decode prog_1_method_26_code 20 = .ok (.iconst 1, 1) := by decide +kernel
theorem d_X_richest_21 : decode prog_1_method_26_code 21 = .ok (.invokevirtual 57, 3) := by decide +kernel
theorem d_X_richest_24 : decode prog_1_method_26_code 24 = .ok (.ireturn, 1) := by decide +kernel
theorem d_X_richest_25 : decode prog_1_method_26_code 25 = .ok (.aload_n 0, 1) := by decide +kernel
theorem d_X_richest_26 : decode prog_1_method_26_code 26 = .ok (.getfield 24, 3) := by decide +kernel
theorem d_X_richest_29 : decode prog_1_method_26_code 29 = .ok (.iload_n 1, 1) := by decide +kernel
theorem d_X_richest_30 : decode prog_1_method_26_code 30 = .ok (.iconst 3, 1) := by decide +kernel
theorem d_X_richest_31 : decode prog_1_method_26_code 31 = .ok (.invokevirtual 229, 3) := by decide +kernel
theorem d_X_richest_34 : decode prog_1_method_26_code 34 = .ok (.iload_n 2, 1) := by decide +kernel
theorem d_X_richest_35 : decode prog_1_method_26_code 35 = .ok (.ifCond .ne 13, 3) := by decide +kernel
theorem d_X_richest_38 : decode prog_1_method_26_code 38 = .ok (.aload_n 0, 1) := by decide +kernel
theorem d_X_richest_39 : decode prog_1_method_26_code 39 = .ok (.getfield 24, 3) := by decide +kernel
theorem d_X_richest_42 : decode prog_1_method_26_code 42 = .ok (.getfield 193, 3) := by decide +kernel
theorem d_X_richest_45 : decode prog_1_method_26_code 45 = .ok (.goto 10, 3) := by decide +kernel
theorem d_X_richest_48 : decode prog_1_method_26_code 48 = .ok (.aload_n 0, 1) := by decide +kernel
theorem d_X_richest_49 : decode prog_1_method_26_code 49 = .ok (.getfield 24, 3) := by decide +kernel
theorem d_X_richest_52 : decode prog_1_method_26_code 52 = .ok (.getfield 190, 3) := by decide +kernel
theorem d_X_richest_55 : decode prog_1_method_26_code 55 = .ok (.ireturn, 1) := by decide +kernel
def w_X_richest_19 (K : Int32 → sm_Mem → Prop) (p0 : Int32) (p1 : Int32) (μ : sm_Mem) : Prop := w_X_error (fun r5 μ4 => K r5 μ4) 1 μ
def w_X_richest (K : Int32 → sm_Mem → Prop) (p0 : Int32) (p1 : Int32) (μ : sm_Mem) : Prop := w_X_within (fun r2 μ1 => if r2 = 0 then w_X_richest_19 K p0 p1 μ1 else w_X_within (fun r7 μ6 => if r7 = 0 then w_X_richest_19 K p0 p1 μ6 else w_F_findRichest (fun μ9 => if p1 = 0 then K (μ9 37 8) μ9 else K (μ9 37 7) μ9) p0 3 μ6) p1 0 1 μ1) p0 0 60 μ
set_option maxHeartbeats 4000000 in
set_option maxRecDepth 100000 in
theorem P_X_richest (l : Launch) {K : Int32 → sm_Mem → Prop} {p0 : Int32} {p1 : Int32} {μ : sm_Mem} (h : w_X_richest K p0 p1 μ) : sm_MI l ⟨"SnowMoney", "richest", "(II)I"⟩ prog_1_method_26_code 3 (some .int) { frames := 7, cells := 0, slots := 0, locals := 172 } [sm_R 0, sm_I p0, sm_I p1] μ K := by
  refine sm_ofI (by decide +kernel) (fun _ => Nat.le_of_ble_eq_true rfl) ?_
  intro p e s m args below meth c A Q G C hR
  have B19 : ∀ (μ : sm_Mem), w_X_richest_19 K p0 p1 μ → sm_W p l e { frames := 7, cells := 0, slots := 0, locals := 172 } s m args below meth c A Q G 3 0 0 19 [] [(0, sm_R 0)] μ := by
    intro μ h
    refine sr_aload_n C 0 rfl rfl d_X_richest_19 ?_
    refine sr_iconst C (v := 1) d_X_richest_20 (by decide) ?_
    refine sr_callVI C [sm_I _] (P_X_error l h) ok_1 sm_l0 rfl rfl rfl rfl ⟨Nat.le_of_ble_eq_true rfl, Nat.le_of_ble_eq_true rfl⟩ (Nat.le_of_ble_eq_true rfl) ⟨Nat.zero_le _, Nat.zero_le _⟩ d_X_richest_21 (fun r5 μ4 h => ?_)
    exact hR _ _ _ _ d_X_richest_24 rfl h
  refine sr_iload_n C 1 rfl rfl d_X_richest_0 ?_
  refine sr_iconst C (v := 0) d_X_richest_1 (by decide) ?_
  refine sr_bipush C (v := 60) d_X_richest_2 (by decide) ?_
  refine sr_callSI C [sm_I _, sm_I _, sm_I _] (P_X_within l h) ok_0 rfl rfl rfl ⟨Nat.le_of_ble_eq_true rfl, Nat.le_of_ble_eq_true rfl⟩ (Nat.le_of_ble_eq_true rfl) ⟨Nat.zero_le _, Nat.zero_le _⟩ d_X_richest_4 (fun r2 μ1 h => ?_)
  refine sr_if_eq C (tgt := 19) d_X_richest_7 (by decide) (fun c3 => ?_) (fun c3 => ?_)
  · replace h := Eq.mp (if_pos c3) h
    refine sr_mask C [0] rfl ?_
    exact B19 _ h
  · replace h := Eq.mp (if_neg c3) h
    refine sr_iload_n C 2 rfl rfl d_X_richest_10 ?_
    refine sr_iconst C (v := 0) d_X_richest_11 (by decide) ?_
    refine sr_iconst C (v := 1) d_X_richest_12 (by decide) ?_
    refine sr_callSI C [sm_I _, sm_I _, sm_I _] (P_X_within l h) ok_0 rfl rfl rfl ⟨Nat.le_of_ble_eq_true rfl, Nat.le_of_ble_eq_true rfl⟩ (Nat.le_of_ble_eq_true rfl) ⟨Nat.zero_le _, Nat.zero_le _⟩ d_X_richest_13 (fun r7 μ6 h => ?_)
    refine sr_if_ne C (tgt := 25) d_X_richest_16 (by decide) (fun c8 => ?_) (fun c8 => ?_)
    · replace h := Eq.mp (if_neg c8) h
      refine sr_aload_n C 0 rfl rfl d_X_richest_25 ?_
      refine sr_getR C sm_F6 2 q_210 sm_l0 (r := 37) rfl (by decide) d_X_richest_26 ?_
      refine sr_iload_n C 1 rfl rfl d_X_richest_29 ?_
      refine sr_iconst C (v := 3) d_X_richest_30 (by decide) ?_
      refine sr_callVV C [sm_I _, sm_I _] (P_F_findRichest l h) ok_78 sm_l37 rfl rfl rfl rfl ⟨Nat.le_of_ble_eq_true rfl, Nat.le_of_ble_eq_true rfl⟩ (Nat.le_of_ble_eq_true rfl) ⟨Nat.zero_le _, Nat.zero_le _⟩ d_X_richest_31 (fun μ9 h => ?_)
      refine sr_iload_n C 2 rfl rfl d_X_richest_34 ?_
      refine sr_if_ne C (tgt := 48) d_X_richest_35 (by decide) (fun c10 => ?_) (fun c10 => ?_)
      · replace h := Eq.mp (if_neg c10) h
        refine sr_aload_n C 0 rfl rfl d_X_richest_48 ?_
        refine sr_getR C sm_F6 2 q_210 sm_l0 (r := 37) rfl (by decide) d_X_richest_49 ?_
        refine sr_getI C sm_F1 7 q_252 sm_l37 rfl (by decide) d_X_richest_52 ?_
        exact hR _ _ _ _ d_X_richest_55 rfl h
      · replace h := Eq.mp (if_pos c10) h
        refine sr_aload_n C 0 rfl rfl d_X_richest_38 ?_
        refine sr_getR C sm_F6 2 q_210 sm_l0 (r := 37) rfl (by decide) d_X_richest_39 ?_
        refine sr_getI C sm_F1 8 q_251 sm_l37 rfl (by decide) d_X_richest_42 ?_
        refine sr_goto C (tgt := 55) (by decide) d_X_richest_45 ?_
        exact hR _ _ _ _ d_X_richest_55 rfl h
    · replace h := Eq.mp (if_pos c8) h
      refine sr_mask C [0] rfl ?_
      exact B19 _ h
theorem d_X_warmer_0 : decode prog_1_method_27_code 0 = .ok (.iload_n 1, 1) := by decide +kernel
theorem d_X_warmer_1 : decode prog_1_method_27_code 1 = .ok (.iconst 0, 1) := by decide +kernel
theorem d_X_warmer_2 : decode prog_1_method_27_code 2 = .ok (.bipush 9, 2) := by decide +kernel
theorem d_X_warmer_4 : decode prog_1_method_27_code 4 = .ok (.invokestatic 53, 3) := by decide +kernel
theorem d_X_warmer_7 : decode prog_1_method_27_code 7 = .ok (.ifCond .eq 13, 3) := by decide +kernel
theorem d_X_warmer_10 : decode prog_1_method_27_code 10 = .ok (.iload_n 2, 1) := by decide +kernel
theorem d_X_warmer_11 : decode prog_1_method_27_code 11 = .ok (.iconst 0, 1) := by decide +kernel
theorem d_X_warmer_12 : decode prog_1_method_27_code 12 = .ok (.bipush 60, 2) := by decide +kernel
theorem d_X_warmer_14 : decode prog_1_method_27_code 14 = .ok (.invokestatic 53, 3) := by decide +kernel
theorem d_X_warmer_17 : decode prog_1_method_27_code 17 = .ok (.ifCond .ne 9, 3) := by decide +kernel
theorem d_X_warmer_20 : decode prog_1_method_27_code 20 = .ok (.aload_n 0, 1) := by decide +kernel
theorem d_X_warmer_21 : decode prog_1_method_27_code 21 = .ok (.iconst 1, 1) := by decide +kernel
theorem d_X_warmer_22 : decode prog_1_method_27_code 22 = .ok (.invokevirtual 57, 3) := by decide +kernel
theorem d_X_warmer_25 : decode prog_1_method_27_code 25 = .ok (.ireturn, 1) := by decide +kernel
theorem d_X_warmer_26 : decode prog_1_method_27_code 26 = .ok (.aload_n 0, 1) := by decide +kernel
theorem d_X_warmer_27 : decode prog_1_method_27_code 27 = .ok (.getfield 24, 3) := by decide +kernel
theorem d_X_warmer_30 : decode prog_1_method_27_code 30 = .ok (.iload_n 1, 1) := by decide +kernel
theorem d_X_warmer_31 : decode prog_1_method_27_code 31 = .ok (.iload_n 2, 1) := by decide +kernel
theorem d_X_warmer_32 : decode prog_1_method_27_code 32 = .ok (.invokevirtual 232, 3) := by decide +kernel
theorem d_X_warmer_35 : decode prog_1_method_27_code 35 = .ok (.ireturn, 1) := by decide +kernel
def w_X_warmer_20 (K : Int32 → sm_Mem → Prop) (p0 : Int32) (p1 : Int32) (μ : sm_Mem) : Prop := w_X_error (fun r5 μ4 => K r5 μ4) 1 μ
def w_X_warmer (K : Int32 → sm_Mem → Prop) (p0 : Int32) (p1 : Int32) (μ : sm_Mem) : Prop := w_X_within (fun r2 μ1 => if r2 = 0 then w_X_warmer_20 K p0 p1 μ1 else w_X_within (fun r7 μ6 => if r7 = 0 then w_X_warmer_20 K p0 p1 μ6 else w_F_leftOfAll (fun r10 μ9 => K r10 μ9) p0 p1 μ6) p1 0 60 μ1) p0 0 9 μ
set_option maxHeartbeats 4000000 in
set_option maxRecDepth 100000 in
theorem P_X_warmer (l : Launch) {K : Int32 → sm_Mem → Prop} {p0 : Int32} {p1 : Int32} {μ : sm_Mem} (h : w_X_warmer K p0 p1 μ) : sm_MI l ⟨"SnowMoney", "warmer", "(II)I"⟩ prog_1_method_27_code 3 (some .int) { frames := 6, cells := 0, slots := 0, locals := 147 } [sm_R 0, sm_I p0, sm_I p1] μ K := by
  refine sm_ofI (by decide +kernel) (fun _ => Nat.le_of_ble_eq_true rfl) ?_
  intro p e s m args below meth c A Q G C hR
  have B20 : ∀ (μ : sm_Mem), w_X_warmer_20 K p0 p1 μ → sm_W p l e { frames := 6, cells := 0, slots := 0, locals := 147 } s m args below meth c A Q G 3 0 0 20 [] [(0, sm_R 0)] μ := by
    intro μ h
    refine sr_aload_n C 0 rfl rfl d_X_warmer_20 ?_
    refine sr_iconst C (v := 1) d_X_warmer_21 (by decide) ?_
    refine sr_callVI C [sm_I _] (P_X_error l h) ok_1 sm_l0 rfl rfl rfl rfl ⟨Nat.le_of_ble_eq_true rfl, Nat.le_of_ble_eq_true rfl⟩ (Nat.le_of_ble_eq_true rfl) ⟨Nat.zero_le _, Nat.zero_le _⟩ d_X_warmer_22 (fun r5 μ4 h => ?_)
    exact hR _ _ _ _ d_X_warmer_25 rfl h
  refine sr_iload_n C 1 rfl rfl d_X_warmer_0 ?_
  refine sr_iconst C (v := 0) d_X_warmer_1 (by decide) ?_
  refine sr_bipush C (v := 9) d_X_warmer_2 (by decide) ?_
  refine sr_callSI C [sm_I _, sm_I _, sm_I _] (P_X_within l h) ok_0 rfl rfl rfl ⟨Nat.le_of_ble_eq_true rfl, Nat.le_of_ble_eq_true rfl⟩ (Nat.le_of_ble_eq_true rfl) ⟨Nat.zero_le _, Nat.zero_le _⟩ d_X_warmer_4 (fun r2 μ1 h => ?_)
  refine sr_if_eq C (tgt := 20) d_X_warmer_7 (by decide) (fun c3 => ?_) (fun c3 => ?_)
  · replace h := Eq.mp (if_pos c3) h
    refine sr_mask C [0] rfl ?_
    exact B20 _ h
  · replace h := Eq.mp (if_neg c3) h
    refine sr_iload_n C 2 rfl rfl d_X_warmer_10 ?_
    refine sr_iconst C (v := 0) d_X_warmer_11 (by decide) ?_
    refine sr_bipush C (v := 60) d_X_warmer_12 (by decide) ?_
    refine sr_callSI C [sm_I _, sm_I _, sm_I _] (P_X_within l h) ok_0 rfl rfl rfl ⟨Nat.le_of_ble_eq_true rfl, Nat.le_of_ble_eq_true rfl⟩ (Nat.le_of_ble_eq_true rfl) ⟨Nat.zero_le _, Nat.zero_le _⟩ d_X_warmer_14 (fun r7 μ6 h => ?_)
    refine sr_if_ne C (tgt := 26) d_X_warmer_17 (by decide) (fun c8 => ?_) (fun c8 => ?_)
    · replace h := Eq.mp (if_neg c8) h
      refine sr_aload_n C 0 rfl rfl d_X_warmer_26 ?_
      refine sr_getR C sm_F6 2 q_210 sm_l0 (r := 37) rfl (by decide) d_X_warmer_27 ?_
      refine sr_iload_n C 1 rfl rfl d_X_warmer_30 ?_
      refine sr_iload_n C 2 rfl rfl d_X_warmer_31 ?_
      refine sr_callVI C [sm_I _, sm_I _] (P_F_leftOfAll l h) ok_80 sm_l37 rfl rfl rfl rfl ⟨Nat.le_of_ble_eq_true rfl, Nat.le_of_ble_eq_true rfl⟩ (Nat.le_of_ble_eq_true rfl) ⟨Nat.zero_le _, Nat.zero_le _⟩ d_X_warmer_32 (fun r10 μ9 h => ?_)
      exact hR _ _ _ _ d_X_warmer_35 rfl h
    · replace h := Eq.mp (if_pos c8) h
      refine sr_mask C [0] rfl ?_
      exact B20 _ h
theorem d_X_greatestDivisor_0 : decode prog_1_method_48_code 0 = .ok (.iload_n 1, 1) := by decide +kernel
theorem d_X_greatestDivisor_1 : decode prog_1_method_48_code 1 = .ok (.istore_n 2, 1) := by decide +kernel
theorem d_X_greatestDivisor_2 : decode prog_1_method_48_code 2 = .ok (.iload_n 2, 1) := by decide +kernel
theorem d_X_greatestDivisor_3 : decode prog_1_method_48_code 3 = .ok (.iconst 1, 1) := by decide +kernel
theorem d_X_greatestDivisor_4 : decode prog_1_method_48_code 4 = .ok (.if_icmp .le 23, 3) := by decide +kernel
theorem d_X_greatestDivisor_7 : decode prog_1_method_48_code 7 = .ok (.iload_n 0, 1) := by decide +kernel
theorem d_X_greatestDivisor_8 : decode prog_1_method_48_code 8 = .ok (.iload_n 2, 1) := by decide +kernel
theorem d_X_greatestDivisor_9 : decode prog_1_method_48_code 9 = .ok (.irem, 1) := by decide +kernel
theorem d_X_greatestDivisor_10 : decode prog_1_method_48_code 10 = .ok (.ifCond .ne 11, 3) := by decide +kernel
theorem d_X_greatestDivisor_13 : decode prog_1_method_48_code 13 = .ok (.iload_n 1, 1) := by decide +kernel
theorem d_X_greatestDivisor_14 : decode prog_1_method_48_code 14 = .ok (.iload_n 2, 1) := by decide +kernel
theorem d_X_greatestDivisor_15 : decode prog_1_method_48_code 15 = .ok (.irem, 1) := by decide +kernel
theorem d_X_greatestDivisor_16 : decode prog_1_method_48_code 16 = .ok (.ifCond .ne 5, 3) := by decide +kernel
theorem d_X_greatestDivisor_19 : decode prog_1_method_48_code 19 = .ok (.iload_n 2, 1) := by decide +kernel
theorem d_X_greatestDivisor_20 : decode prog_1_method_48_code 20 = .ok (.ireturn, 1) := by decide +kernel
theorem d_X_greatestDivisor_21 : decode prog_1_method_48_code 21 = .ok (.iinc 2 (-1), 3) := by decide +kernel
theorem d_X_greatestDivisor_24 : decode prog_1_method_48_code 24 = .ok (.goto (-22), 3) := by decide +kernel
theorem d_X_greatestDivisor_27 : decode prog_1_method_48_code 27 = .ok (.iconst 1, 1) := by decide +kernel
theorem d_X_greatestDivisor_28 : decode prog_1_method_48_code 28 = .ok (.ireturn, 1) := by decide +kernel
def w_X_greatestDivisor_21 (K : Int32 → sm_Mem → Prop) (J2 : Int32 → sm_Mem → Prop) (p0 : Int32) (p1 : Int32) (x2 : Int32) (μ : sm_Mem) : Prop := J2 (x2 + (-1)) μ
def w_X_greatestDivisor_2 (K : Int32 → sm_Mem → Prop) (p0 : Int32) (p1 : Int32) (x2 : Int32) (μ : sm_Mem) : Prop := sm_lp1 (fun J2 x2 μ => if x2 ≤ 1 then K 1 μ else ((¬ x2 = 0) ∧ if (p0 % x2) = 0 then ((¬ x2 = 0) ∧ if (p1 % x2) = 0 then K x2 μ else w_X_greatestDivisor_21 K J2 p0 p1 x2 μ) else w_X_greatestDivisor_21 K J2 p0 p1 x2 μ)) x2 μ
def w_X_greatestDivisor (K : Int32 → sm_Mem → Prop) (p0 : Int32) (p1 : Int32) (μ : sm_Mem) : Prop := w_X_greatestDivisor_2 K p0 p1 p1 μ
set_option maxHeartbeats 4000000 in
set_option maxRecDepth 100000 in
theorem P_X_greatestDivisor (l : Launch) {K : Int32 → sm_Mem → Prop} {p0 : Int32} {p1 : Int32} {μ : sm_Mem} (h : w_X_greatestDivisor K p0 p1 μ) : sm_MI l ⟨"SnowMoney", "greatestDivisor", "(II)I"⟩ prog_1_method_48_code 3 (some .int) { frames := 0, cells := 0, slots := 0, locals := 0 } [sm_I p0, sm_I p1] μ K := by
  refine sm_ofI (by decide +kernel) (fun _ => Nat.le_of_ble_eq_true rfl) ?_
  intro p e s m args below meth c A Q G C hR
  have B21 : ∀ (x2 : Int32) (J2 : Int32 → sm_Mem → Prop) (hJ2 : ∀ (x2 : Int32) (μ : sm_Mem), J2 x2 μ → sm_W p l e { frames := 0, cells := 0, slots := 0, locals := 0 } s m args below meth c A Q G 3 0 0 2 [] [(0, sm_I p0), (1, sm_I p1), (2, sm_I x2)] μ) (μ : sm_Mem), w_X_greatestDivisor_21 K J2 p0 p1 x2 μ → sm_W p l e { frames := 0, cells := 0, slots := 0, locals := 0 } s m args below meth c A Q G 3 0 0 21 [] [(0, sm_I p0), (1, sm_I p1), (2, sm_I x2)] μ := by
    intro x2 J2 hJ2 μ h
    refine sr_iinc C 2 rfl (by decide) d_X_greatestDivisor_21 rfl ?_
    refine sr_goto C (tgt := 2) (by decide) d_X_greatestDivisor_24 ?_
    refine sr_mask C [1, 2, 0] rfl ?_
    exact hJ2 _ _ h
  have B2 : ∀ (x2 : Int32) (μ : sm_Mem), w_X_greatestDivisor_2 K p0 p1 x2 μ → sm_W p l e { frames := 0, cells := 0, slots := 0, locals := 0 } s m args below meth c A Q G 3 0 0 2 [] [(0, sm_I p0), (1, sm_I p1), (2, sm_I x2)] μ := by
    intro x2 μ h
    refine sm_lp1_sound (P := fun x2 μ => sm_W p l e { frames := 0, cells := 0, slots := 0, locals := 0 } s m args below meth c A Q G 3 0 0 2 [] [(0, sm_I p0), (1, sm_I p1), (2, sm_I x2)] μ) (fun J2 x2 μ hJ2 h => ?_) h
    refine sr_iload_n C 2 rfl rfl d_X_greatestDivisor_2 ?_
    refine sr_iconst C (v := 1) d_X_greatestDivisor_3 (by decide) ?_
    refine sr_icmp_le C (tgt := 27) d_X_greatestDivisor_4 (by decide) (fun c1 => ?_) (fun c1 => ?_)
    · replace h := Eq.mp (if_pos c1) h
      refine sr_iconst C (v := 1) d_X_greatestDivisor_27 (by decide) ?_
      exact hR _ _ _ _ d_X_greatestDivisor_28 rfl h
    · replace h := Eq.mp (if_neg c1) h
      refine sr_iload_n C 0 rfl rfl d_X_greatestDivisor_7 ?_
      refine sr_iload_n C 2 rfl rfl d_X_greatestDivisor_8 ?_
      obtain ⟨g2, h⟩ := h
      refine sr_irem C g2 d_X_greatestDivisor_9 ?_
      refine sr_if_ne C (tgt := 21) d_X_greatestDivisor_10 (by decide) (fun c3 => ?_) (fun c3 => ?_)
      · replace h := Eq.mp (if_neg c3) h
        exact B21 _ _ hJ2 _ h
      · replace h := Eq.mp (if_pos c3) h
        refine sr_iload_n C 1 rfl rfl d_X_greatestDivisor_13 ?_
        refine sr_iload_n C 2 rfl rfl d_X_greatestDivisor_14 ?_
        obtain ⟨g4, h⟩ := h
        refine sr_irem C g4 d_X_greatestDivisor_15 ?_
        refine sr_if_ne C (tgt := 21) d_X_greatestDivisor_16 (by decide) (fun c5 => ?_) (fun c5 => ?_)
        · replace h := Eq.mp (if_neg c5) h
          exact B21 _ _ hJ2 _ h
        · replace h := Eq.mp (if_pos c5) h
          refine sr_iload_n C 2 rfl rfl d_X_greatestDivisor_19 ?_
          exact hR _ _ _ _ d_X_greatestDivisor_20 rfl h
  refine sr_iload_n C 1 rfl rfl d_X_greatestDivisor_0 ?_
  refine sr_istore_n C rfl (by decide) d_X_greatestDivisor_1 ?_
  refine sr_mask C [1, 2, 0] rfl ?_
  exact B2 _ _ h
theorem d_X_odds_0 : decode prog_1_method_28_code 0 = .ok (.aload_n 0, 1) := by decide +kernel
theorem d_X_odds_1 : decode prog_1_method_28_code 1 = .ok (.getfield 10, 3) := by decide +kernel
theorem d_X_odds_4 : decode prog_1_method_28_code 4 = .ok (.iload_n 1, 1) := by decide +kernel
theorem d_X_odds_5 : decode prog_1_method_28_code 5 = .ok (.invokevirtual 101, 3) := by decide +kernel
theorem d_X_odds_8 : decode prog_1_method_28_code 8 = .ok (.ifCond .eq 22, 3) := by decide +kernel
theorem d_X_odds_11 : decode prog_1_method_28_code 11 = .ok (.iload_n 2, 1) := by decide +kernel
theorem d_X_odds_12 : decode prog_1_method_28_code 12 = .ok (.iconst 0, 1) := by decide +kernel
theorem d_X_odds_13 : decode prog_1_method_28_code 13 = .ok (.bipush 60, 2) := by decide +kernel
theorem d_X_odds_15 : decode prog_1_method_28_code 15 = .ok (.invokestatic 53, 3) := by decide +kernel
theorem d_X_odds_18 : decode prog_1_method_28_code 18 = .ok (.ifCond .eq 12, 3) := by decide +kernel
theorem d_X_odds_21 : decode prog_1_method_28_code 21 = .ok (.iload_n 3, 1) := by decide +kernel
theorem d_X_odds_22 : decode prog_1_method_28_code 22 = .ok (.iconst 0, 1) := by decide +kernel
theorem d_X_odds_23 : decode prog_1_method_28_code 23 = .ok (.iconst 1, 1) := by decide +kernel
theorem d_X_odds_24 : decode prog_1_method_28_code 24 = .ok (.invokestatic 53, 3) := by decide +kernel
theorem d_X_odds_27 : decode prog_1_method_28_code 27 = .ok (.ifCond .ne 9, 3) := by decide +kernel
theorem d_X_odds_30 : decode prog_1_method_28_code 30 = .ok (.aload_n 0, 1) := by decide +kernel
theorem d_X_odds_31 : decode prog_1_method_28_code 31 = .ok (.iconst 1, 1) := by decide +kernel
theorem d_X_odds_32 : decode prog_1_method_28_code 32 = .ok (.invokevirtual 57, 3) := by decide +kernel
theorem d_X_odds_35 : decode prog_1_method_28_code 35 = .ok (.ireturn, 1) := by decide +kernel
theorem d_X_odds_36 : decode prog_1_method_28_code 36 = .ok (.aload_n 0, 1) := by decide +kernel
theorem d_X_odds_37 : decode prog_1_method_28_code 37 = .ok (.getfield 24, 3) := by decide +kernel
theorem d_X_odds_40 : decode prog_1_method_28_code 40 = .ok (.iload_n 1, 1) := by decide +kernel
theorem d_X_odds_41 : decode prog_1_method_28_code 41 = .ok (.iload_n 2, 1) := by decide +kernel
theorem d_X_odds_42 : decode prog_1_method_28_code 42 = .ok (.invokevirtual 235, 3) := by decide +kernel
theorem d_X_odds_45 : decode prog_1_method_28_code 45 = .ok (.istore 4, 2) := by decide +kernel
theorem d_X_odds_47 : decode prog_1_method_28_code 47 = .ok (.iload 4, 2) := by decide +kernel
theorem d_X_odds_49 : decode prog_1_method_28_code 49 = .ok (.bipush 10, 2) := by decide +kernel
theorem d_X_odds_51 : decode prog_1_method_28_code 51 = .ok (.invokestatic 238, 3) := by decide +kernel
theorem d_X_odds_54 : decode prog_1_method_28_code 54 = .ok (.istore 5, 2) := by decide +kernel
theorem d_X_odds_56 : decode prog_1_method_28_code 56 = .ok (.iload_n 3, 1) := by decide +kernel
theorem d_X_odds_57 : decode prog_1_method_28_code 57 = .ok (.ifCond .ne 8, 3) := by decide +kernel
theorem d_X_odds_60 : decode prog_1_method_28_code 60 = .ok (.iload 4, 2) := by decide +kernel
theorem d_X_odds_62 : decode prog_1_method_28_code 62 = .ok (.goto 5, 3) := by decide +kernel
theorem d_X_odds_65 : decode prog_1_method_28_code 65 = .ok (.bipush 10, 2) := by decide +kernel
theorem d_X_odds_67 : decode prog_1_method_28_code 67 = .ok (.iload 5, 2) := by decide +kernel
theorem d_X_odds_69 : decode prog_1_method_28_code 69 = .ok (.idiv, 1) := by decide +kernel
theorem d_X_odds_70 : decode prog_1_method_28_code 70 = .ok (.ireturn, 1) := by decide +kernel
def w_X_odds_30 (K : Int32 → sm_Mem → Prop) (p0 : Int32) (p1 : Int32) (p2 : Int32) (μ : sm_Mem) : Prop := w_X_error (fun r5 μ4 => K r5 μ4) 1 μ
def w_X_odds (K : Int32 → sm_Mem → Prop) (p0 : Int32) (p1 : Int32) (p2 : Int32) (μ : sm_Mem) : Prop := w_D_hasNote (fun r2 μ1 => if r2 = 0 then w_X_odds_30 K p0 p1 p2 μ1 else (w_X_within (fun r7 μ6 => if r7 = 0 then w_X_odds_30 K p0 p1 p2 μ6 else (w_X_within (fun r10 μ9 => if r10 = 0 then w_X_odds_30 K p0 p1 p2 μ9 else (w_F_weathersThatLeave (fun r13 μ12 => w_X_greatestDivisor (fun r15 μ14 => if p2 = 0 then ((¬ r15 = 0) ∧ K (r13 / r15) μ14) else ((¬ r15 = 0) ∧ K (10 / r15) μ14)) r13 10 μ12) p0 p1 μ9)) p2 0 1 μ6)) p1 0 60 μ1)) p0 μ
set_option maxHeartbeats 4000000 in
set_option maxRecDepth 100000 in
theorem P_X_odds (l : Launch) {K : Int32 → sm_Mem → Prop} {p0 : Int32} {p1 : Int32} {p2 : Int32} {μ : sm_Mem} (h : w_X_odds K p0 p1 p2 μ) : sm_MI l ⟨"SnowMoney", "odds", "(III)I"⟩ prog_1_method_28_code 6 (some .int) { frames := 6, cells := 0, slots := 0, locals := 147 } [sm_R 0, sm_I p0, sm_I p1, sm_I p2] μ K := by
  refine sm_ofI (by decide +kernel) (fun _ => Nat.le_of_ble_eq_true rfl) ?_
  intro p e s m args below meth c A Q G C hR
  have B30 : ∀ (μ : sm_Mem), w_X_odds_30 K p0 p1 p2 μ → sm_W p l e { frames := 6, cells := 0, slots := 0, locals := 147 } s m args below meth c A Q G 6 0 0 30 [] [(0, sm_R 0)] μ := by
    intro μ h
    refine sr_aload_n C 0 rfl rfl d_X_odds_30 ?_
    refine sr_iconst C (v := 1) d_X_odds_31 (by decide) ?_
    refine sr_callVI C [sm_I _] (P_X_error l h) ok_1 sm_l0 rfl rfl rfl rfl ⟨Nat.le_of_ble_eq_true rfl, Nat.le_of_ble_eq_true rfl⟩ (Nat.le_of_ble_eq_true rfl) ⟨Nat.zero_le _, Nat.zero_le _⟩ d_X_odds_32 (fun r5 μ4 h => ?_)
    exact hR _ _ _ _ d_X_odds_35 rfl h
  refine sr_aload_n C 0 rfl rfl d_X_odds_0 ?_
  refine sr_getR C sm_F6 0 q_4 sm_l0 (r := 1) rfl (by decide) d_X_odds_1 ?_
  refine sr_iload_n C 1 rfl rfl d_X_odds_4 ?_
  refine sr_callVI C [sm_I _] (P_D_hasNote l h) ok_7 sm_l1 rfl rfl rfl rfl ⟨Nat.le_of_ble_eq_true rfl, Nat.le_of_ble_eq_true rfl⟩ (Nat.le_of_ble_eq_true rfl) ⟨Nat.zero_le _, Nat.zero_le _⟩ d_X_odds_5 (fun r2 μ1 h => ?_)
  refine sr_if_eq C (tgt := 30) d_X_odds_8 (by decide) (fun c3 => ?_) (fun c3 => ?_)
  · replace h := Eq.mp (if_pos c3) h
    refine sr_mask C [0] rfl ?_
    exact B30 _ h
  · replace h := Eq.mp (if_neg c3) h
    refine sr_iload_n C 2 rfl rfl d_X_odds_11 ?_
    refine sr_iconst C (v := 0) d_X_odds_12 (by decide) ?_
    refine sr_bipush C (v := 60) d_X_odds_13 (by decide) ?_
    refine sr_callSI C [sm_I _, sm_I _, sm_I _] (P_X_within l h) ok_0 rfl rfl rfl ⟨Nat.le_of_ble_eq_true rfl, Nat.le_of_ble_eq_true rfl⟩ (Nat.le_of_ble_eq_true rfl) ⟨Nat.zero_le _, Nat.zero_le _⟩ d_X_odds_15 (fun r7 μ6 h => ?_)
    refine sr_if_eq C (tgt := 30) d_X_odds_18 (by decide) (fun c8 => ?_) (fun c8 => ?_)
    · replace h := Eq.mp (if_pos c8) h
      refine sr_mask C [0] rfl ?_
      exact B30 _ h
    · replace h := Eq.mp (if_neg c8) h
      refine sr_iload_n C 3 rfl rfl d_X_odds_21 ?_
      refine sr_iconst C (v := 0) d_X_odds_22 (by decide) ?_
      refine sr_iconst C (v := 1) d_X_odds_23 (by decide) ?_
      refine sr_callSI C [sm_I _, sm_I _, sm_I _] (P_X_within l h) ok_0 rfl rfl rfl ⟨Nat.le_of_ble_eq_true rfl, Nat.le_of_ble_eq_true rfl⟩ (Nat.le_of_ble_eq_true rfl) ⟨Nat.zero_le _, Nat.zero_le _⟩ d_X_odds_24 (fun r10 μ9 h => ?_)
      refine sr_if_ne C (tgt := 36) d_X_odds_27 (by decide) (fun c11 => ?_) (fun c11 => ?_)
      · replace h := Eq.mp (if_neg c11) h
        refine sr_aload_n C 0 rfl rfl d_X_odds_36 ?_
        refine sr_getR C sm_F6 2 q_210 sm_l0 (r := 37) rfl (by decide) d_X_odds_37 ?_
        refine sr_iload_n C 1 rfl rfl d_X_odds_40 ?_
        refine sr_iload_n C 2 rfl rfl d_X_odds_41 ?_
        refine sr_callVI C [sm_I _, sm_I _] (P_F_weathersThatLeave l h) ok_81 sm_l37 rfl rfl rfl rfl ⟨Nat.le_of_ble_eq_true rfl, Nat.le_of_ble_eq_true rfl⟩ (Nat.le_of_ble_eq_true rfl) ⟨Nat.zero_le _, Nat.zero_le _⟩ d_X_odds_42 (fun r13 μ12 h => ?_)
        refine sr_istore C (by decide) d_X_odds_45 ?_
        refine sr_iload C 0 rfl d_X_odds_47 ?_
        refine sr_bipush C (v := 10) d_X_odds_49 (by decide) ?_
        refine sr_callSI C [sm_I _, sm_I _] (P_X_greatestDivisor l h) ok_82 rfl rfl rfl ⟨Nat.le_of_ble_eq_true rfl, Nat.le_of_ble_eq_true rfl⟩ (Nat.le_of_ble_eq_true rfl) ⟨Nat.zero_le _, Nat.zero_le _⟩ d_X_odds_51 (fun r15 μ14 h => ?_)
        refine sr_istore C (by decide) d_X_odds_54 ?_
        refine sr_iload_n C 5 rfl rfl d_X_odds_56 ?_
        refine sr_if_ne C (tgt := 65) d_X_odds_57 (by decide) (fun c16 => ?_) (fun c16 => ?_)
        · replace h := Eq.mp (if_neg c16) h
          refine sr_bipush C (v := 10) d_X_odds_65 (by decide) ?_
          refine sr_iload C 0 rfl d_X_odds_67 ?_
          obtain ⟨g17, h⟩ := h
          refine sr_idiv C g17 d_X_odds_69 ?_
          exact hR _ _ _ _ d_X_odds_70 rfl h
        · replace h := Eq.mp (if_pos c16) h
          refine sr_iload C 1 rfl d_X_odds_60 ?_
          refine sr_goto C (tgt := 67) (by decide) d_X_odds_62 ?_
          refine sr_iload C 0 rfl d_X_odds_67 ?_
          obtain ⟨g18, h⟩ := h
          refine sr_idiv C g18 d_X_odds_69 ?_
          exact hR _ _ _ _ d_X_odds_70 rfl h
      · replace h := Eq.mp (if_pos c11) h
        refine sr_mask C [0] rfl ?_
        exact B30 _ h
theorem d_X_seed_0 : decode prog_1_method_29_code 0 = .ok (.aload_n 0, 1) := by decide +kernel
theorem d_X_seed_1 : decode prog_1_method_29_code 1 = .ok (.getfield 10, 3) := by decide +kernel
theorem d_X_seed_4 : decode prog_1_method_29_code 4 = .ok (.getfield 241, 3) := by decide +kernel
theorem d_X_seed_7 : decode prog_1_method_29_code 7 = .ok (.istore_n 2, 1) := by decide +kernel
theorem d_X_seed_8 : decode prog_1_method_29_code 8 = .ok (.aload_n 0, 1) := by decide +kernel
theorem d_X_seed_9 : decode prog_1_method_29_code 9 = .ok (.getfield 10, 3) := by decide +kernel
theorem d_X_seed_12 : decode prog_1_method_29_code 12 = .ok (.iload_n 1, 1) := by decide +kernel
theorem d_X_seed_13 : decode prog_1_method_29_code 13 = .ok (.putfield 241, 3) := by decide +kernel
theorem d_X_seed_16 : decode prog_1_method_29_code 16 = .ok (.iload_n 2, 1) := by decide +kernel
theorem d_X_seed_17 : decode prog_1_method_29_code 17 = .ok (.ireturn, 1) := by decide +kernel
def w_X_seed (K : Int32 → sm_Mem → Prop) (p0 : Int32) (μ : sm_Mem) : Prop := ∀ v1 : Int32, v1 = (μ 1 17) → ∀ μ2 : sm_Mem, μ2 = sm_st μ 1 17 p0 → K v1 μ2
set_option maxHeartbeats 4000000 in
set_option maxRecDepth 100000 in
theorem P_X_seed (l : Launch) {K : Int32 → sm_Mem → Prop} {p0 : Int32} {μ : sm_Mem} (h : w_X_seed K p0 μ) : sm_MI l ⟨"SnowMoney", "seed", "(I)I"⟩ prog_1_method_29_code 3 (some .int) { frames := 0, cells := 0, slots := 0, locals := 0 } [sm_R 0, sm_I p0] μ K := by
  refine sm_ofI (by decide +kernel) (fun _ => Nat.le_of_ble_eq_true rfl) ?_
  intro p e s m args below meth c A Q G C hR
  refine sr_aload_n C 0 rfl rfl d_X_seed_0 ?_
  refine sr_getR C sm_F6 0 q_4 sm_l0 (r := 1) rfl (by decide) d_X_seed_1 ?_
  refine sr_getI C sm_F0 17 q_361 sm_l1 rfl (by decide) d_X_seed_4 ?_
  replace h := h _ rfl
  refine sr_istore_n C rfl (by decide) d_X_seed_7 ?_
  refine sr_aload_n C 1 rfl rfl d_X_seed_8 ?_
  refine sr_getR C sm_F6 0 q_4 sm_l0 (r := 1) rfl (by decide) d_X_seed_9 ?_
  refine sr_iload_n C 2 rfl rfl d_X_seed_12 ?_
  refine sr_putI C sm_F0 17 q_361 sm_l1 rfl rfl (by decide) rfl d_X_seed_13 ?_
  replace h := h _ rfl
  refine sr_iload_n C 0 rfl rfl d_X_seed_16 ?_
  exact hR _ _ _ _ d_X_seed_17 rfl h
theorem d_X_voice_0 : decode prog_1_method_30_code 0 = .ok (.aload_n 0, 1) := by decide +kernel
theorem d_X_voice_1 : decode prog_1_method_30_code 1 = .ok (.getfield 10, 3) := by decide +kernel
theorem d_X_voice_4 : decode prog_1_method_30_code 4 = .ok (.iload_n 1, 1) := by decide +kernel
theorem d_X_voice_5 : decode prog_1_method_30_code 5 = .ok (.invokevirtual 101, 3) := by decide +kernel
theorem d_X_voice_8 : decode prog_1_method_30_code 8 = .ok (.ifCond .eq 12, 3) := by decide +kernel
theorem d_X_voice_11 : decode prog_1_method_30_code 11 = .ok (.iload_n 2, 1) := by decide +kernel
theorem d_X_voice_12 : decode prog_1_method_30_code 12 = .ok (.iconst 0, 1) := by decide +kernel
theorem d_X_voice_13 : decode prog_1_method_30_code 13 = .ok (.iconst 3, 1) := by decide +kernel
theorem d_X_voice_14 : decode prog_1_method_30_code 14 = .ok (.invokestatic 53, 3) := by decide +kernel
theorem d_X_voice_17 : decode prog_1_method_30_code 17 = .ok (.ifCond .ne 9, 3) := by decide +kernel
theorem d_X_voice_20 : decode prog_1_method_30_code 20 = .ok (.aload_n 0, 1) := by decide +kernel
theorem d_X_voice_21 : decode prog_1_method_30_code 21 = .ok (.iconst 1, 1) := by decide +kernel
theorem d_X_voice_22 : decode prog_1_method_30_code 22 = .ok (.invokevirtual 57, 3) := by decide +kernel
theorem d_X_voice_25 : decode prog_1_method_30_code 25 = .ok (.ireturn, 1) := by decide +kernel
theorem d_X_voice_26 : decode prog_1_method_30_code 26 = .ok (.aload_n 0, 1) := by decide +kernel
theorem d_X_voice_27 : decode prog_1_method_30_code 27 = .ok (.getfield 38, 3) := by decide +kernel
theorem d_X_voice_30 : decode prog_1_method_30_code 30 = .ok (.aload_n 0, 1) := by decide +kernel
theorem d_X_voice_31 : decode prog_1_method_30_code 31 = .ok (.getfield 10, 3) := by decide +kernel
theorem d_X_voice_34 : decode prog_1_method_30_code 34 = .ok (.getfield 86, 3) := by decide +kernel
theorem d_X_voice_37 : decode prog_1_method_30_code 37 = .ok (.iload_n 1, 1) := by decide +kernel
theorem d_X_voice_38 : decode prog_1_method_30_code 38 = .ok (.iaload, 1) := by decide +kernel
theorem d_X_voice_39 : decode prog_1_method_30_code 39 = .ok (.iload_n 1, 1) := by decide +kernel
theorem d_X_voice_40 : decode prog_1_method_30_code 40 = .ok (.aload_n 0, 1) := by decide +kernel
theorem d_X_voice_41 : decode prog_1_method_30_code 41 = .ok (.getfield 10, 3) := by decide +kernel
theorem d_X_voice_44 : decode prog_1_method_30_code 44 = .ok (.getfield 89, 3) := by decide +kernel
theorem d_X_voice_47 : decode prog_1_method_30_code 47 = .ok (.iload_n 1, 1) := by decide +kernel
theorem d_X_voice_48 : decode prog_1_method_30_code 48 = .ok (.iaload, 1) := by decide +kernel
theorem d_X_voice_49 : decode prog_1_method_30_code 49 = .ok (.iload_n 2, 1) := by decide +kernel
theorem d_X_voice_50 : decode prog_1_method_30_code 50 = .ok (.iload_n 3, 1) := by decide +kernel
theorem d_X_voice_51 : decode prog_1_method_30_code 51 = .ok (.invokevirtual 244, 3) := by decide +kernel
theorem d_X_voice_54 : decode prog_1_method_30_code 54 = .ok (.ireturn, 1) := by decide +kernel
def w_X_voice_20 (K : Int32 → sm_Mem → Prop) (p0 : Int32) (p1 : Int32) (p2 : Int32) (μ : sm_Mem) : Prop := w_X_error (fun r5 μ4 => K r5 μ4) 1 μ
def w_X_voice (K : Int32 → sm_Mem → Prop) (p0 : Int32) (p1 : Int32) (p2 : Int32) (μ : sm_Mem) : Prop := w_D_hasNote (fun r2 μ1 => if r2 = 0 then w_X_voice_20 K p0 p1 p2 μ1 else (w_X_within (fun r7 μ6 => if r7 = 0 then w_X_voice_20 K p0 p1 p2 μ6 else (vp_in p0 10 ∧ vp_in p0 10 ∧ w_V_begin (fun r12 μ11 => K r12 μ11) (μ6 4 p0.toNatClampNeg) p0 (μ6 5 p0.toNatClampNeg) p1 p2 μ6)) p1 0 3 μ1)) p0 μ
set_option maxHeartbeats 4000000 in
set_option maxRecDepth 100000 in
theorem P_X_voice (l : Launch) {K : Int32 → sm_Mem → Prop} {p0 : Int32} {p1 : Int32} {p2 : Int32} {μ : sm_Mem} (h : w_X_voice K p0 p1 p2 μ) : sm_MI l ⟨"SnowMoney", "voice", "(III)I"⟩ prog_1_method_30_code 4 (some .int) { frames := 46, cells := 0, slots := 0, locals := 1771 } [sm_R 0, sm_I p0, sm_I p1, sm_I p2] μ K := by
  refine sm_ofI (by decide +kernel) (fun _ => Nat.le_of_ble_eq_true rfl) ?_
  intro p e s m args below meth c A Q G C hR
  have B20 : ∀ (μ : sm_Mem), w_X_voice_20 K p0 p1 p2 μ → sm_W p l e { frames := 46, cells := 0, slots := 0, locals := 1771 } s m args below meth c A Q G 4 0 0 20 [] [(0, sm_R 0)] μ := by
    intro μ h
    refine sr_aload_n C 0 rfl rfl d_X_voice_20 ?_
    refine sr_iconst C (v := 1) d_X_voice_21 (by decide) ?_
    refine sr_callVI C [sm_I _] (P_X_error l h) ok_1 sm_l0 rfl rfl rfl rfl ⟨Nat.le_of_ble_eq_true rfl, Nat.le_of_ble_eq_true rfl⟩ (Nat.le_of_ble_eq_true rfl) ⟨Nat.zero_le _, Nat.zero_le _⟩ d_X_voice_22 (fun r5 μ4 h => ?_)
    exact hR _ _ _ _ d_X_voice_25 rfl h
  refine sr_aload_n C 0 rfl rfl d_X_voice_0 ?_
  refine sr_getR C sm_F6 0 q_4 sm_l0 (r := 1) rfl (by decide) d_X_voice_1 ?_
  refine sr_iload_n C 1 rfl rfl d_X_voice_4 ?_
  refine sr_callVI C [sm_I _] (P_D_hasNote l h) ok_7 sm_l1 rfl rfl rfl rfl ⟨Nat.le_of_ble_eq_true rfl, Nat.le_of_ble_eq_true rfl⟩ (Nat.le_of_ble_eq_true rfl) ⟨Nat.zero_le _, Nat.zero_le _⟩ d_X_voice_5 (fun r2 μ1 h => ?_)
  refine sr_if_eq C (tgt := 20) d_X_voice_8 (by decide) (fun c3 => ?_) (fun c3 => ?_)
  · replace h := Eq.mp (if_pos c3) h
    refine sr_mask C [0] rfl ?_
    exact B20 _ h
  · replace h := Eq.mp (if_neg c3) h
    refine sr_iload_n C 2 rfl rfl d_X_voice_11 ?_
    refine sr_iconst C (v := 0) d_X_voice_12 (by decide) ?_
    refine sr_iconst C (v := 3) d_X_voice_13 (by decide) ?_
    refine sr_callSI C [sm_I _, sm_I _, sm_I _] (P_X_within l h) ok_0 rfl rfl rfl ⟨Nat.le_of_ble_eq_true rfl, Nat.le_of_ble_eq_true rfl⟩ (Nat.le_of_ble_eq_true rfl) ⟨Nat.zero_le _, Nat.zero_le _⟩ d_X_voice_14 (fun r7 μ6 h => ?_)
    refine sr_if_ne C (tgt := 26) d_X_voice_17 (by decide) (fun c8 => ?_) (fun c8 => ?_)
    · replace h := Eq.mp (if_neg c8) h
      refine sr_aload_n C 0 rfl rfl d_X_voice_26 ?_
      refine sr_getR C sm_F6 4 q_362 sm_l0 (r := 49) rfl (by decide) d_X_voice_27 ?_
      refine sr_aload_n C 0 rfl rfl d_X_voice_30 ?_
      refine sr_getR C sm_F6 0 q_4 sm_l0 (r := 1) rfl (by decide) d_X_voice_31 ?_
      refine sr_getR C sm_F0 2 q_36 sm_l1 (r := 4) rfl (by decide) d_X_voice_34 ?_
      refine sr_iload_n C 1 rfl rfl d_X_voice_37 ?_
      obtain ⟨g9, h⟩ := h
      refine sr_iald C sm_l4 g9 d_X_voice_38 ?_
      refine sr_iload_n C 1 rfl rfl d_X_voice_39 ?_
      refine sr_aload_n C 0 rfl rfl d_X_voice_40 ?_
      refine sr_getR C sm_F6 0 q_4 sm_l0 (r := 1) rfl (by decide) d_X_voice_41 ?_
      refine sr_getR C sm_F0 3 q_37 sm_l1 (r := 5) rfl (by decide) d_X_voice_44 ?_
      refine sr_iload_n C 1 rfl rfl d_X_voice_47 ?_
      obtain ⟨g10, h⟩ := h
      refine sr_iald C sm_l5 g10 d_X_voice_48 ?_
      refine sr_iload_n C 2 rfl rfl d_X_voice_49 ?_
      refine sr_iload_n C 3 rfl rfl d_X_voice_50 ?_
      refine sr_callVI C [sm_I _, sm_I _, sm_I _, sm_I _, sm_I _] (P_V_begin l h) ok_83 sm_l49 rfl rfl rfl rfl ⟨Nat.le_of_ble_eq_true rfl, Nat.le_of_ble_eq_true rfl⟩ (Nat.le_of_ble_eq_true rfl) ⟨Nat.zero_le _, Nat.zero_le _⟩ d_X_voice_51 (fun r12 μ11 h => ?_)
      exact hR _ _ _ _ d_X_voice_54 rfl h
    · replace h := Eq.mp (if_pos c8) h
      refine sr_mask C [0] rfl ?_
      exact B20 _ h
theorem d_X_trace_0 : decode prog_1_method_31_code 0 = .ok (.iload_n 1, 1) := by decide +kernel
theorem d_X_trace_1 : decode prog_1_method_31_code 1 = .ok (.iconst 0, 1) := by decide +kernel
theorem d_X_trace_2 : decode prog_1_method_31_code 2 = .ok (.aload_n 0, 1) := by decide +kernel
theorem d_X_trace_3 : decode prog_1_method_31_code 3 = .ok (.getfield 38, 3) := by decide +kernel
theorem d_X_trace_6 : decode prog_1_method_31_code 6 = .ok (.getfield 248, 3) := by decide +kernel
theorem d_X_trace_9 : decode prog_1_method_31_code 9 = .ok (.iconst 1, 1) := by decide +kernel
theorem d_X_trace_10 : decode prog_1_method_31_code 10 = .ok (.isub, 1) := by decide +kernel
theorem d_X_trace_11 : decode prog_1_method_31_code 11 = .ok (.invokestatic 53, 3) := by decide +kernel
theorem d_X_trace_14 : decode prog_1_method_31_code 14 = .ok (.ifCond .eq 15, 3) := by decide +kernel
theorem d_X_trace_17 : decode prog_1_method_31_code 17 = .ok (.aload_n 0, 1) := by decide +kernel
theorem d_X_trace_18 : decode prog_1_method_31_code 18 = .ok (.getfield 38, 3) := by decide +kernel
theorem d_X_trace_21 : decode prog_1_method_31_code 21 = .ok (.getfield 251, 3) := by decide +kernel
theorem d_X_trace_24 : decode prog_1_method_31_code 24 = .ok (.iload_n 1, 1) := by decide +kernel
theorem d_X_trace_25 : decode prog_1_method_31_code 25 = .ok (.iaload, 1) := by decide +kernel
theorem d_X_trace_26 : decode prog_1_method_31_code 26 = .ok (.goto 8, 3) := by decide +kernel
theorem d_X_trace_29 : decode prog_1_method_31_code 29 = .ok (.aload_n 0, 1) := by decide +kernel
theorem d_X_trace_30 : decode prog_1_method_31_code 30 = .ok (.iconst 2, 1) := by decide +kernel
theorem d_X_trace_31 : decode prog_1_method_31_code 31 = .ok (.invokevirtual 57, 3) := by decide +kernel
theorem d_X_trace_34 : decode prog_1_method_31_code 34 = .ok (.ireturn, 1) := by decide +kernel
def w_X_trace (K : Int32 → sm_Mem → Prop) (p0 : Int32) (μ : sm_Mem) : Prop := w_X_within (fun r2 μ1 => if r2 = 0 then w_X_error (fun r5 μ4 => K r5 μ4) 2 μ1 else (vp_in p0 40 ∧ K (μ1 50 p0.toNatClampNeg) μ1)) p0 0 ((μ 49 1) - 1) μ
set_option maxHeartbeats 4000000 in
set_option maxRecDepth 100000 in
theorem P_X_trace (l : Launch) {K : Int32 → sm_Mem → Prop} {p0 : Int32} {μ : sm_Mem} (h : w_X_trace K p0 μ) : sm_MI l ⟨"SnowMoney", "trace", "(I)I"⟩ prog_1_method_31_code 2 (some .int) { frames := 2, cells := 0, slots := 0, locals := 43 } [sm_R 0, sm_I p0] μ K := by
  refine sm_ofI (by decide +kernel) (fun _ => Nat.le_of_ble_eq_true rfl) ?_
  intro p e s m args below meth c A Q G C hR
  refine sr_iload_n C 1 rfl rfl d_X_trace_0 ?_
  refine sr_iconst C (v := 0) d_X_trace_1 (by decide) ?_
  refine sr_aload_n C 0 rfl rfl d_X_trace_2 ?_
  refine sr_getR C sm_F6 4 q_362 sm_l0 (r := 49) rfl (by decide) d_X_trace_3 ?_
  refine sr_getI C sm_F5 1 q_386 sm_l49 rfl (by decide) d_X_trace_6 ?_
  refine sr_iconst C (v := 1) d_X_trace_9 (by decide) ?_
  refine sr_isub C d_X_trace_10 ?_
  refine sr_callSI C [sm_I _, sm_I _, sm_I _] (P_X_within l h) ok_0 rfl rfl rfl ⟨Nat.le_of_ble_eq_true rfl, Nat.le_of_ble_eq_true rfl⟩ (Nat.le_of_ble_eq_true rfl) ⟨Nat.zero_le _, Nat.zero_le _⟩ d_X_trace_11 (fun r2 μ1 h => ?_)
  refine sr_if_eq C (tgt := 29) d_X_trace_14 (by decide) (fun c3 => ?_) (fun c3 => ?_)
  · replace h := Eq.mp (if_pos c3) h
    refine sr_aload_n C 0 rfl rfl d_X_trace_29 ?_
    refine sr_iconst C (v := 2) d_X_trace_30 (by decide) ?_
    refine sr_callVI C [sm_I _] (P_X_error l h) ok_1 sm_l0 rfl rfl rfl rfl ⟨Nat.le_of_ble_eq_true rfl, Nat.le_of_ble_eq_true rfl⟩ (Nat.le_of_ble_eq_true rfl) ⟨Nat.zero_le _, Nat.zero_le _⟩ d_X_trace_31 (fun r5 μ4 h => ?_)
    exact hR _ _ _ _ d_X_trace_34 rfl h
  · replace h := Eq.mp (if_neg c3) h
    refine sr_aload_n C 0 rfl rfl d_X_trace_17 ?_
    refine sr_getR C sm_F6 4 q_362 sm_l0 (r := 49) rfl (by decide) d_X_trace_18 ?_
    refine sr_getR C sm_F5 0 q_387 sm_l49 (r := 50) rfl (by decide) d_X_trace_21 ?_
    refine sr_iload_n C 1 rfl rfl d_X_trace_24 ?_
    obtain ⟨g6, h⟩ := h
    refine sr_iald C sm_l50 g6 d_X_trace_25 ?_
    refine sr_goto C (tgt := 34) (by decide) d_X_trace_26 ?_
    exact hR _ _ _ _ d_X_trace_34 rfl h
theorem d_X_sheet_0 : decode prog_1_method_32_code 0 = .ok (.aload_n 0, 1) := by decide +kernel
theorem d_X_sheet_1 : decode prog_1_method_32_code 1 = .ok (.iload_n 1, 1) := by decide +kernel
theorem d_X_sheet_2 : decode prog_1_method_32_code 2 = .ok (.invokevirtual 212, 3) := by decide +kernel
theorem d_X_sheet_5 : decode prog_1_method_32_code 5 = .ok (.astore 4, 2) := by decide +kernel
theorem d_X_sheet_7 : decode prog_1_method_32_code 7 = .ok (.aload 4, 2) := by decide +kernel
theorem d_X_sheet_9 : decode prog_1_method_32_code 9 = .ok (.ifnull 25, 3) := by decide +kernel
theorem d_X_sheet_12 : decode prog_1_method_32_code 12 = .ok (.iload_n 2, 1) := by decide +kernel
theorem d_X_sheet_13 : decode prog_1_method_32_code 13 = .ok (.ifCond .eq 27, 3) := by decide +kernel
theorem d_X_sheet_16 : decode prog_1_method_32_code 16 = .ok (.iload_n 2, 1) := by decide +kernel
theorem d_X_sheet_17 : decode prog_1_method_32_code 17 = .ok (.bipush 8, 2) := by decide +kernel
theorem d_X_sheet_19 : decode prog_1_method_32_code 19 = .ok (.if_icmp .eq 21, 3) := by decide +kernel
theorem d_X_sheet_22 : decode prog_1_method_32_code 22 = .ok (.iload_n 2, 1) := by decide +kernel
theorem d_X_sheet_23 : decode prog_1_method_32_code 23 = .ok (.bipush 16, 2) := by decide +kernel
theorem d_X_sheet_25 : decode prog_1_method_32_code 25 = .ok (.if_icmp .eq 15, 3) := by decide +kernel
theorem d_X_sheet_28 : decode prog_1_method_32_code 28 = .ok (.iload_n 2, 1) := by decide +kernel
theorem d_X_sheet_29 : decode prog_1_method_32_code 29 = .ok (.bipush 32, 2) := by decide +kernel
theorem d_X_sheet_31 : decode prog_1_method_32_code 31 = .ok (.if_icmp .eq 9, 3) := by decide +kernel
theorem d_X_sheet_34 : decode prog_1_method_32_code 34 = .ok (.aload_n 0, 1) := by decide +kernel
theorem d_X_sheet_35 : decode prog_1_method_32_code 35 = .ok (.iconst 1, 1) := by decide +kernel
theorem d_X_sheet_36 : decode prog_1_method_32_code 36 = .ok (.invokevirtual 57, 3) := by decide +kernel
theorem d_X_sheet_39 : decode prog_1_method_32_code 39 = .ok (.ireturn, 1) := by decide +kernel
theorem d_X_sheet_40 : decode prog_1_method_32_code 40 = .ok (.iload_n 2, 1) := by decide +kernel
theorem d_X_sheet_41 : decode prog_1_method_32_code 41 = .ok (.ifCond .eq 13, 3) := by decide +kernel
theorem d_X_sheet_44 : decode prog_1_method_32_code 44 = .ok (.iload_n 3, 1) := by decide +kernel
theorem d_X_sheet_45 : decode prog_1_method_32_code 45 = .ok (.ifCond .ge 9, 3) := by decide +kernel
theorem d_X_sheet_48 : decode prog_1_method_32_code 48 = .ok (.aload_n 0, 1) := by decide +kernel
theorem d_X_sheet_49 : decode prog_1_method_32_code 49 = .ok (.iconst 3, 1) := by decide +kernel
theorem d_X_sheet_50 : decode prog_1_method_32_code 50 = .ok (.invokevirtual 57, 3) := by decide +kernel
theorem d_X_sheet_53 : decode prog_1_method_32_code 53 = .ok (.ireturn, 1) := by decide +kernel
theorem d_X_sheet_54 : decode prog_1_method_32_code 54 = .ok (.iload_n 2, 1) := by decide +kernel
theorem d_X_sheet_55 : decode prog_1_method_32_code 55 = .ok (.ifCond .eq 15, 3) := by decide +kernel
theorem d_X_sheet_58 : decode prog_1_method_32_code 58 = .ok (.iload_n 3, 1) := by decide +kernel
theorem d_X_sheet_59 : decode prog_1_method_32_code 59 = .ok (.bipush 40, 2) := by decide +kernel
theorem d_X_sheet_61 : decode prog_1_method_32_code 61 = .ok (.if_icmp .le 9, 3) := by decide +kernel
theorem d_X_sheet_64 : decode prog_1_method_32_code 64 = .ok (.aload_n 0, 1) := by decide +kernel
theorem d_X_sheet_65 : decode prog_1_method_32_code 65 = .ok (.iconst 1, 1) := by decide +kernel
theorem d_X_sheet_66 : decode prog_1_method_32_code 66 = .ok (.invokevirtual 57, 3) := by decide +kernel
theorem d_X_sheet_69 : decode prog_1_method_32_code 69 = .ok (.ireturn, 1) := by decide +kernel
theorem d_X_sheet_70 : decode prog_1_method_32_code 70 = .ok (.aload 4, 2) := by decide +kernel
theorem d_X_sheet_72 : decode prog_1_method_32_code 72 = .ok (.iload_n 2, 1) := by decide +kernel
theorem d_X_sheet_73 : decode prog_1_method_32_code 73 = .ok (.iload_n 2, 1) := by decide +kernel
theorem d_X_sheet_74 : decode prog_1_method_32_code 74 = .ok (.ifCond .ne 7, 3) := by decide +kernel
theorem d_X_sheet_77 : decode prog_1_method_32_code 77 = .ok (.iconst 0, 1) := by decide +kernel
theorem d_X_sheet_78 : decode prog_1_method_32_code 78 = .ok (.goto 4, 3) := by decide +kernel
theorem d_X_sheet_81 : decode prog_1_method_32_code 81 = .ok (.iload_n 3, 1) := by decide +kernel
theorem d_X_sheet_82 : decode prog_1_method_32_code 82 = .ok (.invokevirtual 254, 3) := by decide +kernel
theorem d_X_sheet_85 : decode prog_1_method_32_code 85 = .ok (.iconst 1, 1) := by decide +kernel
theorem d_X_sheet_86 : decode prog_1_method_32_code 86 = .ok (.ireturn, 1) := by decide +kernel
def w_X_sheet_34 (K : Int32 → sm_Mem → Prop) (p0 : Int32) (p1 : Int32) (p2 : Int32) (μ : sm_Mem) : Prop := w_X_error (fun r4 μ3 => K r4 μ3) 1 μ
def w_X_sheet_82 (K : Int32 → sm_Mem → Prop) (p0 : Int32) (p1 : Int32) (p2 : Int32) (s0 : Int32) (s1 : Int32) (s2 : Nat) (μ : sm_Mem) : Prop := isSheet s2 ∧ w_S_makeAnew (fun μ9 => K 1 μ9) s2 s1 s0 μ
def w_X_sheet_70 (K : Int32 → sm_Mem → Prop) (p0 : Int32) (p1 : Int32) (p2 : Int32) (x4 : Nat) (μ : sm_Mem) : Prop := isSheet x4 ∧ if p1 = 0 then w_X_sheet_82 K p0 p1 p2 0 p1 x4 μ else w_X_sheet_82 K p0 p1 p2 p2 p1 x4 μ
def w_X_sheet_54 (K : Int32 → sm_Mem → Prop) (p0 : Int32) (p1 : Int32) (p2 : Int32) (x4 : Nat) (μ : sm_Mem) : Prop := isSheet x4 ∧ if p1 = 0 then w_X_sheet_70 K p0 p1 p2 x4 μ else (if p2 ≤ 40 then w_X_sheet_70 K p0 p1 p2 x4 μ else w_X_error (fun r12 μ11 => K r12 μ11) 1 μ)
def w_X_sheet_40 (K : Int32 → sm_Mem → Prop) (p0 : Int32) (p1 : Int32) (p2 : Int32) (x4 : Nat) (μ : sm_Mem) : Prop := isSheet x4 ∧ if p1 = 0 then w_X_sheet_54 K p0 p1 p2 x4 μ else (if 0 ≤ p2 then w_X_sheet_54 K p0 p1 p2 x4 μ else w_X_error (fun r15 μ14 => K r15 μ14) 3 μ)
def w_X_sheet (K : Int32 → sm_Mem → Prop) (p0 : Int32) (p1 : Int32) (p2 : Int32) (μ : sm_Mem) : Prop := w_X_rowOf (fun z μ1 => match z with | none => w_X_sheet_34 K p0 p1 p2 μ1 | some k2 => isSheet k2 ∧ (if p1 = 0 then w_X_sheet_40 K p0 p1 p2 k2 μ1 else (if p1 = 8 then w_X_sheet_40 K p0 p1 p2 k2 μ1 else (if p1 = 16 then w_X_sheet_40 K p0 p1 p2 k2 μ1 else (if p1 = 32 then w_X_sheet_40 K p0 p1 p2 k2 μ1 else w_X_sheet_34 K p0 p1 p2 μ1))))) p0 μ
set_option maxHeartbeats 4000000 in
set_option maxRecDepth 100000 in
theorem P_X_sheet (l : Launch) {K : Int32 → sm_Mem → Prop} {p0 : Int32} {p1 : Int32} {p2 : Int32} {μ : sm_Mem} (h : w_X_sheet K p0 p1 p2 μ) : sm_MI l ⟨"SnowMoney", "sheet", "(III)I"⟩ prog_1_method_32_code 5 (some .int) { frames := 2, cells := 0, slots := 0, locals := 46 } [sm_R 0, sm_I p0, sm_I p1, sm_I p2] μ K := by
  refine sm_ofI (by decide +kernel) (fun _ => Nat.le_of_ble_eq_true rfl) ?_
  intro p e s m args below meth c A Q G C hR
  have B34 : ∀ (μ : sm_Mem), w_X_sheet_34 K p0 p1 p2 μ → sm_W p l e { frames := 2, cells := 0, slots := 0, locals := 46 } s m args below meth c A Q G 5 0 0 34 [] [(0, sm_R 0)] μ := by
    intro μ h
    refine sr_aload_n C 0 rfl rfl d_X_sheet_34 ?_
    refine sr_iconst C (v := 1) d_X_sheet_35 (by decide) ?_
    refine sr_callVI C [sm_I _] (P_X_error l h) ok_1 sm_l0 rfl rfl rfl rfl ⟨Nat.le_of_ble_eq_true rfl, Nat.le_of_ble_eq_true rfl⟩ (Nat.le_of_ble_eq_true rfl) ⟨Nat.zero_le _, Nat.zero_le _⟩ d_X_sheet_36 (fun r4 μ3 h => ?_)
    exact hR _ _ _ _ d_X_sheet_39 rfl h
  have B82 : ∀ (s0 : Int32) (s1 : Int32) (s2 : Nat) (μ : sm_Mem), w_X_sheet_82 K p0 p1 p2 s0 s1 s2 μ → sm_W p l e { frames := 2, cells := 0, slots := 0, locals := 46 } s m args below meth c A Q G 5 0 0 82 [sm_I s0, sm_I s1, sm_R s2] [] μ := by
    intro s0 s1 s2 μ h
    obtain ⟨t_s2, h⟩ := h
    refine sr_callVV C [sm_I _, sm_I _] (P_S_makeAnew l h) ok_88 t_s2.1 rfl rfl rfl rfl ⟨Nat.le_of_ble_eq_true rfl, Nat.le_of_ble_eq_true rfl⟩ (Nat.le_of_ble_eq_true rfl) ⟨Nat.zero_le _, Nat.zero_le _⟩ d_X_sheet_82 (fun μ9 h => ?_)
    refine sr_iconst C (v := 1) d_X_sheet_85 (by decide) ?_
    exact hR _ _ _ _ d_X_sheet_86 rfl h
  have B70 : ∀ (x4 : Nat) (μ : sm_Mem), w_X_sheet_70 K p0 p1 p2 x4 μ → sm_W p l e { frames := 2, cells := 0, slots := 0, locals := 46 } s m args below meth c A Q G 5 0 0 70 [] [(2, sm_I p1), (3, sm_I p2), (4, sm_R x4)] μ := by
    intro x4 μ h
    obtain ⟨t_x4, h⟩ := h
    refine sr_aload C 2 rfl d_X_sheet_70 ?_
    refine sr_iload_n C 0 rfl rfl d_X_sheet_72 ?_
    refine sr_iload_n C 0 rfl rfl d_X_sheet_73 ?_
    refine sr_if_ne C (tgt := 81) d_X_sheet_74 (by decide) (fun c8 => ?_) (fun c8 => ?_)
    · replace h := Eq.mp (if_neg c8) h
      refine sr_iload_n C 1 rfl rfl d_X_sheet_81 ?_
      refine sr_mask C [] rfl ?_
      exact B82 _ _ _ _ h
    · replace h := Eq.mp (if_pos c8) h
      refine sr_iconst C (v := 0) d_X_sheet_77 (by decide) ?_
      refine sr_goto C (tgt := 82) (by decide) d_X_sheet_78 ?_
      refine sr_mask C [] rfl ?_
      exact B82 _ _ _ _ h
  have B54 : ∀ (x4 : Nat) (μ : sm_Mem), w_X_sheet_54 K p0 p1 p2 x4 μ → sm_W p l e { frames := 2, cells := 0, slots := 0, locals := 46 } s m args below meth c A Q G 5 0 0 54 [] [(0, sm_R 0), (2, sm_I p1), (3, sm_I p2), (4, sm_R x4)] μ := by
    intro x4 μ h
    obtain ⟨t_x4, h⟩ := h
    refine sr_iload_n C 1 rfl rfl d_X_sheet_54 ?_
    refine sr_if_eq C (tgt := 70) d_X_sheet_55 (by decide) (fun c7 => ?_) (fun c7 => ?_)
    · replace h := Eq.mp (if_pos c7) h
      refine sr_mask C [1, 2, 3] rfl ?_
      exact B70 _ _ h
    · replace h := Eq.mp (if_neg c7) h
      refine sr_iload_n C 2 rfl rfl d_X_sheet_58 ?_
      refine sr_bipush C (v := 40) d_X_sheet_59 (by decide) ?_
      refine sr_icmp_le C (tgt := 70) d_X_sheet_61 (by decide) (fun c10 => ?_) (fun c10 => ?_)
      · replace h := Eq.mp (if_pos c10) h
        refine sr_mask C [1, 2, 3] rfl ?_
        exact B70 _ _ h
      · replace h := Eq.mp (if_neg c10) h
        refine sr_aload_n C 0 rfl rfl d_X_sheet_64 ?_
        refine sr_iconst C (v := 1) d_X_sheet_65 (by decide) ?_
        refine sr_callVI C [sm_I _] (P_X_error l h) ok_1 sm_l0 rfl rfl rfl rfl ⟨Nat.le_of_ble_eq_true rfl, Nat.le_of_ble_eq_true rfl⟩ (Nat.le_of_ble_eq_true rfl) ⟨Nat.zero_le _, Nat.zero_le _⟩ d_X_sheet_66 (fun r12 μ11 h => ?_)
        exact hR _ _ _ _ d_X_sheet_69 rfl h
  have B40 : ∀ (x4 : Nat) (μ : sm_Mem), w_X_sheet_40 K p0 p1 p2 x4 μ → sm_W p l e { frames := 2, cells := 0, slots := 0, locals := 46 } s m args below meth c A Q G 5 0 0 40 [] [(0, sm_R 0), (2, sm_I p1), (3, sm_I p2), (4, sm_R x4)] μ := by
    intro x4 μ h
    obtain ⟨t_x4, h⟩ := h
    refine sr_iload_n C 1 rfl rfl d_X_sheet_40 ?_
    refine sr_if_eq C (tgt := 54) d_X_sheet_41 (by decide) (fun c6 => ?_) (fun c6 => ?_)
    · replace h := Eq.mp (if_pos c6) h
      exact B54 _ _ h
    · replace h := Eq.mp (if_neg c6) h
      refine sr_iload_n C 2 rfl rfl d_X_sheet_44 ?_
      refine sr_if_ge C (tgt := 54) d_X_sheet_45 (by decide) (fun c13 => ?_) (fun c13 => ?_)
      · replace h := Eq.mp (if_pos c13) h
        exact B54 _ _ h
      · replace h := Eq.mp (if_neg c13) h
        refine sr_aload_n C 0 rfl rfl d_X_sheet_48 ?_
        refine sr_iconst C (v := 3) d_X_sheet_49 (by decide) ?_
        refine sr_callVI C [sm_I _] (P_X_error l h) ok_1 sm_l0 rfl rfl rfl rfl ⟨Nat.le_of_ble_eq_true rfl, Nat.le_of_ble_eq_true rfl⟩ (Nat.le_of_ble_eq_true rfl) ⟨Nat.zero_le _, Nat.zero_le _⟩ d_X_sheet_50 (fun r15 μ14 h => ?_)
        exact hR _ _ _ _ d_X_sheet_53 rfl h
  refine sr_aload_n C 0 rfl rfl d_X_sheet_0 ?_
  refine sr_iload_n C 1 rfl rfl d_X_sheet_1 ?_
  refine sr_callVR C [sm_I _] (P_X_rowOf l h) ok_72 sm_l0 rfl rfl rfl rfl ⟨Nat.le_of_ble_eq_true rfl, Nat.le_of_ble_eq_true rfl⟩ (Nat.le_of_ble_eq_true rfl) ⟨Nat.zero_le _, Nat.zero_le _⟩ d_X_sheet_2 (fun z19 μ1 h => ?_)
  rcases z19 with _ | k2
  · refine sr_astoreN C (by decide) d_X_sheet_5 ?_
    refine sr_aloadN C 0 rfl d_X_sheet_7 ?_
    refine sr_ifnullN C (tgt := 34) (by decide) d_X_sheet_9 ?_
    refine sr_mask C [1] rfl ?_
    exact B34 _ h
  · obtain ⟨t_k2, h⟩ := h
    refine sr_astore C (by decide) d_X_sheet_5 ?_
    refine sr_aload C 0 rfl d_X_sheet_7 ?_
    refine sr_ifnullR C d_X_sheet_9 ?_
    refine sr_iload_n C 3 rfl rfl d_X_sheet_12 ?_
    refine sr_if_eq C (tgt := 40) d_X_sheet_13 (by decide) (fun c5 => ?_) (fun c5 => ?_)
    · replace h := Eq.mp (if_pos c5) h
      refine sr_mask C [1, 3, 4, 0] rfl ?_
      exact B40 _ _ h
    · replace h := Eq.mp (if_neg c5) h
      refine sr_iload_n C 3 rfl rfl d_X_sheet_16 ?_
      refine sr_bipush C (v := 8) d_X_sheet_17 (by decide) ?_
      refine sr_icmp_eq C (tgt := 40) d_X_sheet_19 (by decide) (fun c16 => ?_) (fun c16 => ?_)
      · replace h := Eq.mp (if_pos c16) h
        refine sr_mask C [1, 3, 4, 0] rfl ?_
        exact B40 _ _ h
      · replace h := Eq.mp (if_neg c16) h
        refine sr_iload_n C 3 rfl rfl d_X_sheet_22 ?_
        refine sr_bipush C (v := 16) d_X_sheet_23 (by decide) ?_
        refine sr_icmp_eq C (tgt := 40) d_X_sheet_25 (by decide) (fun c17 => ?_) (fun c17 => ?_)
        · replace h := Eq.mp (if_pos c17) h
          refine sr_mask C [1, 3, 4, 0] rfl ?_
          exact B40 _ _ h
        · replace h := Eq.mp (if_neg c17) h
          refine sr_iload_n C 3 rfl rfl d_X_sheet_28 ?_
          refine sr_bipush C (v := 32) d_X_sheet_29 (by decide) ?_
          refine sr_icmp_eq C (tgt := 40) d_X_sheet_31 (by decide) (fun c18 => ?_) (fun c18 => ?_)
          · replace h := Eq.mp (if_pos c18) h
            refine sr_mask C [1, 3, 4, 0] rfl ?_
            exact B40 _ _ h
          · replace h := Eq.mp (if_neg c18) h
            refine sr_mask C [1] rfl ?_
            exact B34 _ h
theorem d_X_put_0 : decode prog_1_method_33_code 0 = .ok (.aload_n 0, 1) := by decide +kernel
theorem d_X_put_1 : decode prog_1_method_33_code 1 = .ok (.iload_n 1, 1) := by decide +kernel
theorem d_X_put_2 : decode prog_1_method_33_code 2 = .ok (.invokevirtual 212, 3) := by decide +kernel
theorem d_X_put_5 : decode prog_1_method_33_code 5 = .ok (.astore 4, 2) := by decide +kernel
theorem d_X_put_7 : decode prog_1_method_33_code 7 = .ok (.aload 4, 2) := by decide +kernel
theorem d_X_put_9 : decode prog_1_method_33_code 9 = .ok (.ifnonnull 9, 3) := by decide +kernel
theorem d_X_put_12 : decode prog_1_method_33_code 12 = .ok (.aload_n 0, 1) := by decide +kernel
theorem d_X_put_13 : decode prog_1_method_33_code 13 = .ok (.iconst 1, 1) := by decide +kernel
theorem d_X_put_14 : decode prog_1_method_33_code 14 = .ok (.invokevirtual 57, 3) := by decide +kernel
theorem d_X_put_17 : decode prog_1_method_33_code 17 = .ok (.ireturn, 1) := by decide +kernel
theorem d_X_put_18 : decode prog_1_method_33_code 18 = .ok (.aload 4, 2) := by decide +kernel
theorem d_X_put_20 : decode prog_1_method_33_code 20 = .ok (.invokevirtual 216, 3) := by decide +kernel
theorem d_X_put_23 : decode prog_1_method_33_code 23 = .ok (.ifCond .eq 9, 3) := by decide +kernel
theorem d_X_put_26 : decode prog_1_method_33_code 26 = .ok (.aload_n 0, 1) := by decide +kernel
theorem d_X_put_27 : decode prog_1_method_33_code 27 = .ok (.iconst 2, 1) := by decide +kernel
theorem d_X_put_28 : decode prog_1_method_33_code 28 = .ok (.invokevirtual 57, 3) := by decide +kernel
theorem d_X_put_31 : decode prog_1_method_33_code 31 = .ok (.ireturn, 1) := by decide +kernel
theorem d_X_put_32 : decode prog_1_method_33_code 32 = .ok (.iload_n 2, 1) := by decide +kernel
theorem d_X_put_33 : decode prog_1_method_33_code 33 = .ok (.iconst 0, 1) := by decide +kernel
theorem d_X_put_34 : decode prog_1_method_33_code 34 = .ok (.aload 4, 2) := by decide +kernel
theorem d_X_put_36 : decode prog_1_method_33_code 36 = .ok (.getfield 219, 3) := by decide +kernel
theorem d_X_put_39 : decode prog_1_method_33_code 39 = .ok (.iconst 1, 1) := by decide +kernel
theorem d_X_put_40 : decode prog_1_method_33_code 40 = .ok (.isub, 1) := by decide +kernel
theorem d_X_put_41 : decode prog_1_method_33_code 41 = .ok (.invokestatic 53, 3) := by decide +kernel
theorem d_X_put_44 : decode prog_1_method_33_code 44 = .ok (.ifCond .ne 9, 3) := by decide +kernel
theorem d_X_put_47 : decode prog_1_method_33_code 47 = .ok (.aload_n 0, 1) := by decide +kernel
theorem d_X_put_48 : decode prog_1_method_33_code 48 = .ok (.iconst 1, 1) := by decide +kernel
theorem d_X_put_49 : decode prog_1_method_33_code 49 = .ok (.invokevirtual 57, 3) := by decide +kernel
theorem d_X_put_52 : decode prog_1_method_33_code 52 = .ok (.ireturn, 1) := by decide +kernel
theorem d_X_put_53 : decode prog_1_method_33_code 53 = .ok (.aload 4, 2) := by decide +kernel
theorem d_X_put_55 : decode prog_1_method_33_code 55 = .ok (.getfield 257, 3) := by decide +kernel
theorem d_X_put_58 : decode prog_1_method_33_code 58 = .ok (.iload_n 2, 1) := by decide +kernel
theorem d_X_put_59 : decode prog_1_method_33_code 59 = .ok (.aload 4, 2) := by decide +kernel
theorem d_X_put_61 : decode prog_1_method_33_code 61 = .ok (.iload_n 3, 1) := by decide +kernel
theorem d_X_put_62 : decode prog_1_method_33_code 62 = .ok (.invokevirtual 260, 3) := by decide +kernel
theorem d_X_put_65 : decode prog_1_method_33_code 65 = .ok (.iastore, 1) := by decide +kernel
theorem d_X_put_66 : decode prog_1_method_33_code 66 = .ok (.iconst 1, 1) := by decide +kernel
theorem d_X_put_67 : decode prog_1_method_33_code 67 = .ok (.ireturn, 1) := by decide +kernel
def w_X_put (K : Int32 → sm_Mem → Prop) (p0 : Int32) (p1 : Int32) (p2 : Int32) (μ : sm_Mem) : Prop := w_X_rowOf (fun z μ1 => match z with | none => w_X_error (fun r4 μ3 => K r4 μ3) 1 μ1 | some k2 => isSheet k2 ∧ (w_S_isMissing (fun r6 μ5 => if r6 = 0 then (w_X_within (fun r9 μ8 => if r9 = 0 then w_X_error (fun r16 μ15 => K r16 μ15) 1 μ8 else (w_S_lowestBits (fun r12 μ11 => vp_in p1 40 ∧ ∀ μ14 : sm_Mem, μ14 = sm_st μ11 (k2 + 1) (p1.toNatClampNeg) r12 → K 1 μ14) k2 p2 μ8)) p1 0 ((μ5 k2 2) - 1) μ5) else w_X_error (fun r18 μ17 => K r18 μ17) 2 μ5) k2 μ1)) p0 μ
set_option maxHeartbeats 4000000 in
set_option maxRecDepth 100000 in
theorem P_X_put (l : Launch) {K : Int32 → sm_Mem → Prop} {p0 : Int32} {p1 : Int32} {p2 : Int32} {μ : sm_Mem} (h : w_X_put K p0 p1 p2 μ) : sm_MI l ⟨"SnowMoney", "put", "(III)I"⟩ prog_1_method_33_code 5 (some .int) { frames := 2, cells := 0, slots := 0, locals := 43 } [sm_R 0, sm_I p0, sm_I p1, sm_I p2] μ K := by
  refine sm_ofI (by decide +kernel) (fun _ => Nat.le_of_ble_eq_true rfl) ?_
  intro p e s m args below meth c A Q G C hR
  refine sr_aload_n C 0 rfl rfl d_X_put_0 ?_
  refine sr_iload_n C 1 rfl rfl d_X_put_1 ?_
  refine sr_callVR C [sm_I _] (P_X_rowOf l h) ok_72 sm_l0 rfl rfl rfl rfl ⟨Nat.le_of_ble_eq_true rfl, Nat.le_of_ble_eq_true rfl⟩ (Nat.le_of_ble_eq_true rfl) ⟨Nat.zero_le _, Nat.zero_le _⟩ d_X_put_2 (fun z19 μ1 h => ?_)
  rcases z19 with _ | k2
  · refine sr_astoreN C (by decide) d_X_put_5 ?_
    refine sr_aloadN C 0 rfl d_X_put_7 ?_
    refine sr_ifnonnullN C d_X_put_9 ?_
    refine sr_aload_n C 1 rfl rfl d_X_put_12 ?_
    refine sr_iconst C (v := 1) d_X_put_13 (by decide) ?_
    refine sr_callVI C [sm_I _] (P_X_error l h) ok_1 sm_l0 rfl rfl rfl rfl ⟨Nat.le_of_ble_eq_true rfl, Nat.le_of_ble_eq_true rfl⟩ (Nat.le_of_ble_eq_true rfl) ⟨Nat.zero_le _, Nat.zero_le _⟩ d_X_put_14 (fun r4 μ3 h => ?_)
    exact hR _ _ _ _ d_X_put_17 rfl h
  · obtain ⟨t_k2, h⟩ := h
    refine sr_astore C (by decide) d_X_put_5 ?_
    refine sr_aload C 0 rfl d_X_put_7 ?_
    refine sr_ifnonnullR C (tgt := 18) (by decide) d_X_put_9 ?_
    refine sr_aload C 0 rfl d_X_put_18 ?_
    refine sr_callVI C [] (P_S_isMissing l h) ok_73 t_k2.1 rfl rfl rfl rfl ⟨Nat.le_of_ble_eq_true rfl, Nat.le_of_ble_eq_true rfl⟩ (Nat.le_of_ble_eq_true rfl) ⟨Nat.zero_le _, Nat.zero_le _⟩ d_X_put_20 (fun r6 μ5 h => ?_)
    refine sr_if_eq C (tgt := 32) d_X_put_23 (by decide) (fun c7 => ?_) (fun c7 => ?_)
    · replace h := Eq.mp (if_pos c7) h
      refine sr_iload_n C 3 rfl rfl d_X_put_32 ?_
      refine sr_iconst C (v := 0) d_X_put_33 (by decide) ?_
      refine sr_aload C 0 rfl d_X_put_34 ?_
      refine sr_getI C sm_F3 2 q_327 t_k2.1 rfl (by decide) d_X_put_36 ?_
      refine sr_iconst C (v := 1) d_X_put_39 (by decide) ?_
      refine sr_isub C d_X_put_40 ?_
      refine sr_callSI C [sm_I _, sm_I _, sm_I _] (P_X_within l h) ok_0 rfl rfl rfl ⟨Nat.le_of_ble_eq_true rfl, Nat.le_of_ble_eq_true rfl⟩ (Nat.le_of_ble_eq_true rfl) ⟨Nat.zero_le _, Nat.zero_le _⟩ d_X_put_41 (fun r9 μ8 h => ?_)
      refine sr_if_ne C (tgt := 53) d_X_put_44 (by decide) (fun c10 => ?_) (fun c10 => ?_)
      · replace h := Eq.mp (if_neg c10) h
        refine sr_aload C 0 rfl d_X_put_53 ?_
        refine sr_getR C sm_F3 0 q_395 t_k2.1 (r := k2 + 1) rfl (by decide) d_X_put_55 ?_
        refine sr_iload_n C 3 rfl rfl d_X_put_58 ?_
        refine sr_aload C 0 rfl d_X_put_59 ?_
        refine sr_iload_n C 4 rfl rfl d_X_put_61 ?_
        refine sr_callVI C [sm_I _] (P_S_lowestBits l h) ok_90 t_k2.1 rfl rfl rfl rfl ⟨Nat.le_of_ble_eq_true rfl, Nat.le_of_ble_eq_true rfl⟩ (Nat.le_of_ble_eq_true rfl) ⟨Nat.zero_le _, Nat.zero_le _⟩ d_X_put_62 (fun r12 μ11 h => ?_)
        obtain ⟨g13, h⟩ := h
        refine sr_iast C t_k2.2 g13 d_X_put_65 ?_
        replace h := h _ rfl
        refine sr_iconst C (v := 1) d_X_put_66 (by decide) ?_
        exact hR _ _ _ _ d_X_put_67 rfl h
      · replace h := Eq.mp (if_pos c10) h
        refine sr_aload_n C 1 rfl rfl d_X_put_47 ?_
        refine sr_iconst C (v := 1) d_X_put_48 (by decide) ?_
        refine sr_callVI C [sm_I _] (P_X_error l h) ok_1 sm_l0 rfl rfl rfl rfl ⟨Nat.le_of_ble_eq_true rfl, Nat.le_of_ble_eq_true rfl⟩ (Nat.le_of_ble_eq_true rfl) ⟨Nat.zero_le _, Nat.zero_le _⟩ d_X_put_49 (fun r16 μ15 h => ?_)
        exact hR _ _ _ _ d_X_put_52 rfl h
    · replace h := Eq.mp (if_neg c7) h
      refine sr_aload_n C 1 rfl rfl d_X_put_26 ?_
      refine sr_iconst C (v := 2) d_X_put_27 (by decide) ?_
      refine sr_callVI C [sm_I _] (P_X_error l h) ok_1 sm_l0 rfl rfl rfl rfl ⟨Nat.le_of_ble_eq_true rfl, Nat.le_of_ble_eq_true rfl⟩ (Nat.le_of_ble_eq_true rfl) ⟨Nat.zero_le _, Nat.zero_le _⟩ d_X_put_28 (fun r18 μ17 h => ?_)
      exact hR _ _ _ _ d_X_put_31 rfl h
theorem d_X_move_0 : decode prog_1_method_34_code 0 = .ok (.aload_n 0, 1) := by decide +kernel
theorem d_X_move_1 : decode prog_1_method_34_code 1 = .ok (.iload_n 1, 1) := by decide +kernel
theorem d_X_move_2 : decode prog_1_method_34_code 2 = .ok (.invokevirtual 212, 3) := by decide +kernel
theorem d_X_move_5 : decode prog_1_method_34_code 5 = .ok (.astore 6, 2) := by decide +kernel
theorem d_X_move_7 : decode prog_1_method_34_code 7 = .ok (.aload_n 0, 1) := by decide +kernel
theorem d_X_move_8 : decode prog_1_method_34_code 8 = .ok (.iload_n 3, 1) := by decide +kernel
theorem d_X_move_9 : decode prog_1_method_34_code 9 = .ok (.invokevirtual 212, 3) := by decide +kernel
theorem d_X_move_12 : decode prog_1_method_34_code 12 = .ok (.astore 7, 2) := by decide +kernel
theorem d_X_move_14 : decode prog_1_method_34_code 14 = .ok (.aload 6, 2) := by decide +kernel
theorem d_X_move_16 : decode prog_1_method_34_code 16 = .ok (.ifnull 8, 3) := by decide +kernel
theorem d_X_move_19 : decode prog_1_method_34_code 19 = .ok (.aload 7, 2) := by decide +kernel
theorem d_X_move_21 : decode prog_1_method_34_code 21 = .ok (.ifnonnull 9, 3) := by decide +kernel
theorem d_X_move_24 : decode prog_1_method_34_code 24 = .ok (.aload_n 0, 1) := by decide +kernel
theorem d_X_move_25 : decode prog_1_method_34_code 25 = .ok (.iconst 1, 1) := by decide +kernel
theorem d_X_move_26 : decode prog_1_method_34_code 26 = .ok (.invokevirtual 57, 3) := by decide +kernel
theorem d_X_move_29 : decode prog_1_method_34_code 29 = .ok (.ireturn, 1) := by decide +kernel
theorem d_X_move_30 : decode prog_1_method_34_code 30 = .ok (.aload 6, 2) := by decide +kernel
theorem d_X_move_32 : decode prog_1_method_34_code 32 = .ok (.invokevirtual 216, 3) := by decide +kernel
theorem d_X_move_35 : decode prog_1_method_34_code 35 = .ok (.ifCond .ne 11, 3) := by decide +kernel
theorem d_X_move_38 : decode prog_1_method_34_code 38 = .ok (.aload 7, 2) := by decide +kernel
theorem d_X_move_40 : decode prog_1_method_34_code 40 = .ok (.invokevirtual 216, 3) := by decide +kernel
theorem d_X_move_43 : decode prog_1_method_34_code 43 = .ok (.ifCond .eq 9, 3) := by decide +kernel
theorem d_X_move_46 : decode prog_1_method_34_code 46 = .ok (.aload_n 0, 1) := by decide +kernel
theorem d_X_move_47 : decode prog_1_method_34_code 47 = .ok (.iconst 2, 1) := by decide +kernel
theorem d_X_move_48 : decode prog_1_method_34_code 48 = .ok (.invokevirtual 57, 3) := by decide +kernel
theorem d_X_move_51 : decode prog_1_method_34_code 51 = .ok (.ireturn, 1) := by decide +kernel
theorem d_X_move_52 : decode prog_1_method_34_code 52 = .ok (.aload 6, 2) := by decide +kernel
theorem d_X_move_54 : decode prog_1_method_34_code 54 = .ok (.getfield 263, 3) := by decide +kernel
theorem d_X_move_57 : decode prog_1_method_34_code 57 = .ok (.aload 7, 2) := by decide +kernel
theorem d_X_move_59 : decode prog_1_method_34_code 59 = .ok (.getfield 263, 3) := by decide +kernel
theorem d_X_move_62 : decode prog_1_method_34_code 62 = .ok (.if_icmp .eq 9, 3) := by decide +kernel
theorem d_X_move_65 : decode prog_1_method_34_code 65 = .ok (.aload_n 0, 1) := by decide +kernel
theorem d_X_move_66 : decode prog_1_method_34_code 66 = .ok (.iconst 5, 1) := by decide +kernel
theorem d_X_move_67 : decode prog_1_method_34_code 67 = .ok (.invokevirtual 57, 3) := by decide +kernel
theorem d_X_move_70 : decode prog_1_method_34_code 70 = .ok (.ireturn, 1) := by decide +kernel
theorem d_X_move_71 : decode prog_1_method_34_code 71 = .ok (.aload 6, 2) := by decide +kernel
theorem d_X_move_73 : decode prog_1_method_34_code 73 = .ok (.iload_n 2, 1) := by decide +kernel
theorem d_X_move_74 : decode prog_1_method_34_code 74 = .ok (.iload 5, 2) := by decide +kernel
theorem d_X_move_76 : decode prog_1_method_34_code 76 = .ok (.invokevirtual 266, 3) := by decide +kernel
theorem d_X_move_79 : decode prog_1_method_34_code 79 = .ok (.ifCond .eq 15, 3) := by decide +kernel
theorem d_X_move_82 : decode prog_1_method_34_code 82 = .ok (.aload 7, 2) := by decide +kernel
theorem d_X_move_84 : decode prog_1_method_34_code 84 = .ok (.iload 4, 2) := by decide +kernel
theorem d_X_move_86 : decode prog_1_method_34_code 86 = .ok (.iload 5, 2) := by decide +kernel
theorem d_X_move_88 : decode prog_1_method_34_code 88 = .ok (.invokevirtual 266, 3) := by decide +kernel
theorem d_X_move_91 : decode prog_1_method_34_code 91 = .ok (.ifCond .ne 9, 3) := by decide +kernel
theorem d_X_move_94 : decode prog_1_method_34_code 94 = .ok (.aload_n 0, 1) := by decide +kernel
theorem d_X_move_95 : decode prog_1_method_34_code 95 = .ok (.iconst 1, 1) := by decide +kernel
theorem d_X_move_96 : decode prog_1_method_34_code 96 = .ok (.invokevirtual 57, 3) := by decide +kernel
theorem d_X_move_99 : decode prog_1_method_34_code 99 = .ok (.ireturn, 1) := by decide +kernel
theorem d_X_move_100 : decode prog_1_method_34_code 100 = .ok (.aload 6, 2) := by decide +kernel
theorem d_X_move_102 : decode prog_1_method_34_code 102 = .ok (.getfield 257, 3) := by decide +kernel
theorem d_X_move_105 : decode prog_1_method_34_code 105 = .ok (.iload_n 2, 1) := by decide +kernel
theorem d_X_move_106 : decode prog_1_method_34_code 106 = .ok (.aload 7, 2) := by decide +kernel
theorem d_X_move_108 : decode prog_1_method_34_code 108 = .ok (.getfield 257, 3) := by decide +kernel
theorem d_X_move_111 : decode prog_1_method_34_code 111 = .ok (.iload 4, 2) := by decide +kernel
theorem d_X_move_113 : decode prog_1_method_34_code 113 = .ok (.iload 5, 2) := by decide +kernel
theorem d_X_move_115 : decode prog_1_method_34_code 115 = .ok (.invokestatic 269, 3) := by decide +kernel
theorem d_X_move_118 : decode prog_1_method_34_code 118 = .ok (.iload 5, 2) := by decide +kernel
theorem d_X_move_120 : decode prog_1_method_34_code 120 = .ok (.ireturn, 1) := by decide +kernel
def w_X_move_24 (K : Int32 → sm_Mem → Prop) (p0 : Int32) (p1 : Int32) (p2 : Int32) (p3 : Int32) (p4 : Int32) (μ : sm_Mem) : Prop := w_X_error (fun r6 μ5 => K r6 μ5) 1 μ
def w_X_move_46 (K : Int32 → sm_Mem → Prop) (p0 : Int32) (p1 : Int32) (p2 : Int32) (p3 : Int32) (p4 : Int32) (μ : sm_Mem) : Prop := w_X_error (fun r14 μ13 => K r14 μ13) 2 μ
def w_X_move_94 (K : Int32 → sm_Mem → Prop) (p0 : Int32) (p1 : Int32) (p2 : Int32) (p3 : Int32) (p4 : Int32) (μ : sm_Mem) : Prop := w_X_error (fun r23 μ22 => K r23 μ22) 1 μ
def w_X_move (K : Int32 → sm_Mem → Prop) (p0 : Int32) (p1 : Int32) (p2 : Int32) (p3 : Int32) (p4 : Int32) (μ : sm_Mem) : Prop := w_X_rowOf (fun z μ1 => match z with | none => (w_X_rowOf (fun z μ3 => match z with | none => w_X_move_24 K p0 p1 p2 p3 p4 μ3 | some k4 => isSheet k4 ∧ w_X_move_24 K p0 p1 p2 p3 p4 μ3) p2 μ1) | some k2 => isSheet k2 ∧ (w_X_rowOf (fun z μ8 => match z with | none => w_X_move_24 K p0 p1 p2 p3 p4 μ8 | some k9 => isSheet k9 ∧ (w_S_isMissing (fun r11 μ10 => if r11 = 0 then (w_S_isMissing (fun r16 μ15 => if r16 = 0 then (if (μ15 k2 1) = (μ15 k9 1) then (w_S_hasRun (fun r20 μ19 => if r20 = 0 then w_X_move_94 K p0 p1 p2 p3 p4 μ19 else (w_S_hasRun (fun r25 μ24 => if r25 = 0 then w_X_move_94 K p0 p1 p2 p3 p4 μ24 else ((¬ p1 < 0) ∧ (¬ p3 < 0) ∧ (¬ p4 < 0) ∧ (p1.toNatClampNeg + p4.toNatClampNeg ≤ 40) ∧ (p3.toNatClampNeg + p4.toNatClampNeg ≤ 40) ∧ ∀ μ32 : sm_Mem, μ32 = sm_cpy μ24 (k2 + 1) (k9 + 1) (p1.toNatClampNeg) (p3.toNatClampNeg) (p4.toNatClampNeg) → K p4 μ32)) k9 p3 p4 μ19)) k2 p1 p4 μ15) else w_X_error (fun r34 μ33 => K r34 μ33) 5 μ15) else w_X_move_46 K p0 p1 p2 p3 p4 μ15) k9 μ10) else w_X_move_46 K p0 p1 p2 p3 p4 μ10) k2 μ8)) p2 μ1)) p0 μ
set_option maxHeartbeats 4000000 in
set_option maxRecDepth 100000 in
theorem P_X_move (l : Launch) {K : Int32 → sm_Mem → Prop} {p0 : Int32} {p1 : Int32} {p2 : Int32} {p3 : Int32} {p4 : Int32} {μ : sm_Mem} (h : w_X_move K p0 p1 p2 p3 p4 μ) : sm_MI l ⟨"SnowMoney", "move", "(IIIII)I"⟩ prog_1_method_34_code 8 (some .int) { frames := 2, cells := 0, slots := 0, locals := 43 } [sm_R 0, sm_I p0, sm_I p1, sm_I p2, sm_I p3, sm_I p4] μ K := by
  refine sm_ofI (by decide +kernel) (fun _ => Nat.le_of_ble_eq_true rfl) ?_
  intro p e s m args below meth c A Q G C hR
  have B24 : ∀ (μ : sm_Mem), w_X_move_24 K p0 p1 p2 p3 p4 μ → sm_W p l e { frames := 2, cells := 0, slots := 0, locals := 43 } s m args below meth c A Q G 8 0 0 24 [] [(0, sm_R 0)] μ := by
    intro μ h
    refine sr_aload_n C 0 rfl rfl d_X_move_24 ?_
    refine sr_iconst C (v := 1) d_X_move_25 (by decide) ?_
    refine sr_callVI C [sm_I _] (P_X_error l h) ok_1 sm_l0 rfl rfl rfl rfl ⟨Nat.le_of_ble_eq_true rfl, Nat.le_of_ble_eq_true rfl⟩ (Nat.le_of_ble_eq_true rfl) ⟨Nat.zero_le _, Nat.zero_le _⟩ d_X_move_26 (fun r6 μ5 h => ?_)
    exact hR _ _ _ _ d_X_move_29 rfl h
  have B46 : ∀ (μ : sm_Mem), w_X_move_46 K p0 p1 p2 p3 p4 μ → sm_W p l e { frames := 2, cells := 0, slots := 0, locals := 43 } s m args below meth c A Q G 8 0 0 46 [] [(0, sm_R 0)] μ := by
    intro μ h
    refine sr_aload_n C 0 rfl rfl d_X_move_46 ?_
    refine sr_iconst C (v := 2) d_X_move_47 (by decide) ?_
    refine sr_callVI C [sm_I _] (P_X_error l h) ok_1 sm_l0 rfl rfl rfl rfl ⟨Nat.le_of_ble_eq_true rfl, Nat.le_of_ble_eq_true rfl⟩ (Nat.le_of_ble_eq_true rfl) ⟨Nat.zero_le _, Nat.zero_le _⟩ d_X_move_48 (fun r14 μ13 h => ?_)
    exact hR _ _ _ _ d_X_move_51 rfl h
  have B94 : ∀ (μ : sm_Mem), w_X_move_94 K p0 p1 p2 p3 p4 μ → sm_W p l e { frames := 2, cells := 0, slots := 0, locals := 43 } s m args below meth c A Q G 8 0 0 94 [] [(0, sm_R 0)] μ := by
    intro μ h
    refine sr_aload_n C 0 rfl rfl d_X_move_94 ?_
    refine sr_iconst C (v := 1) d_X_move_95 (by decide) ?_
    refine sr_callVI C [sm_I _] (P_X_error l h) ok_1 sm_l0 rfl rfl rfl rfl ⟨Nat.le_of_ble_eq_true rfl, Nat.le_of_ble_eq_true rfl⟩ (Nat.le_of_ble_eq_true rfl) ⟨Nat.zero_le _, Nat.zero_le _⟩ d_X_move_96 (fun r23 μ22 h => ?_)
    exact hR _ _ _ _ d_X_move_99 rfl h
  refine sr_aload_n C 0 rfl rfl d_X_move_0 ?_
  refine sr_iload_n C 1 rfl rfl d_X_move_1 ?_
  refine sr_callVR C [sm_I _] (P_X_rowOf l h) ok_72 sm_l0 rfl rfl rfl rfl ⟨Nat.le_of_ble_eq_true rfl, Nat.le_of_ble_eq_true rfl⟩ (Nat.le_of_ble_eq_true rfl) ⟨Nat.zero_le _, Nat.zero_le _⟩ d_X_move_2 (fun z36 μ1 h => ?_)
  rcases z36 with _ | k2
  · refine sr_astoreN C (by decide) d_X_move_5 ?_
    refine sr_aload_n C 1 rfl rfl d_X_move_7 ?_
    refine sr_iload_n C 4 rfl rfl d_X_move_8 ?_
    refine sr_callVR C [sm_I _] (P_X_rowOf l h) ok_72 sm_l0 rfl rfl rfl rfl ⟨Nat.le_of_ble_eq_true rfl, Nat.le_of_ble_eq_true rfl⟩ (Nat.le_of_ble_eq_true rfl) ⟨Nat.zero_le _, Nat.zero_le _⟩ d_X_move_9 (fun z7 μ3 h => ?_)
    rcases z7 with _ | k4
    · refine sr_astoreN C (by decide) d_X_move_12 ?_
      refine sr_aloadN C 1 rfl d_X_move_14 ?_
      refine sr_ifnullN C (tgt := 24) (by decide) d_X_move_16 ?_
      refine sr_mask C [2] rfl ?_
      exact B24 _ h
    · obtain ⟨t_k4, h⟩ := h
      refine sr_astore C (by decide) d_X_move_12 ?_
      refine sr_aloadN C 1 rfl d_X_move_14 ?_
      refine sr_ifnullN C (tgt := 24) (by decide) d_X_move_16 ?_
      refine sr_mask C [2] rfl ?_
      exact B24 _ h
  · obtain ⟨t_k2, h⟩ := h
    refine sr_astore C (by decide) d_X_move_5 ?_
    refine sr_aload_n C 1 rfl rfl d_X_move_7 ?_
    refine sr_iload_n C 4 rfl rfl d_X_move_8 ?_
    refine sr_callVR C [sm_I _] (P_X_rowOf l h) ok_72 sm_l0 rfl rfl rfl rfl ⟨Nat.le_of_ble_eq_true rfl, Nat.le_of_ble_eq_true rfl⟩ (Nat.le_of_ble_eq_true rfl) ⟨Nat.zero_le _, Nat.zero_le _⟩ d_X_move_9 (fun z35 μ8 h => ?_)
    rcases z35 with _ | k9
    · refine sr_astoreN C (by decide) d_X_move_12 ?_
      refine sr_aload C 1 rfl d_X_move_14 ?_
      refine sr_ifnullR C d_X_move_16 ?_
      refine sr_aloadN C 0 rfl d_X_move_19 ?_
      refine sr_ifnonnullN C d_X_move_21 ?_
      refine sr_mask C [2] rfl ?_
      exact B24 _ h
    · obtain ⟨t_k9, h⟩ := h
      refine sr_astore C (by decide) d_X_move_12 ?_
      refine sr_aload C 1 rfl d_X_move_14 ?_
      refine sr_ifnullR C d_X_move_16 ?_
      refine sr_aload C 0 rfl d_X_move_19 ?_
      refine sr_ifnonnullR C (tgt := 30) (by decide) d_X_move_21 ?_
      refine sr_aload C 1 rfl d_X_move_30 ?_
      refine sr_callVI C [] (P_S_isMissing l h) ok_73 t_k2.1 rfl rfl rfl rfl ⟨Nat.le_of_ble_eq_true rfl, Nat.le_of_ble_eq_true rfl⟩ (Nat.le_of_ble_eq_true rfl) ⟨Nat.zero_le _, Nat.zero_le _⟩ d_X_move_32 (fun r11 μ10 h => ?_)
      refine sr_if_ne C (tgt := 46) d_X_move_35 (by decide) (fun c12 => ?_) (fun c12 => ?_)
      · replace h := Eq.mp (if_neg c12) h
        refine sr_mask C [2] rfl ?_
        exact B46 _ h
      · replace h := Eq.mp (if_pos c12) h
        refine sr_aload C 0 rfl d_X_move_38 ?_
        refine sr_callVI C [] (P_S_isMissing l h) ok_73 t_k9.1 rfl rfl rfl rfl ⟨Nat.le_of_ble_eq_true rfl, Nat.le_of_ble_eq_true rfl⟩ (Nat.le_of_ble_eq_true rfl) ⟨Nat.zero_le _, Nat.zero_le _⟩ d_X_move_40 (fun r16 μ15 h => ?_)
        refine sr_if_eq C (tgt := 52) d_X_move_43 (by decide) (fun c17 => ?_) (fun c17 => ?_)
        · replace h := Eq.mp (if_pos c17) h
          refine sr_aload C 1 rfl d_X_move_52 ?_
          refine sr_getI C sm_F3 1 q_400 t_k2.1 rfl (by decide) d_X_move_54 ?_
          refine sr_aload C 0 rfl d_X_move_57 ?_
          refine sr_getI C sm_F3 1 q_400 t_k9.1 rfl (by decide) d_X_move_59 ?_
          refine sr_icmp_eq C (tgt := 71) d_X_move_62 (by decide) (fun c18 => ?_) (fun c18 => ?_)
          · replace h := Eq.mp (if_pos c18) h
            refine sr_aload C 1 rfl d_X_move_71 ?_
            refine sr_iload_n C 4 rfl rfl d_X_move_73 ?_
            refine sr_iload C 7 rfl d_X_move_74 ?_
            refine sr_callVI C [sm_I _, sm_I _] (P_S_hasRun l h) ok_91 t_k2.1 rfl rfl rfl rfl ⟨Nat.le_of_ble_eq_true rfl, Nat.le_of_ble_eq_true rfl⟩ (Nat.le_of_ble_eq_true rfl) ⟨Nat.zero_le _, Nat.zero_le _⟩ d_X_move_76 (fun r20 μ19 h => ?_)
            refine sr_if_eq C (tgt := 94) d_X_move_79 (by decide) (fun c21 => ?_) (fun c21 => ?_)
            · replace h := Eq.mp (if_pos c21) h
              refine sr_mask C [2] rfl ?_
              exact B94 _ h
            · replace h := Eq.mp (if_neg c21) h
              refine sr_aload C 0 rfl d_X_move_82 ?_
              refine sr_iload C 6 rfl d_X_move_84 ?_
              refine sr_iload C 7 rfl d_X_move_86 ?_
              refine sr_callVI C [sm_I _, sm_I _] (P_S_hasRun l h) ok_91 t_k9.1 rfl rfl rfl rfl ⟨Nat.le_of_ble_eq_true rfl, Nat.le_of_ble_eq_true rfl⟩ (Nat.le_of_ble_eq_true rfl) ⟨Nat.zero_le _, Nat.zero_le _⟩ d_X_move_88 (fun r25 μ24 h => ?_)
              refine sr_if_ne C (tgt := 100) d_X_move_91 (by decide) (fun c26 => ?_) (fun c26 => ?_)
              · replace h := Eq.mp (if_neg c26) h
                refine sr_aload C 1 rfl d_X_move_100 ?_
                refine sr_getR C sm_F3 0 q_395 t_k2.1 (r := k2 + 1) rfl (by decide) d_X_move_102 ?_
                refine sr_iload_n C 4 rfl rfl d_X_move_105 ?_
                refine sr_aload C 0 rfl d_X_move_106 ?_
                refine sr_getR C sm_F3 0 q_395 t_k9.1 (r := k9 + 1) rfl (by decide) d_X_move_108 ?_
                refine sr_iload C 6 rfl d_X_move_111 ?_
                refine sr_iload C 7 rfl d_X_move_113 ?_
                obtain ⟨g27, h⟩ := h
                obtain ⟨g28, h⟩ := h
                obtain ⟨g29, h⟩ := h
                obtain ⟨g30, h⟩ := h
                obtain ⟨g31, h⟩ := h
                refine sr_copy C t_k2.2 t_k9.2 g27 g28 g29 g30 g31 q_405 q_sysn q_syss q_sysi (Nat.le_of_ble_eq_true rfl) (Nat.le_of_ble_eq_true rfl) d_X_move_115 ?_
                replace h := h _ rfl
                refine sr_iload C 7 rfl d_X_move_118 ?_
                exact hR _ _ _ _ d_X_move_120 rfl h
              · replace h := Eq.mp (if_pos c26) h
                refine sr_mask C [2] rfl ?_
                exact B94 _ h
          · replace h := Eq.mp (if_neg c18) h
            refine sr_aload_n C 2 rfl rfl d_X_move_65 ?_
            refine sr_iconst C (v := 5) d_X_move_66 (by decide) ?_
            refine sr_callVI C [sm_I _] (P_X_error l h) ok_1 sm_l0 rfl rfl rfl rfl ⟨Nat.le_of_ble_eq_true rfl, Nat.le_of_ble_eq_true rfl⟩ (Nat.le_of_ble_eq_true rfl) ⟨Nat.zero_le _, Nat.zero_le _⟩ d_X_move_67 (fun r34 μ33 h => ?_)
            exact hR _ _ _ _ d_X_move_70 rfl h
        · replace h := Eq.mp (if_neg c17) h
          refine sr_mask C [2] rfl ?_
          exact B46 _ h
theorem d_X_snows_0 : decode prog_1_method_35_code 0 = .ok (.aload_n 0, 1) := by decide +kernel
theorem d_X_snows_1 : decode prog_1_method_35_code 1 = .ok (.iload_n 1, 1) := by decide +kernel
theorem d_X_snows_2 : decode prog_1_method_35_code 2 = .ok (.invokevirtual 212, 3) := by decide +kernel
theorem d_X_snows_5 : decode prog_1_method_35_code 5 = .ok (.astore_n 2, 1) := by decide +kernel
theorem d_X_snows_6 : decode prog_1_method_35_code 6 = .ok (.aload_n 2, 1) := by decide +kernel
theorem d_X_snows_7 : decode prog_1_method_35_code 7 = .ok (.ifnonnull 9, 3) := by decide +kernel
theorem d_X_snows_10 : decode prog_1_method_35_code 10 = .ok (.aload_n 0, 1) := by decide +kernel
theorem d_X_snows_11 : decode prog_1_method_35_code 11 = .ok (.iconst 1, 1) := by decide +kernel
theorem d_X_snows_12 : decode prog_1_method_35_code 12 = .ok (.invokevirtual 57, 3) := by decide +kernel
theorem d_X_snows_15 : decode prog_1_method_35_code 15 = .ok (.ireturn, 1) := by decide +kernel
theorem d_X_snows_16 : decode prog_1_method_35_code 16 = .ok (.aload_n 2, 1) := by decide +kernel
theorem d_X_snows_17 : decode prog_1_method_35_code 17 = .ok (.invokevirtual 216, 3) := by decide +kernel
theorem d_X_snows_20 : decode prog_1_method_35_code 20 = .ok (.ifCond .eq 9, 3) := by decide +kernel
theorem d_X_snows_23 : decode prog_1_method_35_code 23 = .ok (.aload_n 0, 1) := by decide +kernel
theorem d_X_snows_24 : decode prog_1_method_35_code 24 = .ok (.iconst 2, 1) := by decide +kernel
theorem d_X_snows_25 : decode prog_1_method_35_code 25 = .ok (.invokevirtual 57, 3) := by decide +kernel
theorem d_X_snows_28 : decode prog_1_method_35_code 28 = .ok (.ireturn, 1) := by decide +kernel
theorem d_X_snows_29 : decode prog_1_method_35_code 29 = .ok (.aload_n 2, 1) := by decide +kernel
theorem d_X_snows_30 : decode prog_1_method_35_code 30 = .ok (.getfield 219, 3) := by decide +kernel
theorem d_X_snows_33 : decode prog_1_method_35_code 33 = .ok (.aload_n 0, 1) := by decide +kernel
theorem d_X_snows_34 : decode prog_1_method_35_code 34 = .ok (.getfield 10, 3) := by decide +kernel
theorem d_X_snows_37 : decode prog_1_method_35_code 37 = .ok (.getfield 83, 3) := by decide +kernel
theorem d_X_snows_40 : decode prog_1_method_35_code 40 = .ok (.invokestatic 275, 3) := by decide +kernel
theorem d_X_snows_43 : decode prog_1_method_35_code 43 = .ok (.istore_n 3, 1) := by decide +kernel
theorem d_X_snows_44 : decode prog_1_method_35_code 44 = .ok (.iconst 0, 1) := by decide +kernel
theorem d_X_snows_45 : decode prog_1_method_35_code 45 = .ok (.istore 4, 2) := by decide +kernel
theorem d_X_snows_47 : decode prog_1_method_35_code 47 = .ok (.iload 4, 2) := by decide +kernel
theorem d_X_snows_49 : decode prog_1_method_35_code 49 = .ok (.iload_n 3, 1) := by decide +kernel
theorem d_X_snows_50 : decode prog_1_method_35_code 50 = .ok (.if_icmp .ge 46, 3) := by decide +kernel
theorem d_X_snows_53 : decode prog_1_method_35_code 53 = .ok (.aload_n 2, 1) := by decide +kernel
theorem d_X_snows_54 : decode prog_1_method_35_code 54 = .ok (.getfield 257, 3) := by decide +kernel
theorem d_X_snows_57 : decode prog_1_method_35_code 57 = .ok (.iload 4, 2) := by decide +kernel
theorem d_X_snows_59 : decode prog_1_method_35_code 59 = .ok (.iaload, 1) := by decide +kernel
theorem d_X_snows_60 : decode prog_1_method_35_code 60 = .ok (.iconst 0, 1) := by decide +kernel
theorem d_X_snows_61 : decode prog_1_method_35_code 61 = .ok (.sipush 999, 3) := by decide +kernel
theorem d_X_snows_64 : decode prog_1_method_35_code 64 = .ok (.invokestatic 53, 3) := by decide +kernel
theorem d_X_snows_67 : decode prog_1_method_35_code 67 = .ok (.ifCond .ne 6, 3) := by decide +kernel
theorem d_X_snows_70 : decode prog_1_method_35_code 70 = .ok (.iload 4, 2) := by decide +kernel
theorem d_X_snows_72 : decode prog_1_method_35_code 72 = .ok (.ireturn, 1) := by decide +kernel
theorem d_X_snows_73 : decode prog_1_method_35_code 73 = .ok (.aload_n 0, 1) := by decide +kernel
theorem d_X_snows_74 : decode prog_1_method_35_code 74 = .ok (.getfield 10, 3) := by decide +kernel
theorem d_X_snows_77 : decode prog_1_method_35_code 77 = .ok (.getfield 92, 3) := by decide +kernel
theorem d_X_snows_80 : decode prog_1_method_35_code 80 = .ok (.iload 4, 2) := by decide +kernel
theorem d_X_snows_82 : decode prog_1_method_35_code 82 = .ok (.aload_n 2, 1) := by decide +kernel
theorem d_X_snows_83 : decode prog_1_method_35_code 83 = .ok (.getfield 257, 3) := by decide +kernel
theorem d_X_snows_86 : decode prog_1_method_35_code 86 = .ok (.iload 4, 2) := by decide +kernel
theorem d_X_snows_88 : decode prog_1_method_35_code 88 = .ok (.iaload, 1) := by decide +kernel
theorem d_X_snows_89 : decode prog_1_method_35_code 89 = .ok (.iastore, 1) := by decide +kernel
theorem d_X_snows_90 : decode prog_1_method_35_code 90 = .ok (.iinc 4 1, 3) := by decide +kernel
theorem d_X_snows_93 : decode prog_1_method_35_code 93 = .ok (.goto (-46), 3) := by decide +kernel
theorem d_X_snows_96 : decode prog_1_method_35_code 96 = .ok (.iload_n 3, 1) := by decide +kernel
theorem d_X_snows_97 : decode prog_1_method_35_code 97 = .ok (.ireturn, 1) := by decide +kernel
def w_X_snows_47 (K : Int32 → sm_Mem → Prop) (p0 : Int32) (x2 : Nat) (x3 : Int32) (x4 : Int32) (μ : sm_Mem) : Prop := isSheet x2 ∧ sm_lp1 (fun J47 x4 μ => if x3 ≤ x4 then K x3 μ else (vp_in x4 40 ∧ w_X_within (fun r12 μ11 => if r12 = 0 then K x4 μ11 else (vp_in x4 40 ∧ vp_in x4 10 ∧ ∀ μ16 : sm_Mem, μ16 = sm_st μ11 6 (x4.toNatClampNeg) (μ11 (x2 + 1) x4.toNatClampNeg) → J47 (x4 + 1) μ16)) (μ (x2 + 1) x4.toNatClampNeg) 0 999 μ)) x4 μ
def w_X_snows (K : Int32 → sm_Mem → Prop) (p0 : Int32) (μ : sm_Mem) : Prop := w_X_rowOf (fun z μ1 => match z with | none => w_X_error (fun r4 μ3 => K r4 μ3) 1 μ1 | some k2 => isSheet k2 ∧ (w_S_isMissing (fun r6 μ5 => if r6 = 0 then (∀ v8 : Int32, v8 = (if (μ5 1 12) < (μ5 k2 2) then (μ5 1 12) else (μ5 k2 2)) → w_X_snows_47 K p0 k2 v8 0 μ5) else w_X_error (fun r18 μ17 => K r18 μ17) 2 μ5) k2 μ1)) p0 μ
set_option maxHeartbeats 4000000 in
set_option maxRecDepth 100000 in
theorem P_X_snows (l : Launch) {K : Int32 → sm_Mem → Prop} {p0 : Int32} {μ : sm_Mem} (h : w_X_snows K p0 μ) : sm_MI l ⟨"SnowMoney", "snows", "(I)I"⟩ prog_1_method_35_code 5 (some .int) { frames := 2, cells := 0, slots := 0, locals := 43 } [sm_R 0, sm_I p0] μ K := by
  refine sm_ofI (by decide +kernel) (fun _ => Nat.le_of_ble_eq_true rfl) ?_
  intro p e s m args below meth c A Q G C hR
  have B47 : ∀ (x2 : Nat) (x3 : Int32) (x4 : Int32) (μ : sm_Mem), w_X_snows_47 K p0 x2 x3 x4 μ → sm_W p l e { frames := 2, cells := 0, slots := 0, locals := 43 } s m args below meth c A Q G 5 0 0 47 [] [(0, sm_R 0), (2, sm_R x2), (3, sm_I x3), (4, sm_I x4)] μ := by
    intro x2 x3 x4 μ h
    obtain ⟨t_x2, h⟩ := h
    refine sm_lp1_sound (P := fun x4 μ => sm_W p l e { frames := 2, cells := 0, slots := 0, locals := 43 } s m args below meth c A Q G 5 0 0 47 [] [(0, sm_R 0), (2, sm_R x2), (3, sm_I x3), (4, sm_I x4)] μ) (fun J47 x4 μ hJ47 h => ?_) h
    refine sr_iload C 3 rfl d_X_snows_47 ?_
    refine sr_iload_n C 2 rfl rfl d_X_snows_49 ?_
    refine sr_icmp_ge C (tgt := 96) d_X_snows_50 (by decide) (fun c9 => ?_) (fun c9 => ?_)
    · replace h := Eq.mp (if_pos c9) h
      refine sr_iload_n C 2 rfl rfl d_X_snows_96 ?_
      exact hR _ _ _ _ d_X_snows_97 rfl h
    · replace h := Eq.mp (if_neg c9) h
      refine sr_aload_n C 1 rfl rfl d_X_snows_53 ?_
      refine sr_getR C sm_F3 0 q_395 t_x2.1 (r := x2 + 1) rfl (by decide) d_X_snows_54 ?_
      refine sr_iload C 3 rfl d_X_snows_57 ?_
      obtain ⟨g10, h⟩ := h
      refine sr_iald C t_x2.2 g10 d_X_snows_59 ?_
      refine sr_iconst C (v := 0) d_X_snows_60 (by decide) ?_
      refine sr_sipush C (v := 999) d_X_snows_61 (by decide) ?_
      refine sr_callSI C [sm_I _, sm_I _, sm_I _] (P_X_within l h) ok_0 rfl rfl rfl ⟨Nat.le_of_ble_eq_true rfl, Nat.le_of_ble_eq_true rfl⟩ (Nat.le_of_ble_eq_true rfl) ⟨Nat.zero_le _, Nat.zero_le _⟩ d_X_snows_64 (fun r12 μ11 h => ?_)
      refine sr_if_ne C (tgt := 73) d_X_snows_67 (by decide) (fun c13 => ?_) (fun c13 => ?_)
      · replace h := Eq.mp (if_neg c13) h
        refine sr_aload_n C 0 rfl rfl d_X_snows_73 ?_
        refine sr_getR C sm_F6 0 q_4 sm_l0 (r := 1) rfl (by decide) d_X_snows_74 ?_
        refine sr_getR C sm_F0 4 q_38 sm_l1 (r := 6) rfl (by decide) d_X_snows_77 ?_
        refine sr_iload C 3 rfl d_X_snows_80 ?_
        refine sr_aload_n C 1 rfl rfl d_X_snows_82 ?_
        refine sr_getR C sm_F3 0 q_395 t_x2.1 (r := x2 + 1) rfl (by decide) d_X_snows_83 ?_
        refine sr_iload C 3 rfl d_X_snows_86 ?_
        obtain ⟨g14, h⟩ := h
        refine sr_iald C t_x2.2 g14 d_X_snows_88 ?_
        obtain ⟨g15, h⟩ := h
        refine sr_iast C sm_l6 g15 d_X_snows_89 ?_
        replace h := h _ rfl
        refine sr_iinc C 3 rfl (by decide) d_X_snows_90 rfl ?_
        refine sr_goto C (tgt := 47) (by decide) d_X_snows_93 ?_
        refine sr_mask C [1, 2, 3, 0] rfl ?_
        exact hJ47 _ _ h
      · replace h := Eq.mp (if_pos c13) h
        refine sr_iload C 3 rfl d_X_snows_70 ?_
        exact hR _ _ _ _ d_X_snows_72 rfl h
  refine sr_aload_n C 0 rfl rfl d_X_snows_0 ?_
  refine sr_iload_n C 1 rfl rfl d_X_snows_1 ?_
  refine sr_callVR C [sm_I _] (P_X_rowOf l h) ok_72 sm_l0 rfl rfl rfl rfl ⟨Nat.le_of_ble_eq_true rfl, Nat.le_of_ble_eq_true rfl⟩ (Nat.le_of_ble_eq_true rfl) ⟨Nat.zero_le _, Nat.zero_le _⟩ d_X_snows_2 (fun z19 μ1 h => ?_)
  rcases z19 with _ | k2
  · refine sr_astoreN_n C rfl (by decide) d_X_snows_5 ?_
    refine sr_aloadN_n C 0 rfl rfl d_X_snows_6 ?_
    refine sr_ifnonnullN C d_X_snows_7 ?_
    refine sr_aload_n C 1 rfl rfl d_X_snows_10 ?_
    refine sr_iconst C (v := 1) d_X_snows_11 (by decide) ?_
    refine sr_callVI C [sm_I _] (P_X_error l h) ok_1 sm_l0 rfl rfl rfl rfl ⟨Nat.le_of_ble_eq_true rfl, Nat.le_of_ble_eq_true rfl⟩ (Nat.le_of_ble_eq_true rfl) ⟨Nat.zero_le _, Nat.zero_le _⟩ d_X_snows_12 (fun r4 μ3 h => ?_)
    exact hR _ _ _ _ d_X_snows_15 rfl h
  · obtain ⟨t_k2, h⟩ := h
    refine sr_astore_n C rfl (by decide) d_X_snows_5 ?_
    refine sr_aload_n C 0 rfl rfl d_X_snows_6 ?_
    refine sr_ifnonnullR C (tgt := 16) (by decide) d_X_snows_7 ?_
    refine sr_aload_n C 0 rfl rfl d_X_snows_16 ?_
    refine sr_callVI C [] (P_S_isMissing l h) ok_73 t_k2.1 rfl rfl rfl rfl ⟨Nat.le_of_ble_eq_true rfl, Nat.le_of_ble_eq_true rfl⟩ (Nat.le_of_ble_eq_true rfl) ⟨Nat.zero_le _, Nat.zero_le _⟩ d_X_snows_17 (fun r6 μ5 h => ?_)
    refine sr_if_eq C (tgt := 29) d_X_snows_20 (by decide) (fun c7 => ?_) (fun c7 => ?_)
    · replace h := Eq.mp (if_pos c7) h
      refine sr_aload_n C 0 rfl rfl d_X_snows_29 ?_
      refine sr_getI C sm_F3 2 q_327 t_k2.1 rfl (by decide) d_X_snows_30 ?_
      refine sr_aload_n C 1 rfl rfl d_X_snows_33 ?_
      refine sr_getR C sm_F6 0 q_4 sm_l0 (r := 1) rfl (by decide) d_X_snows_34 ?_
      refine sr_getI C sm_F0 12 q_35 sm_l1 rfl (by decide) d_X_snows_37 ?_
      refine sr_mmin C q_406 q_mmin1 q_mini q_mmin2 (Nat.le_of_ble_eq_true rfl) (Nat.le_of_ble_eq_true rfl) ⟨Nat.zero_le _, Nat.zero_le _⟩ d_X_snows_40 ?_
      replace h := h _ rfl
      refine sr_istore_n C rfl (by decide) d_X_snows_43 ?_
      refine sr_iconst C (v := 0) d_X_snows_44 (by decide) ?_
      refine sr_istore C (by decide) d_X_snows_45 ?_
      refine sr_mask C [3, 2, 1, 0] rfl ?_
      exact B47 _ _ _ _ h
    · replace h := Eq.mp (if_neg c7) h
      refine sr_aload_n C 1 rfl rfl d_X_snows_23 ?_
      refine sr_iconst C (v := 2) d_X_snows_24 (by decide) ?_
      refine sr_callVI C [sm_I _] (P_X_error l h) ok_1 sm_l0 rfl rfl rfl rfl ⟨Nat.le_of_ble_eq_true rfl, Nat.le_of_ble_eq_true rfl⟩ (Nat.le_of_ble_eq_true rfl) ⟨Nat.zero_le _, Nat.zero_le _⟩ d_X_snows_25 (fun r18 μ17 h => ?_)
      exact hR _ _ _ _ d_X_snows_28 rfl h
theorem d_X_judge_0 : decode prog_1_method_36_code 0 = .ok (.aload_n 0, 1) := by decide +kernel
theorem d_X_judge_1 : decode prog_1_method_36_code 1 = .ok (.iload_n 1, 1) := by decide +kernel
theorem d_X_judge_2 : decode prog_1_method_36_code 2 = .ok (.invokevirtual 212, 3) := by decide +kernel
theorem d_X_judge_5 : decode prog_1_method_36_code 5 = .ok (.astore_n 2, 1) := by decide +kernel
theorem d_X_judge_6 : decode prog_1_method_36_code 6 = .ok (.aload_n 2, 1) := by decide +kernel
theorem d_X_judge_7 : decode prog_1_method_36_code 7 = .ok (.ifnonnull 9, 3) := by decide +kernel
theorem d_X_judge_10 : decode prog_1_method_36_code 10 = .ok (.aload_n 0, 1) := by decide +kernel
theorem d_X_judge_11 : decode prog_1_method_36_code 11 = .ok (.iconst 1, 1) := by decide +kernel
theorem d_X_judge_12 : decode prog_1_method_36_code 12 = .ok (.invokevirtual 57, 3) := by decide +kernel
theorem d_X_judge_15 : decode prog_1_method_36_code 15 = .ok (.ireturn, 1) := by decide +kernel
theorem d_X_judge_16 : decode prog_1_method_36_code 16 = .ok (.aload_n 2, 1) := by decide +kernel
theorem d_X_judge_17 : decode prog_1_method_36_code 17 = .ok (.invokevirtual 216, 3) := by decide +kernel
theorem d_X_judge_20 : decode prog_1_method_36_code 20 = .ok (.ifCond .eq 9, 3) := by decide +kernel
theorem d_X_judge_23 : decode prog_1_method_36_code 23 = .ok (.aload_n 0, 1) := by decide +kernel
theorem d_X_judge_24 : decode prog_1_method_36_code 24 = .ok (.iconst 2, 1) := by decide +kernel
theorem d_X_judge_25 : decode prog_1_method_36_code 25 = .ok (.invokevirtual 57, 3) := by decide +kernel
theorem d_X_judge_28 : decode prog_1_method_36_code 28 = .ok (.ireturn, 1) := by decide +kernel
theorem d_X_judge_29 : decode prog_1_method_36_code 29 = .ok (.aload_n 2, 1) := by decide +kernel
theorem d_X_judge_30 : decode prog_1_method_36_code 30 = .ok (.getfield 219, 3) := by decide +kernel
theorem d_X_judge_33 : decode prog_1_method_36_code 33 = .ok (.aload_n 0, 1) := by decide +kernel
theorem d_X_judge_34 : decode prog_1_method_36_code 34 = .ok (.getfield 10, 3) := by decide +kernel
theorem d_X_judge_37 : decode prog_1_method_36_code 37 = .ok (.getfield 83, 3) := by decide +kernel
theorem d_X_judge_40 : decode prog_1_method_36_code 40 = .ok (.invokestatic 275, 3) := by decide +kernel
theorem d_X_judge_43 : decode prog_1_method_36_code 43 = .ok (.istore_n 3, 1) := by decide +kernel
theorem d_X_judge_44 : decode prog_1_method_36_code 44 = .ok (.iconst 0, 1) := by decide +kernel
theorem d_X_judge_45 : decode prog_1_method_36_code 45 = .ok (.istore 4, 2) := by decide +kernel
theorem d_X_judge_47 : decode prog_1_method_36_code 47 = .ok (.iload 4, 2) := by decide +kernel
theorem d_X_judge_49 : decode prog_1_method_36_code 49 = .ok (.iload_n 3, 1) := by decide +kernel
theorem d_X_judge_50 : decode prog_1_method_36_code 50 = .ok (.if_icmp .ge 41, 3) := by decide +kernel
theorem d_X_judge_53 : decode prog_1_method_36_code 53 = .ok (.aload_n 2, 1) := by decide +kernel
theorem d_X_judge_54 : decode prog_1_method_36_code 54 = .ok (.getfield 257, 3) := by decide +kernel
theorem d_X_judge_57 : decode prog_1_method_36_code 57 = .ok (.iload 4, 2) := by decide +kernel
theorem d_X_judge_59 : decode prog_1_method_36_code 59 = .ok (.iaload, 1) := by decide +kernel
theorem d_X_judge_60 : decode prog_1_method_36_code 60 = .ok (.aload_n 0, 1) := by decide +kernel
theorem d_X_judge_61 : decode prog_1_method_36_code 61 = .ok (.getfield 10, 3) := by decide +kernel
theorem d_X_judge_64 : decode prog_1_method_36_code 64 = .ok (.iload 4, 2) := by decide +kernel
theorem d_X_judge_66 : decode prog_1_method_36_code 66 = .ok (.aload_n 0, 1) := by decide +kernel
theorem d_X_judge_67 : decode prog_1_method_36_code 67 = .ok (.getfield 10, 3) := by decide +kernel
theorem d_X_judge_70 : decode prog_1_method_36_code 70 = .ok (.getfield 92, 3) := by decide +kernel
theorem d_X_judge_73 : decode prog_1_method_36_code 73 = .ok (.iload 4, 2) := by decide +kernel
theorem d_X_judge_75 : decode prog_1_method_36_code 75 = .ok (.iaload, 1) := by decide +kernel
theorem d_X_judge_76 : decode prog_1_method_36_code 76 = .ok (.invokevirtual 107, 3) := by decide +kernel
theorem d_X_judge_79 : decode prog_1_method_36_code 79 = .ok (.if_icmp .eq 6, 3) := by decide +kernel
theorem d_X_judge_82 : decode prog_1_method_36_code 82 = .ok (.iload 4, 2) := by decide +kernel
theorem d_X_judge_84 : decode prog_1_method_36_code 84 = .ok (.ireturn, 1) := by decide +kernel
theorem d_X_judge_85 : decode prog_1_method_36_code 85 = .ok (.iinc 4 1, 3) := by decide +kernel
theorem d_X_judge_88 : decode prog_1_method_36_code 88 = .ok (.goto (-41), 3) := by decide +kernel
theorem d_X_judge_91 : decode prog_1_method_36_code 91 = .ok (.aload_n 2, 1) := by decide +kernel
theorem d_X_judge_92 : decode prog_1_method_36_code 92 = .ok (.getfield 219, 3) := by decide +kernel
theorem d_X_judge_95 : decode prog_1_method_36_code 95 = .ok (.aload_n 0, 1) := by decide +kernel
theorem d_X_judge_96 : decode prog_1_method_36_code 96 = .ok (.getfield 10, 3) := by decide +kernel
theorem d_X_judge_99 : decode prog_1_method_36_code 99 = .ok (.getfield 83, 3) := by decide +kernel
theorem d_X_judge_102 : decode prog_1_method_36_code 102 = .ok (.if_icmp .ne 7, 3) := by decide +kernel
theorem d_X_judge_105 : decode prog_1_method_36_code 105 = .ok (.iconst (-1), 1) := by decide +kernel
theorem d_X_judge_106 : decode prog_1_method_36_code 106 = .ok (.goto 4, 3) := by decide +kernel
theorem d_X_judge_109 : decode prog_1_method_36_code 109 = .ok (.iload_n 3, 1) := by decide +kernel
theorem d_X_judge_110 : decode prog_1_method_36_code 110 = .ok (.ireturn, 1) := by decide +kernel
def w_X_judge_47 (K : Int32 → sm_Mem → Prop) (p0 : Int32) (x2 : Nat) (x3 : Int32) (x4 : Int32) (μ : sm_Mem) : Prop := isSheet x2 ∧ sm_lp1 (fun J47 x4 μ => if x3 ≤ x4 then (if (μ x2 2) = (μ 1 12) then K (-1) μ else K x3 μ) else (vp_in x4 40 ∧ vp_in x4 10 ∧ w_D_paysWith (fun r14 μ13 => if (μ (x2 + 1) x4.toNatClampNeg) = r14 then J47 (x4 + 1) μ13 else K x4 μ13) x4 (μ 6 x4.toNatClampNeg) μ)) x4 μ
def w_X_judge (K : Int32 → sm_Mem → Prop) (p0 : Int32) (μ : sm_Mem) : Prop := w_X_rowOf (fun z μ1 => match z with | none => w_X_error (fun r4 μ3 => K r4 μ3) 1 μ1 | some k2 => isSheet k2 ∧ (w_S_isMissing (fun r6 μ5 => if r6 = 0 then (∀ v8 : Int32, v8 = (if (μ5 1 12) < (μ5 k2 2) then (μ5 1 12) else (μ5 k2 2)) → w_X_judge_47 K p0 k2 v8 0 μ5) else w_X_error (fun r17 μ16 => K r17 μ16) 2 μ5) k2 μ1)) p0 μ
set_option maxHeartbeats 4000000 in
set_option maxRecDepth 100000 in
theorem P_X_judge (l : Launch) {K : Int32 → sm_Mem → Prop} {p0 : Int32} {μ : sm_Mem} (h : w_X_judge K p0 μ) : sm_MI l ⟨"SnowMoney", "judge", "(I)I"⟩ prog_1_method_36_code 5 (some .int) { frames := 4, cells := 0, slots := 0, locals := 95 } [sm_R 0, sm_I p0] μ K := by
  refine sm_ofI (by decide +kernel) (fun _ => Nat.le_of_ble_eq_true rfl) ?_
  intro p e s m args below meth c A Q G C hR
  have B47 : ∀ (x2 : Nat) (x3 : Int32) (x4 : Int32) (μ : sm_Mem), w_X_judge_47 K p0 x2 x3 x4 μ → sm_W p l e { frames := 4, cells := 0, slots := 0, locals := 95 } s m args below meth c A Q G 5 0 0 47 [] [(0, sm_R 0), (2, sm_R x2), (3, sm_I x3), (4, sm_I x4)] μ := by
    intro x2 x3 x4 μ h
    obtain ⟨t_x2, h⟩ := h
    refine sm_lp1_sound (P := fun x4 μ => sm_W p l e { frames := 4, cells := 0, slots := 0, locals := 95 } s m args below meth c A Q G 5 0 0 47 [] [(0, sm_R 0), (2, sm_R x2), (3, sm_I x3), (4, sm_I x4)] μ) (fun J47 x4 μ hJ47 h => ?_) h
    refine sr_iload C 3 rfl d_X_judge_47 ?_
    refine sr_iload_n C 2 rfl rfl d_X_judge_49 ?_
    refine sr_icmp_ge C (tgt := 91) d_X_judge_50 (by decide) (fun c9 => ?_) (fun c9 => ?_)
    · replace h := Eq.mp (if_pos c9) h
      refine sr_aload_n C 1 rfl rfl d_X_judge_91 ?_
      refine sr_getI C sm_F3 2 q_327 t_x2.1 rfl (by decide) d_X_judge_92 ?_
      refine sr_aload_n C 0 rfl rfl d_X_judge_95 ?_
      refine sr_getR C sm_F6 0 q_4 sm_l0 (r := 1) rfl (by decide) d_X_judge_96 ?_
      refine sr_getI C sm_F0 12 q_35 sm_l1 rfl (by decide) d_X_judge_99 ?_
      refine sr_icmp_ne C (tgt := 109) d_X_judge_102 (by decide) (fun c10 => ?_) (fun c10 => ?_)
      · replace h := Eq.mp (if_neg c10) h
        refine sr_iload_n C 2 rfl rfl d_X_judge_109 ?_
        exact hR _ _ _ _ d_X_judge_110 rfl h
      · replace h := Eq.mp (if_pos c10) h
        refine sr_iconst C (v := (-1)) d_X_judge_105 (by decide) ?_
        refine sr_goto C (tgt := 110) (by decide) d_X_judge_106 ?_
        exact hR _ _ _ _ d_X_judge_110 rfl h
    · replace h := Eq.mp (if_neg c9) h
      refine sr_aload_n C 1 rfl rfl d_X_judge_53 ?_
      refine sr_getR C sm_F3 0 q_395 t_x2.1 (r := x2 + 1) rfl (by decide) d_X_judge_54 ?_
      refine sr_iload C 3 rfl d_X_judge_57 ?_
      obtain ⟨g11, h⟩ := h
      refine sr_iald C t_x2.2 g11 d_X_judge_59 ?_
      refine sr_aload_n C 0 rfl rfl d_X_judge_60 ?_
      refine sr_getR C sm_F6 0 q_4 sm_l0 (r := 1) rfl (by decide) d_X_judge_61 ?_
      refine sr_iload C 3 rfl d_X_judge_64 ?_
      refine sr_aload_n C 0 rfl rfl d_X_judge_66 ?_
      refine sr_getR C sm_F6 0 q_4 sm_l0 (r := 1) rfl (by decide) d_X_judge_67 ?_
      refine sr_getR C sm_F0 4 q_38 sm_l1 (r := 6) rfl (by decide) d_X_judge_70 ?_
      refine sr_iload C 3 rfl d_X_judge_73 ?_
      obtain ⟨g12, h⟩ := h
      refine sr_iald C sm_l6 g12 d_X_judge_75 ?_
      refine sr_callVI C [sm_I _, sm_I _] (P_D_paysWith l h) ok_9 sm_l1 rfl rfl rfl rfl ⟨Nat.le_of_ble_eq_true rfl, Nat.le_of_ble_eq_true rfl⟩ (Nat.le_of_ble_eq_true rfl) ⟨Nat.zero_le _, Nat.zero_le _⟩ d_X_judge_76 (fun r14 μ13 h => ?_)
      refine sr_icmp_eq C (tgt := 85) d_X_judge_79 (by decide) (fun c15 => ?_) (fun c15 => ?_)
      · replace h := Eq.mp (if_pos c15) h
        refine sr_iinc C 3 rfl (by decide) d_X_judge_85 rfl ?_
        refine sr_goto C (tgt := 47) (by decide) d_X_judge_88 ?_
        refine sr_mask C [1, 2, 3, 0] rfl ?_
        exact hJ47 _ _ h
      · replace h := Eq.mp (if_neg c15) h
        refine sr_iload C 3 rfl d_X_judge_82 ?_
        exact hR _ _ _ _ d_X_judge_84 rfl h
  refine sr_aload_n C 0 rfl rfl d_X_judge_0 ?_
  refine sr_iload_n C 1 rfl rfl d_X_judge_1 ?_
  refine sr_callVR C [sm_I _] (P_X_rowOf l h) ok_72 sm_l0 rfl rfl rfl rfl ⟨Nat.le_of_ble_eq_true rfl, Nat.le_of_ble_eq_true rfl⟩ (Nat.le_of_ble_eq_true rfl) ⟨Nat.zero_le _, Nat.zero_le _⟩ d_X_judge_2 (fun z18 μ1 h => ?_)
  rcases z18 with _ | k2
  · refine sr_astoreN_n C rfl (by decide) d_X_judge_5 ?_
    refine sr_aloadN_n C 0 rfl rfl d_X_judge_6 ?_
    refine sr_ifnonnullN C d_X_judge_7 ?_
    refine sr_aload_n C 1 rfl rfl d_X_judge_10 ?_
    refine sr_iconst C (v := 1) d_X_judge_11 (by decide) ?_
    refine sr_callVI C [sm_I _] (P_X_error l h) ok_1 sm_l0 rfl rfl rfl rfl ⟨Nat.le_of_ble_eq_true rfl, Nat.le_of_ble_eq_true rfl⟩ (Nat.le_of_ble_eq_true rfl) ⟨Nat.zero_le _, Nat.zero_le _⟩ d_X_judge_12 (fun r4 μ3 h => ?_)
    exact hR _ _ _ _ d_X_judge_15 rfl h
  · obtain ⟨t_k2, h⟩ := h
    refine sr_astore_n C rfl (by decide) d_X_judge_5 ?_
    refine sr_aload_n C 0 rfl rfl d_X_judge_6 ?_
    refine sr_ifnonnullR C (tgt := 16) (by decide) d_X_judge_7 ?_
    refine sr_aload_n C 0 rfl rfl d_X_judge_16 ?_
    refine sr_callVI C [] (P_S_isMissing l h) ok_73 t_k2.1 rfl rfl rfl rfl ⟨Nat.le_of_ble_eq_true rfl, Nat.le_of_ble_eq_true rfl⟩ (Nat.le_of_ble_eq_true rfl) ⟨Nat.zero_le _, Nat.zero_le _⟩ d_X_judge_17 (fun r6 μ5 h => ?_)
    refine sr_if_eq C (tgt := 29) d_X_judge_20 (by decide) (fun c7 => ?_) (fun c7 => ?_)
    · replace h := Eq.mp (if_pos c7) h
      refine sr_aload_n C 0 rfl rfl d_X_judge_29 ?_
      refine sr_getI C sm_F3 2 q_327 t_k2.1 rfl (by decide) d_X_judge_30 ?_
      refine sr_aload_n C 1 rfl rfl d_X_judge_33 ?_
      refine sr_getR C sm_F6 0 q_4 sm_l0 (r := 1) rfl (by decide) d_X_judge_34 ?_
      refine sr_getI C sm_F0 12 q_35 sm_l1 rfl (by decide) d_X_judge_37 ?_
      refine sr_mmin C q_406 q_mmin1 q_mini q_mmin2 (Nat.le_of_ble_eq_true rfl) (Nat.le_of_ble_eq_true rfl) ⟨Nat.zero_le _, Nat.zero_le _⟩ d_X_judge_40 ?_
      replace h := h _ rfl
      refine sr_istore_n C rfl (by decide) d_X_judge_43 ?_
      refine sr_iconst C (v := 0) d_X_judge_44 (by decide) ?_
      refine sr_istore C (by decide) d_X_judge_45 ?_
      refine sr_mask C [3, 2, 1, 0] rfl ?_
      exact B47 _ _ _ _ h
    · replace h := Eq.mp (if_neg c7) h
      refine sr_aload_n C 1 rfl rfl d_X_judge_23 ?_
      refine sr_iconst C (v := 2) d_X_judge_24 (by decide) ?_
      refine sr_callVI C [sm_I _] (P_X_error l h) ok_1 sm_l0 rfl rfl rfl rfl ⟨Nat.le_of_ble_eq_true rfl, Nat.le_of_ble_eq_true rfl⟩ (Nat.le_of_ble_eq_true rfl) ⟨Nat.zero_le _, Nat.zero_le _⟩ d_X_judge_25 (fun r17 μ16 h => ?_)
      exact hR _ _ _ _ d_X_judge_28 rfl h
theorem d_X_image_0 : decode prog_1_method_37_code 0 = .ok (.aload_n 0, 1) := by decide +kernel
theorem d_X_image_1 : decode prog_1_method_37_code 1 = .ok (.getfield 16, 3) := by decide +kernel
theorem d_X_image_4 : decode prog_1_method_37_code 4 = .ok (.aload_n 0, 1) := by decide +kernel
theorem d_X_image_5 : decode prog_1_method_37_code 5 = .ok (.getfield 10, 3) := by decide +kernel
theorem d_X_image_8 : decode prog_1_method_37_code 8 = .ok (.invokevirtual 278, 3) := by decide +kernel
theorem d_X_image_11 : decode prog_1_method_37_code 11 = .ok (.aload_n 0, 1) := by decide +kernel
theorem d_X_image_12 : decode prog_1_method_37_code 12 = .ok (.dup, 1) := by decide +kernel
theorem d_X_image_13 : decode prog_1_method_37_code 13 = .ok (.getfield 280, 3) := by decide +kernel
theorem d_X_image_16 : decode prog_1_method_37_code 16 = .ok (.iconst 1, 1) := by decide +kernel
theorem d_X_image_17 : decode prog_1_method_37_code 17 = .ok (.iadd, 1) := by decide +kernel
theorem d_X_image_18 : decode prog_1_method_37_code 18 = .ok (.putfield 280, 3) := by decide +kernel
theorem d_X_image_21 : decode prog_1_method_37_code 21 = .ok (.aload_n 0, 1) := by decide +kernel
theorem d_X_image_22 : decode prog_1_method_37_code 22 = .ok (.getfield 280, 3) := by decide +kernel
theorem d_X_image_25 : decode prog_1_method_37_code 25 = .ok (.ireturn, 1) := by decide +kernel
def w_X_image (K : Int32 → sm_Mem → Prop) (μ : sm_Mem) : Prop := w_D_take_19_1 (fun μ1 => ∀ μ2 : sm_Mem, μ2 = sm_st μ1 0 7 ((μ1 0 7) + 1) → K (μ2 0 7) μ2) μ
set_option maxHeartbeats 4000000 in
set_option maxRecDepth 100000 in
theorem P_X_image (l : Launch) {K : Int32 → sm_Mem → Prop} {μ : sm_Mem} (h : w_X_image K μ) : sm_MI l ⟨"SnowMoney", "image", "()I"⟩ prog_1_method_37_code 1 (some .int) { frames := 3, cells := 0, slots := 0, locals := 82 } [sm_R 0] μ K := by
  refine sm_ofI (by decide +kernel) (fun _ => Nat.le_of_ble_eq_true rfl) ?_
  intro p e s m args below meth c A Q G C hR
  refine sr_aload_n C 0 rfl rfl d_X_image_0 ?_
  refine sr_getR C sm_F6 1 q_407 sm_l0 (r := 19) rfl (by decide) d_X_image_1 ?_
  refine sr_aload_n C 0 rfl rfl d_X_image_4 ?_
  refine sr_getR C sm_F6 0 q_4 sm_l0 (r := 1) rfl (by decide) d_X_image_5 ?_
  refine sr_callVV C [sm_R _] (P_D_take_19_1 l h) ok_92 sm_l19 rfl rfl rfl rfl ⟨Nat.le_of_ble_eq_true rfl, Nat.le_of_ble_eq_true rfl⟩ (Nat.le_of_ble_eq_true rfl) ⟨Nat.zero_le _, Nat.zero_le _⟩ d_X_image_8 (fun μ1 h => ?_)
  refine sr_aload_n C 0 rfl rfl d_X_image_11 ?_
  refine sr_dup C rfl d_X_image_12 ?_
  refine sr_getI C sm_F6 7 q_412 sm_l0 rfl (by decide) d_X_image_13 ?_
  refine sr_iconst C (v := 1) d_X_image_16 (by decide) ?_
  refine sr_iadd C d_X_image_17 ?_
  refine sr_putI C sm_F6 7 q_412 sm_l0 rfl rfl (by decide) rfl d_X_image_18 ?_
  replace h := h _ rfl
  refine sr_aload_n C 0 rfl rfl d_X_image_21 ?_
  refine sr_getI C sm_F6 7 q_412 sm_l0 rfl (by decide) d_X_image_22 ?_
  exact hR _ _ _ _ d_X_image_25 rfl h
theorem d_X_restore_0 : decode prog_1_method_38_code 0 = .ok (.aload_n 0, 1) := by decide +kernel
theorem d_X_restore_1 : decode prog_1_method_38_code 1 = .ok (.getfield 280, 3) := by decide +kernel
theorem d_X_restore_4 : decode prog_1_method_38_code 4 = .ok (.ifCond .ne 9, 3) := by decide +kernel
theorem d_X_restore_7 : decode prog_1_method_38_code 7 = .ok (.aload_n 0, 1) := by decide +kernel
theorem d_X_restore_8 : decode prog_1_method_38_code 8 = .ok (.iconst 2, 1) := by decide +kernel
theorem d_X_restore_9 : decode prog_1_method_38_code 9 = .ok (.invokevirtual 57, 3) := by decide +kernel
theorem d_X_restore_12 : decode prog_1_method_38_code 12 = .ok (.ireturn, 1) := by decide +kernel
theorem d_X_restore_13 : decode prog_1_method_38_code 13 = .ok (.aload_n 0, 1) := by decide +kernel
theorem d_X_restore_14 : decode prog_1_method_38_code 14 = .ok (.getfield 10, 3) := by decide +kernel
theorem d_X_restore_17 : decode prog_1_method_38_code 17 = .ok (.aload_n 0, 1) := by decide +kernel
theorem d_X_restore_18 : decode prog_1_method_38_code 18 = .ok (.getfield 16, 3) := by decide +kernel
theorem d_X_restore_21 : decode prog_1_method_38_code 21 = .ok (.invokevirtual 278, 3) := by decide +kernel
theorem d_X_restore_24 : decode prog_1_method_38_code 24 = .ok (.aload_n 0, 1) := by decide +kernel
theorem d_X_restore_25 : decode prog_1_method_38_code 25 = .ok (.getfield 10, 3) := by decide +kernel
theorem d_X_restore_28 : decode prog_1_method_38_code 28 = .ok (.getfield 160, 3) := by decide +kernel
theorem d_X_restore_31 : decode prog_1_method_38_code 31 = .ok (.ireturn, 1) := by decide +kernel
def w_X_restore (K : Int32 → sm_Mem → Prop) (μ : sm_Mem) : Prop := if (μ 0 7) = 0 then w_X_error (fun r4 μ3 => K r4 μ3) 2 μ else w_D_take_1_19 (fun μ2 => K (μ2 1 14) μ2) μ
set_option maxHeartbeats 4000000 in
set_option maxRecDepth 100000 in
theorem P_X_restore (l : Launch) {K : Int32 → sm_Mem → Prop} {μ : sm_Mem} (h : w_X_restore K μ) : sm_MI l ⟨"SnowMoney", "restore", "()I"⟩ prog_1_method_38_code 1 (some .int) { frames := 3, cells := 0, slots := 0, locals := 82 } [sm_R 0] μ K := by
  refine sm_ofI (by decide +kernel) (fun _ => Nat.le_of_ble_eq_true rfl) ?_
  intro p e s m args below meth c A Q G C hR
  refine sr_aload_n C 0 rfl rfl d_X_restore_0 ?_
  refine sr_getI C sm_F6 7 q_412 sm_l0 rfl (by decide) d_X_restore_1 ?_
  refine sr_if_ne C (tgt := 13) d_X_restore_4 (by decide) (fun c1 => ?_) (fun c1 => ?_)
  · replace h := Eq.mp (if_neg c1) h
    refine sr_aload_n C 0 rfl rfl d_X_restore_13 ?_
    refine sr_getR C sm_F6 0 q_4 sm_l0 (r := 1) rfl (by decide) d_X_restore_14 ?_
    refine sr_aload_n C 0 rfl rfl d_X_restore_17 ?_
    refine sr_getR C sm_F6 1 q_407 sm_l0 (r := 19) rfl (by decide) d_X_restore_18 ?_
    refine sr_callVV C [sm_R _] (P_D_take_1_19 l h) ok_92 sm_l1 rfl rfl rfl rfl ⟨Nat.le_of_ble_eq_true rfl, Nat.le_of_ble_eq_true rfl⟩ (Nat.le_of_ble_eq_true rfl) ⟨Nat.zero_le _, Nat.zero_le _⟩ d_X_restore_21 (fun μ2 h => ?_)
    refine sr_aload_n C 0 rfl rfl d_X_restore_24 ?_
    refine sr_getR C sm_F6 0 q_4 sm_l0 (r := 1) rfl (by decide) d_X_restore_25 ?_
    refine sr_getI C sm_F0 14 q_200 sm_l1 rfl (by decide) d_X_restore_28 ?_
    exact hR _ _ _ _ d_X_restore_31 rfl h
  · replace h := Eq.mp (if_pos c1) h
    refine sr_aload_n C 0 rfl rfl d_X_restore_7 ?_
    refine sr_iconst C (v := 2) d_X_restore_8 (by decide) ?_
    refine sr_callVI C [sm_I _] (P_X_error l h) ok_1 sm_l0 rfl rfl rfl rfl ⟨Nat.le_of_ble_eq_true rfl, Nat.le_of_ble_eq_true rfl⟩ (Nat.le_of_ble_eq_true rfl) ⟨Nat.zero_le _, Nat.zero_le _⟩ d_X_restore_9 (fun r4 μ3 h => ?_)
    exact hR _ _ _ _ d_X_restore_12 rfl h
theorem d_X_tell_0 : decode prog_1_method_39_code 0 = .ok (.aload_n 0, 1) := by decide +kernel
theorem d_X_tell_1 : decode prog_1_method_39_code 1 = .ok (.getfield 10, 3) := by decide +kernel
theorem d_X_tell_4 : decode prog_1_method_39_code 4 = .ok (.getfield 283, 3) := by decide +kernel
theorem d_X_tell_7 : decode prog_1_method_39_code 7 = .ok (.bipush 20, 2) := by decide +kernel
theorem d_X_tell_9 : decode prog_1_method_39_code 9 = .ok (.if_icmp .lt 9, 3) := by decide +kernel
theorem d_X_tell_12 : decode prog_1_method_39_code 12 = .ok (.aload_n 0, 1) := by decide +kernel
theorem d_X_tell_13 : decode prog_1_method_39_code 13 = .ok (.iconst 4, 1) := by decide +kernel
theorem d_X_tell_14 : decode prog_1_method_39_code 14 = .ok (.invokevirtual 57, 3) := by decide +kernel
theorem d_X_tell_17 : decode prog_1_method_39_code 17 = .ok (.ireturn, 1) := by decide +kernel
theorem d_X_tell_18 : decode prog_1_method_39_code 18 = .ok (.aload_n 0, 1) := by decide +kernel
theorem d_X_tell_19 : decode prog_1_method_39_code 19 = .ok (.getfield 10, 3) := by decide +kernel
theorem d_X_tell_22 : decode prog_1_method_39_code 22 = .ok (.getfield 286, 3) := by decide +kernel
theorem d_X_tell_25 : decode prog_1_method_39_code 25 = .ok (.aload_n 0, 1) := by decide +kernel
theorem d_X_tell_26 : decode prog_1_method_39_code 26 = .ok (.getfield 10, 3) := by decide +kernel
theorem d_X_tell_29 : decode prog_1_method_39_code 29 = .ok (.getfield 283, 3) := by decide +kernel
theorem d_X_tell_32 : decode prog_1_method_39_code 32 = .ok (.iload_n 1, 1) := by decide +kernel
theorem d_X_tell_33 : decode prog_1_method_39_code 33 = .ok (.iastore, 1) := by decide +kernel
theorem d_X_tell_34 : decode prog_1_method_39_code 34 = .ok (.aload_n 0, 1) := by decide +kernel
theorem d_X_tell_35 : decode prog_1_method_39_code 35 = .ok (.getfield 10, 3) := by decide +kernel
theorem d_X_tell_38 : decode prog_1_method_39_code 38 = .ok (.dup, 1) := by decide +kernel
theorem d_X_tell_39 : decode prog_1_method_39_code 39 = .ok (.getfield 283, 3) := by decide +kernel
theorem d_X_tell_42 : decode prog_1_method_39_code 42 = .ok (.iconst 1, 1) := by decide +kernel
theorem d_X_tell_43 : decode prog_1_method_39_code 43 = .ok (.iadd, 1) := by decide +kernel
theorem d_X_tell_44 : decode prog_1_method_39_code 44 = .ok (.putfield 283, 3) := by decide +kernel
theorem d_X_tell_47 : decode prog_1_method_39_code 47 = .ok (.aload_n 0, 1) := by decide +kernel
theorem d_X_tell_48 : decode prog_1_method_39_code 48 = .ok (.getfield 10, 3) := by decide +kernel
theorem d_X_tell_51 : decode prog_1_method_39_code 51 = .ok (.getfield 283, 3) := by decide +kernel
theorem d_X_tell_54 : decode prog_1_method_39_code 54 = .ok (.ireturn, 1) := by decide +kernel
def w_X_tell (K : Int32 → sm_Mem → Prop) (p0 : Int32) (μ : sm_Mem) : Prop := if (μ 1 16) < 20 then (vp_in (μ 1 16) 20 ∧ ∀ μ3 : sm_Mem, μ3 = sm_st μ 10 ((μ 1 16).toNatClampNeg) p0 → ∀ μ4 : sm_Mem, μ4 = sm_st μ3 1 16 ((μ3 1 16) + 1) → K (μ4 1 16) μ4) else w_X_error (fun r6 μ5 => K r6 μ5) 4 μ
set_option maxHeartbeats 4000000 in
set_option maxRecDepth 100000 in
theorem P_X_tell (l : Launch) {K : Int32 → sm_Mem → Prop} {p0 : Int32} {μ : sm_Mem} (h : w_X_tell K p0 μ) : sm_MI l ⟨"SnowMoney", "tell", "(I)I"⟩ prog_1_method_39_code 2 (some .int) { frames := 2, cells := 0, slots := 0, locals := 43 } [sm_R 0, sm_I p0] μ K := by
  refine sm_ofI (by decide +kernel) (fun _ => Nat.le_of_ble_eq_true rfl) ?_
  intro p e s m args below meth c A Q G C hR
  refine sr_aload_n C 0 rfl rfl d_X_tell_0 ?_
  refine sr_getR C sm_F6 0 q_4 sm_l0 (r := 1) rfl (by decide) d_X_tell_1 ?_
  refine sr_getI C sm_F0 16 q_419 sm_l1 rfl (by decide) d_X_tell_4 ?_
  refine sr_bipush C (v := 20) d_X_tell_7 (by decide) ?_
  refine sr_icmp_lt C (tgt := 18) d_X_tell_9 (by decide) (fun c1 => ?_) (fun c1 => ?_)
  · replace h := Eq.mp (if_pos c1) h
    refine sr_aload_n C 0 rfl rfl d_X_tell_18 ?_
    refine sr_getR C sm_F6 0 q_4 sm_l0 (r := 1) rfl (by decide) d_X_tell_19 ?_
    refine sr_getR C sm_F0 8 q_420 sm_l1 (r := 10) rfl (by decide) d_X_tell_22 ?_
    refine sr_aload_n C 0 rfl rfl d_X_tell_25 ?_
    refine sr_getR C sm_F6 0 q_4 sm_l0 (r := 1) rfl (by decide) d_X_tell_26 ?_
    refine sr_getI C sm_F0 16 q_419 sm_l1 rfl (by decide) d_X_tell_29 ?_
    refine sr_iload_n C 1 rfl rfl d_X_tell_32 ?_
    obtain ⟨g2, h⟩ := h
    refine sr_iast C sm_l10 g2 d_X_tell_33 ?_
    replace h := h _ rfl
    refine sr_aload_n C 0 rfl rfl d_X_tell_34 ?_
    refine sr_getR C sm_F6 0 q_4 sm_l0 (r := 1) rfl (by decide) d_X_tell_35 ?_
    refine sr_dup C rfl d_X_tell_38 ?_
    refine sr_getI C sm_F0 16 q_419 sm_l1 rfl (by decide) d_X_tell_39 ?_
    refine sr_iconst C (v := 1) d_X_tell_42 (by decide) ?_
    refine sr_iadd C d_X_tell_43 ?_
    refine sr_putI C sm_F0 16 q_419 sm_l1 rfl rfl (by decide) rfl d_X_tell_44 ?_
    replace h := h _ rfl
    refine sr_aload_n C 0 rfl rfl d_X_tell_47 ?_
    refine sr_getR C sm_F6 0 q_4 sm_l0 (r := 1) rfl (by decide) d_X_tell_48 ?_
    refine sr_getI C sm_F0 16 q_419 sm_l1 rfl (by decide) d_X_tell_51 ?_
    exact hR _ _ _ _ d_X_tell_54 rfl h
  · replace h := Eq.mp (if_neg c1) h
    refine sr_aload_n C 0 rfl rfl d_X_tell_12 ?_
    refine sr_iconst C (v := 4) d_X_tell_13 (by decide) ?_
    refine sr_callVI C [sm_I _] (P_X_error l h) ok_1 sm_l0 rfl rfl rfl rfl ⟨Nat.le_of_ble_eq_true rfl, Nat.le_of_ble_eq_true rfl⟩ (Nat.le_of_ble_eq_true rfl) ⟨Nat.zero_le _, Nat.zero_le _⟩ d_X_tell_14 (fun r6 μ5 h => ?_)
    exact hR _ _ _ _ d_X_tell_17 rfl h
theorem d_X_check_0 : decode prog_1_method_40_code 0 = .ok (.aload_n 0, 1) := by decide +kernel
theorem d_X_check_1 : decode prog_1_method_40_code 1 = .ok (.getfield 24, 3) := by decide +kernel
theorem d_X_check_4 : decode prog_1_method_40_code 4 = .ok (.invokevirtual 289, 3) := by decide +kernel
theorem d_X_check_7 : decode prog_1_method_40_code 7 = .ok (.istore_n 1, 1) := by decide +kernel
theorem d_X_check_8 : decode prog_1_method_40_code 8 = .ok (.aload_n 0, 1) := by decide +kernel
theorem d_X_check_9 : decode prog_1_method_40_code 9 = .ok (.getfield 10, 3) := by decide +kernel
theorem d_X_check_12 : decode prog_1_method_40_code 12 = .ok (.iconst 0, 1) := by decide +kernel
theorem d_X_check_13 : decode prog_1_method_40_code 13 = .ok (.putfield 283, 3) := by decide +kernel
theorem d_X_check_16 : decode prog_1_method_40_code 16 = .ok (.iload_n 1, 1) := by decide +kernel
theorem d_X_check_17 : decode prog_1_method_40_code 17 = .ok (.iconst 1, 1) := by decide +kernel
theorem d_X_check_18 : decode prog_1_method_40_code 18 = .ok (.iadd, 1) := by decide +kernel
theorem d_X_check_19 : decode prog_1_method_40_code 19 = .ok (.ireturn, 1) := by decide +kernel
def w_X_check (K : Int32 → sm_Mem → Prop) (μ : sm_Mem) : Prop := w_F_firstWrongTold (fun r2 μ1 => ∀ μ3 : sm_Mem, μ3 = sm_st μ1 1 16 0 → K (r2 + 1) μ3) μ
set_option maxHeartbeats 4000000 in
set_option maxRecDepth 100000 in
theorem P_X_check (l : Launch) {K : Int32 → sm_Mem → Prop} {μ : sm_Mem} (h : w_X_check K μ) : sm_MI l ⟨"SnowMoney", "check", "()I"⟩ prog_1_method_40_code 2 (some .int) { frames := 6, cells := 0, slots := 0, locals := 145 } [sm_R 0] μ K := by
  refine sm_ofI (by decide +kernel) (fun _ => Nat.le_of_ble_eq_true rfl) ?_
  intro p e s m args below meth c A Q G C hR
  refine sr_aload_n C 0 rfl rfl d_X_check_0 ?_
  refine sr_getR C sm_F6 2 q_210 sm_l0 (r := 37) rfl (by decide) d_X_check_1 ?_
  refine sr_callVI C [] (P_F_firstWrongTold l h) ok_94 sm_l37 rfl rfl rfl rfl ⟨Nat.le_of_ble_eq_true rfl, Nat.le_of_ble_eq_true rfl⟩ (Nat.le_of_ble_eq_true rfl) ⟨Nat.zero_le _, Nat.zero_le _⟩ d_X_check_4 (fun r2 μ1 h => ?_)
  refine sr_istore_n C rfl (by decide) d_X_check_7 ?_
  refine sr_aload_n C 1 rfl rfl d_X_check_8 ?_
  refine sr_getR C sm_F6 0 q_4 sm_l0 (r := 1) rfl (by decide) d_X_check_9 ?_
  refine sr_iconst C (v := 0) d_X_check_12 (by decide) ?_
  refine sr_putI C sm_F0 16 q_419 sm_l1 rfl rfl (by decide) rfl d_X_check_13 ?_
  replace h := h _ rfl
  refine sr_iload_n C 0 rfl rfl d_X_check_16 ?_
  refine sr_iconst C (v := 1) d_X_check_17 (by decide) ?_
  refine sr_iadd C d_X_check_18 ?_
  exact hR _ _ _ _ d_X_check_19 rfl h
theorem d_X_count_0 : decode prog_1_method_41_code 0 = .ok (.iload_n 1, 1) := by decide +kernel
theorem d_X_count_1 : decode prog_1_method_41_code 1 = .ok (.tableswitch 135 0 9 #[55, 63, 71, 79, 87, 95, 103, 111, 119, 127], 55) := by decide +kernel
theorem d_X_count_56 : decode prog_1_method_41_code 56 = .ok (.aload_n 0, 1) := by decide +kernel
theorem d_X_count_57 : decode prog_1_method_41_code 57 = .ok (.getfield 10, 3) := by decide +kernel
theorem d_X_count_60 : decode prog_1_method_41_code 60 = .ok (.getfield 61, 3) := by decide +kernel
theorem d_X_count_63 : decode prog_1_method_41_code 63 = .ok (.ireturn, 1) := by decide +kernel
theorem d_X_count_64 : decode prog_1_method_41_code 64 = .ok (.aload_n 0, 1) := by decide +kernel
theorem d_X_count_65 : decode prog_1_method_41_code 65 = .ok (.getfield 10, 3) := by decide +kernel
theorem d_X_count_68 : decode prog_1_method_41_code 68 = .ok (.getfield 83, 3) := by decide +kernel
theorem d_X_count_71 : decode prog_1_method_41_code 71 = .ok (.ireturn, 1) := by decide +kernel
theorem d_X_count_72 : decode prog_1_method_41_code 72 = .ok (.aload_n 0, 1) := by decide +kernel
theorem d_X_count_73 : decode prog_1_method_41_code 73 = .ok (.getfield 10, 3) := by decide +kernel
theorem d_X_count_76 : decode prog_1_method_41_code 76 = .ok (.getfield 160, 3) := by decide +kernel
theorem d_X_count_79 : decode prog_1_method_41_code 79 = .ok (.ireturn, 1) := by decide +kernel
theorem d_X_count_80 : decode prog_1_method_41_code 80 = .ok (.aload_n 0, 1) := by decide +kernel
theorem d_X_count_81 : decode prog_1_method_41_code 81 = .ok (.getfield 10, 3) := by decide +kernel
theorem d_X_count_84 : decode prog_1_method_41_code 84 = .ok (.getfield 120, 3) := by decide +kernel
theorem d_X_count_87 : decode prog_1_method_41_code 87 = .ok (.ireturn, 1) := by decide +kernel
theorem d_X_count_88 : decode prog_1_method_41_code 88 = .ok (.aload_n 0, 1) := by decide +kernel
theorem d_X_count_89 : decode prog_1_method_41_code 89 = .ok (.getfield 10, 3) := by decide +kernel
theorem d_X_count_92 : decode prog_1_method_41_code 92 = .ok (.invokevirtual 167, 3) := by decide +kernel
theorem d_X_count_95 : decode prog_1_method_41_code 95 = .ok (.ireturn, 1) := by decide +kernel
theorem d_X_count_96 : decode prog_1_method_41_code 96 = .ok (.aload_n 0, 1) := by decide +kernel
theorem d_X_count_97 : decode prog_1_method_41_code 97 = .ok (.getfield 10, 3) := by decide +kernel
theorem d_X_count_100 : decode prog_1_method_41_code 100 = .ok (.invokevirtual 292, 3) := by decide +kernel
theorem d_X_count_103 : decode prog_1_method_41_code 103 = .ok (.ireturn, 1) := by decide +kernel
theorem d_X_count_104 : decode prog_1_method_41_code 104 = .ok (.aload_n 0, 1) := by decide +kernel
theorem d_X_count_105 : decode prog_1_method_41_code 105 = .ok (.getfield 10, 3) := by decide +kernel
theorem d_X_count_108 : decode prog_1_method_41_code 108 = .ok (.getfield 123, 3) := by decide +kernel
theorem d_X_count_111 : decode prog_1_method_41_code 111 = .ok (.ireturn, 1) := by decide +kernel
theorem d_X_count_112 : decode prog_1_method_41_code 112 = .ok (.aload_n 0, 1) := by decide +kernel
theorem d_X_count_113 : decode prog_1_method_41_code 113 = .ok (.getfield 10, 3) := by decide +kernel
theorem d_X_count_116 : decode prog_1_method_41_code 116 = .ok (.getfield 283, 3) := by decide +kernel
theorem d_X_count_119 : decode prog_1_method_41_code 119 = .ok (.ireturn, 1) := by decide +kernel
theorem d_X_count_120 : decode prog_1_method_41_code 120 = .ok (.aload_n 0, 1) := by decide +kernel
theorem d_X_count_121 : decode prog_1_method_41_code 121 = .ok (.getfield 38, 3) := by decide +kernel
theorem d_X_count_124 : decode prog_1_method_41_code 124 = .ok (.getfield 248, 3) := by decide +kernel
theorem d_X_count_127 : decode prog_1_method_41_code 127 = .ok (.ireturn, 1) := by decide +kernel
theorem d_X_count_128 : decode prog_1_method_41_code 128 = .ok (.aload_n 0, 1) := by decide +kernel
theorem d_X_count_129 : decode prog_1_method_41_code 129 = .ok (.getfield 10, 3) := by decide +kernel
theorem d_X_count_132 : decode prog_1_method_41_code 132 = .ok (.getfield 241, 3) := by decide +kernel
theorem d_X_count_135 : decode prog_1_method_41_code 135 = .ok (.ireturn, 1) := by decide +kernel
theorem d_X_count_136 : decode prog_1_method_41_code 136 = .ok (.aload_n 0, 1) := by decide +kernel
theorem d_X_count_137 : decode prog_1_method_41_code 137 = .ok (.iconst 1, 1) := by decide +kernel
theorem d_X_count_138 : decode prog_1_method_41_code 138 = .ok (.invokevirtual 57, 3) := by decide +kernel
theorem d_X_count_141 : decode prog_1_method_41_code 141 = .ok (.ireturn, 1) := by decide +kernel
def w_X_count (K : Int32 → sm_Mem → Prop) (p0 : Int32) (μ : sm_Mem) : Prop := ∀ v1 : Int32, v1 = p0 → if v1 = 0 then K (μ 1 11) μ else (if v1 = 1 then K (μ 1 12) μ else (if v1 = 2 then K (μ 1 14) μ else (if v1 = 3 then K (μ 1 13) μ else (if v1 = 4 then w_D_snowOfAll (fun r8 μ7 => K r8 μ7) μ else (if v1 = 5 then w_D_gone (fun r11 μ10 => K r11 μ10) μ else (if v1 = 6 then K (μ 1 15) μ else (if v1 = 7 then K (μ 1 16) μ else (if v1 = 8 then K (μ 49 1) μ else (if v1 = 9 then K (μ 1 17) μ else w_X_error (fun r17 μ16 => K r17 μ16) 1 μ)))))))))
set_option maxHeartbeats 4000000 in
set_option maxRecDepth 100000 in
theorem P_X_count (l : Launch) {K : Int32 → sm_Mem → Prop} {p0 : Int32} {μ : sm_Mem} (h : w_X_count K p0 μ) : sm_MI l ⟨"SnowMoney", "count", "(I)I"⟩ prog_1_method_41_code 2 (some .int) { frames := 2, cells := 0, slots := 0, locals := 43 } [sm_R 0, sm_I p0] μ K := by
  refine sm_ofI (by decide +kernel) (fun _ => Nat.le_of_ble_eq_true rfl) ?_
  intro p e s m args below meth c A Q G C hR
  refine sr_iload_n C 1 rfl rfl d_X_count_0 ?_
  refine sm_name (fun v1 ev1 => ?_)
  replace h := h v1 ev1
  by_cases c2 : v1 = 0
  · replace h := Eq.mp (if_pos c2) h
    refine sr_tableIn C (tgt := 56) (off := 55) d_X_count_1 (by rw [c2]; decide) (by rw [c2]; decide) (by rw [c2]; decide) (by decide) ?_
    refine sr_aload_n C 0 rfl rfl d_X_count_56 ?_
    refine sr_getR C sm_F6 0 q_4 sm_l0 (r := 1) rfl (by decide) d_X_count_57 ?_
    refine sr_getI C sm_F0 11 q_5 sm_l1 rfl (by decide) d_X_count_60 ?_
    exact hR _ _ _ _ d_X_count_63 rfl h
  · replace h := Eq.mp (if_neg c2) h
    by_cases c3 : v1 = 1
    · replace h := Eq.mp (if_pos c3) h
      refine sr_tableIn C (tgt := 64) (off := 63) d_X_count_1 (by rw [c3]; decide) (by rw [c3]; decide) (by rw [c3]; decide) (by decide) ?_
      refine sr_aload_n C 0 rfl rfl d_X_count_64 ?_
      refine sr_getR C sm_F6 0 q_4 sm_l0 (r := 1) rfl (by decide) d_X_count_65 ?_
      refine sr_getI C sm_F0 12 q_35 sm_l1 rfl (by decide) d_X_count_68 ?_
      exact hR _ _ _ _ d_X_count_71 rfl h
    · replace h := Eq.mp (if_neg c3) h
      by_cases c4 : v1 = 2
      · replace h := Eq.mp (if_pos c4) h
        refine sr_tableIn C (tgt := 72) (off := 71) d_X_count_1 (by rw [c4]; decide) (by rw [c4]; decide) (by rw [c4]; decide) (by decide) ?_
        refine sr_aload_n C 0 rfl rfl d_X_count_72 ?_
        refine sr_getR C sm_F6 0 q_4 sm_l0 (r := 1) rfl (by decide) d_X_count_73 ?_
        refine sr_getI C sm_F0 14 q_200 sm_l1 rfl (by decide) d_X_count_76 ?_
        exact hR _ _ _ _ d_X_count_79 rfl h
      · replace h := Eq.mp (if_neg c4) h
        by_cases c5 : v1 = 3
        · replace h := Eq.mp (if_pos c5) h
          refine sr_tableIn C (tgt := 80) (off := 79) d_X_count_1 (by rw [c5]; decide) (by rw [c5]; decide) (by rw [c5]; decide) (by decide) ?_
          refine sr_aload_n C 0 rfl rfl d_X_count_80 ?_
          refine sr_getR C sm_F6 0 q_4 sm_l0 (r := 1) rfl (by decide) d_X_count_81 ?_
          refine sr_getI C sm_F0 13 q_117 sm_l1 rfl (by decide) d_X_count_84 ?_
          exact hR _ _ _ _ d_X_count_87 rfl h
        · replace h := Eq.mp (if_neg c5) h
          by_cases c6 : v1 = 4
          · replace h := Eq.mp (if_pos c6) h
            refine sr_tableIn C (tgt := 88) (off := 87) d_X_count_1 (by rw [c6]; decide) (by rw [c6]; decide) (by rw [c6]; decide) (by decide) ?_
            refine sr_aload_n C 0 rfl rfl d_X_count_88 ?_
            refine sr_getR C sm_F6 0 q_4 sm_l0 (r := 1) rfl (by decide) d_X_count_89 ?_
            refine sr_callVI C [] (P_D_snowOfAll l h) ok_44 sm_l1 rfl rfl rfl rfl ⟨Nat.le_of_ble_eq_true rfl, Nat.le_of_ble_eq_true rfl⟩ (Nat.le_of_ble_eq_true rfl) ⟨Nat.zero_le _, Nat.zero_le _⟩ d_X_count_92 (fun r8 μ7 h => ?_)
            exact hR _ _ _ _ d_X_count_95 rfl h
          · replace h := Eq.mp (if_neg c6) h
            by_cases c9 : v1 = 5
            · replace h := Eq.mp (if_pos c9) h
              refine sr_tableIn C (tgt := 96) (off := 95) d_X_count_1 (by rw [c9]; decide) (by rw [c9]; decide) (by rw [c9]; decide) (by decide) ?_
              refine sr_aload_n C 0 rfl rfl d_X_count_96 ?_
              refine sr_getR C sm_F6 0 q_4 sm_l0 (r := 1) rfl (by decide) d_X_count_97 ?_
              refine sr_callVI C [] (P_D_gone l h) ok_95 sm_l1 rfl rfl rfl rfl ⟨Nat.le_of_ble_eq_true rfl, Nat.le_of_ble_eq_true rfl⟩ (Nat.le_of_ble_eq_true rfl) ⟨Nat.zero_le _, Nat.zero_le _⟩ d_X_count_100 (fun r11 μ10 h => ?_)
              exact hR _ _ _ _ d_X_count_103 rfl h
            · replace h := Eq.mp (if_neg c9) h
              by_cases c12 : v1 = 6
              · replace h := Eq.mp (if_pos c12) h
                refine sr_tableIn C (tgt := 104) (off := 103) d_X_count_1 (by rw [c12]; decide) (by rw [c12]; decide) (by rw [c12]; decide) (by decide) ?_
                refine sr_aload_n C 0 rfl rfl d_X_count_104 ?_
                refine sr_getR C sm_F6 0 q_4 sm_l0 (r := 1) rfl (by decide) d_X_count_105 ?_
                refine sr_getI C sm_F0 15 q_118 sm_l1 rfl (by decide) d_X_count_108 ?_
                exact hR _ _ _ _ d_X_count_111 rfl h
              · replace h := Eq.mp (if_neg c12) h
                by_cases c13 : v1 = 7
                · replace h := Eq.mp (if_pos c13) h
                  refine sr_tableIn C (tgt := 112) (off := 111) d_X_count_1 (by rw [c13]; decide) (by rw [c13]; decide) (by rw [c13]; decide) (by decide) ?_
                  refine sr_aload_n C 0 rfl rfl d_X_count_112 ?_
                  refine sr_getR C sm_F6 0 q_4 sm_l0 (r := 1) rfl (by decide) d_X_count_113 ?_
                  refine sr_getI C sm_F0 16 q_419 sm_l1 rfl (by decide) d_X_count_116 ?_
                  exact hR _ _ _ _ d_X_count_119 rfl h
                · replace h := Eq.mp (if_neg c13) h
                  by_cases c14 : v1 = 8
                  · replace h := Eq.mp (if_pos c14) h
                    refine sr_tableIn C (tgt := 120) (off := 119) d_X_count_1 (by rw [c14]; decide) (by rw [c14]; decide) (by rw [c14]; decide) (by decide) ?_
                    refine sr_aload_n C 0 rfl rfl d_X_count_120 ?_
                    refine sr_getR C sm_F6 4 q_362 sm_l0 (r := 49) rfl (by decide) d_X_count_121 ?_
                    refine sr_getI C sm_F5 1 q_386 sm_l49 rfl (by decide) d_X_count_124 ?_
                    exact hR _ _ _ _ d_X_count_127 rfl h
                  · replace h := Eq.mp (if_neg c14) h
                    by_cases c15 : v1 = 9
                    · replace h := Eq.mp (if_pos c15) h
                      refine sr_tableIn C (tgt := 128) (off := 127) d_X_count_1 (by rw [c15]; decide) (by rw [c15]; decide) (by rw [c15]; decide) (by decide) ?_
                      refine sr_aload_n C 0 rfl rfl d_X_count_128 ?_
                      refine sr_getR C sm_F6 0 q_4 sm_l0 (r := 1) rfl (by decide) d_X_count_129 ?_
                      refine sr_getI C sm_F0 17 q_361 sm_l1 rfl (by decide) d_X_count_132 ?_
                      exact hR _ _ _ _ d_X_count_135 rfl h
                    · replace h := Eq.mp (if_neg c15) h
                      have i0 := sm_ne c2 (z := 0) (by decide)
                      have i1 := sm_ne c3 (z := 1) (by decide)
                      have i2 := sm_ne c4 (z := 2) (by decide)
                      have i3 := sm_ne c5 (z := 3) (by decide)
                      have i4 := sm_ne c6 (z := 4) (by decide)
                      have i5 := sm_ne c9 (z := 5) (by decide)
                      have i6 := sm_ne c12 (z := 6) (by decide)
                      have i7 := sm_ne c13 (z := 7) (by decide)
                      have i8 := sm_ne c14 (z := 8) (by decide)
                      have i9 := sm_ne c15 (z := 9) (by decide)
                      refine sr_tableOut C (tgt := 136) d_X_count_1 (by omega) (by decide) ?_
                      refine sr_aload_n C 0 rfl rfl d_X_count_136 ?_
                      refine sr_iconst C (v := 1) d_X_count_137 (by decide) ?_
                      refine sr_callVI C [sm_I _] (P_X_error l h) ok_1 sm_l0 rfl rfl rfl rfl ⟨Nat.le_of_ble_eq_true rfl, Nat.le_of_ble_eq_true rfl⟩ (Nat.le_of_ble_eq_true rfl) ⟨Nat.zero_le _, Nat.zero_le _⟩ d_X_count_138 (fun r17 μ16 h => ?_)
                      exact hR _ _ _ _ d_X_count_141 rfl h
theorem d_X_told_0 : decode prog_1_method_42_code 0 = .ok (.iload_n 1, 1) := by decide +kernel
theorem d_X_told_1 : decode prog_1_method_42_code 1 = .ok (.iconst 1, 1) := by decide +kernel
theorem d_X_told_2 : decode prog_1_method_42_code 2 = .ok (.iconst 5, 1) := by decide +kernel
theorem d_X_told_3 : decode prog_1_method_42_code 3 = .ok (.invokestatic 53, 3) := by decide +kernel
theorem d_X_told_6 : decode prog_1_method_42_code 6 = .ok (.ifCond .eq 12, 3) := by decide +kernel
theorem d_X_told_9 : decode prog_1_method_42_code 9 = .ok (.aload_n 0, 1) := by decide +kernel
theorem d_X_told_10 : decode prog_1_method_42_code 10 = .ok (.getfield 49, 3) := by decide +kernel
theorem d_X_told_13 : decode prog_1_method_42_code 13 = .ok (.iload_n 1, 1) := by decide +kernel
theorem d_X_told_14 : decode prog_1_method_42_code 14 = .ok (.iaload, 1) := by decide +kernel
theorem d_X_told_15 : decode prog_1_method_42_code 15 = .ok (.goto 8, 3) := by decide +kernel
theorem d_X_told_18 : decode prog_1_method_42_code 18 = .ok (.aload_n 0, 1) := by decide +kernel
theorem d_X_told_19 : decode prog_1_method_42_code 19 = .ok (.iconst 1, 1) := by decide +kernel
theorem d_X_told_20 : decode prog_1_method_42_code 20 = .ok (.invokevirtual 57, 3) := by decide +kernel
theorem d_X_told_23 : decode prog_1_method_42_code 23 = .ok (.ireturn, 1) := by decide +kernel
def w_X_told (K : Int32 → sm_Mem → Prop) (p0 : Int32) (μ : sm_Mem) : Prop := w_X_within (fun r2 μ1 => if r2 = 0 then w_X_error (fun r5 μ4 => K r5 μ4) 1 μ1 else (vp_in p0 6 ∧ K (μ1 60 p0.toNatClampNeg) μ1)) p0 1 5 μ
set_option maxHeartbeats 4000000 in
set_option maxRecDepth 100000 in
theorem P_X_told (l : Launch) {K : Int32 → sm_Mem → Prop} {p0 : Int32} {μ : sm_Mem} (h : w_X_told K p0 μ) : sm_MI l ⟨"SnowMoney", "told", "(I)I"⟩ prog_1_method_42_code 2 (some .int) { frames := 2, cells := 0, slots := 0, locals := 43 } [sm_R 0, sm_I p0] μ K := by
  refine sm_ofI (by decide +kernel) (fun _ => Nat.le_of_ble_eq_true rfl) ?_
  intro p e s m args below meth c A Q G C hR
  refine sr_iload_n C 1 rfl rfl d_X_told_0 ?_
  refine sr_iconst C (v := 1) d_X_told_1 (by decide) ?_
  refine sr_iconst C (v := 5) d_X_told_2 (by decide) ?_
  refine sr_callSI C [sm_I _, sm_I _, sm_I _] (P_X_within l h) ok_0 rfl rfl rfl ⟨Nat.le_of_ble_eq_true rfl, Nat.le_of_ble_eq_true rfl⟩ (Nat.le_of_ble_eq_true rfl) ⟨Nat.zero_le _, Nat.zero_le _⟩ d_X_told_3 (fun r2 μ1 h => ?_)
  refine sr_if_eq C (tgt := 18) d_X_told_6 (by decide) (fun c3 => ?_) (fun c3 => ?_)
  · replace h := Eq.mp (if_pos c3) h
    refine sr_aload_n C 0 rfl rfl d_X_told_18 ?_
    refine sr_iconst C (v := 1) d_X_told_19 (by decide) ?_
    refine sr_callVI C [sm_I _] (P_X_error l h) ok_1 sm_l0 rfl rfl rfl rfl ⟨Nat.le_of_ble_eq_true rfl, Nat.le_of_ble_eq_true rfl⟩ (Nat.le_of_ble_eq_true rfl) ⟨Nat.zero_le _, Nat.zero_le _⟩ d_X_told_20 (fun r5 μ4 h => ?_)
    exact hR _ _ _ _ d_X_told_23 rfl h
  · replace h := Eq.mp (if_neg c3) h
    refine sr_aload_n C 0 rfl rfl d_X_told_9 ?_
    refine sr_getR C sm_F6 6 q_12 sm_l0 (r := 60) rfl (by decide) d_X_told_10 ?_
    refine sr_iload_n C 1 rfl rfl d_X_told_13 ?_
    obtain ⟨g6, h⟩ := h
    refine sr_iald C sm_l60 g6 d_X_told_14 ?_
    refine sr_goto C (tgt := 23) (by decide) d_X_told_15 ?_
    exact hR _ _ _ _ d_X_told_23 rfl h

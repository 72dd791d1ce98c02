theorem d_F_feel_0 : decode prog_3_method_2_code 0 = .ok (.iload_n 3, 1) := by decide +kernel
theorem d_F_feel_1 : decode prog_3_method_2_code 1 = .ok (.bipush 24, 2) := by decide +kernel
theorem d_F_feel_3 : decode prog_3_method_2_code 3 = .ok (.invokestatic 33, 3) := by decide +kernel
theorem d_F_feel_6 : decode prog_3_method_2_code 6 = .ok (.istore 4, 2) := by decide +kernel
theorem d_F_feel_8 : decode prog_3_method_2_code 8 = .ok (.iconst 0, 1) := by decide +kernel
theorem d_F_feel_9 : decode prog_3_method_2_code 9 = .ok (.istore 5, 2) := by decide +kernel
theorem d_F_feel_11 : decode prog_3_method_2_code 11 = .ok (.iload 5, 2) := by decide +kernel
theorem d_F_feel_13 : decode prog_3_method_2_code 13 = .ok (.iload 4, 2) := by decide +kernel
theorem d_F_feel_15 : decode prog_3_method_2_code 15 = .ok (.if_icmp .ge 42, 3) := by decide +kernel
theorem d_F_feel_18 : decode prog_3_method_2_code 18 = .ok (.aload_n 0, 1) := by decide +kernel
theorem d_F_feel_19 : decode prog_3_method_2_code 19 = .ok (.getfield 29, 3) := by decide +kernel
theorem d_F_feel_22 : decode prog_3_method_2_code 22 = .ok (.getfield 39, 3) := by decide +kernel
theorem d_F_feel_25 : decode prog_3_method_2_code 25 = .ok (.iload 5, 2) := by decide +kernel
theorem d_F_feel_27 : decode prog_3_method_2_code 27 = .ok (.iadd, 1) := by decide +kernel
theorem d_F_feel_28 : decode prog_3_method_2_code 28 = .ok (.bipush 24, 2) := by decide +kernel
theorem d_F_feel_30 : decode prog_3_method_2_code 30 = .ok (.irem, 1) := by decide +kernel
theorem d_F_feel_31 : decode prog_3_method_2_code 31 = .ok (.istore 6, 2) := by decide +kernel
theorem d_F_feel_33 : decode prog_3_method_2_code 33 = .ok (.aload_n 0, 1) := by decide +kernel
theorem d_F_feel_34 : decode prog_3_method_2_code 34 = .ok (.getfield 11, 3) := by decide +kernel
theorem d_F_feel_37 : decode prog_3_method_2_code 37 = .ok (.iload 6, 2) := by decide +kernel
theorem d_F_feel_39 : decode prog_3_method_2_code 39 = .ok (.aload_n 0, 1) := by decide +kernel
theorem d_F_feel_40 : decode prog_3_method_2_code 40 = .ok (.getfield 29, 3) := by decide +kernel
theorem d_F_feel_43 : decode prog_3_method_2_code 43 = .ok (.iload_n 1, 1) := by decide +kernel
theorem d_F_feel_44 : decode prog_3_method_2_code 44 = .ok (.iload_n 2, 1) := by decide +kernel
theorem d_F_feel_45 : decode prog_3_method_2_code 45 = .ok (.iload 6, 2) := by decide +kernel
theorem d_F_feel_47 : decode prog_3_method_2_code 47 = .ok (.invokevirtual 43, 3) := by decide +kernel
theorem d_F_feel_50 : decode prog_3_method_2_code 50 = .ok (.iastore, 1) := by decide +kernel
theorem d_F_feel_51 : decode prog_3_method_2_code 51 = .ok (.iinc 5 1, 3) := by decide +kernel
theorem d_F_feel_54 : decode prog_3_method_2_code 54 = .ok (.goto (-43), 3) := by decide +kernel
theorem d_F_feel_57 : decode prog_3_method_2_code 57 = .ok (.return_, 1) := by decide +kernel
def w_F_feel_11 (K : sm_Mem → Prop) (p0 : Int32) (p1 : Int32) (p2 : Int32) (x4 : Int32) (x5 : Int32) (μ : sm_Mem) : Prop := sm_lp1 (fun J11 x5 μ => if x4 ≤ x5 then K μ else (∀ v3 : Int32, v3 = (((μ 1 14) + x5) % 24) → w_D_heatBy (fun r5 μ4 => vp_in v3 24 ∧ ∀ μ7 : sm_Mem, μ7 = sm_st μ4 38 (v3.toNatClampNeg) r5 → J11 (x5 + 1) μ7) p0 p1 v3 μ)) x5 μ
def w_F_feel (K : sm_Mem → Prop) (p0 : Int32) (p1 : Int32) (p2 : Int32) (μ : sm_Mem) : Prop := ∀ v1 : Int32, v1 = (if 24 < p2 then 24 else p2) → w_F_feel_11 K p0 p1 p2 v1 0 μ
set_option maxHeartbeats 4000000 in
set_option maxRecDepth 100000 in
theorem P_F_feel (l : Launch) {K : sm_Mem → Prop} {p0 : Int32} {p1 : Int32} {p2 : Int32} {μ : sm_Mem} (h : w_F_feel K p0 p1 p2 μ) : sm_MV l ⟨"SnowMoney$Foresight", "feel", "(III)V"⟩ prog_3_method_2_code 7 { frames := 3, cells := 0, slots := 0, locals := 73 } [sm_R 37, sm_I p0, sm_I p1, sm_I p2] μ K := by
  refine sm_ofV (by decide +kernel) (fun _ => Nat.le_of_ble_eq_true rfl) ?_
  intro p e s m args below meth c A Q G C hR
  have B11 : ∀ (x4 : Int32) (x5 : Int32) (μ : sm_Mem), w_F_feel_11 K p0 p1 p2 x4 x5 μ → sm_W p l e { frames := 3, cells := 0, slots := 0, locals := 73 } s m args below meth c A Q G 7 0 0 11 [] [(0, sm_R 37), (1, sm_I p0), (2, sm_I p1), (4, sm_I x4), (5, sm_I x5)] μ := by
    intro x4 x5 μ h
    refine sm_lp1_sound (P := fun x5 μ => sm_W p l e { frames := 3, cells := 0, slots := 0, locals := 73 } s m args below meth c A Q G 7 0 0 11 [] [(0, sm_R 37), (1, sm_I p0), (2, sm_I p1), (4, sm_I x4), (5, sm_I x5)] μ) (fun J11 x5 μ hJ11 h => ?_) h
    refine sr_iload C 4 rfl d_F_feel_11 ?_
    refine sr_iload C 3 rfl d_F_feel_13 ?_
    refine sr_icmp_ge C (tgt := 57) d_F_feel_15 (by decide) (fun c2 => ?_) (fun c2 => ?_)
    · replace h := Eq.mp (if_pos c2) h
      exact hR _ _ _ d_F_feel_57 h
    · replace h := Eq.mp (if_neg c2) h
      refine sr_aload_n C 0 rfl rfl d_F_feel_18 ?_
      refine sr_getR C sm_F1 0 q_220 sm_l37 (r := 1) rfl (by decide) d_F_feel_19 ?_
      refine sr_getI C sm_F0 14 q_234 sm_l1 rfl (by decide) d_F_feel_22 ?_
      refine sr_iload C 4 rfl d_F_feel_25 ?_
      refine sr_iadd C d_F_feel_27 ?_
      refine sr_bipush C (v := 24) d_F_feel_28 (by decide) ?_
      refine sr_irem C (by decide) d_F_feel_30 ?_
      replace h := h _ rfl
      refine sr_istore C (by decide) d_F_feel_31 ?_
      refine sr_aload_n C 1 rfl rfl d_F_feel_33 ?_
      refine sr_getR C sm_F1 1 q_235 sm_l37 (r := 38) rfl (by decide) d_F_feel_34 ?_
      refine sr_iload C 0 rfl d_F_feel_37 ?_
      refine sr_aload_n C 1 rfl rfl d_F_feel_39 ?_
      refine sr_getR C sm_F1 0 q_220 sm_l37 (r := 1) rfl (by decide) d_F_feel_40 ?_
      refine sr_iload_n C 2 rfl rfl d_F_feel_43 ?_
      refine sr_iload_n C 3 rfl rfl d_F_feel_44 ?_
      refine sr_iload C 0 rfl d_F_feel_45 ?_
      refine sr_callVI C [sm_I _, sm_I _, sm_I _] (P_D_heatBy l h) ok_50 sm_l1 rfl rfl rfl rfl ⟨Nat.le_of_ble_eq_true rfl, Nat.le_of_ble_eq_true rfl⟩ (Nat.le_of_ble_eq_true rfl) ⟨Nat.zero_le _, Nat.zero_le _⟩ d_F_feel_47 (fun r5 μ4 h => ?_)
      obtain ⟨g6, h⟩ := h
      refine sr_iast C sm_l38 g6 d_F_feel_50 ?_
      replace h := h _ rfl
      refine sr_iinc C 5 rfl (by decide) d_F_feel_51 rfl ?_
      refine sr_goto C (tgt := 11) (by decide) d_F_feel_54 ?_
      refine sr_mask C [2, 3, 4, 5, 0] rfl ?_
      exact hJ11 _ _ h
  refine sr_iload_n C 3 rfl rfl d_F_feel_0 ?_
  refine sr_bipush C (v := 24) d_F_feel_1 (by decide) ?_
  refine sr_mmin C q_233 q_mmin1 q_mini q_mmin2 (Nat.le_of_ble_eq_true rfl) (Nat.le_of_ble_eq_true rfl) ⟨Nat.zero_le _, Nat.zero_le _⟩ d_F_feel_3 ?_
  replace h := h _ rfl
  refine sr_istore C (by decide) d_F_feel_6 ?_
  refine sr_iconst C (v := 0) d_F_feel_8 (by decide) ?_
  refine sr_istore C (by decide) d_F_feel_9 ?_
  refine sr_mask C [2, 3, 4, 1, 0] rfl ?_
  exact B11 _ _ _ h
theorem d_F_melt_0 : decode prog_3_method_3_code 0 = .ok (.iload 4, 2) := by decide +kernel
theorem d_F_melt_2 : decode prog_3_method_3_code 2 = .ok (.bipush 60, 2) := by decide +kernel
theorem d_F_melt_4 : decode prog_3_method_3_code 4 = .ok (.invokestatic 33, 3) := by decide +kernel
theorem d_F_melt_7 : decode prog_3_method_3_code 7 = .ok (.istore 5, 2) := by decide +kernel
theorem d_F_melt_9 : decode prog_3_method_3_code 9 = .ok (.iload_n 3, 1) := by decide +kernel
theorem d_F_melt_10 : decode prog_3_method_3_code 10 = .ok (.istore 6, 2) := by decide +kernel
theorem d_F_melt_12 : decode prog_3_method_3_code 12 = .ok (.aload_n 0, 1) := by decide +kernel
theorem d_F_melt_13 : decode prog_3_method_3_code 13 = .ok (.getfield 17, 3) := by decide +kernel
theorem d_F_melt_16 : decode prog_3_method_3_code 16 = .ok (.iconst 0, 1) := by decide +kernel
theorem d_F_melt_17 : decode prog_3_method_3_code 17 = .ok (.iload 6, 2) := by decide +kernel
theorem d_F_melt_19 : decode prog_3_method_3_code 19 = .ok (.iastore, 1) := by decide +kernel
theorem d_F_melt_20 : decode prog_3_method_3_code 20 = .ok (.iconst 0, 1) := by decide +kernel
theorem d_F_melt_21 : decode prog_3_method_3_code 21 = .ok (.istore 7, 2) := by decide +kernel
theorem d_F_melt_23 : decode prog_3_method_3_code 23 = .ok (.iload 7, 2) := by decide +kernel
theorem d_F_melt_25 : decode prog_3_method_3_code 25 = .ok (.iload 5, 2) := by decide +kernel
theorem d_F_melt_27 : decode prog_3_method_3_code 27 = .ok (.if_icmp .ge 56, 3) := by decide +kernel
theorem d_F_melt_30 : decode prog_3_method_3_code 30 = .ok (.aload_n 0, 1) := by decide +kernel
theorem d_F_melt_31 : decode prog_3_method_3_code 31 = .ok (.getfield 29, 3) := by decide +kernel
theorem d_F_melt_34 : decode prog_3_method_3_code 34 = .ok (.getfield 39, 3) := by decide +kernel
theorem d_F_melt_37 : decode prog_3_method_3_code 37 = .ok (.iload 7, 2) := by decide +kernel
theorem d_F_melt_39 : decode prog_3_method_3_code 39 = .ok (.iadd, 1) := by decide +kernel
theorem d_F_melt_40 : decode prog_3_method_3_code 40 = .ok (.bipush 24, 2) := by decide +kernel
theorem d_F_melt_42 : decode prog_3_method_3_code 42 = .ok (.irem, 1) := by decide +kernel
theorem d_F_melt_43 : decode prog_3_method_3_code 43 = .ok (.istore 8, 2) := by decide +kernel
theorem d_F_melt_45 : decode prog_3_method_3_code 45 = .ok (.iconst 0, 1) := by decide +kernel
theorem d_F_melt_46 : decode prog_3_method_3_code 46 = .ok (.iload 6, 2) := by decide +kernel
theorem d_F_melt_48 : decode prog_3_method_3_code 48 = .ok (.iload_n 1, 1) := by decide +kernel
theorem d_F_melt_49 : decode prog_3_method_3_code 49 = .ok (.iload_n 2, 1) := by decide +kernel
theorem d_F_melt_50 : decode prog_3_method_3_code 50 = .ok (.aload_n 0, 1) := by decide +kernel
theorem d_F_melt_51 : decode prog_3_method_3_code 51 = .ok (.getfield 11, 3) := by decide +kernel
theorem d_F_melt_54 : decode prog_3_method_3_code 54 = .ok (.iload 8, 2) := by decide +kernel
theorem d_F_melt_56 : decode prog_3_method_3_code 56 = .ok (.iaload, 1) := by decide +kernel
theorem d_F_melt_57 : decode prog_3_method_3_code 57 = .ok (.invokestatic 47, 3) := by decide +kernel
theorem d_F_melt_60 : decode prog_3_method_3_code 60 = .ok (.isub, 1) := by decide +kernel
theorem d_F_melt_61 : decode prog_3_method_3_code 61 = .ok (.invokestatic 52, 3) := by decide +kernel
theorem d_F_melt_64 : decode prog_3_method_3_code 64 = .ok (.istore 6, 2) := by decide +kernel
theorem d_F_melt_66 : decode prog_3_method_3_code 66 = .ok (.aload_n 0, 1) := by decide +kernel
theorem d_F_melt_67 : decode prog_3_method_3_code 67 = .ok (.getfield 17, 3) := by decide +kernel
theorem d_F_melt_70 : decode prog_3_method_3_code 70 = .ok (.iload 7, 2) := by decide +kernel
theorem d_F_melt_72 : decode prog_3_method_3_code 72 = .ok (.iconst 1, 1) := by decide +kernel
theorem d_F_melt_73 : decode prog_3_method_3_code 73 = .ok (.iadd, 1) := by decide +kernel
theorem d_F_melt_74 : decode prog_3_method_3_code 74 = .ok (.iload 6, 2) := by decide +kernel
theorem d_F_melt_76 : decode prog_3_method_3_code 76 = .ok (.iastore, 1) := by decide +kernel
theorem d_F_melt_77 : decode prog_3_method_3_code 77 = .ok (.iinc 7 1, 3) := by decide +kernel
theorem d_F_melt_80 : decode prog_3_method_3_code 80 = .ok (.goto (-57), 3) := by decide +kernel
theorem d_F_melt_83 : decode prog_3_method_3_code 83 = .ok (.iload 6, 2) := by decide +kernel
theorem d_F_melt_85 : decode prog_3_method_3_code 85 = .ok (.ireturn, 1) := by decide +kernel
def w_F_melt_23 (K : Int32 → sm_Mem → Prop) (p0 : Int32) (p1 : Int32) (p2 : Int32) (p3 : Int32) (x5 : Int32) (x6 : Int32) (x7 : Int32) (μ : sm_Mem) : Prop := sm_lp2 (fun J23 x6 x7 μ => if x5 ≤ x7 then K x6 μ else (∀ v4 : Int32, v4 = (((μ 1 14) + x7) % 24) → vp_in v4 24 ∧ w_K_melts (fun r7 μ6 => ∀ v8 : Int32, v8 = (if 0 < (x6 - r7) then (x6 - r7) else 0) → vp_in (x7 + 1) 61 ∧ ∀ μ10 : sm_Mem, μ10 = sm_st μ6 39 ((x7 + 1).toNatClampNeg) v8 → J23 v8 (x7 + 1) μ10) p0 p1 (μ 38 v4.toNatClampNeg) μ)) x6 x7 μ
def w_F_melt (K : Int32 → sm_Mem → Prop) (p0 : Int32) (p1 : Int32) (p2 : Int32) (p3 : Int32) (μ : sm_Mem) : Prop := ∀ v1 : Int32, v1 = (if 60 < p3 then 60 else p3) → ∀ μ2 : sm_Mem, μ2 = sm_st μ 39 0 p2 → w_F_melt_23 K p0 p1 p2 p3 v1 p2 0 μ2
set_option maxHeartbeats 4000000 in
set_option maxRecDepth 100000 in
theorem P_F_melt (l : Launch) {K : Int32 → sm_Mem → Prop} {p0 : Int32} {p1 : Int32} {p2 : Int32} {p3 : Int32} {μ : sm_Mem} (h : w_F_melt K p0 p1 p2 p3 μ) : sm_MI l ⟨"SnowMoney$Foresight", "melt", "(IIII)I"⟩ prog_3_method_3_code 9 (some .int) { frames := 2, cells := 0, slots := 0, locals := 46 } [sm_R 37, sm_I p0, sm_I p1, sm_I p2, sm_I p3] μ K := by
  refine sm_ofI (by decide +kernel) (fun _ => Nat.le_of_ble_eq_true rfl) ?_
  intro p e s m args below meth c A Q G C hR
  have B23 : ∀ (x5 : Int32) (x6 : Int32) (x7 : Int32) (μ : sm_Mem), w_F_melt_23 K p0 p1 p2 p3 x5 x6 x7 μ → sm_W p l e { frames := 2, cells := 0, slots := 0, locals := 46 } s m args below meth c A Q G 9 0 0 23 [] [(0, sm_R 37), (1, sm_I p0), (2, sm_I p1), (5, sm_I x5), (6, sm_I x6), (7, sm_I x7)] μ := by
    intro x5 x6 x7 μ h
    refine sm_lp2_sound (P := fun x6 x7 μ => sm_W p l e { frames := 2, cells := 0, slots := 0, locals := 46 } s m args below meth c A Q G 9 0 0 23 [] [(0, sm_R 37), (1, sm_I p0), (2, sm_I p1), (5, sm_I x5), (6, sm_I x6), (7, sm_I x7)] μ) (fun J23 x6 x7 μ hJ23 h => ?_) h
    refine sr_iload C 5 rfl d_F_melt_23 ?_
    refine sr_iload C 3 rfl d_F_melt_25 ?_
    refine sr_icmp_ge C (tgt := 83) d_F_melt_27 (by decide) (fun c3 => ?_) (fun c3 => ?_)
    · replace h := Eq.mp (if_pos c3) h
      refine sr_iload C 4 rfl d_F_melt_83 ?_
      exact hR _ _ _ _ d_F_melt_85 rfl h
    · replace h := Eq.mp (if_neg c3) h
      refine sr_aload_n C 0 rfl rfl d_F_melt_30 ?_
      refine sr_getR C sm_F1 0 q_220 sm_l37 (r := 1) rfl (by decide) d_F_melt_31 ?_
      refine sr_getI C sm_F0 14 q_234 sm_l1 rfl (by decide) d_F_melt_34 ?_
      refine sr_iload C 5 rfl d_F_melt_37 ?_
      refine sr_iadd C d_F_melt_39 ?_
      refine sr_bipush C (v := 24) d_F_melt_40 (by decide) ?_
      refine sr_irem C (by decide) d_F_melt_42 ?_
      replace h := h _ rfl
      refine sr_istore C (by decide) d_F_melt_43 ?_
      refine sr_iconst C (v := 0) d_F_melt_45 (by decide) ?_
      refine sr_iload C 5 rfl d_F_melt_46 ?_
      refine sr_iload_n C 2 rfl rfl d_F_melt_48 ?_
      refine sr_iload_n C 3 rfl rfl d_F_melt_49 ?_
      refine sr_aload_n C 1 rfl rfl d_F_melt_50 ?_
      refine sr_getR C sm_F1 1 q_235 sm_l37 (r := 38) rfl (by decide) d_F_melt_51 ?_
      refine sr_iload C 0 rfl d_F_melt_54 ?_
      obtain ⟨g5, h⟩ := h
      refine sr_iald C sm_l38 g5 d_F_melt_56 ?_
      refine sr_callSI C [sm_I _, sm_I _, sm_I _] (P_K_melts l h) ok_51 rfl rfl rfl ⟨Nat.le_of_ble_eq_true rfl, Nat.le_of_ble_eq_true rfl⟩ (Nat.le_of_ble_eq_true rfl) ⟨Nat.zero_le _, Nat.zero_le _⟩ d_F_melt_57 (fun r7 μ6 h => ?_)
      refine sr_isub C d_F_melt_60 ?_
      refine sr_mmax C q_239 q_mmax1 q_mini q_mmax2 (Nat.le_of_ble_eq_true rfl) (Nat.le_of_ble_eq_true rfl) ⟨Nat.zero_le _, Nat.zero_le _⟩ d_F_melt_61 ?_
      replace h := h _ rfl
      refine sr_istore C (by decide) d_F_melt_64 ?_
      refine sr_aload_n C 2 rfl rfl d_F_melt_66 ?_
      refine sr_getR C sm_F1 2 q_237 sm_l37 (r := 39) rfl (by decide) d_F_melt_67 ?_
      refine sr_iload C 6 rfl d_F_melt_70 ?_
      refine sr_iconst C (v := 1) d_F_melt_72 (by decide) ?_
      refine sr_iadd C d_F_melt_73 ?_
      refine sr_iload C 0 rfl d_F_melt_74 ?_
      obtain ⟨g9, h⟩ := h
      refine sr_iast C sm_l39 g9 d_F_melt_76 ?_
      replace h := h _ rfl
      refine sr_iinc C 6 rfl (by decide) d_F_melt_77 rfl ?_
      refine sr_goto C (tgt := 23) (by decide) d_F_melt_80 ?_
      refine sr_mask C [3, 4, 5, 6, 1, 0] rfl ?_
      exact hJ23 _ _ _ h
  refine sr_iload C 4 rfl d_F_melt_0 ?_
  refine sr_bipush C (v := 60) d_F_melt_2 (by decide) ?_
  refine sr_mmin C q_233 q_mmin1 q_mini q_mmin2 (Nat.le_of_ble_eq_true rfl) (Nat.le_of_ble_eq_true rfl) ⟨Nat.zero_le _, Nat.zero_le _⟩ d_F_melt_4 ?_
  replace h := h _ rfl
  refine sr_istore C (by decide) d_F_melt_7 ?_
  refine sr_iload_n C 4 rfl rfl d_F_melt_9 ?_
  refine sr_istore C (by decide) d_F_melt_10 ?_
  refine sr_aload_n C 2 rfl rfl d_F_melt_12 ?_
  refine sr_getR C sm_F1 2 q_237 sm_l37 (r := 39) rfl (by decide) d_F_melt_13 ?_
  refine sr_iconst C (v := 0) d_F_melt_16 (by decide) ?_
  refine sr_iload C 0 rfl d_F_melt_17 ?_
  refine sr_iastJ C sm_l39 (j := 0) (sm_vin (by decide)) (by decide) d_F_melt_19 ?_
  replace h := h _ rfl
  refine sr_iconst C (v := 0) d_F_melt_20 (by decide) ?_
  refine sr_istore C (by decide) d_F_melt_21 ?_
  refine sr_mask C [3, 4, 5, 2, 1, 0] rfl ?_
  exact B23 _ _ _ _ h
theorem d_F_leftBy_0 : decode prog_3_method_4_code 0 = .ok (.aload_n 0, 1) := by decide +kernel
theorem d_F_leftBy_1 : decode prog_3_method_4_code 1 = .ok (.getfield 29, 3) := by decide +kernel
theorem d_F_leftBy_4 : decode prog_3_method_4_code 4 = .ok (.iload_n 1, 1) := by decide +kernel
theorem d_F_leftBy_5 : decode prog_3_method_4_code 5 = .ok (.invokevirtual 55, 3) := by decide +kernel
theorem d_F_leftBy_8 : decode prog_3_method_4_code 8 = .ok (.ifCond .ne 5, 3) := by decide +kernel
theorem d_F_leftBy_11 : decode prog_3_method_4_code 11 = .ok (.iconst 0, 1) := by decide +kernel
theorem d_F_leftBy_12 : decode prog_3_method_4_code 12 = .ok (.ireturn, 1) := by decide +kernel
theorem d_F_leftBy_13 : decode prog_3_method_4_code 13 = .ok (.aload_n 0, 1) := by decide +kernel
theorem d_F_leftBy_14 : decode prog_3_method_4_code 14 = .ok (.iload_n 2, 1) := by decide +kernel
theorem d_F_leftBy_15 : decode prog_3_method_4_code 15 = .ok (.iload_n 3, 1) := by decide +kernel
theorem d_F_leftBy_16 : decode prog_3_method_4_code 16 = .ok (.iload 4, 2) := by decide +kernel
theorem d_F_leftBy_18 : decode prog_3_method_4_code 18 = .ok (.invokevirtual 59, 3) := by decide +kernel
theorem d_F_leftBy_21 : decode prog_3_method_4_code 21 = .ok (.aload_n 0, 1) := by decide +kernel
theorem d_F_leftBy_22 : decode prog_3_method_4_code 22 = .ok (.aload_n 0, 1) := by decide +kernel
theorem d_F_leftBy_23 : decode prog_3_method_4_code 23 = .ok (.getfield 29, 3) := by decide +kernel
theorem d_F_leftBy_26 : decode prog_3_method_4_code 26 = .ok (.getfield 63, 3) := by decide +kernel
theorem d_F_leftBy_29 : decode prog_3_method_4_code 29 = .ok (.iload_n 1, 1) := by decide +kernel
theorem d_F_leftBy_30 : decode prog_3_method_4_code 30 = .ok (.iaload, 1) := by decide +kernel
theorem d_F_leftBy_31 : decode prog_3_method_4_code 31 = .ok (.aload_n 0, 1) := by decide +kernel
theorem d_F_leftBy_32 : decode prog_3_method_4_code 32 = .ok (.getfield 29, 3) := by decide +kernel
theorem d_F_leftBy_35 : decode prog_3_method_4_code 35 = .ok (.getfield 66, 3) := by decide +kernel
theorem d_F_leftBy_38 : decode prog_3_method_4_code 38 = .ok (.iload_n 1, 1) := by decide +kernel
theorem d_F_leftBy_39 : decode prog_3_method_4_code 39 = .ok (.iaload, 1) := by decide +kernel
theorem d_F_leftBy_40 : decode prog_3_method_4_code 40 = .ok (.aload_n 0, 1) := by decide +kernel
theorem d_F_leftBy_41 : decode prog_3_method_4_code 41 = .ok (.getfield 29, 3) := by decide +kernel
theorem d_F_leftBy_44 : decode prog_3_method_4_code 44 = .ok (.getfield 69, 3) := by decide +kernel
theorem d_F_leftBy_47 : decode prog_3_method_4_code 47 = .ok (.iload_n 1, 1) := by decide +kernel
theorem d_F_leftBy_48 : decode prog_3_method_4_code 48 = .ok (.iaload, 1) := by decide +kernel
theorem d_F_leftBy_49 : decode prog_3_method_4_code 49 = .ok (.iload 4, 2) := by decide +kernel
theorem d_F_leftBy_51 : decode prog_3_method_4_code 51 = .ok (.invokevirtual 72, 3) := by decide +kernel
theorem d_F_leftBy_54 : decode prog_3_method_4_code 54 = .ok (.ireturn, 1) := by decide +kernel
def w_F_leftBy (K : Int32 → sm_Mem → Prop) (p0 : Int32) (p1 : Int32) (p2 : Int32) (p3 : Int32) (μ : sm_Mem) : Prop := w_D_hasNote (fun r2 μ1 => if r2 = 0 then K 0 μ1 else (w_F_feel (fun μ4 => vp_in p0 10 ∧ vp_in p0 10 ∧ vp_in p0 10 ∧ w_F_melt (fun r9 μ8 => K r9 μ8) (μ4 4 p0.toNatClampNeg) (μ4 5 p0.toNatClampNeg) (μ4 6 p0.toNatClampNeg) p3 μ4) p1 p2 p3 μ1)) p0 μ
set_option maxHeartbeats 4000000 in
set_option maxRecDepth 100000 in
theorem P_F_leftBy (l : Launch) {K : Int32 → sm_Mem → Prop} {p0 : Int32} {p1 : Int32} {p2 : Int32} {p3 : Int32} {μ : sm_Mem} (h : w_F_leftBy K p0 p1 p2 p3 μ) : sm_MI l ⟨"SnowMoney$Foresight", "leftBy", "(IIII)I"⟩ prog_3_method_4_code 5 (some .int) { frames := 4, cells := 0, slots := 0, locals := 99 } [sm_R 37, sm_I p0, sm_I p1, sm_I p2, sm_I p3] μ K := by
  refine sm_ofI (by decide +kernel) (fun _ => Nat.le_of_ble_eq_true rfl) ?_
  intro p e s m args below meth c A Q G C hR
  refine sr_aload_n C 0 rfl rfl d_F_leftBy_0 ?_
  refine sr_getR C sm_F1 0 q_220 sm_l37 (r := 1) rfl (by decide) d_F_leftBy_1 ?_
  refine sr_iload_n C 1 rfl rfl d_F_leftBy_4 ?_
  refine sr_callVI C [sm_I _] (P_D_hasNote l h) ok_47 sm_l1 rfl rfl rfl rfl ⟨Nat.le_of_ble_eq_true rfl, Nat.le_of_ble_eq_true rfl⟩ (Nat.le_of_ble_eq_true rfl) ⟨Nat.zero_le _, Nat.zero_le _⟩ d_F_leftBy_5 (fun r2 μ1 h => ?_)
  refine sr_if_ne C (tgt := 13) d_F_leftBy_8 (by decide) (fun c3 => ?_) (fun c3 => ?_)
  · replace h := Eq.mp (if_neg c3) h
    refine sr_aload_n C 0 rfl rfl d_F_leftBy_13 ?_
    refine sr_iload_n C 2 rfl rfl d_F_leftBy_14 ?_
    refine sr_iload_n C 3 rfl rfl d_F_leftBy_15 ?_
    refine sr_iload C 4 rfl d_F_leftBy_16 ?_
    refine sr_callVV C [sm_I _, sm_I _, sm_I _] (P_F_feel l h) ok_48 sm_l37 rfl rfl rfl rfl ⟨Nat.le_of_ble_eq_true rfl, Nat.le_of_ble_eq_true rfl⟩ (Nat.le_of_ble_eq_true rfl) ⟨Nat.zero_le _, Nat.zero_le _⟩ d_F_leftBy_18 (fun μ4 h => ?_)
    refine sr_aload_n C 0 rfl rfl d_F_leftBy_21 ?_
    refine sr_aload_n C 0 rfl rfl d_F_leftBy_22 ?_
    refine sr_getR C sm_F1 0 q_220 sm_l37 (r := 1) rfl (by decide) d_F_leftBy_23 ?_
    refine sr_getR C sm_F0 2 q_226 sm_l1 (r := 4) rfl (by decide) d_F_leftBy_26 ?_
    refine sr_iload_n C 1 rfl rfl d_F_leftBy_29 ?_
    obtain ⟨g5, h⟩ := h
    refine sr_iald C sm_l4 g5 d_F_leftBy_30 ?_
    refine sr_aload_n C 0 rfl rfl d_F_leftBy_31 ?_
    refine sr_getR C sm_F1 0 q_220 sm_l37 (r := 1) rfl (by decide) d_F_leftBy_32 ?_
    refine sr_getR C sm_F0 3 q_227 sm_l1 (r := 5) rfl (by decide) d_F_leftBy_35 ?_
    refine sr_iload_n C 1 rfl rfl d_F_leftBy_38 ?_
    obtain ⟨g6, h⟩ := h
    refine sr_iald C sm_l5 g6 d_F_leftBy_39 ?_
    refine sr_aload_n C 0 rfl rfl d_F_leftBy_40 ?_
    refine sr_getR C sm_F1 0 q_220 sm_l37 (r := 1) rfl (by decide) d_F_leftBy_41 ?_
    refine sr_getR C sm_F0 4 q_228 sm_l1 (r := 6) rfl (by decide) d_F_leftBy_44 ?_
    refine sr_iload_n C 1 rfl rfl d_F_leftBy_47 ?_
    obtain ⟨g7, h⟩ := h
    refine sr_iald C sm_l6 g7 d_F_leftBy_48 ?_
    refine sr_iload C 4 rfl d_F_leftBy_49 ?_
    refine sr_callVI C [sm_I _, sm_I _, sm_I _, sm_I _] (P_F_melt l h) ok_49 sm_l37 rfl rfl rfl rfl ⟨Nat.le_of_ble_eq_true rfl, Nat.le_of_ble_eq_true rfl⟩ (Nat.le_of_ble_eq_true rfl) ⟨Nat.zero_le _, Nat.zero_le _⟩ d_F_leftBy_51 (fun r9 μ8 h => ?_)
    exact hR _ _ _ _ d_F_leftBy_54 rfl h
  · replace h := Eq.mp (if_pos c3) h
    refine sr_iconst C (v := 0) d_F_leftBy_11 (by decide) ?_
    exact hR _ _ _ _ d_F_leftBy_12 rfl h
theorem d_F_hoursUntilGone_0 : decode prog_3_method_8_code 0 = .ok (.aload_n 0, 1) := by decide +kernel
theorem d_F_hoursUntilGone_1 : decode prog_3_method_8_code 1 = .ok (.iload_n 1, 1) := by decide +kernel
theorem d_F_hoursUntilGone_2 : decode prog_3_method_8_code 2 = .ok (.aload_n 0, 1) := by decide +kernel
theorem d_F_hoursUntilGone_3 : decode prog_3_method_8_code 3 = .ok (.getfield 29, 3) := by decide +kernel
theorem d_F_hoursUntilGone_6 : decode prog_3_method_8_code 6 = .ok (.iload_n 1, 1) := by decide +kernel
theorem d_F_hoursUntilGone_7 : decode prog_3_method_8_code 7 = .ok (.invokevirtual 79, 3) := by decide +kernel
theorem d_F_hoursUntilGone_10 : decode prog_3_method_8_code 10 = .ok (.aload_n 0, 1) := by decide +kernel
theorem d_F_hoursUntilGone_11 : decode prog_3_method_8_code 11 = .ok (.getfield 29, 3) := by decide +kernel
theorem d_F_hoursUntilGone_14 : decode prog_3_method_8_code 14 = .ok (.getfield 83, 3) := by decide +kernel
theorem d_F_hoursUntilGone_17 : decode prog_3_method_8_code 17 = .ok (.bipush 60, 2) := by decide +kernel
theorem d_F_hoursUntilGone_19 : decode prog_3_method_8_code 19 = .ok (.invokevirtual 86, 3) := by decide +kernel
theorem d_F_hoursUntilGone_22 : decode prog_3_method_8_code 22 = .ok (.istore_n 2, 1) := by decide +kernel
theorem d_F_hoursUntilGone_23 : decode prog_3_method_8_code 23 = .ok (.iload_n 2, 1) := by decide +kernel
theorem d_F_hoursUntilGone_24 : decode prog_3_method_8_code 24 = .ok (.ifCond .gt 12, 3) := by decide +kernel
theorem d_F_hoursUntilGone_27 : decode prog_3_method_8_code 27 = .ok (.aload_n 0, 1) := by decide +kernel
theorem d_F_hoursUntilGone_28 : decode prog_3_method_8_code 28 = .ok (.getfield 17, 3) := by decide +kernel
theorem d_F_hoursUntilGone_31 : decode prog_3_method_8_code 31 = .ok (.iconst 0, 1) := by decide +kernel
theorem d_F_hoursUntilGone_32 : decode prog_3_method_8_code 32 = .ok (.iaload, 1) := by decide +kernel
theorem d_F_hoursUntilGone_33 : decode prog_3_method_8_code 33 = .ok (.ifCond .ne 6, 3) := by decide +kernel
theorem d_F_hoursUntilGone_36 : decode prog_3_method_8_code 36 = .ok (.bipush 61, 2) := by decide +kernel
theorem d_F_hoursUntilGone_38 : decode prog_3_method_8_code 38 = .ok (.ireturn, 1) := by decide +kernel
theorem d_F_hoursUntilGone_39 : decode prog_3_method_8_code 39 = .ok (.iconst 1, 1) := by decide +kernel
theorem d_F_hoursUntilGone_40 : decode prog_3_method_8_code 40 = .ok (.istore_n 3, 1) := by decide +kernel
theorem d_F_hoursUntilGone_41 : decode prog_3_method_8_code 41 = .ok (.iconst 1, 1) := by decide +kernel
theorem d_F_hoursUntilGone_42 : decode prog_3_method_8_code 42 = .ok (.istore 4, 2) := by decide +kernel
theorem d_F_hoursUntilGone_44 : decode prog_3_method_8_code 44 = .ok (.iload 4, 2) := by decide +kernel
theorem d_F_hoursUntilGone_46 : decode prog_3_method_8_code 46 = .ok (.bipush 60, 2) := by decide +kernel
theorem d_F_hoursUntilGone_48 : decode prog_3_method_8_code 48 = .ok (.if_icmp .ge 24, 3) := by decide +kernel
theorem d_F_hoursUntilGone_51 : decode prog_3_method_8_code 51 = .ok (.aload_n 0, 1) := by decide +kernel
theorem d_F_hoursUntilGone_52 : decode prog_3_method_8_code 52 = .ok (.getfield 17, 3) := by decide +kernel
theorem d_F_hoursUntilGone_55 : decode prog_3_method_8_code 55 = .ok (.iload 4, 2) := by decide +kernel
theorem d_F_hoursUntilGone_57 : decode prog_3_method_8_code 57 = .ok (.iaload, 1) := by decide +kernel
theorem d_F_hoursUntilGone_58 : decode prog_3_method_8_code 58 = .ok (.ifCond .le 14, 3) := by decide +kernel
theorem d_F_hoursUntilGone_61 : decode prog_3_method_8_code 61 = .ok (.iload 4, 2) := by decide +kernel
theorem d_F_hoursUntilGone_63 : decode prog_3_method_8_code 63 = .ok (.iconst 1, 1) := by decide +kernel
theorem d_F_hoursUntilGone_64 : decode prog_3_method_8_code 64 = .ok (.iadd, 1) := by decide +kernel
theorem d_F_hoursUntilGone_65 : decode prog_3_method_8_code 65 = .ok (.istore_n 3, 1) := by decide +kernel
theorem d_F_hoursUntilGone_66 : decode prog_3_method_8_code 66 = .ok (.iinc 4 1, 3) := by decide +kernel
theorem d_F_hoursUntilGone_69 : decode prog_3_method_8_code 69 = .ok (.goto (-25), 3) := by decide +kernel
theorem d_F_hoursUntilGone_72 : decode prog_3_method_8_code 72 = .ok (.iload_n 3, 1) := by decide +kernel
theorem d_F_hoursUntilGone_73 : decode prog_3_method_8_code 73 = .ok (.ireturn, 1) := by decide +kernel
def w_F_hoursUntilGone_44 (K : Int32 → sm_Mem → Prop) (p0 : Int32) (x3 : Int32) (x4 : Int32) (μ : sm_Mem) : Prop := sm_lp2 (fun J44 x3 x4 μ => if 60 ≤ x4 then K x3 μ else (vp_in x4 61 ∧ if (μ 39 x4.toNatClampNeg) ≤ 0 then K x3 μ else (∀ v10 : Int32, v10 = (x4 + 1) → J44 v10 (x4 + 1) μ))) x3 x4 μ
def w_F_hoursUntilGone (K : Int32 → sm_Mem → Prop) (p0 : Int32) (μ : sm_Mem) : Prop := w_D_warmthAround (fun r2 μ1 => w_F_leftBy (fun r4 μ3 => if 0 < r4 then K 61 μ3 else (if (μ3 39 0) = 0 then K 61 μ3 else w_F_hoursUntilGone_44 K p0 1 1 μ3)) p0 r2 (μ1 1 13) 60 μ1) p0 μ
set_option maxHeartbeats 4000000 in
set_option maxRecDepth 100000 in
theorem P_F_hoursUntilGone (l : Launch) {K : Int32 → sm_Mem → Prop} {p0 : Int32} {μ : sm_Mem} (h : w_F_hoursUntilGone K p0 μ) : sm_MI l ⟨"SnowMoney$Foresight", "hoursUntilGone", "(I)I"⟩ prog_3_method_8_code 5 (some .int) { frames := 5, cells := 0, slots := 0, locals := 123 } [sm_R 37, sm_I p0] μ K := by
  refine sm_ofI (by decide +kernel) (fun _ => Nat.le_of_ble_eq_true rfl) ?_
  intro p e s m args below meth c A Q G C hR
  have B44 : ∀ (x3 : Int32) (x4 : Int32) (μ : sm_Mem), w_F_hoursUntilGone_44 K p0 x3 x4 μ → sm_W p l e { frames := 5, cells := 0, slots := 0, locals := 123 } s m args below meth c A Q G 5 0 0 44 [] [(0, sm_R 37), (3, sm_I x3), (4, sm_I x4)] μ := by
    intro x3 x4 μ h
    refine sm_lp2_sound (P := fun x3 x4 μ => sm_W p l e { frames := 5, cells := 0, slots := 0, locals := 123 } s m args below meth c A Q G 5 0 0 44 [] [(0, sm_R 37), (3, sm_I x3), (4, sm_I x4)] μ) (fun J44 x3 x4 μ hJ44 h => ?_) h
    refine sr_iload C 2 rfl d_F_hoursUntilGone_44 ?_
    refine sr_bipush C (v := 60) d_F_hoursUntilGone_46 (by decide) ?_
    refine sr_icmp_ge C (tgt := 72) d_F_hoursUntilGone_48 (by decide) (fun c7 => ?_) (fun c7 => ?_)
    · replace h := Eq.mp (if_pos c7) h
      refine sr_iload_n C 1 rfl rfl d_F_hoursUntilGone_72 ?_
      exact hR _ _ _ _ d_F_hoursUntilGone_73 rfl h
    · replace h := Eq.mp (if_neg c7) h
      refine sr_aload_n C 0 rfl rfl d_F_hoursUntilGone_51 ?_
      refine sr_getR C sm_F1 2 q_237 sm_l37 (r := 39) rfl (by decide) d_F_hoursUntilGone_52 ?_
      refine sr_iload C 2 rfl d_F_hoursUntilGone_55 ?_
      obtain ⟨g8, h⟩ := h
      refine sr_iald C sm_l39 g8 d_F_hoursUntilGone_57 ?_
      refine sr_if_le C (tgt := 72) d_F_hoursUntilGone_58 (by decide) (fun c9 => ?_) (fun c9 => ?_)
      · replace h := Eq.mp (if_pos c9) h
        refine sr_iload_n C 1 rfl rfl d_F_hoursUntilGone_72 ?_
        exact hR _ _ _ _ d_F_hoursUntilGone_73 rfl h
      · replace h := Eq.mp (if_neg c9) h
        refine sr_iload C 2 rfl d_F_hoursUntilGone_61 ?_
        refine sr_iconst C (v := 1) d_F_hoursUntilGone_63 (by decide) ?_
        refine sr_iadd C d_F_hoursUntilGone_64 ?_
        replace h := h _ rfl
        refine sr_istore_n C rfl (by decide) d_F_hoursUntilGone_65 ?_
        refine sr_iinc C 2 rfl (by decide) d_F_hoursUntilGone_66 rfl ?_
        refine sr_goto C (tgt := 44) (by decide) d_F_hoursUntilGone_69 ?_
        refine sr_mask C [2, 1, 0] rfl ?_
        exact hJ44 _ _ _ h
  refine sr_aload_n C 0 rfl rfl d_F_hoursUntilGone_0 ?_
  refine sr_iload_n C 1 rfl rfl d_F_hoursUntilGone_1 ?_
  refine sr_aload_n C 0 rfl rfl d_F_hoursUntilGone_2 ?_
  refine sr_getR C sm_F1 0 q_220 sm_l37 (r := 1) rfl (by decide) d_F_hoursUntilGone_3 ?_
  refine sr_iload_n C 1 rfl rfl d_F_hoursUntilGone_6 ?_
  refine sr_callVI C [sm_I _] (P_D_warmthAround l h) ok_55 sm_l1 rfl rfl rfl rfl ⟨Nat.le_of_ble_eq_true rfl, Nat.le_of_ble_eq_true rfl⟩ (Nat.le_of_ble_eq_true rfl) ⟨Nat.zero_le _, Nat.zero_le _⟩ d_F_hoursUntilGone_7 (fun r2 μ1 h => ?_)
  refine sr_aload_n C 0 rfl rfl d_F_hoursUntilGone_10 ?_
  refine sr_getR C sm_F1 0 q_220 sm_l37 (r := 1) rfl (by decide) d_F_hoursUntilGone_11 ?_
  refine sr_getI C sm_F0 13 q_261 sm_l1 rfl (by decide) d_F_hoursUntilGone_14 ?_
  refine sr_bipush C (v := 60) d_F_hoursUntilGone_17 (by decide) ?_
  refine sr_callVI C [sm_I _, sm_I _, sm_I _, sm_I _] (P_F_leftBy l h) ok_56 sm_l37 rfl rfl rfl rfl ⟨Nat.le_of_ble_eq_true rfl, Nat.le_of_ble_eq_true rfl⟩ (Nat.le_of_ble_eq_true rfl) ⟨Nat.zero_le _, Nat.zero_le _⟩ d_F_hoursUntilGone_19 (fun r4 μ3 h => ?_)
  refine sr_istore_n C rfl (by decide) d_F_hoursUntilGone_22 ?_
  refine sr_iload_n C 0 rfl rfl d_F_hoursUntilGone_23 ?_
  refine sr_if_gt C (tgt := 36) d_F_hoursUntilGone_24 (by decide) (fun c5 => ?_) (fun c5 => ?_)
  · replace h := Eq.mp (if_pos c5) h
    refine sr_bipush C (v := 61) d_F_hoursUntilGone_36 (by decide) ?_
    exact hR _ _ _ _ d_F_hoursUntilGone_38 rfl h
  · replace h := Eq.mp (if_neg c5) h
    refine sr_aload_n C 1 rfl rfl d_F_hoursUntilGone_27 ?_
    refine sr_getR C sm_F1 2 q_237 sm_l37 (r := 39) rfl (by decide) d_F_hoursUntilGone_28 ?_
    refine sr_iconst C (v := 0) d_F_hoursUntilGone_31 (by decide) ?_
    refine sr_ialdJ C sm_l39 (j := 0) (sm_vin (by decide)) (by decide) d_F_hoursUntilGone_32 ?_
    refine sr_if_ne C (tgt := 39) d_F_hoursUntilGone_33 (by decide) (fun c6 => ?_) (fun c6 => ?_)
    · replace h := Eq.mp (if_neg c6) h
      refine sr_iconst C (v := 1) d_F_hoursUntilGone_39 (by decide) ?_
      refine sr_istore_n C rfl (by decide) d_F_hoursUntilGone_40 ?_
      refine sr_iconst C (v := 1) d_F_hoursUntilGone_41 (by decide) ?_
      refine sr_istore C (by decide) d_F_hoursUntilGone_42 ?_
      refine sr_mask C [3, 1, 0] rfl ?_
      exact B44 _ _ _ h
    · replace h := Eq.mp (if_pos c6) h
      refine sr_bipush C (v := 61) d_F_hoursUntilGone_36 (by decide) ?_
      exact hR _ _ _ _ d_F_hoursUntilGone_38 rfl h
theorem d_F_findFirstGone_0 : decode prog_3_method_7_code 0 = .ok (.aload_n 0, 1) := by decide +kernel
theorem d_F_findFirstGone_1 : decode prog_3_method_7_code 1 = .ok (.bipush 61, 2) := by decide +kernel
theorem d_F_findFirstGone_3 : decode prog_3_method_7_code 3 = .ok (.putfield 95, 3) := by decide +kernel
theorem d_F_findFirstGone_6 : decode prog_3_method_7_code 6 = .ok (.aload_n 0, 1) := by decide +kernel
theorem d_F_findFirstGone_7 : decode prog_3_method_7_code 7 = .ok (.iconst (-1), 1) := by decide +kernel
theorem d_F_findFirstGone_8 : decode prog_3_method_7_code 8 = .ok (.putfield 98, 3) := by decide +kernel
theorem d_F_findFirstGone_11 : decode prog_3_method_7_code 11 = .ok (.iconst 0, 1) := by decide +kernel
theorem d_F_findFirstGone_12 : decode prog_3_method_7_code 12 = .ok (.istore_n 1, 1) := by decide +kernel
theorem d_F_findFirstGone_13 : decode prog_3_method_7_code 13 = .ok (.iload_n 1, 1) := by decide +kernel
theorem d_F_findFirstGone_14 : decode prog_3_method_7_code 14 = .ok (.aload_n 0, 1) := by decide +kernel
theorem d_F_findFirstGone_15 : decode prog_3_method_7_code 15 = .ok (.getfield 29, 3) := by decide +kernel
theorem d_F_findFirstGone_18 : decode prog_3_method_7_code 18 = .ok (.getfield 76, 3) := by decide +kernel
theorem d_F_findFirstGone_21 : decode prog_3_method_7_code 21 = .ok (.if_icmp .ge 33, 3) := by decide +kernel
theorem d_F_findFirstGone_24 : decode prog_3_method_7_code 24 = .ok (.aload_n 0, 1) := by decide +kernel
theorem d_F_findFirstGone_25 : decode prog_3_method_7_code 25 = .ok (.iload_n 1, 1) := by decide +kernel
theorem d_F_findFirstGone_26 : decode prog_3_method_7_code 26 = .ok (.invokevirtual 101, 3) := by decide +kernel
theorem d_F_findFirstGone_29 : decode prog_3_method_7_code 29 = .ok (.istore_n 2, 1) := by decide +kernel
theorem d_F_findFirstGone_30 : decode prog_3_method_7_code 30 = .ok (.iload_n 2, 1) := by decide +kernel
theorem d_F_findFirstGone_31 : decode prog_3_method_7_code 31 = .ok (.aload_n 0, 1) := by decide +kernel
theorem d_F_findFirstGone_32 : decode prog_3_method_7_code 32 = .ok (.getfield 95, 3) := by decide +kernel
theorem d_F_findFirstGone_35 : decode prog_3_method_7_code 35 = .ok (.if_icmp .ge 13, 3) := by decide +kernel
theorem d_F_findFirstGone_38 : decode prog_3_method_7_code 38 = .ok (.aload_n 0, 1) := by decide +kernel
theorem d_F_findFirstGone_39 : decode prog_3_method_7_code 39 = .ok (.iload_n 2, 1) := by decide +kernel
theorem d_F_findFirstGone_40 : decode prog_3_method_7_code 40 = .ok (.putfield 95, 3) := by decide +kernel
theorem d_F_findFirstGone_43 : decode prog_3_method_7_code 43 = .ok (.aload_n 0, 1) := by decide +kernel
theorem d_F_findFirstGone_44 : decode prog_3_method_7_code 44 = .ok (.iload_n 1, 1) := by decide +kernel
theorem d_F_findFirstGone_45 : decode prog_3_method_7_code 45 = .ok (.putfield 98, 3) := by decide +kernel
theorem d_F_findFirstGone_48 : decode prog_3_method_7_code 48 = .ok (.iinc 1 1, 3) := by decide +kernel
theorem d_F_findFirstGone_51 : decode prog_3_method_7_code 51 = .ok (.goto (-38), 3) := by decide +kernel
theorem d_F_findFirstGone_54 : decode prog_3_method_7_code 54 = .ok (.aload_n 0, 1) := by decide +kernel
theorem d_F_findFirstGone_55 : decode prog_3_method_7_code 55 = .ok (.getfield 98, 3) := by decide +kernel
theorem d_F_findFirstGone_58 : decode prog_3_method_7_code 58 = .ok (.ifCond .lt 7, 3) := by decide +kernel
theorem d_F_findFirstGone_61 : decode prog_3_method_7_code 61 = .ok (.iconst 1, 1) := by decide +kernel
theorem d_F_findFirstGone_62 : decode prog_3_method_7_code 62 = .ok (.goto 4, 3) := by decide +kernel
theorem d_F_findFirstGone_65 : decode prog_3_method_7_code 65 = .ok (.iconst 0, 1) := by decide +kernel
theorem d_F_findFirstGone_66 : decode prog_3_method_7_code 66 = .ok (.ireturn, 1) := by decide +kernel
def w_F_findFirstGone_48 (K : Int32 → sm_Mem → Prop) (J13 : Int32 → sm_Mem → Prop) (x1 : Int32) (μ : sm_Mem) : Prop := J13 (x1 + 1) μ
def w_F_findFirstGone_13 (K : Int32 → sm_Mem → Prop) (x1 : Int32) (μ : sm_Mem) : Prop := sm_lp1 (fun J13 x1 μ => if (μ 1 12) ≤ x1 then (if (μ 37 8) < 0 then K 0 μ else K 1 μ) else (w_F_hoursUntilGone (fun r6 μ5 => if (μ5 37 7) ≤ r6 then w_F_findFirstGone_48 K J13 x1 μ5 else (∀ μ8 : sm_Mem, μ8 = sm_st μ5 37 7 r6 → ∀ μ9 : sm_Mem, μ9 = sm_st μ8 37 8 x1 → w_F_findFirstGone_48 K J13 x1 μ9)) x1 μ)) x1 μ
def w_F_findFirstGone (K : Int32 → sm_Mem → Prop) (μ : sm_Mem) : Prop := ∀ μ1 : sm_Mem, μ1 = sm_st μ 37 7 61 → ∀ μ2 : sm_Mem, μ2 = sm_st μ1 37 8 (-1) → w_F_findFirstGone_13 K 0 μ2
set_option maxHeartbeats 4000000 in
set_option maxRecDepth 100000 in
theorem P_F_findFirstGone (l : Launch) {K : Int32 → sm_Mem → Prop} {μ : sm_Mem} (h : w_F_findFirstGone K μ) : sm_MI l ⟨"SnowMoney$Foresight", "findFirstGone", "()Z"⟩ prog_3_method_7_code 3 (some .boolean) { frames := 6, cells := 0, slots := 0, locals := 147 } [sm_R 37] μ K := by
  refine sm_ofI (by decide +kernel) (fun _ => Nat.le_of_ble_eq_true rfl) ?_
  intro p e s m args below meth c A Q G C hR
  have B48 : ∀ (x1 : Int32) (J13 : Int32 → sm_Mem → Prop) (hJ13 : ∀ (x1 : Int32) (μ : sm_Mem), J13 x1 μ → sm_W p l e { frames := 6, cells := 0, slots := 0, locals := 147 } s m args below meth c A Q G 3 0 0 13 [] [(0, sm_R 37), (1, sm_I x1)] μ) (μ : sm_Mem), w_F_findFirstGone_48 K J13 x1 μ → sm_W p l e { frames := 6, cells := 0, slots := 0, locals := 147 } s m args below meth c A Q G 3 0 0 48 [] [(0, sm_R 37), (1, sm_I x1)] μ := by
    intro x1 J13 hJ13 μ h
    refine sr_iinc C 1 rfl (by decide) d_F_findFirstGone_48 rfl ?_
    refine sr_goto C (tgt := 13) (by decide) d_F_findFirstGone_51 ?_
    refine sr_mask C [1, 0] rfl ?_
    exact hJ13 _ _ h
  have B13 : ∀ (x1 : Int32) (μ : sm_Mem), w_F_findFirstGone_13 K x1 μ → sm_W p l e { frames := 6, cells := 0, slots := 0, locals := 147 } s m args below meth c A Q G 3 0 0 13 [] [(0, sm_R 37), (1, sm_I x1)] μ := by
    intro x1 μ h
    refine sm_lp1_sound (P := fun x1 μ => sm_W p l e { frames := 6, cells := 0, slots := 0, locals := 147 } s m args below meth c A Q G 3 0 0 13 [] [(0, sm_R 37), (1, sm_I x1)] μ) (fun J13 x1 μ hJ13 h => ?_) h
    refine sr_iload_n C 1 rfl rfl d_F_findFirstGone_13 ?_
    refine sr_aload_n C 0 rfl rfl d_F_findFirstGone_14 ?_
    refine sr_getR C sm_F1 0 q_220 sm_l37 (r := 1) rfl (by decide) d_F_findFirstGone_15 ?_
    refine sr_getI C sm_F0 12 q_255 sm_l1 rfl (by decide) d_F_findFirstGone_18 ?_
    refine sr_icmp_ge C (tgt := 54) d_F_findFirstGone_21 (by decide) (fun c3 => ?_) (fun c3 => ?_)
    · replace h := Eq.mp (if_pos c3) h
      refine sr_aload_n C 0 rfl rfl d_F_findFirstGone_54 ?_
      refine sr_getI C sm_F1 8 q_254 sm_l37 rfl (by decide) d_F_findFirstGone_55 ?_
      refine sr_if_lt C (tgt := 65) d_F_findFirstGone_58 (by decide) (fun c4 => ?_) (fun c4 => ?_)
      · replace h := Eq.mp (if_pos c4) h
        refine sr_iconst C (v := 0) d_F_findFirstGone_65 (by decide) ?_
        exact hR _ _ _ _ d_F_findFirstGone_66 rfl h
      · replace h := Eq.mp (if_neg c4) h
        refine sr_iconst C (v := 1) d_F_findFirstGone_61 (by decide) ?_
        refine sr_goto C (tgt := 66) (by decide) d_F_findFirstGone_62 ?_
        exact hR _ _ _ _ d_F_findFirstGone_66 rfl h
    · replace h := Eq.mp (if_neg c3) h
      refine sr_aload_n C 0 rfl rfl d_F_findFirstGone_24 ?_
      refine sr_iload_n C 1 rfl rfl d_F_findFirstGone_25 ?_
      refine sr_callVI C [sm_I _] (P_F_hoursUntilGone l h) ok_54 sm_l37 rfl rfl rfl rfl ⟨Nat.le_of_ble_eq_true rfl, Nat.le_of_ble_eq_true rfl⟩ (Nat.le_of_ble_eq_true rfl) ⟨Nat.zero_le _, Nat.zero_le _⟩ d_F_findFirstGone_26 (fun r6 μ5 h => ?_)
      refine sr_istore_n C rfl (by decide) d_F_findFirstGone_29 ?_
      refine sr_iload_n C 0 rfl rfl d_F_findFirstGone_30 ?_
      refine sr_aload_n C 1 rfl rfl d_F_findFirstGone_31 ?_
      refine sr_getI C sm_F1 7 q_253 sm_l37 rfl (by decide) d_F_findFirstGone_32 ?_
      refine sr_icmp_ge C (tgt := 48) d_F_findFirstGone_35 (by decide) (fun c7 => ?_) (fun c7 => ?_)
      · replace h := Eq.mp (if_pos c7) h
        refine sr_mask C [1, 2] rfl ?_
        exact B48 _ _ hJ13 _ h
      · replace h := Eq.mp (if_neg c7) h
        refine sr_aload_n C 1 rfl rfl d_F_findFirstGone_38 ?_
        refine sr_iload_n C 0 rfl rfl d_F_findFirstGone_39 ?_
        refine sr_putI C sm_F1 7 q_253 sm_l37 rfl rfl (by decide) rfl d_F_findFirstGone_40 ?_
        replace h := h _ rfl
        refine sr_aload_n C 1 rfl rfl d_F_findFirstGone_43 ?_
        refine sr_iload_n C 2 rfl rfl d_F_findFirstGone_44 ?_
        refine sr_putI C sm_F1 8 q_254 sm_l37 rfl rfl (by decide) rfl d_F_findFirstGone_45 ?_
        replace h := h _ rfl
        refine sr_mask C [1, 2] rfl ?_
        exact B48 _ _ hJ13 _ h
  refine sr_aload_n C 0 rfl rfl d_F_findFirstGone_0 ?_
  refine sr_bipush C (v := 61) d_F_findFirstGone_1 (by decide) ?_
  refine sr_putI C sm_F1 7 q_253 sm_l37 rfl rfl (by decide) rfl d_F_findFirstGone_3 ?_
  replace h := h _ rfl
  refine sr_aload_n C 0 rfl rfl d_F_findFirstGone_6 ?_
  refine sr_iconst C (v := (-1)) d_F_findFirstGone_7 (by decide) ?_
  refine sr_putI C sm_F1 8 q_254 sm_l37 rfl rfl (by decide) rfl d_F_findFirstGone_8 ?_
  replace h := h _ rfl
  refine sr_iconst C (v := 0) d_F_findFirstGone_11 (by decide) ?_
  refine sr_istore_n C rfl (by decide) d_F_findFirstGone_12 ?_
  refine sr_mask C [1, 0] rfl ?_
  exact B13 _ _ h
theorem d_F_worthBehind_0 : decode prog_3_method_6_code 0 = .ok (.iconst 0, 1) := by decide +kernel
theorem d_F_worthBehind_1 : decode prog_3_method_6_code 1 = .ok (.istore_n 3, 1) := by decide +kernel
theorem d_F_worthBehind_2 : decode prog_3_method_6_code 2 = .ok (.iconst 0, 1) := by decide +kernel
theorem d_F_worthBehind_3 : decode prog_3_method_6_code 3 = .ok (.istore 4, 2) := by decide +kernel
theorem d_F_worthBehind_5 : decode prog_3_method_6_code 5 = .ok (.iload 4, 2) := by decide +kernel
theorem d_F_worthBehind_7 : decode prog_3_method_6_code 7 = .ok (.aload_n 0, 1) := by decide +kernel
theorem d_F_worthBehind_8 : decode prog_3_method_6_code 8 = .ok (.getfield 29, 3) := by decide +kernel
theorem d_F_worthBehind_11 : decode prog_3_method_6_code 11 = .ok (.getfield 76, 3) := by decide +kernel
theorem d_F_worthBehind_14 : decode prog_3_method_6_code 14 = .ok (.if_icmp .ge 62, 3) := by decide +kernel
theorem d_F_worthBehind_17 : decode prog_3_method_6_code 17 = .ok (.aload_n 0, 1) := by decide +kernel
theorem d_F_worthBehind_18 : decode prog_3_method_6_code 18 = .ok (.getfield 29, 3) := by decide +kernel
theorem d_F_worthBehind_21 : decode prog_3_method_6_code 21 = .ok (.getfield 89, 3) := by decide +kernel
theorem d_F_worthBehind_24 : decode prog_3_method_6_code 24 = .ok (.iload 4, 2) := by decide +kernel
theorem d_F_worthBehind_26 : decode prog_3_method_6_code 26 = .ok (.iaload, 1) := by decide +kernel
theorem d_F_worthBehind_27 : decode prog_3_method_6_code 27 = .ok (.iload_n 1, 1) := by decide +kernel
theorem d_F_worthBehind_28 : decode prog_3_method_6_code 28 = .ok (.if_icmp .ne 42, 3) := by decide +kernel
theorem d_F_worthBehind_31 : decode prog_3_method_6_code 31 = .ok (.aload_n 0, 1) := by decide +kernel
theorem d_F_worthBehind_32 : decode prog_3_method_6_code 32 = .ok (.iload 4, 2) := by decide +kernel
theorem d_F_worthBehind_34 : decode prog_3_method_6_code 34 = .ok (.aload_n 0, 1) := by decide +kernel
theorem d_F_worthBehind_35 : decode prog_3_method_6_code 35 = .ok (.getfield 29, 3) := by decide +kernel
theorem d_F_worthBehind_38 : decode prog_3_method_6_code 38 = .ok (.iload 4, 2) := by decide +kernel
theorem d_F_worthBehind_40 : decode prog_3_method_6_code 40 = .ok (.invokevirtual 79, 3) := by decide +kernel
theorem d_F_worthBehind_43 : decode prog_3_method_6_code 43 = .ok (.aload_n 0, 1) := by decide +kernel
theorem d_F_worthBehind_44 : decode prog_3_method_6_code 44 = .ok (.getfield 29, 3) := by decide +kernel
theorem d_F_worthBehind_47 : decode prog_3_method_6_code 47 = .ok (.getfield 83, 3) := by decide +kernel
theorem d_F_worthBehind_50 : decode prog_3_method_6_code 50 = .ok (.iload_n 2, 1) := by decide +kernel
theorem d_F_worthBehind_51 : decode prog_3_method_6_code 51 = .ok (.invokevirtual 86, 3) := by decide +kernel
theorem d_F_worthBehind_54 : decode prog_3_method_6_code 54 = .ok (.istore 5, 2) := by decide +kernel
theorem d_F_worthBehind_56 : decode prog_3_method_6_code 56 = .ok (.iload_n 3, 1) := by decide +kernel
theorem d_F_worthBehind_57 : decode prog_3_method_6_code 57 = .ok (.aload_n 0, 1) := by decide +kernel
theorem d_F_worthBehind_58 : decode prog_3_method_6_code 58 = .ok (.getfield 29, 3) := by decide +kernel
theorem d_F_worthBehind_61 : decode prog_3_method_6_code 61 = .ok (.iload 4, 2) := by decide +kernel
theorem d_F_worthBehind_63 : decode prog_3_method_6_code 63 = .ok (.iload 5, 2) := by decide +kernel
theorem d_F_worthBehind_65 : decode prog_3_method_6_code 65 = .ok (.invokevirtual 92, 3) := by decide +kernel
theorem d_F_worthBehind_68 : decode prog_3_method_6_code 68 = .ok (.iadd, 1) := by decide +kernel
theorem d_F_worthBehind_69 : decode prog_3_method_6_code 69 = .ok (.istore_n 3, 1) := by decide +kernel
theorem d_F_worthBehind_70 : decode prog_3_method_6_code 70 = .ok (.iinc 4 1, 3) := by decide +kernel
theorem d_F_worthBehind_73 : decode prog_3_method_6_code 73 = .ok (.goto (-68), 3) := by decide +kernel
theorem d_F_worthBehind_76 : decode prog_3_method_6_code 76 = .ok (.iload_n 3, 1) := by decide +kernel
theorem d_F_worthBehind_77 : decode prog_3_method_6_code 77 = .ok (.ireturn, 1) := by decide +kernel
def w_F_worthBehind_70 (K : Int32 → sm_Mem → Prop) (J5 : Int32 → Int32 → sm_Mem → Prop) (p0 : Int32) (p1 : Int32) (x3 : Int32) (x4 : Int32) (μ : sm_Mem) : Prop := J5 x3 (x4 + 1) μ
def w_F_worthBehind_5 (K : Int32 → sm_Mem → Prop) (p0 : Int32) (p1 : Int32) (x3 : Int32) (x4 : Int32) (μ : sm_Mem) : Prop := sm_lp2 (fun J5 x3 x4 μ => if (μ 1 12) ≤ x4 then K x3 μ else (vp_in x4 10 ∧ if (μ 8 x4.toNatClampNeg) = p0 then (w_D_warmthAround (fun r5 μ4 => w_F_leftBy (fun r7 μ6 => w_D_paysWith (fun r9 μ8 => ∀ v10 : Int32, v10 = (x3 + r9) → w_F_worthBehind_70 K J5 p0 p1 v10 x4 μ8) x4 r7 μ6) x4 r5 (μ4 1 13) p1 μ4) x4 μ) else w_F_worthBehind_70 K J5 p0 p1 x3 x4 μ)) x3 x4 μ
def w_F_worthBehind (K : Int32 → sm_Mem → Prop) (p0 : Int32) (p1 : Int32) (μ : sm_Mem) : Prop := w_F_worthBehind_5 K p0 p1 0 0 μ
set_option maxHeartbeats 4000000 in
set_option maxRecDepth 100000 in
theorem P_F_worthBehind (l : Launch) {K : Int32 → sm_Mem → Prop} {p0 : Int32} {p1 : Int32} {μ : sm_Mem} (h : w_F_worthBehind K p0 p1 μ) : sm_MI l ⟨"SnowMoney$Foresight", "worthBehind", "(II)I"⟩ prog_3_method_6_code 6 (some .int) { frames := 5, cells := 0, slots := 0, locals := 123 } [sm_R 37, sm_I p0, sm_I p1] μ K := by
  refine sm_ofI (by decide +kernel) (fun _ => Nat.le_of_ble_eq_true rfl) ?_
  intro p e s m args below meth c A Q G C hR
  have B70 : ∀ (x3 : Int32) (x4 : Int32) (J5 : Int32 → Int32 → sm_Mem → Prop) (hJ5 : ∀ (x3 : Int32) (x4 : Int32) (μ : sm_Mem), J5 x3 x4 μ → sm_W p l e { frames := 5, cells := 0, slots := 0, locals := 123 } s m args below meth c A Q G 6 0 0 5 [] [(0, sm_R 37), (1, sm_I p0), (2, sm_I p1), (3, sm_I x3), (4, sm_I x4)] μ) (μ : sm_Mem), w_F_worthBehind_70 K J5 p0 p1 x3 x4 μ → sm_W p l e { frames := 5, cells := 0, slots := 0, locals := 123 } s m args below meth c A Q G 6 0 0 70 [] [(0, sm_R 37), (1, sm_I p0), (2, sm_I p1), (3, sm_I x3), (4, sm_I x4)] μ := by
    intro x3 x4 J5 hJ5 μ h
    refine sr_iinc C 4 rfl (by decide) d_F_worthBehind_70 rfl ?_
    refine sr_goto C (tgt := 5) (by decide) d_F_worthBehind_73 ?_
    refine sr_mask C [1, 2, 3, 4, 0] rfl ?_
    exact hJ5 _ _ _ h
  have B5 : ∀ (x3 : Int32) (x4 : Int32) (μ : sm_Mem), w_F_worthBehind_5 K p0 p1 x3 x4 μ → sm_W p l e { frames := 5, cells := 0, slots := 0, locals := 123 } s m args below meth c A Q G 6 0 0 5 [] [(0, sm_R 37), (1, sm_I p0), (2, sm_I p1), (3, sm_I x3), (4, sm_I x4)] μ := by
    intro x3 x4 μ h
    refine sm_lp2_sound (P := fun x3 x4 μ => sm_W p l e { frames := 5, cells := 0, slots := 0, locals := 123 } s m args below meth c A Q G 6 0 0 5 [] [(0, sm_R 37), (1, sm_I p0), (2, sm_I p1), (3, sm_I x3), (4, sm_I x4)] μ) (fun J5 x3 x4 μ hJ5 h => ?_) h
    refine sr_iload C 4 rfl d_F_worthBehind_5 ?_
    refine sr_aload_n C 0 rfl rfl d_F_worthBehind_7 ?_
    refine sr_getR C sm_F1 0 q_220 sm_l37 (r := 1) rfl (by decide) d_F_worthBehind_8 ?_
    refine sr_getI C sm_F0 12 q_255 sm_l1 rfl (by decide) d_F_worthBehind_11 ?_
    refine sr_icmp_ge C (tgt := 76) d_F_worthBehind_14 (by decide) (fun c1 => ?_) (fun c1 => ?_)
    · replace h := Eq.mp (if_pos c1) h
      refine sr_iload_n C 3 rfl rfl d_F_worthBehind_76 ?_
      exact hR _ _ _ _ d_F_worthBehind_77 rfl h
    · replace h := Eq.mp (if_neg c1) h
      refine sr_aload_n C 0 rfl rfl d_F_worthBehind_17 ?_
      refine sr_getR C sm_F1 0 q_220 sm_l37 (r := 1) rfl (by decide) d_F_worthBehind_18 ?_
      refine sr_getR C sm_F0 6 q_267 sm_l1 (r := 8) rfl (by decide) d_F_worthBehind_21 ?_
      refine sr_iload C 4 rfl d_F_worthBehind_24 ?_
      obtain ⟨g2, h⟩ := h
      refine sr_iald C sm_l8 g2 d_F_worthBehind_26 ?_
      refine sr_iload_n C 1 rfl rfl d_F_worthBehind_27 ?_
      refine sr_icmp_ne C (tgt := 70) d_F_worthBehind_28 (by decide) (fun c3 => ?_) (fun c3 => ?_)
      · replace h := Eq.mp (if_neg c3) h
        exact B70 _ _ _ hJ5 _ h
      · replace h := Eq.mp (if_pos c3) h
        refine sr_aload_n C 0 rfl rfl d_F_worthBehind_31 ?_
        refine sr_iload C 4 rfl d_F_worthBehind_32 ?_
        refine sr_aload_n C 0 rfl rfl d_F_worthBehind_34 ?_
        refine sr_getR C sm_F1 0 q_220 sm_l37 (r := 1) rfl (by decide) d_F_worthBehind_35 ?_
        refine sr_iload C 4 rfl d_F_worthBehind_38 ?_
        refine sr_callVI C [sm_I _] (P_D_warmthAround l h) ok_55 sm_l1 rfl rfl rfl rfl ⟨Nat.le_of_ble_eq_true rfl, Nat.le_of_ble_eq_true rfl⟩ (Nat.le_of_ble_eq_true rfl) ⟨Nat.zero_le _, Nat.zero_le _⟩ d_F_worthBehind_40 (fun r5 μ4 h => ?_)
        refine sr_aload_n C 0 rfl rfl d_F_worthBehind_43 ?_
        refine sr_getR C sm_F1 0 q_220 sm_l37 (r := 1) rfl (by decide) d_F_worthBehind_44 ?_
        refine sr_getI C sm_F0 13 q_261 sm_l1 rfl (by decide) d_F_worthBehind_47 ?_
        refine sr_iload_n C 2 rfl rfl d_F_worthBehind_50 ?_
        refine sr_callVI C [sm_I _, sm_I _, sm_I _, sm_I _] (P_F_leftBy l h) ok_56 sm_l37 rfl rfl rfl rfl ⟨Nat.le_of_ble_eq_true rfl, Nat.le_of_ble_eq_true rfl⟩ (Nat.le_of_ble_eq_true rfl) ⟨Nat.zero_le _, Nat.zero_le _⟩ d_F_worthBehind_51 (fun r7 μ6 h => ?_)
        refine sr_istore C (by decide) d_F_worthBehind_54 ?_
        refine sr_iload_n C 4 rfl rfl d_F_worthBehind_56 ?_
        refine sr_aload_n C 1 rfl rfl d_F_worthBehind_57 ?_
        refine sr_getR C sm_F1 0 q_220 sm_l37 (r := 1) rfl (by decide) d_F_worthBehind_58 ?_
        refine sr_iload C 5 rfl d_F_worthBehind_61 ?_
        refine sr_iload C 0 rfl d_F_worthBehind_63 ?_
        refine sr_callVI C [sm_I _, sm_I _] (P_D_paysWith l h) ok_58 sm_l1 rfl rfl rfl rfl ⟨Nat.le_of_ble_eq_true rfl, Nat.le_of_ble_eq_true rfl⟩ (Nat.le_of_ble_eq_true rfl) ⟨Nat.zero_le _, Nat.zero_le _⟩ d_F_worthBehind_65 (fun r9 μ8 h => ?_)
        refine sr_iadd C d_F_worthBehind_68 ?_
        replace h := h _ rfl
        refine sr_istore_n C rfl (by decide) d_F_worthBehind_69 ?_
        refine sr_mask C [2, 3, 4, 0, 5] rfl ?_
        exact B70 _ _ _ hJ5 _ h
  refine sr_iconst C (v := 0) d_F_worthBehind_0 (by decide) ?_
  refine sr_istore_n C rfl (by decide) d_F_worthBehind_1 ?_
  refine sr_iconst C (v := 0) d_F_worthBehind_2 (by decide) ?_
  refine sr_istore C (by decide) d_F_worthBehind_3 ?_
  refine sr_mask C [2, 3, 4, 1, 0] rfl ?_
  exact B5 _ _ _ h
theorem d_F_findColdest_0 : decode prog_3_method_9_code 0 = .ok (.aload_n 0, 1) := by decide +kernel
theorem d_F_findColdest_1 : decode prog_3_method_9_code 1 = .ok (.iconst (-1), 1) := by decide +kernel
theorem d_F_findColdest_2 : decode prog_3_method_9_code 2 = .ok (.putfield 95, 3) := by decide +kernel
theorem d_F_findColdest_5 : decode prog_3_method_9_code 5 = .ok (.aload_n 0, 1) := by decide +kernel
theorem d_F_findColdest_6 : decode prog_3_method_9_code 6 = .ok (.iconst 0, 1) := by decide +kernel
theorem d_F_findColdest_7 : decode prog_3_method_9_code 7 = .ok (.putfield 98, 3) := by decide +kernel
theorem d_F_findColdest_10 : decode prog_3_method_9_code 10 = .ok (.iconst 0, 1) := by decide +kernel
theorem d_F_findColdest_11 : decode prog_3_method_9_code 11 = .ok (.istore_n 3, 1) := by decide +kernel
theorem d_F_findColdest_12 : decode prog_3_method_9_code 12 = .ok (.iload_n 3, 1) := by decide +kernel
theorem d_F_findColdest_13 : decode prog_3_method_9_code 13 = .ok (.aload_n 0, 1) := by decide +kernel
theorem d_F_findColdest_14 : decode prog_3_method_9_code 14 = .ok (.getfield 29, 3) := by decide +kernel
theorem d_F_findColdest_17 : decode prog_3_method_9_code 17 = .ok (.getfield 104, 3) := by decide +kernel
theorem d_F_findColdest_20 : decode prog_3_method_9_code 20 = .ok (.if_icmp .ge 52, 3) := by decide +kernel
theorem d_F_findColdest_23 : decode prog_3_method_9_code 23 = .ok (.aload_n 0, 1) := by decide +kernel
theorem d_F_findColdest_24 : decode prog_3_method_9_code 24 = .ok (.iload_n 1, 1) := by decide +kernel
theorem d_F_findColdest_25 : decode prog_3_method_9_code 25 = .ok (.aload_n 0, 1) := by decide +kernel
theorem d_F_findColdest_26 : decode prog_3_method_9_code 26 = .ok (.getfield 29, 3) := by decide +kernel
theorem d_F_findColdest_29 : decode prog_3_method_9_code 29 = .ok (.iload_n 3, 1) := by decide +kernel
theorem d_F_findColdest_30 : decode prog_3_method_9_code 30 = .ok (.invokevirtual 107, 3) := by decide +kernel
theorem d_F_findColdest_33 : decode prog_3_method_9_code 33 = .ok (.aload_n 0, 1) := by decide +kernel
theorem d_F_findColdest_34 : decode prog_3_method_9_code 34 = .ok (.getfield 29, 3) := by decide +kernel
theorem d_F_findColdest_37 : decode prog_3_method_9_code 37 = .ok (.getfield 83, 3) := by decide +kernel
theorem d_F_findColdest_40 : decode prog_3_method_9_code 40 = .ok (.iload_n 2, 1) := by decide +kernel
theorem d_F_findColdest_41 : decode prog_3_method_9_code 41 = .ok (.invokevirtual 86, 3) := by decide +kernel
theorem d_F_findColdest_44 : decode prog_3_method_9_code 44 = .ok (.istore 4, 2) := by decide +kernel
theorem d_F_findColdest_46 : decode prog_3_method_9_code 46 = .ok (.iload 4, 2) := by decide +kernel
theorem d_F_findColdest_48 : decode prog_3_method_9_code 48 = .ok (.aload_n 0, 1) := by decide +kernel
theorem d_F_findColdest_49 : decode prog_3_method_9_code 49 = .ok (.getfield 95, 3) := by decide +kernel
theorem d_F_findColdest_52 : decode prog_3_method_9_code 52 = .ok (.if_icmp .le 14, 3) := by decide +kernel
theorem d_F_findColdest_55 : decode prog_3_method_9_code 55 = .ok (.aload_n 0, 1) := by decide +kernel
theorem d_F_findColdest_56 : decode prog_3_method_9_code 56 = .ok (.iload 4, 2) := by decide +kernel
theorem d_F_findColdest_58 : decode prog_3_method_9_code 58 = .ok (.putfield 95, 3) := by decide +kernel
theorem d_F_findColdest_61 : decode prog_3_method_9_code 61 = .ok (.aload_n 0, 1) := by decide +kernel
theorem d_F_findColdest_62 : decode prog_3_method_9_code 62 = .ok (.iload_n 3, 1) := by decide +kernel
theorem d_F_findColdest_63 : decode prog_3_method_9_code 63 = .ok (.putfield 98, 3) := by decide +kernel
theorem d_F_findColdest_66 : decode prog_3_method_9_code 66 = .ok (.iinc 3 1, 3) := by decide +kernel
theorem d_F_findColdest_69 : decode prog_3_method_9_code 69 = .ok (.goto (-57), 3) := by decide +kernel
theorem d_F_findColdest_72 : decode prog_3_method_9_code 72 = .ok (.return_, 1) := by decide +kernel
def w_F_findColdest_66 (K : sm_Mem → Prop) (J12 : Int32 → sm_Mem → Prop) (p0 : Int32) (p1 : Int32) (x3 : Int32) (μ : sm_Mem) : Prop := J12 (x3 + 1) μ
def w_F_findColdest_12 (K : sm_Mem → Prop) (p0 : Int32) (p1 : Int32) (x3 : Int32) (μ : sm_Mem) : Prop := sm_lp1 (fun J12 x3 μ => if (μ 1 11) ≤ x3 then K μ else (w_D_warmthOf (fun r5 μ4 => w_F_leftBy (fun r7 μ6 => if r7 ≤ (μ6 37 7) then w_F_findColdest_66 K J12 p0 p1 x3 μ6 else (∀ μ9 : sm_Mem, μ9 = sm_st μ6 37 7 r7 → ∀ μ10 : sm_Mem, μ10 = sm_st μ9 37 8 x3 → w_F_findColdest_66 K J12 p0 p1 x3 μ10)) p0 r5 (μ4 1 13) p1 μ4) x3 μ)) x3 μ
def w_F_findColdest (K : sm_Mem → Prop) (p0 : Int32) (p1 : Int32) (μ : sm_Mem) : Prop := ∀ μ1 : sm_Mem, μ1 = sm_st μ 37 7 (-1) → ∀ μ2 : sm_Mem, μ2 = sm_st μ1 37 8 0 → w_F_findColdest_12 K p0 p1 0 μ2
set_option maxHeartbeats 4000000 in
set_option maxRecDepth 100000 in
theorem P_F_findColdest (l : Launch) {K : sm_Mem → Prop} {p0 : Int32} {p1 : Int32} {μ : sm_Mem} (h : w_F_findColdest K p0 p1 μ) : sm_MV l ⟨"SnowMoney$Foresight", "findColdest", "(II)V"⟩ prog_3_method_9_code 5 { frames := 5, cells := 0, slots := 0, locals := 123 } [sm_R 37, sm_I p0, sm_I p1] μ K := by
  refine sm_ofV (by decide +kernel) (fun _ => Nat.le_of_ble_eq_true rfl) ?_
  intro p e s m args below meth c A Q G C hR
  have B66 : ∀ (x3 : Int32) (J12 : Int32 → sm_Mem → Prop) (hJ12 : ∀ (x3 : Int32) (μ : sm_Mem), J12 x3 μ → sm_W p l e { frames := 5, cells := 0, slots := 0, locals := 123 } s m args below meth c A Q G 5 0 0 12 [] [(0, sm_R 37), (1, sm_I p0), (2, sm_I p1), (3, sm_I x3)] μ) (μ : sm_Mem), w_F_findColdest_66 K J12 p0 p1 x3 μ → sm_W p l e { frames := 5, cells := 0, slots := 0, locals := 123 } s m args below meth c A Q G 5 0 0 66 [] [(0, sm_R 37), (1, sm_I p0), (2, sm_I p1), (3, sm_I x3)] μ := by
    intro x3 J12 hJ12 μ h
    refine sr_iinc C 3 rfl (by decide) d_F_findColdest_66 rfl ?_
    refine sr_goto C (tgt := 12) (by decide) d_F_findColdest_69 ?_
    refine sr_mask C [1, 2, 3, 0] rfl ?_
    exact hJ12 _ _ h
  have B12 : ∀ (x3 : Int32) (μ : sm_Mem), w_F_findColdest_12 K p0 p1 x3 μ → sm_W p l e { frames := 5, cells := 0, slots := 0, locals := 123 } s m args below meth c A Q G 5 0 0 12 [] [(0, sm_R 37), (1, sm_I p0), (2, sm_I p1), (3, sm_I x3)] μ := by
    intro x3 μ h
    refine sm_lp1_sound (P := fun x3 μ => sm_W p l e { frames := 5, cells := 0, slots := 0, locals := 123 } s m args below meth c A Q G 5 0 0 12 [] [(0, sm_R 37), (1, sm_I p0), (2, sm_I p1), (3, sm_I x3)] μ) (fun J12 x3 μ hJ12 h => ?_) h
    refine sr_iload_n C 3 rfl rfl d_F_findColdest_12 ?_
    refine sr_aload_n C 0 rfl rfl d_F_findColdest_13 ?_
    refine sr_getR C sm_F1 0 q_220 sm_l37 (r := 1) rfl (by decide) d_F_findColdest_14 ?_
    refine sr_getI C sm_F0 11 q_273 sm_l1 rfl (by decide) d_F_findColdest_17 ?_
    refine sr_icmp_ge C (tgt := 72) d_F_findColdest_20 (by decide) (fun c3 => ?_) (fun c3 => ?_)
    · replace h := Eq.mp (if_pos c3) h
      exact hR _ _ _ d_F_findColdest_72 h
    · replace h := Eq.mp (if_neg c3) h
      refine sr_aload_n C 0 rfl rfl d_F_findColdest_23 ?_
      refine sr_iload_n C 1 rfl rfl d_F_findColdest_24 ?_
      refine sr_aload_n C 0 rfl rfl d_F_findColdest_25 ?_
      refine sr_getR C sm_F1 0 q_220 sm_l37 (r := 1) rfl (by decide) d_F_findColdest_26 ?_
      refine sr_iload_n C 3 rfl rfl d_F_findColdest_29 ?_
      refine sr_callVI C [sm_I _] (P_D_warmthOf l h) ok_60 sm_l1 rfl rfl rfl rfl ⟨Nat.le_of_ble_eq_true rfl, Nat.le_of_ble_eq_true rfl⟩ (Nat.le_of_ble_eq_true rfl) ⟨Nat.zero_le _, Nat.zero_le _⟩ d_F_findColdest_30 (fun r5 μ4 h => ?_)
      refine sr_aload_n C 0 rfl rfl d_F_findColdest_33 ?_
      refine sr_getR C sm_F1 0 q_220 sm_l37 (r := 1) rfl (by decide) d_F_findColdest_34 ?_
      refine sr_getI C sm_F0 13 q_261 sm_l1 rfl (by decide) d_F_findColdest_37 ?_
      refine sr_iload_n C 2 rfl rfl d_F_findColdest_40 ?_
      refine sr_callVI C [sm_I _, sm_I _, sm_I _, sm_I _] (P_F_leftBy l h) ok_56 sm_l37 rfl rfl rfl rfl ⟨Nat.le_of_ble_eq_true rfl, Nat.le_of_ble_eq_true rfl⟩ (Nat.le_of_ble_eq_true rfl) ⟨Nat.zero_le _, Nat.zero_le _⟩ d_F_findColdest_41 (fun r7 μ6 h => ?_)
      refine sr_istore C (by decide) d_F_findColdest_44 ?_
      refine sr_iload C 0 rfl d_F_findColdest_46 ?_
      refine sr_aload_n C 1 rfl rfl d_F_findColdest_48 ?_
      refine sr_getI C sm_F1 7 q_253 sm_l37 rfl (by decide) d_F_findColdest_49 ?_
      refine sr_icmp_le C (tgt := 66) d_F_findColdest_52 (by decide) (fun c8 => ?_) (fun c8 => ?_)
      · replace h := Eq.mp (if_pos c8) h
        refine sr_mask C [1, 2, 3, 4] rfl ?_
        exact B66 _ _ hJ12 _ h
      · replace h := Eq.mp (if_neg c8) h
        refine sr_aload_n C 1 rfl rfl d_F_findColdest_55 ?_
        refine sr_iload C 0 rfl d_F_findColdest_56 ?_
        refine sr_putI C sm_F1 7 q_253 sm_l37 rfl rfl (by decide) rfl d_F_findColdest_58 ?_
        replace h := h _ rfl
        refine sr_aload_n C 1 rfl rfl d_F_findColdest_61 ?_
        refine sr_iload_n C 4 rfl rfl d_F_findColdest_62 ?_
        refine sr_putI C sm_F1 8 q_254 sm_l37 rfl rfl (by decide) rfl d_F_findColdest_63 ?_
        replace h := h _ rfl
        refine sr_mask C [1, 2, 3, 4] rfl ?_
        exact B66 _ _ hJ12 _ h
  refine sr_aload_n C 0 rfl rfl d_F_findColdest_0 ?_
  refine sr_iconst C (v := (-1)) d_F_findColdest_1 (by decide) ?_
  refine sr_putI C sm_F1 7 q_253 sm_l37 rfl rfl (by decide) rfl d_F_findColdest_2 ?_
  replace h := h _ rfl
  refine sr_aload_n C 0 rfl rfl d_F_findColdest_5 ?_
  refine sr_iconst C (v := 0) d_F_findColdest_6 (by decide) ?_
  refine sr_putI C sm_F1 8 q_254 sm_l37 rfl rfl (by decide) rfl d_F_findColdest_7 ?_
  replace h := h _ rfl
  refine sr_iconst C (v := 0) d_F_findColdest_10 (by decide) ?_
  refine sr_istore_n C rfl (by decide) d_F_findColdest_11 ?_
  refine sr_mask C [1, 2, 3, 0] rfl ?_
  exact B12 _ _ h
theorem d_F_isBetterSet_0 : decode prog_3_method_11_code 0 = .ok (.aload_n 0, 1) := by decide +kernel
theorem d_F_isBetterSet_1 : decode prog_3_method_11_code 1 = .ok (.getfield 98, 3) := by decide +kernel
theorem d_F_isBetterSet_4 : decode prog_3_method_11_code 4 = .ok (.ifCond .lt 16, 3) := by decide +kernel
theorem d_F_isBetterSet_7 : decode prog_3_method_11_code 7 = .ok (.aload_n 0, 1) := by decide +kernel
theorem d_F_isBetterSet_8 : decode prog_3_method_11_code 8 = .ok (.getfield 23, 3) := by decide +kernel
theorem d_F_isBetterSet_11 : decode prog_3_method_11_code 11 = .ok (.iload_n 1, 1) := by decide +kernel
theorem d_F_isBetterSet_12 : decode prog_3_method_11_code 12 = .ok (.iaload, 1) := by decide +kernel
theorem d_F_isBetterSet_13 : decode prog_3_method_11_code 13 = .ok (.aload_n 0, 1) := by decide +kernel
theorem d_F_isBetterSet_14 : decode prog_3_method_11_code 14 = .ok (.getfield 95, 3) := by decide +kernel
theorem d_F_isBetterSet_17 : decode prog_3_method_11_code 17 = .ok (.if_icmp .ge 5, 3) := by decide +kernel
theorem d_F_isBetterSet_20 : decode prog_3_method_11_code 20 = .ok (.iconst 1, 1) := by decide +kernel
theorem d_F_isBetterSet_21 : decode prog_3_method_11_code 21 = .ok (.ireturn, 1) := by decide +kernel
theorem d_F_isBetterSet_22 : decode prog_3_method_11_code 22 = .ok (.aload_n 0, 1) := by decide +kernel
theorem d_F_isBetterSet_23 : decode prog_3_method_11_code 23 = .ok (.getfield 23, 3) := by decide +kernel
theorem d_F_isBetterSet_26 : decode prog_3_method_11_code 26 = .ok (.iload_n 1, 1) := by decide +kernel
theorem d_F_isBetterSet_27 : decode prog_3_method_11_code 27 = .ok (.iaload, 1) := by decide +kernel
theorem d_F_isBetterSet_28 : decode prog_3_method_11_code 28 = .ok (.aload_n 0, 1) := by decide +kernel
theorem d_F_isBetterSet_29 : decode prog_3_method_11_code 29 = .ok (.getfield 95, 3) := by decide +kernel
theorem d_F_isBetterSet_32 : decode prog_3_method_11_code 32 = .ok (.if_icmp .ne 21, 3) := by decide +kernel
theorem d_F_isBetterSet_35 : decode prog_3_method_11_code 35 = .ok (.iload_n 1, 1) := by decide +kernel
theorem d_F_isBetterSet_36 : decode prog_3_method_11_code 36 = .ok (.invokestatic 116, 3) := by decide +kernel
theorem d_F_isBetterSet_39 : decode prog_3_method_11_code 39 = .ok (.aload_n 0, 1) := by decide +kernel
theorem d_F_isBetterSet_40 : decode prog_3_method_11_code 40 = .ok (.getfield 98, 3) := by decide +kernel
theorem d_F_isBetterSet_43 : decode prog_3_method_11_code 43 = .ok (.invokestatic 116, 3) := by decide +kernel
theorem d_F_isBetterSet_46 : decode prog_3_method_11_code 46 = .ok (.if_icmp .ge 7, 3) := by decide +kernel
theorem d_F_isBetterSet_49 : decode prog_3_method_11_code 49 = .ok (.iconst 1, 1) := by decide +kernel
theorem d_F_isBetterSet_50 : decode prog_3_method_11_code 50 = .ok (.goto 4, 3) := by decide +kernel
theorem d_F_isBetterSet_53 : decode prog_3_method_11_code 53 = .ok (.iconst 0, 1) := by decide +kernel
theorem d_F_isBetterSet_54 : decode prog_3_method_11_code 54 = .ok (.ireturn, 1) := by decide +kernel
def w_F_isBetterSet (K : Int32 → sm_Mem → Prop) (p0 : Int32) (μ : sm_Mem) : Prop := if (μ 37 8) < 0 then K 1 μ else (vp_in p0 1024 ∧ if (μ 37 7) ≤ (μ 41 p0.toNatClampNeg) then (vp_in p0 1024 ∧ if (μ 41 p0.toNatClampNeg) = (μ 37 7) then w_JI_bitCount (fun r7 μ6 => w_JI_bitCount (fun r9 μ8 => if r9 ≤ r7 then K 0 μ8 else K 1 μ8) (μ6 37 8) μ6) p0 μ else K 0 μ) else K 1 μ)
set_option maxHeartbeats 4000000 in
set_option maxRecDepth 100000 in
theorem P_F_isBetterSet (l : Launch) {K : Int32 → sm_Mem → Prop} {p0 : Int32} {μ : sm_Mem} (h : w_F_isBetterSet K p0 μ) : sm_MI l ⟨"SnowMoney$Foresight", "isBetterSet", "(I)Z"⟩ prog_3_method_11_code 2 (some .boolean) { frames := 1, cells := 0, slots := 0, locals := 20 } [sm_R 37, sm_I p0] μ K := by
  refine sm_ofI (by decide +kernel) (fun _ => Nat.le_of_ble_eq_true rfl) ?_
  intro p e s m args below meth c A Q G C hR
  refine sr_aload_n C 0 rfl rfl d_F_isBetterSet_0 ?_
  refine sr_getI C sm_F1 8 q_254 sm_l37 rfl (by decide) d_F_isBetterSet_1 ?_
  refine sr_if_lt C (tgt := 20) d_F_isBetterSet_4 (by decide) (fun c1 => ?_) (fun c1 => ?_)
  · replace h := Eq.mp (if_pos c1) h
    refine sr_iconst C (v := 1) d_F_isBetterSet_20 (by decide) ?_
    exact hR _ _ _ _ d_F_isBetterSet_21 rfl h
  · replace h := Eq.mp (if_neg c1) h
    refine sr_aload_n C 0 rfl rfl d_F_isBetterSet_7 ?_
    refine sr_getR C sm_F1 4 q_283 sm_l37 (r := 41) rfl (by decide) d_F_isBetterSet_8 ?_
    refine sr_iload_n C 1 rfl rfl d_F_isBetterSet_11 ?_
    obtain ⟨g2, h⟩ := h
    refine sr_iald C sm_l41 g2 d_F_isBetterSet_12 ?_
    refine sr_aload_n C 0 rfl rfl d_F_isBetterSet_13 ?_
    refine sr_getI C sm_F1 7 q_253 sm_l37 rfl (by decide) d_F_isBetterSet_14 ?_
    refine sr_icmp_ge C (tgt := 22) d_F_isBetterSet_17 (by decide) (fun c3 => ?_) (fun c3 => ?_)
    · replace h := Eq.mp (if_pos c3) h
      refine sr_aload_n C 0 rfl rfl d_F_isBetterSet_22 ?_
      refine sr_getR C sm_F1 4 q_283 sm_l37 (r := 41) rfl (by decide) d_F_isBetterSet_23 ?_
      refine sr_iload_n C 1 rfl rfl d_F_isBetterSet_26 ?_
      obtain ⟨g4, h⟩ := h
      refine sr_iald C sm_l41 g4 d_F_isBetterSet_27 ?_
      refine sr_aload_n C 0 rfl rfl d_F_isBetterSet_28 ?_
      refine sr_getI C sm_F1 7 q_253 sm_l37 rfl (by decide) d_F_isBetterSet_29 ?_
      refine sr_icmp_ne C (tgt := 53) d_F_isBetterSet_32 (by decide) (fun c5 => ?_) (fun c5 => ?_)
      · replace h := Eq.mp (if_neg c5) h
        refine sr_iconst C (v := 0) d_F_isBetterSet_53 (by decide) ?_
        exact hR _ _ _ _ d_F_isBetterSet_54 rfl h
      · replace h := Eq.mp (if_pos c5) h
        refine sr_iload_n C 1 rfl rfl d_F_isBetterSet_35 ?_
        refine sr_callSI C [sm_I _] (P_JI_bitCount l h) ok_64 rfl rfl rfl ⟨Nat.le_of_ble_eq_true rfl, Nat.le_of_ble_eq_true rfl⟩ (Nat.le_of_ble_eq_true rfl) ⟨Nat.zero_le _, Nat.zero_le _⟩ d_F_isBetterSet_36 (fun r7 μ6 h => ?_)
        refine sr_aload_n C 0 rfl rfl d_F_isBetterSet_39 ?_
        refine sr_getI C sm_F1 8 q_254 sm_l37 rfl (by decide) d_F_isBetterSet_40 ?_
        refine sr_callSI C [sm_I _] (P_JI_bitCount l h) ok_64 rfl rfl rfl ⟨Nat.le_of_ble_eq_true rfl, Nat.le_of_ble_eq_true rfl⟩ (Nat.le_of_ble_eq_true rfl) ⟨Nat.zero_le _, Nat.zero_le _⟩ d_F_isBetterSet_43 (fun r9 μ8 h => ?_)
        refine sr_icmp_ge C (tgt := 53) d_F_isBetterSet_46 (by decide) (fun c10 => ?_) (fun c10 => ?_)
        · replace h := Eq.mp (if_pos c10) h
          refine sr_iconst C (v := 0) d_F_isBetterSet_53 (by decide) ?_
          exact hR _ _ _ _ d_F_isBetterSet_54 rfl h
        · replace h := Eq.mp (if_neg c10) h
          refine sr_iconst C (v := 1) d_F_isBetterSet_49 (by decide) ?_
          refine sr_goto C (tgt := 54) (by decide) d_F_isBetterSet_50 ?_
          exact hR _ _ _ _ d_F_isBetterSet_54 rfl h
    · replace h := Eq.mp (if_neg c3) h
      refine sr_iconst C (v := 1) d_F_isBetterSet_20 (by decide) ?_
      exact hR _ _ _ _ d_F_isBetterSet_21 rfl h
theorem d_F_sumSets_0 : decode prog_3_method_12_code 0 = .ok (.iconst 0, 1) := by decide +kernel
theorem d_F_sumSets_1 : decode prog_3_method_12_code 1 = .ok (.istore_n 2, 1) := by decide +kernel
theorem d_F_sumSets_2 : decode prog_3_method_12_code 2 = .ok (.aload_n 0, 1) := by decide +kernel
theorem d_F_sumSets_3 : decode prog_3_method_12_code 3 = .ok (.getfield 23, 3) := by decide +kernel
theorem d_F_sumSets_6 : decode prog_3_method_12_code 6 = .ok (.iconst 0, 1) := by decide +kernel
theorem d_F_sumSets_7 : decode prog_3_method_12_code 7 = .ok (.iconst 0, 1) := by decide +kernel
theorem d_F_sumSets_8 : decode prog_3_method_12_code 8 = .ok (.iastore, 1) := by decide +kernel
theorem d_F_sumSets_9 : decode prog_3_method_12_code 9 = .ok (.iconst 0, 1) := by decide +kernel
theorem d_F_sumSets_10 : decode prog_3_method_12_code 10 = .ok (.istore_n 3, 1) := by decide +kernel
theorem d_F_sumSets_11 : decode prog_3_method_12_code 11 = .ok (.iload_n 3, 1) := by decide +kernel
theorem d_F_sumSets_12 : decode prog_3_method_12_code 12 = .ok (.aload_n 0, 1) := by decide +kernel
theorem d_F_sumSets_13 : decode prog_3_method_12_code 13 = .ok (.getfield 29, 3) := by decide +kernel
theorem d_F_sumSets_16 : decode prog_3_method_12_code 16 = .ok (.getfield 76, 3) := by decide +kernel
theorem d_F_sumSets_19 : decode prog_3_method_12_code 19 = .ok (.if_icmp .ge 87, 3) := by decide +kernel
theorem d_F_sumSets_22 : decode prog_3_method_12_code 22 = .ok (.iconst 1, 1) := by decide +kernel
theorem d_F_sumSets_23 : decode prog_3_method_12_code 23 = .ok (.iload_n 3, 1) := by decide +kernel
theorem d_F_sumSets_24 : decode prog_3_method_12_code 24 = .ok (.ishl, 1) := by decide +kernel
theorem d_F_sumSets_25 : decode prog_3_method_12_code 25 = .ok (.istore 4, 2) := by decide +kernel
theorem d_F_sumSets_27 : decode prog_3_method_12_code 27 = .ok (.aload_n 0, 1) := by decide +kernel
theorem d_F_sumSets_28 : decode prog_3_method_12_code 28 = .ok (.getfield 29, 3) := by decide +kernel
theorem d_F_sumSets_31 : decode prog_3_method_12_code 31 = .ok (.iload_n 3, 1) := by decide +kernel
theorem d_F_sumSets_32 : decode prog_3_method_12_code 32 = .ok (.aload_n 0, 1) := by decide +kernel
theorem d_F_sumSets_33 : decode prog_3_method_12_code 33 = .ok (.getfield 29, 3) := by decide +kernel
theorem d_F_sumSets_36 : decode prog_3_method_12_code 36 = .ok (.getfield 69, 3) := by decide +kernel
theorem d_F_sumSets_39 : decode prog_3_method_12_code 39 = .ok (.iload_n 3, 1) := by decide +kernel
theorem d_F_sumSets_40 : decode prog_3_method_12_code 40 = .ok (.iaload, 1) := by decide +kernel
theorem d_F_sumSets_41 : decode prog_3_method_12_code 41 = .ok (.invokevirtual 92, 3) := by decide +kernel
theorem d_F_sumSets_44 : decode prog_3_method_12_code 44 = .ok (.istore 5, 2) := by decide +kernel
theorem d_F_sumSets_46 : decode prog_3_method_12_code 46 = .ok (.aload_n 0, 1) := by decide +kernel
theorem d_F_sumSets_47 : decode prog_3_method_12_code 47 = .ok (.getfield 29, 3) := by decide +kernel
theorem d_F_sumSets_50 : decode prog_3_method_12_code 50 = .ok (.getfield 89, 3) := by decide +kernel
theorem d_F_sumSets_53 : decode prog_3_method_12_code 53 = .ok (.iload_n 3, 1) := by decide +kernel
theorem d_F_sumSets_54 : decode prog_3_method_12_code 54 = .ok (.iaload, 1) := by decide +kernel
theorem d_F_sumSets_55 : decode prog_3_method_12_code 55 = .ok (.iload_n 1, 1) := by decide +kernel
theorem d_F_sumSets_56 : decode prog_3_method_12_code 56 = .ok (.if_icmp .ne 8, 3) := by decide +kernel
theorem d_F_sumSets_59 : decode prog_3_method_12_code 59 = .ok (.iload_n 2, 1) := by decide +kernel
theorem d_F_sumSets_60 : decode prog_3_method_12_code 60 = .ok (.iload 4, 2) := by decide +kernel
theorem d_F_sumSets_62 : decode prog_3_method_12_code 62 = .ok (.ior, 1) := by decide +kernel
theorem d_F_sumSets_63 : decode prog_3_method_12_code 63 = .ok (.istore_n 2, 1) := by decide +kernel
theorem d_F_sumSets_64 : decode prog_3_method_12_code 64 = .ok (.iconst 0, 1) := by decide +kernel
theorem d_F_sumSets_65 : decode prog_3_method_12_code 65 = .ok (.istore 6, 2) := by decide +kernel
theorem d_F_sumSets_67 : decode prog_3_method_12_code 67 = .ok (.iload 6, 2) := by decide +kernel
theorem d_F_sumSets_69 : decode prog_3_method_12_code 69 = .ok (.iload 4, 2) := by decide +kernel
theorem d_F_sumSets_71 : decode prog_3_method_12_code 71 = .ok (.if_icmp .ge 29, 3) := by decide +kernel
theorem d_F_sumSets_74 : decode prog_3_method_12_code 74 = .ok (.aload_n 0, 1) := by decide +kernel
theorem d_F_sumSets_75 : decode prog_3_method_12_code 75 = .ok (.getfield 23, 3) := by decide +kernel
theorem d_F_sumSets_78 : decode prog_3_method_12_code 78 = .ok (.iload 4, 2) := by decide +kernel
theorem d_F_sumSets_80 : decode prog_3_method_12_code 80 = .ok (.iload 6, 2) := by decide +kernel
theorem d_F_sumSets_82 : decode prog_3_method_12_code 82 = .ok (.iadd, 1) := by decide +kernel
theorem d_F_sumSets_83 : decode prog_3_method_12_code 83 = .ok (.aload_n 0, 1) := by decide +kernel
theorem d_F_sumSets_84 : decode prog_3_method_12_code 84 = .ok (.getfield 23, 3) := by decide +kernel
theorem d_F_sumSets_87 : decode prog_3_method_12_code 87 = .ok (.iload 6, 2) := by decide +kernel
theorem d_F_sumSets_89 : decode prog_3_method_12_code 89 = .ok (.iaload, 1) := by decide +kernel
theorem d_F_sumSets_90 : decode prog_3_method_12_code 90 = .ok (.iload 5, 2) := by decide +kernel
theorem d_F_sumSets_92 : decode prog_3_method_12_code 92 = .ok (.iadd, 1) := by decide +kernel
theorem d_F_sumSets_93 : decode prog_3_method_12_code 93 = .ok (.iastore, 1) := by decide +kernel
theorem d_F_sumSets_94 : decode prog_3_method_12_code 94 = .ok (.iinc 6 1, 3) := by decide +kernel
theorem d_F_sumSets_97 : decode prog_3_method_12_code 97 = .ok (.goto (-30), 3) := by decide +kernel
theorem d_F_sumSets_100 : decode prog_3_method_12_code 100 = .ok (.iinc 3 1, 3) := by decide +kernel
theorem d_F_sumSets_103 : decode prog_3_method_12_code 103 = .ok (.goto (-92), 3) := by decide +kernel
theorem d_F_sumSets_106 : decode prog_3_method_12_code 106 = .ok (.iload_n 2, 1) := by decide +kernel
theorem d_F_sumSets_107 : decode prog_3_method_12_code 107 = .ok (.ireturn, 1) := by decide +kernel
def w_F_sumSets_67 (K : Int32 → sm_Mem → Prop) (J11 : Int32 → Int32 → sm_Mem → Prop) (p0 : Int32) (x2 : Int32) (x3 : Int32) (x4 : Int32) (x5 : Int32) (x6 : Int32) (μ : sm_Mem) : Prop := sm_lp1 (fun J67 x6 μ => if x4 ≤ x6 then J11 x2 (x3 + 1) μ else (vp_in x6 1024 ∧ vp_in (x4 + x6) 1024 ∧ ∀ μ12 : sm_Mem, μ12 = sm_st μ 41 ((x4 + x6).toNatClampNeg) ((μ 41 x6.toNatClampNeg) + x5) → J67 (x6 + 1) μ12)) x6 μ
def w_F_sumSets_64 (K : Int32 → sm_Mem → Prop) (J11 : Int32 → Int32 → sm_Mem → Prop) (p0 : Int32) (x2 : Int32) (x3 : Int32) (x4 : Int32) (x5 : Int32) (μ : sm_Mem) : Prop := w_F_sumSets_67 K J11 p0 x2 x3 x4 x5 0 μ
def w_F_sumSets_11 (K : Int32 → sm_Mem → Prop) (p0 : Int32) (x2 : Int32) (x3 : Int32) (μ : sm_Mem) : Prop := sm_lp2 (fun J11 x2 x3 μ => if (μ 1 12) ≤ x3 then K x2 μ else (∀ v3 : Int32, v3 = (1 <<< (x3 &&& 31)) → vp_in x3 10 ∧ w_D_paysWith (fun r6 μ5 => vp_in x3 10 ∧ if (μ5 8 x3.toNatClampNeg) = p0 then (∀ v13 : Int32, v13 = (x2 ||| v3) → w_F_sumSets_64 K J11 p0 v13 x3 v3 r6 μ5) else w_F_sumSets_64 K J11 p0 x2 x3 v3 r6 μ5) x3 (μ 6 x3.toNatClampNeg) μ)) x2 x3 μ
def w_F_sumSets (K : Int32 → sm_Mem → Prop) (p0 : Int32) (μ : sm_Mem) : Prop := ∀ μ1 : sm_Mem, μ1 = sm_st μ 41 0 0 → w_F_sumSets_11 K p0 0 0 μ1
set_option maxHeartbeats 4000000 in
set_option maxRecDepth 100000 in
theorem P_F_sumSets (l : Launch) {K : Int32 → sm_Mem → Prop} {p0 : Int32} {μ : sm_Mem} (h : w_F_sumSets K p0 μ) : sm_MI l ⟨"SnowMoney$Foresight", "sumSets", "(I)I"⟩ prog_3_method_12_code 7 (some .int) { frames := 4, cells := 0, slots := 0, locals := 95 } [sm_R 37, sm_I p0] μ K := by
  refine sm_ofI (by decide +kernel) (fun _ => Nat.le_of_ble_eq_true rfl) ?_
  intro p e s m args below meth c A Q G C hR
  have B67 : ∀ (x2 : Int32) (x3 : Int32) (x4 : Int32) (x5 : Int32) (x6 : Int32) (J11 : Int32 → Int32 → sm_Mem → Prop) (hJ11 : ∀ (x2 : Int32) (x3 : Int32) (μ : sm_Mem), J11 x2 x3 μ → sm_W p l e { frames := 4, cells := 0, slots := 0, locals := 95 } s m args below meth c A Q G 7 0 0 11 [] [(0, sm_R 37), (1, sm_I p0), (2, sm_I x2), (3, sm_I x3)] μ) (μ : sm_Mem), w_F_sumSets_67 K J11 p0 x2 x3 x4 x5 x6 μ → sm_W p l e { frames := 4, cells := 0, slots := 0, locals := 95 } s m args below meth c A Q G 7 0 0 67 [] [(0, sm_R 37), (1, sm_I p0), (2, sm_I x2), (3, sm_I x3), (4, sm_I x4), (5, sm_I x5), (6, sm_I x6)] μ := by
    intro x2 x3 x4 x5 x6 J11 hJ11 μ h
    refine sm_lp1_sound (P := fun x6 μ => sm_W p l e { frames := 4, cells := 0, slots := 0, locals := 95 } s m args below meth c A Q G 7 0 0 67 [] [(0, sm_R 37), (1, sm_I p0), (2, sm_I x2), (3, sm_I x3), (4, sm_I x4), (5, sm_I x5), (6, sm_I x6)] μ) (fun J67 x6 μ hJ67 h => ?_) h
    refine sr_iload C 6 rfl d_F_sumSets_67 ?_
    refine sr_iload C 4 rfl d_F_sumSets_69 ?_
    refine sr_icmp_ge C (tgt := 100) d_F_sumSets_71 (by decide) (fun c9 => ?_) (fun c9 => ?_)
    · replace h := Eq.mp (if_pos c9) h
      refine sr_iinc C 3 rfl (by decide) d_F_sumSets_100 rfl ?_
      refine sr_goto C (tgt := 11) (by decide) d_F_sumSets_103 ?_
      refine sr_mask C [1, 2, 3, 0] rfl ?_
      exact hJ11 _ _ _ h
    · replace h := Eq.mp (if_neg c9) h
      refine sr_aload_n C 0 rfl rfl d_F_sumSets_74 ?_
      refine sr_getR C sm_F1 4 q_283 sm_l37 (r := 41) rfl (by decide) d_F_sumSets_75 ?_
      refine sr_iload C 4 rfl d_F_sumSets_78 ?_
      refine sr_iload C 6 rfl d_F_sumSets_80 ?_
      refine sr_iadd C d_F_sumSets_82 ?_
      refine sr_aload_n C 0 rfl rfl d_F_sumSets_83 ?_
      refine sr_getR C sm_F1 4 q_283 sm_l37 (r := 41) rfl (by decide) d_F_sumSets_84 ?_
      refine sr_iload C 6 rfl d_F_sumSets_87 ?_
      obtain ⟨g10, h⟩ := h
      refine sr_iald C sm_l41 g10 d_F_sumSets_89 ?_
      refine sr_iload C 5 rfl d_F_sumSets_90 ?_
      refine sr_iadd C d_F_sumSets_92 ?_
      obtain ⟨g11, h⟩ := h
      refine sr_iast C sm_l41 g11 d_F_sumSets_93 ?_
      replace h := h _ rfl
      refine sr_iinc C 6 rfl (by decide) d_F_sumSets_94 rfl ?_
      refine sr_goto C (tgt := 67) (by decide) d_F_sumSets_97 ?_
      refine sr_mask C [1, 2, 3, 4, 5, 6, 0] rfl ?_
      exact hJ67 _ _ h
  have B64 : ∀ (x2 : Int32) (x3 : Int32) (x4 : Int32) (x5 : Int32) (J11 : Int32 → Int32 → sm_Mem → Prop) (hJ11 : ∀ (x2 : Int32) (x3 : Int32) (μ : sm_Mem), J11 x2 x3 μ → sm_W p l e { frames := 4, cells := 0, slots := 0, locals := 95 } s m args below meth c A Q G 7 0 0 11 [] [(0, sm_R 37), (1, sm_I p0), (2, sm_I x2), (3, sm_I x3)] μ) (μ : sm_Mem), w_F_sumSets_64 K J11 p0 x2 x3 x4 x5 μ → sm_W p l e { frames := 4, cells := 0, slots := 0, locals := 95 } s m args below meth c A Q G 7 0 0 64 [] [(0, sm_R 37), (1, sm_I p0), (2, sm_I x2), (3, sm_I x3), (4, sm_I x4), (5, sm_I x5)] μ := by
    intro x2 x3 x4 x5 J11 hJ11 μ h
    refine sr_iconst C (v := 0) d_F_sumSets_64 (by decide) ?_
    refine sr_istore C (by decide) d_F_sumSets_65 ?_
    refine sr_mask C [1, 2, 3, 4, 5, 6, 0] rfl ?_
    exact B67 _ _ _ _ _ _ hJ11 _ h
  have B11 : ∀ (x2 : Int32) (x3 : Int32) (μ : sm_Mem), w_F_sumSets_11 K p0 x2 x3 μ → sm_W p l e { frames := 4, cells := 0, slots := 0, locals := 95 } s m args below meth c A Q G 7 0 0 11 [] [(0, sm_R 37), (1, sm_I p0), (2, sm_I x2), (3, sm_I x3)] μ := by
    intro x2 x3 μ h
    refine sm_lp2_sound (P := fun x2 x3 μ => sm_W p l e { frames := 4, cells := 0, slots := 0, locals := 95 } s m args below meth c A Q G 7 0 0 11 [] [(0, sm_R 37), (1, sm_I p0), (2, sm_I x2), (3, sm_I x3)] μ) (fun J11 x2 x3 μ hJ11 h => ?_) h
    refine sr_iload_n C 3 rfl rfl d_F_sumSets_11 ?_
    refine sr_aload_n C 0 rfl rfl d_F_sumSets_12 ?_
    refine sr_getR C sm_F1 0 q_220 sm_l37 (r := 1) rfl (by decide) d_F_sumSets_13 ?_
    refine sr_getI C sm_F0 12 q_255 sm_l1 rfl (by decide) d_F_sumSets_16 ?_
    refine sr_icmp_ge C (tgt := 106) d_F_sumSets_19 (by decide) (fun c2 => ?_) (fun c2 => ?_)
    · replace h := Eq.mp (if_pos c2) h
      refine sr_iload_n C 2 rfl rfl d_F_sumSets_106 ?_
      exact hR _ _ _ _ d_F_sumSets_107 rfl h
    · replace h := Eq.mp (if_neg c2) h
      refine sr_iconst C (v := 1) d_F_sumSets_22 (by decide) ?_
      refine sr_iload_n C 3 rfl rfl d_F_sumSets_23 ?_
      refine sr_ishl C d_F_sumSets_24 ?_
      replace h := h _ rfl
      refine sr_istore C (by decide) d_F_sumSets_25 ?_
      refine sr_aload_n C 1 rfl rfl d_F_sumSets_27 ?_
      refine sr_getR C sm_F1 0 q_220 sm_l37 (r := 1) rfl (by decide) d_F_sumSets_28 ?_
      refine sr_iload_n C 4 rfl rfl d_F_sumSets_31 ?_
      refine sr_aload_n C 1 rfl rfl d_F_sumSets_32 ?_
      refine sr_getR C sm_F1 0 q_220 sm_l37 (r := 1) rfl (by decide) d_F_sumSets_33 ?_
      refine sr_getR C sm_F0 4 q_228 sm_l1 (r := 6) rfl (by decide) d_F_sumSets_36 ?_
      refine sr_iload_n C 4 rfl rfl d_F_sumSets_39 ?_
      obtain ⟨g4, h⟩ := h
      refine sr_iald C sm_l6 g4 d_F_sumSets_40 ?_
      refine sr_callVI C [sm_I _, sm_I _] (P_D_paysWith l h) ok_58 sm_l1 rfl rfl rfl rfl ⟨Nat.le_of_ble_eq_true rfl, Nat.le_of_ble_eq_true rfl⟩ (Nat.le_of_ble_eq_true rfl) ⟨Nat.zero_le _, Nat.zero_le _⟩ d_F_sumSets_41 (fun r6 μ5 h => ?_)
      refine sr_istore C (by decide) d_F_sumSets_44 ?_
      refine sr_aload_n C 2 rfl rfl d_F_sumSets_46 ?_
      refine sr_getR C sm_F1 0 q_220 sm_l37 (r := 1) rfl (by decide) d_F_sumSets_47 ?_
      refine sr_getR C sm_F0 6 q_267 sm_l1 (r := 8) rfl (by decide) d_F_sumSets_50 ?_
      refine sr_iload_n C 5 rfl rfl d_F_sumSets_53 ?_
      obtain ⟨g7, h⟩ := h
      refine sr_iald C sm_l8 g7 d_F_sumSets_54 ?_
      refine sr_iload_n C 3 rfl rfl d_F_sumSets_55 ?_
      refine sr_icmp_ne C (tgt := 64) d_F_sumSets_56 (by decide) (fun c8 => ?_) (fun c8 => ?_)
      · replace h := Eq.mp (if_neg c8) h
        refine sr_mask C [2, 3, 4, 5, 1, 0] rfl ?_
        exact B64 _ _ _ _ _ hJ11 _ h
      · replace h := Eq.mp (if_pos c8) h
        refine sr_iload_n C 4 rfl rfl d_F_sumSets_59 ?_
        refine sr_iload C 1 rfl d_F_sumSets_60 ?_
        refine sr_ior C d_F_sumSets_62 ?_
        replace h := h _ rfl
        refine sr_istore_n C rfl (by decide) d_F_sumSets_63 ?_
        refine sr_mask C [3, 4, 0, 5, 2, 1] rfl ?_
        exact B64 _ _ _ _ _ hJ11 _ h
  refine sr_iconst C (v := 0) d_F_sumSets_0 (by decide) ?_
  refine sr_istore_n C rfl (by decide) d_F_sumSets_1 ?_
  refine sr_aload_n C 1 rfl rfl d_F_sumSets_2 ?_
  refine sr_getR C sm_F1 4 q_283 sm_l37 (r := 41) rfl (by decide) d_F_sumSets_3 ?_
  refine sr_iconst C (v := 0) d_F_sumSets_6 (by decide) ?_
  refine sr_iconst C (v := 0) d_F_sumSets_7 (by decide) ?_
  refine sr_iastJ C sm_l41 (j := 0) (sm_vin (by decide)) (by decide) d_F_sumSets_8 ?_
  replace h := h _ rfl
  refine sr_iconst C (v := 0) d_F_sumSets_9 (by decide) ?_
  refine sr_istore_n C rfl (by decide) d_F_sumSets_10 ?_
  refine sr_mask C [2, 3, 1, 0] rfl ?_
  exact B11 _ _ _ h
theorem d_F_findPayment_0 : decode prog_3_method_10_code 0 = .ok (.aload_n 0, 1) := by decide +kernel
theorem d_F_findPayment_1 : decode prog_3_method_10_code 1 = .ok (.iload_n 1, 1) := by decide +kernel
theorem d_F_findPayment_2 : decode prog_3_method_10_code 2 = .ok (.invokevirtual 110, 3) := by decide +kernel
theorem d_F_findPayment_5 : decode prog_3_method_10_code 5 = .ok (.istore_n 3, 1) := by decide +kernel
theorem d_F_findPayment_6 : decode prog_3_method_10_code 6 = .ok (.aload_n 0, 1) := by decide +kernel
theorem d_F_findPayment_7 : decode prog_3_method_10_code 7 = .ok (.iconst 0, 1) := by decide +kernel
theorem d_F_findPayment_8 : decode prog_3_method_10_code 8 = .ok (.putfield 95, 3) := by decide +kernel
theorem d_F_findPayment_11 : decode prog_3_method_10_code 11 = .ok (.aload_n 0, 1) := by decide +kernel
theorem d_F_findPayment_12 : decode prog_3_method_10_code 12 = .ok (.iconst (-1), 1) := by decide +kernel
theorem d_F_findPayment_13 : decode prog_3_method_10_code 13 = .ok (.putfield 98, 3) := by decide +kernel
theorem d_F_findPayment_16 : decode prog_3_method_10_code 16 = .ok (.iconst 0, 1) := by decide +kernel
theorem d_F_findPayment_17 : decode prog_3_method_10_code 17 = .ok (.istore 4, 2) := by decide +kernel
theorem d_F_findPayment_19 : decode prog_3_method_10_code 19 = .ok (.iload 4, 2) := by decide +kernel
theorem d_F_findPayment_21 : decode prog_3_method_10_code 21 = .ok (.iconst 1, 1) := by decide +kernel
theorem d_F_findPayment_22 : decode prog_3_method_10_code 22 = .ok (.aload_n 0, 1) := by decide +kernel
theorem d_F_findPayment_23 : decode prog_3_method_10_code 23 = .ok (.getfield 29, 3) := by decide +kernel
theorem d_F_findPayment_26 : decode prog_3_method_10_code 26 = .ok (.getfield 76, 3) := by decide +kernel
theorem d_F_findPayment_29 : decode prog_3_method_10_code 29 = .ok (.ishl, 1) := by decide +kernel
theorem d_F_findPayment_30 : decode prog_3_method_10_code 30 = .ok (.if_icmp .ge 55, 3) := by decide +kernel
theorem d_F_findPayment_33 : decode prog_3_method_10_code 33 = .ok (.iload 4, 2) := by decide +kernel
theorem d_F_findPayment_35 : decode prog_3_method_10_code 35 = .ok (.iload_n 3, 1) := by decide +kernel
theorem d_F_findPayment_36 : decode prog_3_method_10_code 36 = .ok (.iconst (-1), 1) := by decide +kernel
theorem d_F_findPayment_37 : decode prog_3_method_10_code 37 = .ok (.ixor, 1) := by decide +kernel
theorem d_F_findPayment_38 : decode prog_3_method_10_code 38 = .ok (.iand, 1) := by decide +kernel
theorem d_F_findPayment_39 : decode prog_3_method_10_code 39 = .ok (.ifCond .ne 40, 3) := by decide +kernel
theorem d_F_findPayment_42 : decode prog_3_method_10_code 42 = .ok (.aload_n 0, 1) := by decide +kernel
theorem d_F_findPayment_43 : decode prog_3_method_10_code 43 = .ok (.getfield 23, 3) := by decide +kernel
theorem d_F_findPayment_46 : decode prog_3_method_10_code 46 = .ok (.iload 4, 2) := by decide +kernel
theorem d_F_findPayment_48 : decode prog_3_method_10_code 48 = .ok (.iaload, 1) := by decide +kernel
theorem d_F_findPayment_49 : decode prog_3_method_10_code 49 = .ok (.iload_n 2, 1) := by decide +kernel
theorem d_F_findPayment_50 : decode prog_3_method_10_code 50 = .ok (.if_icmp .lt 29, 3) := by decide +kernel
theorem d_F_findPayment_53 : decode prog_3_method_10_code 53 = .ok (.aload_n 0, 1) := by decide +kernel
theorem d_F_findPayment_54 : decode prog_3_method_10_code 54 = .ok (.iload 4, 2) := by decide +kernel
theorem d_F_findPayment_56 : decode prog_3_method_10_code 56 = .ok (.invokevirtual 113, 3) := by decide +kernel
theorem d_F_findPayment_59 : decode prog_3_method_10_code 59 = .ok (.ifCond .eq 20, 3) := by decide +kernel
theorem d_F_findPayment_62 : decode prog_3_method_10_code 62 = .ok (.aload_n 0, 1) := by decide +kernel
theorem d_F_findPayment_63 : decode prog_3_method_10_code 63 = .ok (.aload_n 0, 1) := by decide +kernel
theorem d_F_findPayment_64 : decode prog_3_method_10_code 64 = .ok (.getfield 23, 3) := by decide +kernel
theorem d_F_findPayment_67 : decode prog_3_method_10_code 67 = .ok (.iload 4, 2) := by decide +kernel
theorem d_F_findPayment_69 : decode prog_3_method_10_code 69 = .ok (.iaload, 1) := by decide +kernel
theorem d_F_findPayment_70 : decode prog_3_method_10_code 70 = .ok (.putfield 95, 3) := by decide +kernel
theorem d_F_findPayment_73 : decode prog_3_method_10_code 73 = .ok (.aload_n 0, 1) := by decide +kernel
theorem d_F_findPayment_74 : decode prog_3_method_10_code 74 = .ok (.iload 4, 2) := by decide +kernel
theorem d_F_findPayment_76 : decode prog_3_method_10_code 76 = .ok (.putfield 98, 3) := by decide +kernel
theorem d_F_findPayment_79 : decode prog_3_method_10_code 79 = .ok (.iinc 4 1, 3) := by decide +kernel
theorem d_F_findPayment_82 : decode prog_3_method_10_code 82 = .ok (.goto (-63), 3) := by decide +kernel
theorem d_F_findPayment_85 : decode prog_3_method_10_code 85 = .ok (.aload_n 0, 1) := by decide +kernel
theorem d_F_findPayment_86 : decode prog_3_method_10_code 86 = .ok (.getfield 98, 3) := by decide +kernel
theorem d_F_findPayment_89 : decode prog_3_method_10_code 89 = .ok (.ifCond .lt 7, 3) := by decide +kernel
theorem d_F_findPayment_92 : decode prog_3_method_10_code 92 = .ok (.iconst 1, 1) := by decide +kernel
theorem d_F_findPayment_93 : decode prog_3_method_10_code 93 = .ok (.goto 4, 3) := by decide +kernel
theorem d_F_findPayment_96 : decode prog_3_method_10_code 96 = .ok (.iconst 0, 1) := by decide +kernel
theorem d_F_findPayment_97 : decode prog_3_method_10_code 97 = .ok (.ireturn, 1) := by decide +kernel
def w_F_findPayment_79 (K : Int32 → sm_Mem → Prop) (J19 : Int32 → sm_Mem → Prop) (p0 : Int32) (p1 : Int32) (x3 : Int32) (x4 : Int32) (μ : sm_Mem) : Prop := J19 (x4 + 1) μ
def w_F_findPayment_19 (K : Int32 → sm_Mem → Prop) (p0 : Int32) (p1 : Int32) (x3 : Int32) (x4 : Int32) (μ : sm_Mem) : Prop := sm_lp1 (fun J19 x4 μ => if (1 <<< ((μ 1 12) &&& 31)) ≤ x4 then (if (μ 37 8) < 0 then K 0 μ else K 1 μ) else (if (x4 &&& (x3 ^^^ (-1))) = 0 then (vp_in x4 1024 ∧ if (μ 41 x4.toNatClampNeg) < p1 then w_F_findPayment_79 K J19 p0 p1 x3 x4 μ else (w_F_isBetterSet (fun r11 μ10 => if r11 = 0 then w_F_findPayment_79 K J19 p0 p1 x3 x4 μ10 else (vp_in x4 1024 ∧ ∀ μ14 : sm_Mem, μ14 = sm_st μ10 37 7 (μ10 41 x4.toNatClampNeg) → ∀ μ15 : sm_Mem, μ15 = sm_st μ14 37 8 x4 → w_F_findPayment_79 K J19 p0 p1 x3 x4 μ15)) x4 μ)) else w_F_findPayment_79 K J19 p0 p1 x3 x4 μ)) x4 μ
def w_F_findPayment (K : Int32 → sm_Mem → Prop) (p0 : Int32) (p1 : Int32) (μ : sm_Mem) : Prop := w_F_sumSets (fun r2 μ1 => ∀ μ3 : sm_Mem, μ3 = sm_st μ1 37 7 0 → ∀ μ4 : sm_Mem, μ4 = sm_st μ3 37 8 (-1) → w_F_findPayment_19 K p0 p1 r2 0 μ4) p0 μ
set_option maxHeartbeats 4000000 in
set_option maxRecDepth 100000 in
theorem P_F_findPayment (l : Launch) {K : Int32 → sm_Mem → Prop} {p0 : Int32} {p1 : Int32} {μ : sm_Mem} (h : w_F_findPayment K p0 p1 μ) : sm_MI l ⟨"SnowMoney$Foresight", "findPayment", "(II)Z"⟩ prog_3_method_10_code 5 (some .boolean) { frames := 5, cells := 0, slots := 0, locals := 121 } [sm_R 37, sm_I p0, sm_I p1] μ K := by
  refine sm_ofI (by decide +kernel) (fun _ => Nat.le_of_ble_eq_true rfl) ?_
  intro p e s m args below meth c A Q G C hR
  have B79 : ∀ (x3 : Int32) (x4 : Int32) (J19 : Int32 → sm_Mem → Prop) (hJ19 : ∀ (x4 : Int32) (μ : sm_Mem), J19 x4 μ → sm_W p l e { frames := 5, cells := 0, slots := 0, locals := 121 } s m args below meth c A Q G 5 0 0 19 [] [(0, sm_R 37), (2, sm_I p1), (3, sm_I x3), (4, sm_I x4)] μ) (μ : sm_Mem), w_F_findPayment_79 K J19 p0 p1 x3 x4 μ → sm_W p l e { frames := 5, cells := 0, slots := 0, locals := 121 } s m args below meth c A Q G 5 0 0 79 [] [(0, sm_R 37), (2, sm_I p1), (3, sm_I x3), (4, sm_I x4)] μ := by
    intro x3 x4 J19 hJ19 μ h
    refine sr_iinc C 3 rfl (by decide) d_F_findPayment_79 rfl ?_
    refine sr_goto C (tgt := 19) (by decide) d_F_findPayment_82 ?_
    refine sr_mask C [1, 2, 3, 0] rfl ?_
    exact hJ19 _ _ h
  have B19 : ∀ (x3 : Int32) (x4 : Int32) (μ : sm_Mem), w_F_findPayment_19 K p0 p1 x3 x4 μ → sm_W p l e { frames := 5, cells := 0, slots := 0, locals := 121 } s m args below meth c A Q G 5 0 0 19 [] [(0, sm_R 37), (2, sm_I p1), (3, sm_I x3), (4, sm_I x4)] μ := by
    intro x3 x4 μ h
    refine sm_lp1_sound (P := fun x4 μ => sm_W p l e { frames := 5, cells := 0, slots := 0, locals := 121 } s m args below meth c A Q G 5 0 0 19 [] [(0, sm_R 37), (2, sm_I p1), (3, sm_I x3), (4, sm_I x4)] μ) (fun J19 x4 μ hJ19 h => ?_) h
    refine sr_iload C 3 rfl d_F_findPayment_19 ?_
    refine sr_iconst C (v := 1) d_F_findPayment_21 (by decide) ?_
    refine sr_aload_n C 0 rfl rfl d_F_findPayment_22 ?_
    refine sr_getR C sm_F1 0 q_220 sm_l37 (r := 1) rfl (by decide) d_F_findPayment_23 ?_
    refine sr_getI C sm_F0 12 q_255 sm_l1 rfl (by decide) d_F_findPayment_26 ?_
    refine sr_ishl C d_F_findPayment_29 ?_
    refine sr_icmp_ge C (tgt := 85) d_F_findPayment_30 (by decide) (fun c5 => ?_) (fun c5 => ?_)
    · replace h := Eq.mp (if_pos c5) h
      refine sr_aload_n C 0 rfl rfl d_F_findPayment_85 ?_
      refine sr_getI C sm_F1 8 q_254 sm_l37 rfl (by decide) d_F_findPayment_86 ?_
      refine sr_if_lt C (tgt := 96) d_F_findPayment_89 (by decide) (fun c6 => ?_) (fun c6 => ?_)
      · replace h := Eq.mp (if_pos c6) h
        refine sr_iconst C (v := 0) d_F_findPayment_96 (by decide) ?_
        exact hR _ _ _ _ d_F_findPayment_97 rfl h
      · replace h := Eq.mp (if_neg c6) h
        refine sr_iconst C (v := 1) d_F_findPayment_92 (by decide) ?_
        refine sr_goto C (tgt := 97) (by decide) d_F_findPayment_93 ?_
        exact hR _ _ _ _ d_F_findPayment_97 rfl h
    · replace h := Eq.mp (if_neg c5) h
      refine sr_iload C 3 rfl d_F_findPayment_33 ?_
      refine sr_iload_n C 2 rfl rfl d_F_findPayment_35 ?_
      refine sr_iconst C (v := (-1)) d_F_findPayment_36 (by decide) ?_
      refine sr_ixor C d_F_findPayment_37 ?_
      refine sr_iand C d_F_findPayment_38 ?_
      refine sr_if_ne C (tgt := 79) d_F_findPayment_39 (by decide) (fun c7 => ?_) (fun c7 => ?_)
      · replace h := Eq.mp (if_neg c7) h
        exact B79 _ _ _ hJ19 _ h
      · replace h := Eq.mp (if_pos c7) h
        refine sr_aload_n C 0 rfl rfl d_F_findPayment_42 ?_
        refine sr_getR C sm_F1 4 q_283 sm_l37 (r := 41) rfl (by decide) d_F_findPayment_43 ?_
        refine sr_iload C 3 rfl d_F_findPayment_46 ?_
        obtain ⟨g8, h⟩ := h
        refine sr_iald C sm_l41 g8 d_F_findPayment_48 ?_
        refine sr_iload_n C 1 rfl rfl d_F_findPayment_49 ?_
        refine sr_icmp_lt C (tgt := 79) d_F_findPayment_50 (by decide) (fun c9 => ?_) (fun c9 => ?_)
        · replace h := Eq.mp (if_pos c9) h
          exact B79 _ _ _ hJ19 _ h
        · replace h := Eq.mp (if_neg c9) h
          refine sr_aload_n C 0 rfl rfl d_F_findPayment_53 ?_
          refine sr_iload C 3 rfl d_F_findPayment_54 ?_
          refine sr_callVI C [sm_I _] (P_F_isBetterSet l h) ok_63 sm_l37 rfl rfl rfl rfl ⟨Nat.le_of_ble_eq_true rfl, Nat.le_of_ble_eq_true rfl⟩ (Nat.le_of_ble_eq_true rfl) ⟨Nat.zero_le _, Nat.zero_le _⟩ d_F_findPayment_56 (fun r11 μ10 h => ?_)
          refine sr_if_eq C (tgt := 79) d_F_findPayment_59 (by decide) (fun c12 => ?_) (fun c12 => ?_)
          · replace h := Eq.mp (if_pos c12) h
            exact B79 _ _ _ hJ19 _ h
          · replace h := Eq.mp (if_neg c12) h
            refine sr_aload_n C 0 rfl rfl d_F_findPayment_62 ?_
            refine sr_aload_n C 0 rfl rfl d_F_findPayment_63 ?_
            refine sr_getR C sm_F1 4 q_283 sm_l37 (r := 41) rfl (by decide) d_F_findPayment_64 ?_
            refine sr_iload C 3 rfl d_F_findPayment_67 ?_
            obtain ⟨g13, h⟩ := h
            refine sr_iald C sm_l41 g13 d_F_findPayment_69 ?_
            refine sr_putI C sm_F1 7 q_253 sm_l37 rfl rfl (by decide) rfl d_F_findPayment_70 ?_
            replace h := h _ rfl
            refine sr_aload_n C 0 rfl rfl d_F_findPayment_73 ?_
            refine sr_iload C 3 rfl d_F_findPayment_74 ?_
            refine sr_putI C sm_F1 8 q_254 sm_l37 rfl rfl (by decide) rfl d_F_findPayment_76 ?_
            replace h := h _ rfl
            exact B79 _ _ _ hJ19 _ h
  refine sr_aload_n C 0 rfl rfl d_F_findPayment_0 ?_
  refine sr_iload_n C 1 rfl rfl d_F_findPayment_1 ?_
  refine sr_callVI C [sm_I _] (P_F_sumSets l h) ok_62 sm_l37 rfl rfl rfl rfl ⟨Nat.le_of_ble_eq_true rfl, Nat.le_of_ble_eq_true rfl⟩ (Nat.le_of_ble_eq_true rfl) ⟨Nat.zero_le _, Nat.zero_le _⟩ d_F_findPayment_2 (fun r2 μ1 h => ?_)
  refine sr_istore_n C rfl (by decide) d_F_findPayment_5 ?_
  refine sr_aload_n C 1 rfl rfl d_F_findPayment_6 ?_
  refine sr_iconst C (v := 0) d_F_findPayment_7 (by decide) ?_
  refine sr_putI C sm_F1 7 q_253 sm_l37 rfl rfl (by decide) rfl d_F_findPayment_8 ?_
  replace h := h _ rfl
  refine sr_aload_n C 1 rfl rfl d_F_findPayment_11 ?_
  refine sr_iconst C (v := (-1)) d_F_findPayment_12 (by decide) ?_
  refine sr_putI C sm_F1 8 q_254 sm_l37 rfl rfl (by decide) rfl d_F_findPayment_13 ?_
  replace h := h _ rfl
  refine sr_iconst C (v := 0) d_F_findPayment_16 (by decide) ?_
  refine sr_istore C (by decide) d_F_findPayment_17 ?_
  refine sr_mask C [2, 4, 1, 0] rfl ?_
  exact B19 _ _ _ h
theorem d_F_lastHourWorth_0 : decode prog_3_method_13_code 0 = .ok (.aload_n 0, 1) := by decide +kernel
theorem d_F_lastHourWorth_1 : decode prog_3_method_13_code 1 = .ok (.getfield 20, 3) := by decide +kernel
theorem d_F_lastHourWorth_4 : decode prog_3_method_13_code 4 = .ok (.iconst 0, 1) := by decide +kernel
theorem d_F_lastHourWorth_5 : decode prog_3_method_13_code 5 = .ok (.invokestatic 121, 3) := by decide +kernel
theorem d_F_lastHourWorth_8 : decode prog_3_method_13_code 8 = .ok (.iconst 0, 1) := by decide +kernel
theorem d_F_lastHourWorth_9 : decode prog_3_method_13_code 9 = .ok (.istore_n 3, 1) := by decide +kernel
theorem d_F_lastHourWorth_10 : decode prog_3_method_13_code 10 = .ok (.iload_n 3, 1) := by decide +kernel
theorem d_F_lastHourWorth_11 : decode prog_3_method_13_code 11 = .ok (.aload_n 0, 1) := by decide +kernel
theorem d_F_lastHourWorth_12 : decode prog_3_method_13_code 12 = .ok (.getfield 29, 3) := by decide +kernel
theorem d_F_lastHourWorth_15 : decode prog_3_method_13_code 15 = .ok (.getfield 76, 3) := by decide +kernel
theorem d_F_lastHourWorth_18 : decode prog_3_method_13_code 18 = .ok (.if_icmp .ge 86, 3) := by decide +kernel
theorem d_F_lastHourWorth_21 : decode prog_3_method_13_code 21 = .ok (.aload_n 0, 1) := by decide +kernel
theorem d_F_lastHourWorth_22 : decode prog_3_method_13_code 22 = .ok (.getfield 29, 3) := by decide +kernel
theorem d_F_lastHourWorth_25 : decode prog_3_method_13_code 25 = .ok (.getfield 89, 3) := by decide +kernel
theorem d_F_lastHourWorth_28 : decode prog_3_method_13_code 28 = .ok (.iload_n 3, 1) := by decide +kernel
theorem d_F_lastHourWorth_29 : decode prog_3_method_13_code 29 = .ok (.iaload, 1) := by decide +kernel
theorem d_F_lastHourWorth_30 : decode prog_3_method_13_code 30 = .ok (.iload_n 1, 1) := by decide +kernel
theorem d_F_lastHourWorth_31 : decode prog_3_method_13_code 31 = .ok (.if_icmp .ne 67, 3) := by decide +kernel
theorem d_F_lastHourWorth_34 : decode prog_3_method_13_code 34 = .ok (.aload_n 0, 1) := by decide +kernel
theorem d_F_lastHourWorth_35 : decode prog_3_method_13_code 35 = .ok (.iload_n 3, 1) := by decide +kernel
theorem d_F_lastHourWorth_36 : decode prog_3_method_13_code 36 = .ok (.aload_n 0, 1) := by decide +kernel
theorem d_F_lastHourWorth_37 : decode prog_3_method_13_code 37 = .ok (.getfield 29, 3) := by decide +kernel
theorem d_F_lastHourWorth_40 : decode prog_3_method_13_code 40 = .ok (.iload_n 3, 1) := by decide +kernel
theorem d_F_lastHourWorth_41 : decode prog_3_method_13_code 41 = .ok (.invokevirtual 79, 3) := by decide +kernel
theorem d_F_lastHourWorth_44 : decode prog_3_method_13_code 44 = .ok (.aload_n 0, 1) := by decide +kernel
theorem d_F_lastHourWorth_45 : decode prog_3_method_13_code 45 = .ok (.getfield 29, 3) := by decide +kernel
theorem d_F_lastHourWorth_48 : decode prog_3_method_13_code 48 = .ok (.getfield 83, 3) := by decide +kernel
theorem d_F_lastHourWorth_51 : decode prog_3_method_13_code 51 = .ok (.bipush 60, 2) := by decide +kernel
theorem d_F_lastHourWorth_53 : decode prog_3_method_13_code 53 = .ok (.invokevirtual 86, 3) := by decide +kernel
theorem d_F_lastHourWorth_56 : decode prog_3_method_13_code 56 = .ok (.pop, 1) := by decide +kernel
theorem d_F_lastHourWorth_57 : decode prog_3_method_13_code 57 = .ok (.iconst 0, 1) := by decide +kernel
theorem d_F_lastHourWorth_58 : decode prog_3_method_13_code 58 = .ok (.istore 4, 2) := by decide +kernel
theorem d_F_lastHourWorth_60 : decode prog_3_method_13_code 60 = .ok (.iload 4, 2) := by decide +kernel
theorem d_F_lastHourWorth_62 : decode prog_3_method_13_code 62 = .ok (.bipush 60, 2) := by decide +kernel
theorem d_F_lastHourWorth_64 : decode prog_3_method_13_code 64 = .ok (.if_icmp .gt 34, 3) := by decide +kernel
theorem d_F_lastHourWorth_67 : decode prog_3_method_13_code 67 = .ok (.aload_n 0, 1) := by decide +kernel
theorem d_F_lastHourWorth_68 : decode prog_3_method_13_code 68 = .ok (.getfield 20, 3) := by decide +kernel
theorem d_F_lastHourWorth_71 : decode prog_3_method_13_code 71 = .ok (.iload 4, 2) := by decide +kernel
theorem d_F_lastHourWorth_73 : decode prog_3_method_13_code 73 = .ok (.dup2, 1) := by decide +kernel
theorem d_F_lastHourWorth_74 : decode prog_3_method_13_code 74 = .ok (.iaload, 1) := by decide +kernel
theorem d_F_lastHourWorth_75 : decode prog_3_method_13_code 75 = .ok (.aload_n 0, 1) := by decide +kernel
theorem d_F_lastHourWorth_76 : decode prog_3_method_13_code 76 = .ok (.getfield 29, 3) := by decide +kernel
theorem d_F_lastHourWorth_79 : decode prog_3_method_13_code 79 = .ok (.iload_n 3, 1) := by decide +kernel
theorem d_F_lastHourWorth_80 : decode prog_3_method_13_code 80 = .ok (.aload_n 0, 1) := by decide +kernel
theorem d_F_lastHourWorth_81 : decode prog_3_method_13_code 81 = .ok (.getfield 17, 3) := by decide +kernel
theorem d_F_lastHourWorth_84 : decode prog_3_method_13_code 84 = .ok (.iload 4, 2) := by decide +kernel
theorem d_F_lastHourWorth_86 : decode prog_3_method_13_code 86 = .ok (.iaload, 1) := by decide +kernel
theorem d_F_lastHourWorth_87 : decode prog_3_method_13_code 87 = .ok (.invokevirtual 92, 3) := by decide +kernel
theorem d_F_lastHourWorth_90 : decode prog_3_method_13_code 90 = .ok (.iadd, 1) := by decide +kernel
theorem d_F_lastHourWorth_91 : decode prog_3_method_13_code 91 = .ok (.iastore, 1) := by decide +kernel
theorem d_F_lastHourWorth_92 : decode prog_3_method_13_code 92 = .ok (.iinc 4 1, 3) := by decide +kernel
theorem d_F_lastHourWorth_95 : decode prog_3_method_13_code 95 = .ok (.goto (-35), 3) := by decide +kernel
theorem d_F_lastHourWorth_98 : decode prog_3_method_13_code 98 = .ok (.iinc 3 1, 3) := by decide +kernel
theorem d_F_lastHourWorth_101 : decode prog_3_method_13_code 101 = .ok (.goto (-91), 3) := by decide +kernel
theorem d_F_lastHourWorth_104 : decode prog_3_method_13_code 104 = .ok (.iconst (-1), 1) := by decide +kernel
theorem d_F_lastHourWorth_105 : decode prog_3_method_13_code 105 = .ok (.istore_n 3, 1) := by decide +kernel
theorem d_F_lastHourWorth_106 : decode prog_3_method_13_code 106 = .ok (.iconst 0, 1) := by decide +kernel
theorem d_F_lastHourWorth_107 : decode prog_3_method_13_code 107 = .ok (.istore 4, 2) := by decide +kernel
theorem d_F_lastHourWorth_109 : decode prog_3_method_13_code 109 = .ok (.iload 4, 2) := by decide +kernel
theorem d_F_lastHourWorth_111 : decode prog_3_method_13_code 111 = .ok (.bipush 60, 2) := by decide +kernel
theorem d_F_lastHourWorth_113 : decode prog_3_method_13_code 113 = .ok (.if_icmp .gt 23, 3) := by decide +kernel
theorem d_F_lastHourWorth_116 : decode prog_3_method_13_code 116 = .ok (.aload_n 0, 1) := by decide +kernel
theorem d_F_lastHourWorth_117 : decode prog_3_method_13_code 117 = .ok (.getfield 20, 3) := by decide +kernel
theorem d_F_lastHourWorth_120 : decode prog_3_method_13_code 120 = .ok (.iload 4, 2) := by decide +kernel
theorem d_F_lastHourWorth_122 : decode prog_3_method_13_code 122 = .ok (.iaload, 1) := by decide +kernel
theorem d_F_lastHourWorth_123 : decode prog_3_method_13_code 123 = .ok (.iload_n 2, 1) := by decide +kernel
theorem d_F_lastHourWorth_124 : decode prog_3_method_13_code 124 = .ok (.if_icmp .lt 12, 3) := by decide +kernel
theorem d_F_lastHourWorth_127 : decode prog_3_method_13_code 127 = .ok (.iload 4, 2) := by decide +kernel
theorem d_F_lastHourWorth_129 : decode prog_3_method_13_code 129 = .ok (.istore_n 3, 1) := by decide +kernel
theorem d_F_lastHourWorth_130 : decode prog_3_method_13_code 130 = .ok (.iinc 4 1, 3) := by decide +kernel
theorem d_F_lastHourWorth_133 : decode prog_3_method_13_code 133 = .ok (.goto (-24), 3) := by decide +kernel
theorem d_F_lastHourWorth_136 : decode prog_3_method_13_code 136 = .ok (.iload_n 3, 1) := by decide +kernel
theorem d_F_lastHourWorth_137 : decode prog_3_method_13_code 137 = .ok (.ireturn, 1) := by decide +kernel
def w_F_lastHourWorth_109 (K : Int32 → sm_Mem → Prop) (p0 : Int32) (p1 : Int32) (x3 : Int32) (x4 : Int32) (μ : sm_Mem) : Prop := sm_lp2 (fun J109 x3 x4 μ => if 60 < x4 then K x3 μ else (vp_in x4 61 ∧ if (μ 40 x4.toNatClampNeg) < p1 then K x3 μ else J109 x4 (x4 + 1) μ)) x3 x4 μ
def w_F_lastHourWorth_98 (K : Int32 → sm_Mem → Prop) (J10 : Int32 → sm_Mem → Prop) (p0 : Int32) (p1 : Int32) (x3 : Int32) (μ : sm_Mem) : Prop := J10 (x3 + 1) μ
def w_F_lastHourWorth_60 (K : Int32 → sm_Mem → Prop) (J10 : Int32 → sm_Mem → Prop) (p0 : Int32) (p1 : Int32) (x3 : Int32) (x4 : Int32) (μ : sm_Mem) : Prop := sm_lp1 (fun J60 x4 μ => if 60 < x4 then w_F_lastHourWorth_98 K J10 p0 p1 x3 μ else (vp_in x4 61 ∧ vp_in x4 61 ∧ w_D_paysWith (fun r16 μ15 => vp_in x4 61 ∧ ∀ μ18 : sm_Mem, μ18 = sm_st μ15 40 (x4.toNatClampNeg) ((μ 40 x4.toNatClampNeg) + r16) → J60 (x4 + 1) μ18) x3 (μ 39 x4.toNatClampNeg) μ)) x4 μ
def w_F_lastHourWorth_10 (K : Int32 → sm_Mem → Prop) (p0 : Int32) (p1 : Int32) (x3 : Int32) (μ : sm_Mem) : Prop := sm_lp1 (fun J10 x3 μ => if (μ 1 12) ≤ x3 then w_F_lastHourWorth_109 K p0 p1 (-1) 0 μ else (vp_in x3 10 ∧ if (μ 8 x3.toNatClampNeg) = p0 then w_D_warmthAround (fun r9 μ8 => w_F_leftBy (fun r11 μ10 => w_F_lastHourWorth_60 K J10 p0 p1 x3 0 μ10) x3 r9 (μ8 1 13) 60 μ8) x3 μ else w_F_lastHourWorth_98 K J10 p0 p1 x3 μ)) x3 μ
def w_F_lastHourWorth (K : Int32 → sm_Mem → Prop) (p0 : Int32) (p1 : Int32) (μ : sm_Mem) : Prop := w_JA_fill (fun μ1 => w_F_lastHourWorth_10 K p0 p1 0 μ1) 40 0 61 μ
set_option maxHeartbeats 4000000 in
set_option maxRecDepth 100000 in
theorem P_F_lastHourWorth (l : Launch) {K : Int32 → sm_Mem → Prop} {p0 : Int32} {p1 : Int32} {μ : sm_Mem} (h : w_F_lastHourWorth K p0 p1 μ) : sm_MI l ⟨"SnowMoney$Foresight", "lastHourWorth", "(II)I"⟩ prog_3_method_13_code 5 (some .int) { frames := 5, cells := 0, slots := 0, locals := 123 } [sm_R 37, sm_I p0, sm_I p1] μ K := by
  refine sm_ofI (by decide +kernel) (fun _ => Nat.le_of_ble_eq_true rfl) ?_
  intro p e s m args below meth c A Q G C hR
  have B109 : ∀ (x3 : Int32) (x4 : Int32) (μ : sm_Mem), w_F_lastHourWorth_109 K p0 p1 x3 x4 μ → sm_W p l e { frames := 5, cells := 0, slots := 0, locals := 123 } s m args below meth c A Q G 5 0 0 109 [] [(0, sm_R 37), (2, sm_I p1), (3, sm_I x3), (4, sm_I x4)] μ := by
    intro x3 x4 μ h
    refine sm_lp2_sound (P := fun x3 x4 μ => sm_W p l e { frames := 5, cells := 0, slots := 0, locals := 123 } s m args below meth c A Q G 5 0 0 109 [] [(0, sm_R 37), (2, sm_I p1), (3, sm_I x3), (4, sm_I x4)] μ) (fun J109 x3 x4 μ hJ109 h => ?_) h
    refine sr_iload C 3 rfl d_F_lastHourWorth_109 ?_
    refine sr_bipush C (v := 60) d_F_lastHourWorth_111 (by decide) ?_
    refine sr_icmp_gt C (tgt := 136) d_F_lastHourWorth_113 (by decide) (fun c3 => ?_) (fun c3 => ?_)
    · replace h := Eq.mp (if_pos c3) h
      refine sr_iload_n C 2 rfl rfl d_F_lastHourWorth_136 ?_
      exact hR _ _ _ _ d_F_lastHourWorth_137 rfl h
    · replace h := Eq.mp (if_neg c3) h
      refine sr_aload_n C 0 rfl rfl d_F_lastHourWorth_116 ?_
      refine sr_getR C sm_F1 3 q_299 sm_l37 (r := 40) rfl (by decide) d_F_lastHourWorth_117 ?_
      refine sr_iload C 3 rfl d_F_lastHourWorth_120 ?_
      obtain ⟨g4, h⟩ := h
      refine sr_iald C sm_l40 g4 d_F_lastHourWorth_122 ?_
      refine sr_iload_n C 1 rfl rfl d_F_lastHourWorth_123 ?_
      refine sr_icmp_lt C (tgt := 136) d_F_lastHourWorth_124 (by decide) (fun c5 => ?_) (fun c5 => ?_)
      · replace h := Eq.mp (if_pos c5) h
        refine sr_iload_n C 2 rfl rfl d_F_lastHourWorth_136 ?_
        exact hR _ _ _ _ d_F_lastHourWorth_137 rfl h
      · replace h := Eq.mp (if_neg c5) h
        refine sr_iload C 3 rfl d_F_lastHourWorth_127 ?_
        refine sr_istore_n C rfl (by decide) d_F_lastHourWorth_129 ?_
        refine sr_iinc C 3 rfl (by decide) d_F_lastHourWorth_130 rfl ?_
        refine sr_goto C (tgt := 109) (by decide) d_F_lastHourWorth_133 ?_
        refine sr_mask C [2, 3, 1, 0] rfl ?_
        exact hJ109 _ _ _ h
  have B98 : ∀ (x3 : Int32) (J10 : Int32 → sm_Mem → Prop) (hJ10 : ∀ (x3 : Int32) (μ : sm_Mem), J10 x3 μ → sm_W p l e { frames := 5, cells := 0, slots := 0, locals := 123 } s m args below meth c A Q G 5 0 0 10 [] [(0, sm_R 37), (1, sm_I p0), (2, sm_I p1), (3, sm_I x3)] μ) (μ : sm_Mem), w_F_lastHourWorth_98 K J10 p0 p1 x3 μ → sm_W p l e { frames := 5, cells := 0, slots := 0, locals := 123 } s m args below meth c A Q G 5 0 0 98 [] [(0, sm_R 37), (1, sm_I p0), (2, sm_I p1), (3, sm_I x3)] μ := by
    intro x3 J10 hJ10 μ h
    refine sr_iinc C 3 rfl (by decide) d_F_lastHourWorth_98 rfl ?_
    refine sr_goto C (tgt := 10) (by decide) d_F_lastHourWorth_101 ?_
    refine sr_mask C [1, 2, 3, 0] rfl ?_
    exact hJ10 _ _ h
  have B60 : ∀ (x3 : Int32) (x4 : Int32) (J10 : Int32 → sm_Mem → Prop) (hJ10 : ∀ (x3 : Int32) (μ : sm_Mem), J10 x3 μ → sm_W p l e { frames := 5, cells := 0, slots := 0, locals := 123 } s m args below meth c A Q G 5 0 0 10 [] [(0, sm_R 37), (1, sm_I p0), (2, sm_I p1), (3, sm_I x3)] μ) (μ : sm_Mem), w_F_lastHourWorth_60 K J10 p0 p1 x3 x4 μ → sm_W p l e { frames := 5, cells := 0, slots := 0, locals := 123 } s m args below meth c A Q G 5 0 0 60 [] [(0, sm_R 37), (1, sm_I p0), (2, sm_I p1), (3, sm_I x3), (4, sm_I x4)] μ := by
    intro x3 x4 J10 hJ10 μ h
    refine sm_lp1_sound (P := fun x4 μ => sm_W p l e { frames := 5, cells := 0, slots := 0, locals := 123 } s m args below meth c A Q G 5 0 0 60 [] [(0, sm_R 37), (1, sm_I p0), (2, sm_I p1), (3, sm_I x3), (4, sm_I x4)] μ) (fun J60 x4 μ hJ60 h => ?_) h
    refine sr_iload C 4 rfl d_F_lastHourWorth_60 ?_
    refine sr_bipush C (v := 60) d_F_lastHourWorth_62 (by decide) ?_
    refine sr_icmp_gt C (tgt := 98) d_F_lastHourWorth_64 (by decide) (fun c12 => ?_) (fun c12 => ?_)
    · replace h := Eq.mp (if_pos c12) h
      refine sr_mask C [0, 1, 2, 3] rfl ?_
      exact B98 _ _ hJ10 _ h
    · replace h := Eq.mp (if_neg c12) h
      refine sr_aload_n C 0 rfl rfl d_F_lastHourWorth_67 ?_
      refine sr_getR C sm_F1 3 q_299 sm_l37 (r := 40) rfl (by decide) d_F_lastHourWorth_68 ?_
      refine sr_iload C 4 rfl d_F_lastHourWorth_71 ?_
      refine sr_dup2 C rfl rfl d_F_lastHourWorth_73 ?_
      obtain ⟨g13, h⟩ := h
      refine sr_iald C sm_l40 g13 d_F_lastHourWorth_74 ?_
      refine sr_aload_n C 0 rfl rfl d_F_lastHourWorth_75 ?_
      refine sr_getR C sm_F1 0 q_220 sm_l37 (r := 1) rfl (by decide) d_F_lastHourWorth_76 ?_
      refine sr_iload_n C 3 rfl rfl d_F_lastHourWorth_79 ?_
      refine sr_aload_n C 0 rfl rfl d_F_lastHourWorth_80 ?_
      refine sr_getR C sm_F1 2 q_237 sm_l37 (r := 39) rfl (by decide) d_F_lastHourWorth_81 ?_
      refine sr_iload C 4 rfl d_F_lastHourWorth_84 ?_
      obtain ⟨g14, h⟩ := h
      refine sr_iald C sm_l39 g14 d_F_lastHourWorth_86 ?_
      refine sr_callVI C [sm_I _, sm_I _] (P_D_paysWith l h) ok_58 sm_l1 rfl rfl rfl rfl ⟨Nat.le_of_ble_eq_true rfl, Nat.le_of_ble_eq_true rfl⟩ (Nat.le_of_ble_eq_true rfl) ⟨Nat.zero_le _, Nat.zero_le _⟩ d_F_lastHourWorth_87 (fun r16 μ15 h => ?_)
      refine sr_iadd C d_F_lastHourWorth_90 ?_
      obtain ⟨g17, h⟩ := h
      refine sr_iast C sm_l40 g17 d_F_lastHourWorth_91 ?_
      replace h := h _ rfl
      refine sr_iinc C 4 rfl (by decide) d_F_lastHourWorth_92 rfl ?_
      refine sr_goto C (tgt := 60) (by decide) d_F_lastHourWorth_95 ?_
      refine sr_mask C [1, 2, 3, 4, 0] rfl ?_
      exact hJ60 _ _ h
  have B10 : ∀ (x3 : Int32) (μ : sm_Mem), w_F_lastHourWorth_10 K p0 p1 x3 μ → sm_W p l e { frames := 5, cells := 0, slots := 0, locals := 123 } s m args below meth c A Q G 5 0 0 10 [] [(0, sm_R 37), (1, sm_I p0), (2, sm_I p1), (3, sm_I x3)] μ := by
    intro x3 μ h
    refine sm_lp1_sound (P := fun x3 μ => sm_W p l e { frames := 5, cells := 0, slots := 0, locals := 123 } s m args below meth c A Q G 5 0 0 10 [] [(0, sm_R 37), (1, sm_I p0), (2, sm_I p1), (3, sm_I x3)] μ) (fun J10 x3 μ hJ10 h => ?_) h
    refine sr_iload_n C 3 rfl rfl d_F_lastHourWorth_10 ?_
    refine sr_aload_n C 0 rfl rfl d_F_lastHourWorth_11 ?_
    refine sr_getR C sm_F1 0 q_220 sm_l37 (r := 1) rfl (by decide) d_F_lastHourWorth_12 ?_
    refine sr_getI C sm_F0 12 q_255 sm_l1 rfl (by decide) d_F_lastHourWorth_15 ?_
    refine sr_icmp_ge C (tgt := 104) d_F_lastHourWorth_18 (by decide) (fun c2 => ?_) (fun c2 => ?_)
    · replace h := Eq.mp (if_pos c2) h
      refine sr_iconst C (v := (-1)) d_F_lastHourWorth_104 (by decide) ?_
      refine sr_istore_n C rfl (by decide) d_F_lastHourWorth_105 ?_
      refine sr_iconst C (v := 0) d_F_lastHourWorth_106 (by decide) ?_
      refine sr_istore C (by decide) d_F_lastHourWorth_107 ?_
      refine sr_mask C [2, 4, 1, 0] rfl ?_
      exact B109 _ _ _ h
    · replace h := Eq.mp (if_neg c2) h
      refine sr_aload_n C 0 rfl rfl d_F_lastHourWorth_21 ?_
      refine sr_getR C sm_F1 0 q_220 sm_l37 (r := 1) rfl (by decide) d_F_lastHourWorth_22 ?_
      refine sr_getR C sm_F0 6 q_267 sm_l1 (r := 8) rfl (by decide) d_F_lastHourWorth_25 ?_
      refine sr_iload_n C 3 rfl rfl d_F_lastHourWorth_28 ?_
      obtain ⟨g6, h⟩ := h
      refine sr_iald C sm_l8 g6 d_F_lastHourWorth_29 ?_
      refine sr_iload_n C 1 rfl rfl d_F_lastHourWorth_30 ?_
      refine sr_icmp_ne C (tgt := 98) d_F_lastHourWorth_31 (by decide) (fun c7 => ?_) (fun c7 => ?_)
      · replace h := Eq.mp (if_neg c7) h
        exact B98 _ _ hJ10 _ h
      · replace h := Eq.mp (if_pos c7) h
        refine sr_aload_n C 0 rfl rfl d_F_lastHourWorth_34 ?_
        refine sr_iload_n C 3 rfl rfl d_F_lastHourWorth_35 ?_
        refine sr_aload_n C 0 rfl rfl d_F_lastHourWorth_36 ?_
        refine sr_getR C sm_F1 0 q_220 sm_l37 (r := 1) rfl (by decide) d_F_lastHourWorth_37 ?_
        refine sr_iload_n C 3 rfl rfl d_F_lastHourWorth_40 ?_
        refine sr_callVI C [sm_I _] (P_D_warmthAround l h) ok_55 sm_l1 rfl rfl rfl rfl ⟨Nat.le_of_ble_eq_true rfl, Nat.le_of_ble_eq_true rfl⟩ (Nat.le_of_ble_eq_true rfl) ⟨Nat.zero_le _, Nat.zero_le _⟩ d_F_lastHourWorth_41 (fun r9 μ8 h => ?_)
        refine sr_aload_n C 0 rfl rfl d_F_lastHourWorth_44 ?_
        refine sr_getR C sm_F1 0 q_220 sm_l37 (r := 1) rfl (by decide) d_F_lastHourWorth_45 ?_
        refine sr_getI C sm_F0 13 q_261 sm_l1 rfl (by decide) d_F_lastHourWorth_48 ?_
        refine sr_bipush C (v := 60) d_F_lastHourWorth_51 (by decide) ?_
        refine sr_callVI C [sm_I _, sm_I _, sm_I _, sm_I _] (P_F_leftBy l h) ok_56 sm_l37 rfl rfl rfl rfl ⟨Nat.le_of_ble_eq_true rfl, Nat.le_of_ble_eq_true rfl⟩ (Nat.le_of_ble_eq_true rfl) ⟨Nat.zero_le _, Nat.zero_le _⟩ d_F_lastHourWorth_53 (fun r11 μ10 h => ?_)
        refine sr_pop C rfl d_F_lastHourWorth_56 ?_
        refine sr_iconst C (v := 0) d_F_lastHourWorth_57 (by decide) ?_
        refine sr_istore C (by decide) d_F_lastHourWorth_58 ?_
        refine sr_mask C [1, 2, 3, 4, 0] rfl ?_
        exact B60 _ _ _ hJ10 _ h
  refine sr_aload_n C 0 rfl rfl d_F_lastHourWorth_0 ?_
  refine sr_getR C sm_F1 3 q_299 sm_l37 (r := 40) rfl (by decide) d_F_lastHourWorth_1 ?_
  refine sr_iconst C (v := 0) d_F_lastHourWorth_4 (by decide) ?_
  refine sr_callSV C [sm_R _, sm_I _] (P_JA_fill l h) ok_66 rfl rfl rfl ⟨Nat.le_of_ble_eq_true rfl, Nat.le_of_ble_eq_true rfl⟩ (Nat.le_of_ble_eq_true rfl) ⟨Nat.zero_le _, Nat.zero_le _⟩ d_F_lastHourWorth_5 (fun μ1 h => ?_)
  refine sr_iconst C (v := 0) d_F_lastHourWorth_8 (by decide) ?_
  refine sr_istore_n C rfl (by decide) d_F_lastHourWorth_9 ?_
  refine sr_mask C [1, 2, 3, 0] rfl ?_
  exact B10 _ _ h
theorem d_F_walk_0 : decode prog_3_method_15_code 0 = .ok (.iload_n 1, 1) := by decide +kernel
theorem d_F_walk_1 : decode prog_3_method_15_code 1 = .ok (.aload_n 0, 1) := by decide +kernel
theorem d_F_walk_2 : decode prog_3_method_15_code 2 = .ok (.getfield 130, 3) := by decide +kernel
theorem d_F_walk_5 : decode prog_3_method_15_code 5 = .ok (.if_icmp .ne 23, 3) := by decide +kernel
theorem d_F_walk_8 : decode prog_3_method_15_code 8 = .ok (.iload_n 2, 1) := by decide +kernel
theorem d_F_walk_9 : decode prog_3_method_15_code 9 = .ok (.aload_n 0, 1) := by decide +kernel
theorem d_F_walk_10 : decode prog_3_method_15_code 10 = .ok (.getfield 95, 3) := by decide +kernel
theorem d_F_walk_13 : decode prog_3_method_15_code 13 = .ok (.if_icmp .le 14, 3) := by decide +kernel
theorem d_F_walk_16 : decode prog_3_method_15_code 16 = .ok (.aload_n 0, 1) := by decide +kernel
theorem d_F_walk_17 : decode prog_3_method_15_code 17 = .ok (.iload_n 2, 1) := by decide +kernel
theorem d_F_walk_18 : decode prog_3_method_15_code 18 = .ok (.putfield 95, 3) := by decide +kernel
theorem d_F_walk_21 : decode prog_3_method_15_code 21 = .ok (.aload_n 0, 1) := by decide +kernel
theorem d_F_walk_22 : decode prog_3_method_15_code 22 = .ok (.iload 4, 2) := by decide +kernel
theorem d_F_walk_24 : decode prog_3_method_15_code 24 = .ok (.putfield 98, 3) := by decide +kernel
theorem d_F_walk_27 : decode prog_3_method_15_code 27 = .ok (.return_, 1) := by decide +kernel
theorem d_F_walk_28 : decode prog_3_method_15_code 28 = .ok (.iload 5, 2) := by decide +kernel
theorem d_F_walk_30 : decode prog_3_method_15_code 30 = .ok (.bipush 6, 2) := by decide +kernel
theorem d_F_walk_32 : decode prog_3_method_15_code 32 = .ok (.if_icmp .lt 4, 3) := by decide +kernel
theorem d_F_walk_35 : decode prog_3_method_15_code 35 = .ok (.return_, 1) := by decide +kernel
theorem d_F_walk_36 : decode prog_3_method_15_code 36 = .ok (.iconst 0, 1) := by decide +kernel
theorem d_F_walk_37 : decode prog_3_method_15_code 37 = .ok (.istore 6, 2) := by decide +kernel
theorem d_F_walk_39 : decode prog_3_method_15_code 39 = .ok (.iload 6, 2) := by decide +kernel
theorem d_F_walk_41 : decode prog_3_method_15_code 41 = .ok (.aload_n 0, 1) := by decide +kernel
theorem d_F_walk_42 : decode prog_3_method_15_code 42 = .ok (.getfield 29, 3) := by decide +kernel
theorem d_F_walk_45 : decode prog_3_method_15_code 45 = .ok (.getfield 104, 3) := by decide +kernel
theorem d_F_walk_48 : decode prog_3_method_15_code 48 = .ok (.if_icmp .ge 82, 3) := by decide +kernel
theorem d_F_walk_51 : decode prog_3_method_15_code 51 = .ok (.aload_n 0, 1) := by decide +kernel
theorem d_F_walk_52 : decode prog_3_method_15_code 52 = .ok (.getfield 29, 3) := by decide +kernel
theorem d_F_walk_55 : decode prog_3_method_15_code 55 = .ok (.iload_n 1, 1) := by decide +kernel
theorem d_F_walk_56 : decode prog_3_method_15_code 56 = .ok (.iload 6, 2) := by decide +kernel
theorem d_F_walk_58 : decode prog_3_method_15_code 58 = .ok (.invokevirtual 143, 3) := by decide +kernel
theorem d_F_walk_61 : decode prog_3_method_15_code 61 = .ok (.istore 7, 2) := by decide +kernel
theorem d_F_walk_63 : decode prog_3_method_15_code 63 = .ok (.iload 7, 2) := by decide +kernel
theorem d_F_walk_65 : decode prog_3_method_15_code 65 = .ok (.ifCond .le 59, 3) := by decide +kernel
theorem d_F_walk_68 : decode prog_3_method_15_code 68 = .ok (.iload_n 3, 1) := by decide +kernel
theorem d_F_walk_69 : decode prog_3_method_15_code 69 = .ok (.iconst 1, 1) := by decide +kernel
theorem d_F_walk_70 : decode prog_3_method_15_code 70 = .ok (.iload 6, 2) := by decide +kernel
theorem d_F_walk_72 : decode prog_3_method_15_code 72 = .ok (.ishl, 1) := by decide +kernel
theorem d_F_walk_73 : decode prog_3_method_15_code 73 = .ok (.iand, 1) := by decide +kernel
theorem d_F_walk_74 : decode prog_3_method_15_code 74 = .ok (.ifCond .ne 50, 3) := by decide +kernel
theorem d_F_walk_77 : decode prog_3_method_15_code 77 = .ok (.iconst 0, 1) := by decide +kernel
theorem d_F_walk_78 : decode prog_3_method_15_code 78 = .ok (.iload_n 2, 1) := by decide +kernel
theorem d_F_walk_79 : decode prog_3_method_15_code 79 = .ok (.iload 7, 2) := by decide +kernel
theorem d_F_walk_81 : decode prog_3_method_15_code 81 = .ok (.aload_n 0, 1) := by decide +kernel
theorem d_F_walk_82 : decode prog_3_method_15_code 82 = .ok (.getfield 26, 3) := by decide +kernel
theorem d_F_walk_85 : decode prog_3_method_15_code 85 = .ok (.iload_n 1, 1) := by decide +kernel
theorem d_F_walk_86 : decode prog_3_method_15_code 86 = .ok (.iaload, 1) := by decide +kernel
theorem d_F_walk_87 : decode prog_3_method_15_code 87 = .ok (.imul, 1) := by decide +kernel
theorem d_F_walk_88 : decode prog_3_method_15_code 88 = .ok (.isub, 1) := by decide +kernel
theorem d_F_walk_89 : decode prog_3_method_15_code 89 = .ok (.invokestatic 52, 3) := by decide +kernel
theorem d_F_walk_92 : decode prog_3_method_15_code 92 = .ok (.istore 8, 2) := by decide +kernel
theorem d_F_walk_94 : decode prog_3_method_15_code 94 = .ok (.aload_n 0, 1) := by decide +kernel
theorem d_F_walk_95 : decode prog_3_method_15_code 95 = .ok (.iload 6, 2) := by decide +kernel
theorem d_F_walk_97 : decode prog_3_method_15_code 97 = .ok (.iload 8, 2) := by decide +kernel
theorem d_F_walk_99 : decode prog_3_method_15_code 99 = .ok (.iload_n 3, 1) := by decide +kernel
theorem d_F_walk_100 : decode prog_3_method_15_code 100 = .ok (.iconst 1, 1) := by decide +kernel
theorem d_F_walk_101 : decode prog_3_method_15_code 101 = .ok (.iload 6, 2) := by decide +kernel
theorem d_F_walk_103 : decode prog_3_method_15_code 103 = .ok (.ishl, 1) := by decide +kernel
theorem d_F_walk_104 : decode prog_3_method_15_code 104 = .ok (.ior, 1) := by decide +kernel
theorem d_F_walk_105 : decode prog_3_method_15_code 105 = .ok (.iload 4, 2) := by decide +kernel
theorem d_F_walk_107 : decode prog_3_method_15_code 107 = .ok (.ifCond .ge 8, 3) := by decide +kernel
theorem d_F_walk_110 : decode prog_3_method_15_code 110 = .ok (.iload 6, 2) := by decide +kernel
theorem d_F_walk_112 : decode prog_3_method_15_code 112 = .ok (.goto 5, 3) := by decide +kernel
theorem d_F_walk_115 : decode prog_3_method_15_code 115 = .ok (.iload 4, 2) := by decide +kernel
theorem d_F_walk_117 : decode prog_3_method_15_code 117 = .ok (.iload 5, 2) := by decide +kernel
theorem d_F_walk_119 : decode prog_3_method_15_code 119 = .ok (.iconst 1, 1) := by decide +kernel
theorem d_F_walk_120 : decode prog_3_method_15_code 120 = .ok (.iadd, 1) := by decide +kernel
theorem d_F_walk_121 : decode prog_3_method_15_code 121 = .ok (.invokevirtual 139, 3) := by decide +kernel
theorem d_F_walk_124 : decode prog_3_method_15_code 124 = .ok (.iinc 6 1, 3) := by decide +kernel
theorem d_F_walk_127 : decode prog_3_method_15_code 127 = .ok (.goto (-88), 3) := by decide +kernel
theorem d_F_walk_130 : decode prog_3_method_15_code 130 = .ok (.return_, 1) := by decide +kernel
def w_F_walk_124 (F : Nat → (sm_Mem → Prop) → Int32 → Int32 → Int32 → Int32 → Int32 → sm_Mem → Prop) (K : sm_Mem → Prop) (J39 : Int32 → sm_Mem → Prop) (p0 : Int32) (p1 : Int32) (p2 : Int32) (p3 : Int32) (p4 : Int32) (x6 : Int32) (μ : sm_Mem) : Prop := J39 (x6 + 1) μ
def w_F_walk_117 (F : Nat → (sm_Mem → Prop) → Int32 → Int32 → Int32 → Int32 → Int32 → sm_Mem → Prop) (K : sm_Mem → Prop) (J39 : Int32 → sm_Mem → Prop) (p0 : Int32) (p1 : Int32) (p2 : Int32) (p3 : Int32) (p4 : Int32) (x6 : Int32) (s0 : Int32) (s1 : Int32) (s2 : Int32) (s3 : Int32) (μ : sm_Mem) : Prop := F 0 (fun μ11 => w_F_walk_124 F K J39 p0 p1 p2 p3 p4 x6 μ11) s3 s2 s1 s0 (p4 + 1) μ
def w_F_walk_39 (F : Nat → (sm_Mem → Prop) → Int32 → Int32 → Int32 → Int32 → Int32 → sm_Mem → Prop) (K : sm_Mem → Prop) (p0 : Int32) (p1 : Int32) (p2 : Int32) (p3 : Int32) (p4 : Int32) (x6 : Int32) (μ : sm_Mem) : Prop := sm_lp1 (fun J39 x6 μ => if (μ 1 11) ≤ x6 then K μ else (w_D_roadBetween (fun r5 μ4 => if r5 ≤ 0 then w_F_walk_124 F K J39 p0 p1 p2 p3 p4 x6 μ4 else (if (p2 &&& (1 <<< (x6 &&& 31))) = 0 then (vp_in p0 6 ∧ ∀ v9 : Int32, v9 = (if 0 < (p1 - (r5 * (μ4 42 p0.toNatClampNeg))) then (p1 - (r5 * (μ4 42 p0.toNatClampNeg))) else 0) → if 0 ≤ p3 then w_F_walk_117 F K J39 p0 p1 p2 p3 p4 x6 p3 (p2 ||| (1 <<< (x6 &&& 31))) v9 x6 μ4 else w_F_walk_117 F K J39 p0 p1 p2 p3 p4 x6 x6 (p2 ||| (1 <<< (x6 &&& 31))) v9 x6 μ4) else w_F_walk_124 F K J39 p0 p1 p2 p3 p4 x6 μ4)) p0 x6 μ)) x6 μ
def w_F_walk (F : Nat → (sm_Mem → Prop) → Int32 → Int32 → Int32 → Int32 → Int32 → sm_Mem → Prop) (K : sm_Mem → Prop) (p0 : Int32) (p1 : Int32) (p2 : Int32) (p3 : Int32) (p4 : Int32) (μ : sm_Mem) : Prop := if p0 = (μ 37 6) then (if p1 ≤ (μ 37 7) then K μ else (∀ μ13 : sm_Mem, μ13 = sm_st μ 37 7 p1 → ∀ μ14 : sm_Mem, μ14 = sm_st μ13 37 8 p3 → K μ14)) else (if p4 < 6 then w_F_walk_39 F K p0 p1 p2 p3 p4 0 μ else K μ)
set_option maxHeartbeats 4000000 in
set_option maxRecDepth 100000 in
theorem P_F_walk (l : Launch) {F : Nat → (sm_Mem → Prop) → Int32 → Int32 → Int32 → Int32 → Int32 → sm_Mem → Prop} {n : Nat} (hF0 : ∀ {K : sm_Mem → Prop} {p0 : Int32} {p1 : Int32} {p2 : Int32} {p3 : Int32} {p4 : Int32} {μ : sm_Mem}, F 0 K p0 p1 p2 p3 p4 μ → sm_MV l ⟨"SnowMoney$Foresight", "walk", "(IIIII)V"⟩ prog_3_method_15_code 9 { frames := n + 4, cells := 0, slots := 0, locals := n * 60 + 120 } [sm_R 37, sm_I p0, sm_I p1, sm_I p2, sm_I p3, sm_I p4] μ K) {K : sm_Mem → Prop} {p0 : Int32} {p1 : Int32} {p2 : Int32} {p3 : Int32} {p4 : Int32} {μ : sm_Mem} (h : w_F_walk F K p0 p1 p2 p3 p4 μ) : sm_MV l ⟨"SnowMoney$Foresight", "walk", "(IIIII)V"⟩ prog_3_method_15_code 9 { frames := n + 1 + 4, cells := 0, slots := 0, locals := (n + 1) * 60 + 120 } [sm_R 37, sm_I p0, sm_I p1, sm_I p2, sm_I p3, sm_I p4] μ K := by
  refine sm_ofV (by decide +kernel) (fun _ => Nat.le_of_ble_eq_true rfl) ?_
  intro p e s m args below meth c A Q G C hR
  have B124 : ∀ (x6 : Int32) (J39 : Int32 → sm_Mem → Prop) (hJ39 : ∀ (x6 : Int32) (μ : sm_Mem), J39 x6 μ → sm_W p l e { frames := n + 1 + 4, cells := 0, slots := 0, locals := (n + 1) * 60 + 120 } s m args below meth c A Q G 9 0 0 39 [] [(0, sm_R 37), (1, sm_I p0), (2, sm_I p1), (3, sm_I p2), (4, sm_I p3), (5, sm_I p4), (6, sm_I x6)] μ) (μ : sm_Mem), w_F_walk_124 F K J39 p0 p1 p2 p3 p4 x6 μ → sm_W p l e { frames := n + 1 + 4, cells := 0, slots := 0, locals := (n + 1) * 60 + 120 } s m args below meth c A Q G 9 0 0 124 [] [(0, sm_R 37), (1, sm_I p0), (2, sm_I p1), (3, sm_I p2), (4, sm_I p3), (5, sm_I p4), (6, sm_I x6)] μ := by
    intro x6 J39 hJ39 μ h
    refine sr_iinc C 6 rfl (by decide) d_F_walk_124 rfl ?_
    refine sr_goto C (tgt := 39) (by decide) d_F_walk_127 ?_
    refine sr_mask C [1, 2, 3, 4, 5, 6, 0] rfl ?_
    exact hJ39 _ _ h
  have B117 : ∀ (x6 : Int32) (s0 : Int32) (s1 : Int32) (s2 : Int32) (s3 : Int32) (J39 : Int32 → sm_Mem → Prop) (hJ39 : ∀ (x6 : Int32) (μ : sm_Mem), J39 x6 μ → sm_W p l e { frames := n + 1 + 4, cells := 0, slots := 0, locals := (n + 1) * 60 + 120 } s m args below meth c A Q G 9 0 0 39 [] [(0, sm_R 37), (1, sm_I p0), (2, sm_I p1), (3, sm_I p2), (4, sm_I p3), (5, sm_I p4), (6, sm_I x6)] μ) (μ : sm_Mem), w_F_walk_117 F K J39 p0 p1 p2 p3 p4 x6 s0 s1 s2 s3 μ → sm_W p l e { frames := n + 1 + 4, cells := 0, slots := 0, locals := (n + 1) * 60 + 120 } s m args below meth c A Q G 9 0 0 117 [sm_I s0, sm_I s1, sm_I s2, sm_I s3, sm_R 37] [(0, sm_R 37), (1, sm_I p0), (2, sm_I p1), (3, sm_I p2), (4, sm_I p3), (5, sm_I p4), (6, sm_I x6)] μ := by
    intro x6 s0 s1 s2 s3 J39 hJ39 μ h
    refine sr_iload C 5 rfl d_F_walk_117 ?_
    refine sr_iconst C (v := 1) d_F_walk_119 (by decide) ?_
    refine sr_iadd C d_F_walk_120 ?_
    refine sr_callVV C [sm_I _, sm_I _, sm_I _, sm_I _, sm_I _] (hF0 h) ok_69 sm_l37 rfl rfl rfl rfl ⟨by dsimp only; omega, by dsimp only; omega⟩ (Nat.le_of_ble_eq_true rfl) ⟨Nat.zero_le _, Nat.zero_le _⟩ d_F_walk_121 (fun μ11 h => ?_)
    exact B124 _ _ hJ39 _ h
  have B39 : ∀ (x6 : Int32) (μ : sm_Mem), w_F_walk_39 F K p0 p1 p2 p3 p4 x6 μ → sm_W p l e { frames := n + 1 + 4, cells := 0, slots := 0, locals := (n + 1) * 60 + 120 } s m args below meth c A Q G 9 0 0 39 [] [(0, sm_R 37), (1, sm_I p0), (2, sm_I p1), (3, sm_I p2), (4, sm_I p3), (5, sm_I p4), (6, sm_I x6)] μ := by
    intro x6 μ h
    refine sm_lp1_sound (P := fun x6 μ => sm_W p l e { frames := n + 1 + 4, cells := 0, slots := 0, locals := (n + 1) * 60 + 120 } s m args below meth c A Q G 9 0 0 39 [] [(0, sm_R 37), (1, sm_I p0), (2, sm_I p1), (3, sm_I p2), (4, sm_I p3), (5, sm_I p4), (6, sm_I x6)] μ) (fun J39 x6 μ hJ39 h => ?_) h
    refine sr_iload C 6 rfl d_F_walk_39 ?_
    refine sr_aload_n C 0 rfl rfl d_F_walk_41 ?_
    refine sr_getR C sm_F1 0 q_220 sm_l37 (r := 1) rfl (by decide) d_F_walk_42 ?_
    refine sr_getI C sm_F0 11 q_273 sm_l1 rfl (by decide) d_F_walk_45 ?_
    refine sr_icmp_ge C (tgt := 130) d_F_walk_48 (by decide) (fun c3 => ?_) (fun c3 => ?_)
    · replace h := Eq.mp (if_pos c3) h
      exact hR _ _ _ d_F_walk_130 h
    · replace h := Eq.mp (if_neg c3) h
      refine sr_aload_n C 0 rfl rfl d_F_walk_51 ?_
      refine sr_getR C sm_F1 0 q_220 sm_l37 (r := 1) rfl (by decide) d_F_walk_52 ?_
      refine sr_iload_n C 1 rfl rfl d_F_walk_55 ?_
      refine sr_iload C 6 rfl d_F_walk_56 ?_
      refine sr_callVI C [sm_I _, sm_I _] (P_D_roadBetween l h) ok_71 sm_l1 rfl rfl rfl rfl ⟨by dsimp only; omega, by dsimp only; omega⟩ (Nat.le_of_ble_eq_true rfl) ⟨Nat.zero_le _, Nat.zero_le _⟩ d_F_walk_58 (fun r5 μ4 h => ?_)
      refine sr_istore C (by decide) d_F_walk_61 ?_
      refine sr_iload C 0 rfl d_F_walk_63 ?_
      refine sr_if_le C (tgt := 124) d_F_walk_65 (by decide) (fun c6 => ?_) (fun c6 => ?_)
      · replace h := Eq.mp (if_pos c6) h
        refine sr_mask C [1, 2, 3, 4, 5, 6, 7] rfl ?_
        exact B124 _ _ hJ39 _ h
      · replace h := Eq.mp (if_neg c6) h
        refine sr_iload_n C 4 rfl rfl d_F_walk_68 ?_
        refine sr_iconst C (v := 1) d_F_walk_69 (by decide) ?_
        refine sr_iload C 7 rfl d_F_walk_70 ?_
        refine sr_ishl C d_F_walk_72 ?_
        refine sr_iand C d_F_walk_73 ?_
        refine sr_if_ne C (tgt := 124) d_F_walk_74 (by decide) (fun c7 => ?_) (fun c7 => ?_)
        · replace h := Eq.mp (if_neg c7) h
          refine sr_mask C [1, 2, 3, 4, 5, 6, 7] rfl ?_
          exact B124 _ _ hJ39 _ h
        · replace h := Eq.mp (if_pos c7) h
          refine sr_iconst C (v := 0) d_F_walk_77 (by decide) ?_
          refine sr_iload_n C 3 rfl rfl d_F_walk_78 ?_
          refine sr_iload C 0 rfl d_F_walk_79 ?_
          refine sr_aload_n C 1 rfl rfl d_F_walk_81 ?_
          refine sr_getR C sm_F1 5 q_315 sm_l37 (r := 42) rfl (by decide) d_F_walk_82 ?_
          refine sr_iload_n C 2 rfl rfl d_F_walk_85 ?_
          obtain ⟨g8, h⟩ := h
          refine sr_iald C sm_l42 g8 d_F_walk_86 ?_
          refine sr_imul C d_F_walk_87 ?_
          refine sr_isub C d_F_walk_88 ?_
          refine sr_mmax C q_239 q_mmax1 q_mini q_mmax2 (by dsimp only; omega) (by first | (simp [sm_cat]; done) | (simp [sm_cat]; omega)) ⟨Nat.zero_le _, Nat.zero_le _⟩ d_F_walk_89 ?_
          replace h := h _ rfl
          refine sr_istore C (by decide) d_F_walk_92 ?_
          refine sr_aload_n C 2 rfl rfl d_F_walk_94 ?_
          refine sr_iload C 8 rfl d_F_walk_95 ?_
          refine sr_iload C 0 rfl d_F_walk_97 ?_
          refine sr_iload_n C 5 rfl rfl d_F_walk_99 ?_
          refine sr_iconst C (v := 1) d_F_walk_100 (by decide) ?_
          refine sr_iload C 8 rfl d_F_walk_101 ?_
          refine sr_ishl C d_F_walk_103 ?_
          refine sr_ior C d_F_walk_104 ?_
          refine sr_iload C 6 rfl d_F_walk_105 ?_
          refine sr_if_ge C (tgt := 115) d_F_walk_107 (by decide) (fun c10 => ?_) (fun c10 => ?_)
          · replace h := Eq.mp (if_pos c10) h
            refine sr_iload C 6 rfl d_F_walk_115 ?_
            refine sr_mask C [2, 3, 4, 5, 6, 7, 8] rfl ?_
            exact B117 _ _ _ _ _ _ hJ39 _ h
          · replace h := Eq.mp (if_neg c10) h
            refine sr_iload C 8 rfl d_F_walk_110 ?_
            refine sr_goto C (tgt := 117) (by decide) d_F_walk_112 ?_
            refine sr_mask C [2, 3, 4, 5, 6, 7, 8] rfl ?_
            exact B117 _ _ _ _ _ _ hJ39 _ h
  refine sr_iload_n C 1 rfl rfl d_F_walk_0 ?_
  refine sr_aload_n C 0 rfl rfl d_F_walk_1 ?_
  refine sr_getI C sm_F1 6 q_309 sm_l37 rfl (by decide) d_F_walk_2 ?_
  refine sr_icmp_ne C (tgt := 28) d_F_walk_5 (by decide) (fun c1 => ?_) (fun c1 => ?_)
  · replace h := Eq.mp (if_neg c1) h
    refine sr_iload C 5 rfl d_F_walk_28 ?_
    refine sr_bipush C (v := 6) d_F_walk_30 (by decide) ?_
    refine sr_icmp_lt C (tgt := 36) d_F_walk_32 (by decide) (fun c2 => ?_) (fun c2 => ?_)
    · replace h := Eq.mp (if_pos c2) h
      refine sr_iconst C (v := 0) d_F_walk_36 (by decide) ?_
      refine sr_istore C (by decide) d_F_walk_37 ?_
      refine sr_mask C [1, 2, 3, 4, 5, 6, 0] rfl ?_
      exact B39 _ _ h
    · replace h := Eq.mp (if_neg c2) h
      exact hR _ _ _ d_F_walk_35 h
  · replace h := Eq.mp (if_pos c1) h
    refine sr_iload_n C 2 rfl rfl d_F_walk_8 ?_
    refine sr_aload_n C 0 rfl rfl d_F_walk_9 ?_
    refine sr_getI C sm_F1 7 q_253 sm_l37 rfl (by decide) d_F_walk_10 ?_
    refine sr_icmp_le C (tgt := 27) d_F_walk_13 (by decide) (fun c12 => ?_) (fun c12 => ?_)
    · replace h := Eq.mp (if_pos c12) h
      exact hR _ _ _ d_F_walk_27 h
    · replace h := Eq.mp (if_neg c12) h
      refine sr_aload_n C 0 rfl rfl d_F_walk_16 ?_
      refine sr_iload_n C 2 rfl rfl d_F_walk_17 ?_
      refine sr_putI C sm_F1 7 q_253 sm_l37 rfl rfl (by decide) rfl d_F_walk_18 ?_
      replace h := h _ rfl
      refine sr_aload_n C 0 rfl rfl d_F_walk_21 ?_
      refine sr_iload C 4 rfl d_F_walk_22 ?_
      refine sr_putI C sm_F1 8 q_254 sm_l37 rfl rfl (by decide) rfl d_F_walk_24 ?_
      replace h := h _ rfl
      exact hR _ _ _ d_F_walk_27 h
def wg_W : Nat → Nat → (sm_Mem → Prop) → Int32 → Int32 → Int32 → Int32 → Int32 → sm_Mem → Prop
  | 0, _ => fun _ _ _ _ _ _ _ => False
  | n + 1, 0 => w_F_walk (wg_W n)
  | _ + 1, _ => fun _ _ _ _ _ _ _ => False
theorem PG_W (l : Launch) : ∀ n : Nat, (∀ {K : sm_Mem → Prop} {p0 : Int32} {p1 : Int32} {p2 : Int32} {p3 : Int32} {p4 : Int32} {μ : sm_Mem}, wg_W n 0 K p0 p1 p2 p3 p4 μ → sm_MV l ⟨"SnowMoney$Foresight", "walk", "(IIIII)V"⟩ prog_3_method_15_code 9 { frames := n + 4, cells := 0, slots := 0, locals := n * 60 + 120 } [sm_R 37, sm_I p0, sm_I p1, sm_I p2, sm_I p3, sm_I p4] μ K)
  | 0 => fun h => h.elim
  | n + 1 => fun h => P_F_walk l (F := wg_W n) (n := n) (PG_W l n) h
theorem PG_W_0 (l : Launch) (n : Nat) {K : sm_Mem → Prop} {p0 : Int32} {p1 : Int32} {p2 : Int32} {p3 : Int32} {p4 : Int32} {μ : sm_Mem} (h : wg_W n 0 K p0 p1 p2 p3 p4 μ) : sm_MV l ⟨"SnowMoney$Foresight", "walk", "(IIIII)V"⟩ prog_3_method_15_code 9 { frames := n + 4, cells := 0, slots := 0, locals := n * 60 + 120 } [sm_R 37, sm_I p0, sm_I p1, sm_I p2, sm_I p3, sm_I p4] μ K := (PG_W l n) h
theorem d_F_findWay_0 : decode prog_3_method_14_code 0 = .ok (.aload_n 0, 1) := by decide +kernel
theorem d_F_findWay_1 : decode prog_3_method_14_code 1 = .ok (.getfield 29, 3) := by decide +kernel
theorem d_F_findWay_4 : decode prog_3_method_14_code 4 = .ok (.iload_n 1, 1) := by decide +kernel
theorem d_F_findWay_5 : decode prog_3_method_14_code 5 = .ok (.invokevirtual 55, 3) := by decide +kernel
theorem d_F_findWay_8 : decode prog_3_method_14_code 8 = .ok (.ifCond .ne 5, 3) := by decide +kernel
theorem d_F_findWay_11 : decode prog_3_method_14_code 11 = .ok (.iconst 0, 1) := by decide +kernel
theorem d_F_findWay_12 : decode prog_3_method_14_code 12 = .ok (.ireturn, 1) := by decide +kernel
theorem d_F_findWay_13 : decode prog_3_method_14_code 13 = .ok (.aload_n 0, 1) := by decide +kernel
theorem d_F_findWay_14 : decode prog_3_method_14_code 14 = .ok (.getfield 29, 3) := by decide +kernel
theorem d_F_findWay_17 : decode prog_3_method_14_code 17 = .ok (.getfield 127, 3) := by decide +kernel
theorem d_F_findWay_20 : decode prog_3_method_14_code 20 = .ok (.iload_n 1, 1) := by decide +kernel
theorem d_F_findWay_21 : decode prog_3_method_14_code 21 = .ok (.iaload, 1) := by decide +kernel
theorem d_F_findWay_22 : decode prog_3_method_14_code 22 = .ok (.istore_n 3, 1) := by decide +kernel
theorem d_F_findWay_23 : decode prog_3_method_14_code 23 = .ok (.aload_n 0, 1) := by decide +kernel
theorem d_F_findWay_24 : decode prog_3_method_14_code 24 = .ok (.iload_n 2, 1) := by decide +kernel
theorem d_F_findWay_25 : decode prog_3_method_14_code 25 = .ok (.putfield 130, 3) := by decide +kernel
theorem d_F_findWay_28 : decode prog_3_method_14_code 28 = .ok (.aload_n 0, 1) := by decide +kernel
theorem d_F_findWay_29 : decode prog_3_method_14_code 29 = .ok (.iconst (-1), 1) := by decide +kernel
theorem d_F_findWay_30 : decode prog_3_method_14_code 30 = .ok (.putfield 95, 3) := by decide +kernel
theorem d_F_findWay_33 : decode prog_3_method_14_code 33 = .ok (.aload_n 0, 1) := by decide +kernel
theorem d_F_findWay_34 : decode prog_3_method_14_code 34 = .ok (.iload_n 2, 1) := by decide +kernel
theorem d_F_findWay_35 : decode prog_3_method_14_code 35 = .ok (.putfield 98, 3) := by decide +kernel
theorem d_F_findWay_38 : decode prog_3_method_14_code 38 = .ok (.iconst 0, 1) := by decide +kernel
theorem d_F_findWay_39 : decode prog_3_method_14_code 39 = .ok (.istore 4, 2) := by decide +kernel
theorem d_F_findWay_41 : decode prog_3_method_14_code 41 = .ok (.iload 4, 2) := by decide +kernel
theorem d_F_findWay_43 : decode prog_3_method_14_code 43 = .ok (.aload_n 0, 1) := by decide +kernel
theorem d_F_findWay_44 : decode prog_3_method_14_code 44 = .ok (.getfield 29, 3) := by decide +kernel
theorem d_F_findWay_47 : decode prog_3_method_14_code 47 = .ok (.getfield 104, 3) := by decide +kernel
theorem d_F_findWay_50 : decode prog_3_method_14_code 50 = .ok (.if_icmp .ge 26, 3) := by decide +kernel
theorem d_F_findWay_53 : decode prog_3_method_14_code 53 = .ok (.aload_n 0, 1) := by decide +kernel
theorem d_F_findWay_54 : decode prog_3_method_14_code 54 = .ok (.getfield 26, 3) := by decide +kernel
theorem d_F_findWay_57 : decode prog_3_method_14_code 57 = .ok (.iload 4, 2) := by decide +kernel
theorem d_F_findWay_59 : decode prog_3_method_14_code 59 = .ok (.aload_n 0, 1) := by decide +kernel
theorem d_F_findWay_60 : decode prog_3_method_14_code 60 = .ok (.getfield 29, 3) := by decide +kernel
theorem d_F_findWay_63 : decode prog_3_method_14_code 63 = .ok (.iload_n 1, 1) := by decide +kernel
theorem d_F_findWay_64 : decode prog_3_method_14_code 64 = .ok (.iload 4, 2) := by decide +kernel
theorem d_F_findWay_66 : decode prog_3_method_14_code 66 = .ok (.invokevirtual 133, 3) := by decide +kernel
theorem d_F_findWay_69 : decode prog_3_method_14_code 69 = .ok (.iastore, 1) := by decide +kernel
theorem d_F_findWay_70 : decode prog_3_method_14_code 70 = .ok (.iinc 4 1, 3) := by decide +kernel
theorem d_F_findWay_73 : decode prog_3_method_14_code 73 = .ok (.goto (-32), 3) := by decide +kernel
theorem d_F_findWay_76 : decode prog_3_method_14_code 76 = .ok (.iload_n 3, 1) := by decide +kernel
theorem d_F_findWay_77 : decode prog_3_method_14_code 77 = .ok (.iload_n 2, 1) := by decide +kernel
theorem d_F_findWay_78 : decode prog_3_method_14_code 78 = .ok (.if_icmp .ne 19, 3) := by decide +kernel
theorem d_F_findWay_81 : decode prog_3_method_14_code 81 = .ok (.aload_n 0, 1) := by decide +kernel
theorem d_F_findWay_82 : decode prog_3_method_14_code 82 = .ok (.aload_n 0, 1) := by decide +kernel
theorem d_F_findWay_83 : decode prog_3_method_14_code 83 = .ok (.getfield 29, 3) := by decide +kernel
theorem d_F_findWay_86 : decode prog_3_method_14_code 86 = .ok (.getfield 69, 3) := by decide +kernel
theorem d_F_findWay_89 : decode prog_3_method_14_code 89 = .ok (.iload_n 1, 1) := by decide +kernel
theorem d_F_findWay_90 : decode prog_3_method_14_code 90 = .ok (.iaload, 1) := by decide +kernel
theorem d_F_findWay_91 : decode prog_3_method_14_code 91 = .ok (.putfield 95, 3) := by decide +kernel
theorem d_F_findWay_94 : decode prog_3_method_14_code 94 = .ok (.goto 33, 3) := by decide +kernel
theorem d_F_findWay_97 : decode prog_3_method_14_code 97 = .ok (.aload_n 0, 1) := by decide +kernel
theorem d_F_findWay_98 : decode prog_3_method_14_code 98 = .ok (.getfield 29, 3) := by decide +kernel
theorem d_F_findWay_101 : decode prog_3_method_14_code 101 = .ok (.iload_n 3, 1) := by decide +kernel
theorem d_F_findWay_102 : decode prog_3_method_14_code 102 = .ok (.invokevirtual 136, 3) := by decide +kernel
theorem d_F_findWay_105 : decode prog_3_method_14_code 105 = .ok (.ifCond .eq 22, 3) := by decide +kernel
theorem d_F_findWay_108 : decode prog_3_method_14_code 108 = .ok (.aload_n 0, 1) := by decide +kernel
theorem d_F_findWay_109 : decode prog_3_method_14_code 109 = .ok (.iload_n 3, 1) := by decide +kernel
theorem d_F_findWay_110 : decode prog_3_method_14_code 110 = .ok (.aload_n 0, 1) := by decide +kernel
theorem d_F_findWay_111 : decode prog_3_method_14_code 111 = .ok (.getfield 29, 3) := by decide +kernel
theorem d_F_findWay_114 : decode prog_3_method_14_code 114 = .ok (.getfield 69, 3) := by decide +kernel
theorem d_F_findWay_117 : decode prog_3_method_14_code 117 = .ok (.iload_n 1, 1) := by decide +kernel
theorem d_F_findWay_118 : decode prog_3_method_14_code 118 = .ok (.iaload, 1) := by decide +kernel
theorem d_F_findWay_119 : decode prog_3_method_14_code 119 = .ok (.iconst 1, 1) := by decide +kernel
theorem d_F_findWay_120 : decode prog_3_method_14_code 120 = .ok (.iload_n 3, 1) := by decide +kernel
theorem d_F_findWay_121 : decode prog_3_method_14_code 121 = .ok (.ishl, 1) := by decide +kernel
theorem d_F_findWay_122 : decode prog_3_method_14_code 122 = .ok (.iconst (-1), 1) := by decide +kernel
theorem d_F_findWay_123 : decode prog_3_method_14_code 123 = .ok (.iconst 0, 1) := by decide +kernel
theorem d_F_findWay_124 : decode prog_3_method_14_code 124 = .ok (.invokevirtual 139, 3) := by decide +kernel
theorem d_F_findWay_127 : decode prog_3_method_14_code 127 = .ok (.aload_n 0, 1) := by decide +kernel
theorem d_F_findWay_128 : decode prog_3_method_14_code 128 = .ok (.getfield 95, 3) := by decide +kernel
theorem d_F_findWay_131 : decode prog_3_method_14_code 131 = .ok (.ifCond .lt 7, 3) := by decide +kernel
theorem d_F_findWay_134 : decode prog_3_method_14_code 134 = .ok (.iconst 1, 1) := by decide +kernel
theorem d_F_findWay_135 : decode prog_3_method_14_code 135 = .ok (.goto 4, 3) := by decide +kernel
theorem d_F_findWay_138 : decode prog_3_method_14_code 138 = .ok (.iconst 0, 1) := by decide +kernel
theorem d_F_findWay_139 : decode prog_3_method_14_code 139 = .ok (.ireturn, 1) := by decide +kernel
def w_F_findWay_127 (K : Int32 → sm_Mem → Prop) (p0 : Int32) (p1 : Int32) (μ : sm_Mem) : Prop := if (μ 37 7) < 0 then K 0 μ else K 1 μ
def w_F_findWay_41 (K : Int32 → sm_Mem → Prop) (p0 : Int32) (p1 : Int32) (x3 : Int32) (x4 : Int32) (μ : sm_Mem) : Prop := sm_lp1 (fun J41 x4 μ => if (μ 1 11) ≤ x4 then (if x3 = p1 then (vp_in p0 10 ∧ ∀ μ18 : sm_Mem, μ18 = sm_st μ 37 7 (μ 6 p0.toNatClampNeg) → w_F_findWay_127 K p0 p1 μ18) else (w_D_hasPlace (fun r12 μ11 => if r12 = 0 then w_F_findWay_127 K p0 p1 μ11 else (vp_in p0 10 ∧ wg_W 8 0 (fun μ16 => w_F_findWay_127 K p0 p1 μ16) x3 (μ11 6 p0.toNatClampNeg) (1 <<< (x3 &&& 31)) (-1) 0 μ11)) x3 μ)) else (w_D_meltsNow (fun r20 μ19 => vp_in x4 6 ∧ ∀ μ22 : sm_Mem, μ22 = sm_st μ19 42 (x4.toNatClampNeg) r20 → J41 (x4 + 1) μ22) p0 x4 μ)) x4 μ
def w_F_findWay (K : Int32 → sm_Mem → Prop) (p0 : Int32) (p1 : Int32) (μ : sm_Mem) : Prop := w_D_hasNote (fun r2 μ1 => if r2 = 0 then K 0 μ1 else (vp_in p0 10 ∧ ∀ v5 : Int32, v5 = (μ1 7 p0.toNatClampNeg) → ∀ μ6 : sm_Mem, μ6 = sm_st μ1 37 6 p1 → ∀ μ7 : sm_Mem, μ7 = sm_st μ6 37 7 (-1) → ∀ μ8 : sm_Mem, μ8 = sm_st μ7 37 8 p1 → w_F_findWay_41 K p0 p1 v5 0 μ8)) p0 μ
set_option maxHeartbeats 4000000 in
set_option maxRecDepth 100000 in
theorem P_F_findWay (l : Launch) {K : Int32 → sm_Mem → Prop} {p0 : Int32} {p1 : Int32} {μ : sm_Mem} (h : w_F_findWay K p0 p1 μ) : sm_MI l ⟨"SnowMoney$Foresight", "findWay", "(II)Z"⟩ prog_3_method_14_code 5 (some .boolean) { frames := 13, cells := 0, slots := 0, locals := 628 } [sm_R 37, sm_I p0, sm_I p1] μ K := by
  refine sm_ofI (by decide +kernel) (fun _ => Nat.le_of_ble_eq_true rfl) ?_
  intro p e s m args below meth c A Q G C hR
  have B127 : ∀ (μ : sm_Mem), w_F_findWay_127 K p0 p1 μ → sm_W p l e { frames := 13, cells := 0, slots := 0, locals := 628 } s m args below meth c A Q G 5 0 0 127 [] [(0, sm_R 37)] μ := by
    intro μ h
    refine sr_aload_n C 0 rfl rfl d_F_findWay_127 ?_
    refine sr_getI C sm_F1 7 q_253 sm_l37 rfl (by decide) d_F_findWay_128 ?_
    refine sr_if_lt C (tgt := 138) d_F_findWay_131 (by decide) (fun c14 => ?_) (fun c14 => ?_)
    · replace h := Eq.mp (if_pos c14) h
      refine sr_iconst C (v := 0) d_F_findWay_138 (by decide) ?_
      exact hR _ _ _ _ d_F_findWay_139 rfl h
    · replace h := Eq.mp (if_neg c14) h
      refine sr_iconst C (v := 1) d_F_findWay_134 (by decide) ?_
      refine sr_goto C (tgt := 139) (by decide) d_F_findWay_135 ?_
      exact hR _ _ _ _ d_F_findWay_139 rfl h
  have B41 : ∀ (x3 : Int32) (x4 : Int32) (μ : sm_Mem), w_F_findWay_41 K p0 p1 x3 x4 μ → sm_W p l e { frames := 13, cells := 0, slots := 0, locals := 628 } s m args below meth c A Q G 5 0 0 41 [] [(0, sm_R 37), (1, sm_I p0), (2, sm_I p1), (3, sm_I x3), (4, sm_I x4)] μ := by
    intro x3 x4 μ h
    refine sm_lp1_sound (P := fun x4 μ => sm_W p l e { frames := 13, cells := 0, slots := 0, locals := 628 } s m args below meth c A Q G 5 0 0 41 [] [(0, sm_R 37), (1, sm_I p0), (2, sm_I p1), (3, sm_I x3), (4, sm_I x4)] μ) (fun J41 x4 μ hJ41 h => ?_) h
    refine sr_iload C 4 rfl d_F_findWay_41 ?_
    refine sr_aload_n C 0 rfl rfl d_F_findWay_43 ?_
    refine sr_getR C sm_F1 0 q_220 sm_l37 (r := 1) rfl (by decide) d_F_findWay_44 ?_
    refine sr_getI C sm_F0 11 q_273 sm_l1 rfl (by decide) d_F_findWay_47 ?_
    refine sr_icmp_ge C (tgt := 76) d_F_findWay_50 (by decide) (fun c9 => ?_) (fun c9 => ?_)
    · replace h := Eq.mp (if_pos c9) h
      refine sr_iload_n C 3 rfl rfl d_F_findWay_76 ?_
      refine sr_iload_n C 2 rfl rfl d_F_findWay_77 ?_
      refine sr_icmp_ne C (tgt := 97) d_F_findWay_78 (by decide) (fun c10 => ?_) (fun c10 => ?_)
      · replace h := Eq.mp (if_neg c10) h
        refine sr_aload_n C 0 rfl rfl d_F_findWay_97 ?_
        refine sr_getR C sm_F1 0 q_220 sm_l37 (r := 1) rfl (by decide) d_F_findWay_98 ?_
        refine sr_iload_n C 3 rfl rfl d_F_findWay_101 ?_
        refine sr_callVI C [sm_I _] (P_D_hasPlace l h) ok_68 sm_l1 rfl rfl rfl rfl ⟨Nat.le_of_ble_eq_true rfl, Nat.le_of_ble_eq_true rfl⟩ (Nat.le_of_ble_eq_true rfl) ⟨Nat.zero_le _, Nat.zero_le _⟩ d_F_findWay_102 (fun r12 μ11 h => ?_)
        refine sr_if_eq C (tgt := 127) d_F_findWay_105 (by decide) (fun c13 => ?_) (fun c13 => ?_)
        · replace h := Eq.mp (if_pos c13) h
          refine sr_mask C [0] rfl ?_
          exact B127 _ h
        · replace h := Eq.mp (if_neg c13) h
          refine sr_aload_n C 0 rfl rfl d_F_findWay_108 ?_
          refine sr_iload_n C 3 rfl rfl d_F_findWay_109 ?_
          refine sr_aload_n C 0 rfl rfl d_F_findWay_110 ?_
          refine sr_getR C sm_F1 0 q_220 sm_l37 (r := 1) rfl (by decide) d_F_findWay_111 ?_
          refine sr_getR C sm_F0 4 q_228 sm_l1 (r := 6) rfl (by decide) d_F_findWay_114 ?_
          refine sr_iload_n C 1 rfl rfl d_F_findWay_117 ?_
          obtain ⟨g15, h⟩ := h
          refine sr_iald C sm_l6 g15 d_F_findWay_118 ?_
          refine sr_iconst C (v := 1) d_F_findWay_119 (by decide) ?_
          refine sr_iload_n C 3 rfl rfl d_F_findWay_120 ?_
          refine sr_ishl C d_F_findWay_121 ?_
          refine sr_iconst C (v := (-1)) d_F_findWay_122 (by decide) ?_
          refine sr_iconst C (v := 0) d_F_findWay_123 (by decide) ?_
          refine sr_callVV C [sm_I _, sm_I _, sm_I _, sm_I _, sm_I _] (PG_W_0 l 8 h) ok_69 sm_l37 rfl rfl rfl rfl ⟨Nat.le_of_ble_eq_true rfl, Nat.le_of_ble_eq_true rfl⟩ (Nat.le_of_ble_eq_true rfl) ⟨Nat.zero_le _, Nat.zero_le _⟩ d_F_findWay_124 (fun μ16 h => ?_)
          refine sr_mask C [0] rfl ?_
          exact B127 _ h
      · replace h := Eq.mp (if_pos c10) h
        refine sr_aload_n C 0 rfl rfl d_F_findWay_81 ?_
        refine sr_aload_n C 0 rfl rfl d_F_findWay_82 ?_
        refine sr_getR C sm_F1 0 q_220 sm_l37 (r := 1) rfl (by decide) d_F_findWay_83 ?_
        refine sr_getR C sm_F0 4 q_228 sm_l1 (r := 6) rfl (by decide) d_F_findWay_86 ?_
        refine sr_iload_n C 1 rfl rfl d_F_findWay_89 ?_
        obtain ⟨g17, h⟩ := h
        refine sr_iald C sm_l6 g17 d_F_findWay_90 ?_
        refine sr_putI C sm_F1 7 q_253 sm_l37 rfl rfl (by decide) rfl d_F_findWay_91 ?_
        replace h := h _ rfl
        refine sr_goto C (tgt := 127) (by decide) d_F_findWay_94 ?_
        refine sr_mask C [0] rfl ?_
        exact B127 _ h
    · replace h := Eq.mp (if_neg c9) h
      refine sr_aload_n C 0 rfl rfl d_F_findWay_53 ?_
      refine sr_getR C sm_F1 5 q_315 sm_l37 (r := 42) rfl (by decide) d_F_findWay_54 ?_
      refine sr_iload C 4 rfl d_F_findWay_57 ?_
      refine sr_aload_n C 0 rfl rfl d_F_findWay_59 ?_
      refine sr_getR C sm_F1 0 q_220 sm_l37 (r := 1) rfl (by decide) d_F_findWay_60 ?_
      refine sr_iload_n C 1 rfl rfl d_F_findWay_63 ?_
      refine sr_iload C 4 rfl d_F_findWay_64 ?_
      refine sr_callVI C [sm_I _, sm_I _] (P_D_meltsNow l h) ok_70 sm_l1 rfl rfl rfl rfl ⟨Nat.le_of_ble_eq_true rfl, Nat.le_of_ble_eq_true rfl⟩ (Nat.le_of_ble_eq_true rfl) ⟨Nat.zero_le _, Nat.zero_le _⟩ d_F_findWay_66 (fun r20 μ19 h => ?_)
      obtain ⟨g21, h⟩ := h
      refine sr_iast C sm_l42 g21 d_F_findWay_69 ?_
      replace h := h _ rfl
      refine sr_iinc C 4 rfl (by decide) d_F_findWay_70 rfl ?_
      refine sr_goto C (tgt := 41) (by decide) d_F_findWay_73 ?_
      refine sr_mask C [1, 2, 3, 4, 0] rfl ?_
      exact hJ41 _ _ h
  refine sr_aload_n C 0 rfl rfl d_F_findWay_0 ?_
  refine sr_getR C sm_F1 0 q_220 sm_l37 (r := 1) rfl (by decide) d_F_findWay_1 ?_
  refine sr_iload_n C 1 rfl rfl d_F_findWay_4 ?_
  refine sr_callVI C [sm_I _] (P_D_hasNote l h) ok_47 sm_l1 rfl rfl rfl rfl ⟨Nat.le_of_ble_eq_true rfl, Nat.le_of_ble_eq_true rfl⟩ (Nat.le_of_ble_eq_true rfl) ⟨Nat.zero_le _, Nat.zero_le _⟩ d_F_findWay_5 (fun r2 μ1 h => ?_)
  refine sr_if_ne C (tgt := 13) d_F_findWay_8 (by decide) (fun c3 => ?_) (fun c3 => ?_)
  · replace h := Eq.mp (if_neg c3) h
    refine sr_aload_n C 0 rfl rfl d_F_findWay_13 ?_
    refine sr_getR C sm_F1 0 q_220 sm_l37 (r := 1) rfl (by decide) d_F_findWay_14 ?_
    refine sr_getR C sm_F0 5 q_308 sm_l1 (r := 7) rfl (by decide) d_F_findWay_17 ?_
    refine sr_iload_n C 1 rfl rfl d_F_findWay_20 ?_
    obtain ⟨g4, h⟩ := h
    refine sr_iald C sm_l7 g4 d_F_findWay_21 ?_
    replace h := h _ rfl
    refine sr_istore_n C rfl (by decide) d_F_findWay_22 ?_
    refine sr_aload_n C 1 rfl rfl d_F_findWay_23 ?_
    refine sr_iload_n C 3 rfl rfl d_F_findWay_24 ?_
    refine sr_putI C sm_F1 6 q_309 sm_l37 rfl rfl (by decide) rfl d_F_findWay_25 ?_
    replace h := h _ rfl
    refine sr_aload_n C 1 rfl rfl d_F_findWay_28 ?_
    refine sr_iconst C (v := (-1)) d_F_findWay_29 (by decide) ?_
    refine sr_putI C sm_F1 7 q_253 sm_l37 rfl rfl (by decide) rfl d_F_findWay_30 ?_
    replace h := h _ rfl
    refine sr_aload_n C 1 rfl rfl d_F_findWay_33 ?_
    refine sr_iload_n C 3 rfl rfl d_F_findWay_34 ?_
    refine sr_putI C sm_F1 8 q_254 sm_l37 rfl rfl (by decide) rfl d_F_findWay_35 ?_
    replace h := h _ rfl
    refine sr_iconst C (v := 0) d_F_findWay_38 (by decide) ?_
    refine sr_istore C (by decide) d_F_findWay_39 ?_
    refine sr_mask C [2, 3, 4, 1, 0] rfl ?_
    exact B41 _ _ _ h
  · replace h := Eq.mp (if_pos c3) h
    refine sr_iconst C (v := 0) d_F_findWay_11 (by decide) ?_
    exact hR _ _ _ _ d_F_findWay_12 rfl h
theorem d_F_kindsThatLeave_0 : decode prog_3_method_17_code 0 = .ok (.aload_n 0, 1) := by decide +kernel
theorem d_F_kindsThatLeave_1 : decode prog_3_method_17_code 1 = .ok (.getfield 29, 3) := by decide +kernel
theorem d_F_kindsThatLeave_4 : decode prog_3_method_17_code 4 = .ok (.iload_n 1, 1) := by decide +kernel
theorem d_F_kindsThatLeave_5 : decode prog_3_method_17_code 5 = .ok (.invokevirtual 55, 3) := by decide +kernel
theorem d_F_kindsThatLeave_8 : decode prog_3_method_17_code 8 = .ok (.ifCond .ne 5, 3) := by decide +kernel
theorem d_F_kindsThatLeave_11 : decode prog_3_method_17_code 11 = .ok (.iconst 0, 1) := by decide +kernel
theorem d_F_kindsThatLeave_12 : decode prog_3_method_17_code 12 = .ok (.ireturn, 1) := by decide +kernel
theorem d_F_kindsThatLeave_13 : decode prog_3_method_17_code 13 = .ok (.aload_n 0, 1) := by decide +kernel
theorem d_F_kindsThatLeave_14 : decode prog_3_method_17_code 14 = .ok (.aload_n 0, 1) := by decide +kernel
theorem d_F_kindsThatLeave_15 : decode prog_3_method_17_code 15 = .ok (.getfield 29, 3) := by decide +kernel
theorem d_F_kindsThatLeave_18 : decode prog_3_method_17_code 18 = .ok (.iload_n 1, 1) := by decide +kernel
theorem d_F_kindsThatLeave_19 : decode prog_3_method_17_code 19 = .ok (.invokevirtual 79, 3) := by decide +kernel
theorem d_F_kindsThatLeave_22 : decode prog_3_method_17_code 22 = .ok (.aload_n 0, 1) := by decide +kernel
theorem d_F_kindsThatLeave_23 : decode prog_3_method_17_code 23 = .ok (.getfield 29, 3) := by decide +kernel
theorem d_F_kindsThatLeave_26 : decode prog_3_method_17_code 26 = .ok (.getfield 83, 3) := by decide +kernel
theorem d_F_kindsThatLeave_29 : decode prog_3_method_17_code 29 = .ok (.iload_n 2, 1) := by decide +kernel
theorem d_F_kindsThatLeave_30 : decode prog_3_method_17_code 30 = .ok (.invokevirtual 59, 3) := by decide +kernel
theorem d_F_kindsThatLeave_33 : decode prog_3_method_17_code 33 = .ok (.iconst 0, 1) := by decide +kernel
theorem d_F_kindsThatLeave_34 : decode prog_3_method_17_code 34 = .ok (.istore 4, 2) := by decide +kernel
theorem d_F_kindsThatLeave_36 : decode prog_3_method_17_code 36 = .ok (.iconst 0, 1) := by decide +kernel
theorem d_F_kindsThatLeave_37 : decode prog_3_method_17_code 37 = .ok (.istore 5, 2) := by decide +kernel
theorem d_F_kindsThatLeave_39 : decode prog_3_method_17_code 39 = .ok (.iload 5, 2) := by decide +kernel
theorem d_F_kindsThatLeave_41 : decode prog_3_method_17_code 41 = .ok (.bipush 7, 2) := by decide +kernel
theorem d_F_kindsThatLeave_43 : decode prog_3_method_17_code 43 = .ok (.if_icmp .ge 47, 3) := by decide +kernel
theorem d_F_kindsThatLeave_46 : decode prog_3_method_17_code 46 = .ok (.aload_n 0, 1) := by decide +kernel
theorem d_F_kindsThatLeave_47 : decode prog_3_method_17_code 47 = .ok (.iload 5, 2) := by decide +kernel
theorem d_F_kindsThatLeave_49 : decode prog_3_method_17_code 49 = .ok (.aload_n 0, 1) := by decide +kernel
theorem d_F_kindsThatLeave_50 : decode prog_3_method_17_code 50 = .ok (.getfield 29, 3) := by decide +kernel
theorem d_F_kindsThatLeave_53 : decode prog_3_method_17_code 53 = .ok (.getfield 66, 3) := by decide +kernel
theorem d_F_kindsThatLeave_56 : decode prog_3_method_17_code 56 = .ok (.iload_n 1, 1) := by decide +kernel
theorem d_F_kindsThatLeave_57 : decode prog_3_method_17_code 57 = .ok (.iaload, 1) := by decide +kernel
theorem d_F_kindsThatLeave_58 : decode prog_3_method_17_code 58 = .ok (.aload_n 0, 1) := by decide +kernel
theorem d_F_kindsThatLeave_59 : decode prog_3_method_17_code 59 = .ok (.getfield 29, 3) := by decide +kernel
theorem d_F_kindsThatLeave_62 : decode prog_3_method_17_code 62 = .ok (.getfield 69, 3) := by decide +kernel
theorem d_F_kindsThatLeave_65 : decode prog_3_method_17_code 65 = .ok (.iload_n 1, 1) := by decide +kernel
theorem d_F_kindsThatLeave_66 : decode prog_3_method_17_code 66 = .ok (.iaload, 1) := by decide +kernel
theorem d_F_kindsThatLeave_67 : decode prog_3_method_17_code 67 = .ok (.iload_n 2, 1) := by decide +kernel
theorem d_F_kindsThatLeave_68 : decode prog_3_method_17_code 68 = .ok (.invokevirtual 72, 3) := by decide +kernel
theorem d_F_kindsThatLeave_71 : decode prog_3_method_17_code 71 = .ok (.iload_n 3, 1) := by decide +kernel
theorem d_F_kindsThatLeave_72 : decode prog_3_method_17_code 72 = .ok (.if_icmp .ne 12, 3) := by decide +kernel
theorem d_F_kindsThatLeave_75 : decode prog_3_method_17_code 75 = .ok (.iload 4, 2) := by decide +kernel
theorem d_F_kindsThatLeave_77 : decode prog_3_method_17_code 77 = .ok (.iconst 1, 1) := by decide +kernel
theorem d_F_kindsThatLeave_78 : decode prog_3_method_17_code 78 = .ok (.iload 5, 2) := by decide +kernel
theorem d_F_kindsThatLeave_80 : decode prog_3_method_17_code 80 = .ok (.ishl, 1) := by decide +kernel
theorem d_F_kindsThatLeave_81 : decode prog_3_method_17_code 81 = .ok (.ior, 1) := by decide +kernel
theorem d_F_kindsThatLeave_82 : decode prog_3_method_17_code 82 = .ok (.istore 4, 2) := by decide +kernel
theorem d_F_kindsThatLeave_84 : decode prog_3_method_17_code 84 = .ok (.iinc 5 1, 3) := by decide +kernel
theorem d_F_kindsThatLeave_87 : decode prog_3_method_17_code 87 = .ok (.goto (-48), 3) := by decide +kernel
theorem d_F_kindsThatLeave_90 : decode prog_3_method_17_code 90 = .ok (.iload 4, 2) := by decide +kernel
theorem d_F_kindsThatLeave_92 : decode prog_3_method_17_code 92 = .ok (.ireturn, 1) := by decide +kernel
def w_F_kindsThatLeave_84 (K : Int32 → sm_Mem → Prop) (J39 : Int32 → Int32 → sm_Mem → Prop) (p0 : Int32) (p1 : Int32) (p2 : Int32) (x4 : Int32) (x5 : Int32) (μ : sm_Mem) : Prop := J39 x4 (x5 + 1) μ
def w_F_kindsThatLeave_39 (K : Int32 → sm_Mem → Prop) (p0 : Int32) (p1 : Int32) (p2 : Int32) (x4 : Int32) (x5 : Int32) (μ : sm_Mem) : Prop := sm_lp2 (fun J39 x4 x5 μ => if 7 ≤ x5 then K x4 μ else (vp_in p0 10 ∧ vp_in p0 10 ∧ w_F_melt (fun r11 μ10 => if r11 = p2 then (∀ v13 : Int32, v13 = (x4 ||| (1 <<< (x5 &&& 31))) → w_F_kindsThatLeave_84 K J39 p0 p1 p2 v13 x5 μ10) else w_F_kindsThatLeave_84 K J39 p0 p1 p2 x4 x5 μ10) x5 (μ 5 p0.toNatClampNeg) (μ 6 p0.toNatClampNeg) p1 μ)) x4 x5 μ
def w_F_kindsThatLeave (K : Int32 → sm_Mem → Prop) (p0 : Int32) (p1 : Int32) (p2 : Int32) (μ : sm_Mem) : Prop := w_D_hasNote (fun r2 μ1 => if r2 = 0 then K 0 μ1 else w_D_warmthAround (fun r5 μ4 => w_F_feel (fun μ6 => w_F_kindsThatLeave_39 K p0 p1 p2 0 0 μ6) r5 (μ4 1 13) p1 μ4) p0 μ1) p0 μ
set_option maxHeartbeats 4000000 in
set_option maxRecDepth 100000 in
theorem P_F_kindsThatLeave (l : Launch) {K : Int32 → sm_Mem → Prop} {p0 : Int32} {p1 : Int32} {p2 : Int32} {μ : sm_Mem} (h : w_F_kindsThatLeave K p0 p1 p2 μ) : sm_MI l ⟨"SnowMoney$Foresight", "kindsThatLeave", "(III)I"⟩ prog_3_method_17_code 6 (some .int) { frames := 4, cells := 0, slots := 0, locals := 99 } [sm_R 37, sm_I p0, sm_I p1, sm_I p2] μ K := by
  refine sm_ofI (by decide +kernel) (fun _ => Nat.le_of_ble_eq_true rfl) ?_
  intro p e s m args below meth c A Q G C hR
  have B84 : ∀ (x4 : Int32) (x5 : Int32) (J39 : Int32 → Int32 → sm_Mem → Prop) (hJ39 : ∀ (x4 : Int32) (x5 : Int32) (μ : sm_Mem), J39 x4 x5 μ → sm_W p l e { frames := 4, cells := 0, slots := 0, locals := 99 } s m args below meth c A Q G 6 0 0 39 [] [(0, sm_R 37), (1, sm_I p0), (2, sm_I p1), (3, sm_I p2), (4, sm_I x4), (5, sm_I x5)] μ) (μ : sm_Mem), w_F_kindsThatLeave_84 K J39 p0 p1 p2 x4 x5 μ → sm_W p l e { frames := 4, cells := 0, slots := 0, locals := 99 } s m args below meth c A Q G 6 0 0 84 [] [(0, sm_R 37), (1, sm_I p0), (2, sm_I p1), (3, sm_I p2), (4, sm_I x4), (5, sm_I x5)] μ := by
    intro x4 x5 J39 hJ39 μ h
    refine sr_iinc C 5 rfl (by decide) d_F_kindsThatLeave_84 rfl ?_
    refine sr_goto C (tgt := 39) (by decide) d_F_kindsThatLeave_87 ?_
    refine sr_mask C [1, 2, 3, 4, 5, 0] rfl ?_
    exact hJ39 _ _ _ h
  have B39 : ∀ (x4 : Int32) (x5 : Int32) (μ : sm_Mem), w_F_kindsThatLeave_39 K p0 p1 p2 x4 x5 μ → sm_W p l e { frames := 4, cells := 0, slots := 0, locals := 99 } s m args below meth c A Q G 6 0 0 39 [] [(0, sm_R 37), (1, sm_I p0), (2, sm_I p1), (3, sm_I p2), (4, sm_I x4), (5, sm_I x5)] μ := by
    intro x4 x5 μ h
    refine sm_lp2_sound (P := fun x4 x5 μ => sm_W p l e { frames := 4, cells := 0, slots := 0, locals := 99 } s m args below meth c A Q G 6 0 0 39 [] [(0, sm_R 37), (1, sm_I p0), (2, sm_I p1), (3, sm_I p2), (4, sm_I x4), (5, sm_I x5)] μ) (fun J39 x4 x5 μ hJ39 h => ?_) h
    refine sr_iload C 5 rfl d_F_kindsThatLeave_39 ?_
    refine sr_bipush C (v := 7) d_F_kindsThatLeave_41 (by decide) ?_
    refine sr_icmp_ge C (tgt := 90) d_F_kindsThatLeave_43 (by decide) (fun c7 => ?_) (fun c7 => ?_)
    · replace h := Eq.mp (if_pos c7) h
      refine sr_iload C 4 rfl d_F_kindsThatLeave_90 ?_
      exact hR _ _ _ _ d_F_kindsThatLeave_92 rfl h
    · replace h := Eq.mp (if_neg c7) h
      refine sr_aload_n C 0 rfl rfl d_F_kindsThatLeave_46 ?_
      refine sr_iload C 5 rfl d_F_kindsThatLeave_47 ?_
      refine sr_aload_n C 0 rfl rfl d_F_kindsThatLeave_49 ?_
      refine sr_getR C sm_F1 0 q_220 sm_l37 (r := 1) rfl (by decide) d_F_kindsThatLeave_50 ?_
      refine sr_getR C sm_F0 3 q_227 sm_l1 (r := 5) rfl (by decide) d_F_kindsThatLeave_53 ?_
      refine sr_iload_n C 1 rfl rfl d_F_kindsThatLeave_56 ?_
      obtain ⟨g8, h⟩ := h
      refine sr_iald C sm_l5 g8 d_F_kindsThatLeave_57 ?_
      refine sr_aload_n C 0 rfl rfl d_F_kindsThatLeave_58 ?_
      refine sr_getR C sm_F1 0 q_220 sm_l37 (r := 1) rfl (by decide) d_F_kindsThatLeave_59 ?_
      refine sr_getR C sm_F0 4 q_228 sm_l1 (r := 6) rfl (by decide) d_F_kindsThatLeave_62 ?_
      refine sr_iload_n C 1 rfl rfl d_F_kindsThatLeave_65 ?_
      obtain ⟨g9, h⟩ := h
      refine sr_iald C sm_l6 g9 d_F_kindsThatLeave_66 ?_
      refine sr_iload_n C 2 rfl rfl d_F_kindsThatLeave_67 ?_
      refine sr_callVI C [sm_I _, sm_I _, sm_I _, sm_I _] (P_F_melt l h) ok_49 sm_l37 rfl rfl rfl rfl ⟨Nat.le_of_ble_eq_true rfl, Nat.le_of_ble_eq_true rfl⟩ (Nat.le_of_ble_eq_true rfl) ⟨Nat.zero_le _, Nat.zero_le _⟩ d_F_kindsThatLeave_68 (fun r11 μ10 h => ?_)
      refine sr_iload_n C 3 rfl rfl d_F_kindsThatLeave_71 ?_
      refine sr_icmp_ne C (tgt := 84) d_F_kindsThatLeave_72 (by decide) (fun c12 => ?_) (fun c12 => ?_)
      · replace h := Eq.mp (if_neg c12) h
        exact B84 _ _ _ hJ39 _ h
      · replace h := Eq.mp (if_pos c12) h
        refine sr_iload C 4 rfl d_F_kindsThatLeave_75 ?_
        refine sr_iconst C (v := 1) d_F_kindsThatLeave_77 (by decide) ?_
        refine sr_iload C 5 rfl d_F_kindsThatLeave_78 ?_
        refine sr_ishl C d_F_kindsThatLeave_80 ?_
        refine sr_ior C d_F_kindsThatLeave_81 ?_
        replace h := h _ rfl
        refine sr_istore C (by decide) d_F_kindsThatLeave_82 ?_
        refine sr_mask C [1, 2, 3, 4, 0, 5] rfl ?_
        exact B84 _ _ _ hJ39 _ h
  refine sr_aload_n C 0 rfl rfl d_F_kindsThatLeave_0 ?_
  refine sr_getR C sm_F1 0 q_220 sm_l37 (r := 1) rfl (by decide) d_F_kindsThatLeave_1 ?_
  refine sr_iload_n C 1 rfl rfl d_F_kindsThatLeave_4 ?_
  refine sr_callVI C [sm_I _] (P_D_hasNote l h) ok_47 sm_l1 rfl rfl rfl rfl ⟨Nat.le_of_ble_eq_true rfl, Nat.le_of_ble_eq_true rfl⟩ (Nat.le_of_ble_eq_true rfl) ⟨Nat.zero_le _, Nat.zero_le _⟩ d_F_kindsThatLeave_5 (fun r2 μ1 h => ?_)
  refine sr_if_ne C (tgt := 13) d_F_kindsThatLeave_8 (by decide) (fun c3 => ?_) (fun c3 => ?_)
  · replace h := Eq.mp (if_neg c3) h
    refine sr_aload_n C 0 rfl rfl d_F_kindsThatLeave_13 ?_
    refine sr_aload_n C 0 rfl rfl d_F_kindsThatLeave_14 ?_
    refine sr_getR C sm_F1 0 q_220 sm_l37 (r := 1) rfl (by decide) d_F_kindsThatLeave_15 ?_
    refine sr_iload_n C 1 rfl rfl d_F_kindsThatLeave_18 ?_
    refine sr_callVI C [sm_I _] (P_D_warmthAround l h) ok_55 sm_l1 rfl rfl rfl rfl ⟨Nat.le_of_ble_eq_true rfl, Nat.le_of_ble_eq_true rfl⟩ (Nat.le_of_ble_eq_true rfl) ⟨Nat.zero_le _, Nat.zero_le _⟩ d_F_kindsThatLeave_19 (fun r5 μ4 h => ?_)
    refine sr_aload_n C 0 rfl rfl d_F_kindsThatLeave_22 ?_
    refine sr_getR C sm_F1 0 q_220 sm_l37 (r := 1) rfl (by decide) d_F_kindsThatLeave_23 ?_
    refine sr_getI C sm_F0 13 q_261 sm_l1 rfl (by decide) d_F_kindsThatLeave_26 ?_
    refine sr_iload_n C 2 rfl rfl d_F_kindsThatLeave_29 ?_
    refine sr_callVV C [sm_I _, sm_I _, sm_I _] (P_F_feel l h) ok_48 sm_l37 rfl rfl rfl rfl ⟨Nat.le_of_ble_eq_true rfl, Nat.le_of_ble_eq_true rfl⟩ (Nat.le_of_ble_eq_true rfl) ⟨Nat.zero_le _, Nat.zero_le _⟩ d_F_kindsThatLeave_30 (fun μ6 h => ?_)
    refine sr_iconst C (v := 0) d_F_kindsThatLeave_33 (by decide) ?_
    refine sr_istore C (by decide) d_F_kindsThatLeave_34 ?_
    refine sr_iconst C (v := 0) d_F_kindsThatLeave_36 (by decide) ?_
    refine sr_istore C (by decide) d_F_kindsThatLeave_37 ?_
    refine sr_mask C [2, 3, 4, 5, 1, 0] rfl ?_
    exact B39 _ _ _ h
  · replace h := Eq.mp (if_pos c3) h
    refine sr_iconst C (v := 0) d_F_kindsThatLeave_11 (by decide) ?_
    exact hR _ _ _ _ d_F_kindsThatLeave_12 rfl h
theorem d_F_findForged_0 : decode prog_3_method_16_code 0 = .ok (.aload_n 1, 1) := by decide +kernel
theorem d_F_findForged_1 : decode prog_3_method_16_code 1 = .ok (.aload_n 0, 1) := by decide +kernel
theorem d_F_findForged_2 : decode prog_3_method_16_code 2 = .ok (.getfield 29, 3) := by decide +kernel
theorem d_F_findForged_5 : decode prog_3_method_16_code 5 = .ok (.getfield 76, 3) := by decide +kernel
theorem d_F_findForged_8 : decode prog_3_method_16_code 8 = .ok (.invokevirtual 146, 3) := by decide +kernel
theorem d_F_findForged_11 : decode prog_3_method_16_code 11 = .ok (.istore_n 2, 1) := by decide +kernel
theorem d_F_findForged_12 : decode prog_3_method_16_code 12 = .ok (.aload_n 0, 1) := by decide +kernel
theorem d_F_findForged_13 : decode prog_3_method_16_code 13 = .ok (.bipush 7, 2) := by decide +kernel
theorem d_F_findForged_15 : decode prog_3_method_16_code 15 = .ok (.putfield 95, 3) := by decide +kernel
theorem d_F_findForged_18 : decode prog_3_method_16_code 18 = .ok (.aload_n 0, 1) := by decide +kernel
theorem d_F_findForged_19 : decode prog_3_method_16_code 19 = .ok (.iconst 0, 1) := by decide +kernel
theorem d_F_findForged_20 : decode prog_3_method_16_code 20 = .ok (.putfield 98, 3) := by decide +kernel
theorem d_F_findForged_23 : decode prog_3_method_16_code 23 = .ok (.iconst 0, 1) := by decide +kernel
theorem d_F_findForged_24 : decode prog_3_method_16_code 24 = .ok (.istore_n 3, 1) := by decide +kernel
theorem d_F_findForged_25 : decode prog_3_method_16_code 25 = .ok (.iload_n 3, 1) := by decide +kernel
theorem d_F_findForged_26 : decode prog_3_method_16_code 26 = .ok (.aload_n 0, 1) := by decide +kernel
theorem d_F_findForged_27 : decode prog_3_method_16_code 27 = .ok (.getfield 29, 3) := by decide +kernel
theorem d_F_findForged_30 : decode prog_3_method_16_code 30 = .ok (.getfield 76, 3) := by decide +kernel
theorem d_F_findForged_33 : decode prog_3_method_16_code 33 = .ok (.if_icmp .ge 58, 3) := by decide +kernel
theorem d_F_findForged_36 : decode prog_3_method_16_code 36 = .ok (.aload_n 0, 1) := by decide +kernel
theorem d_F_findForged_37 : decode prog_3_method_16_code 37 = .ok (.iload_n 3, 1) := by decide +kernel
theorem d_F_findForged_38 : decode prog_3_method_16_code 38 = .ok (.iload_n 2, 1) := by decide +kernel
theorem d_F_findForged_39 : decode prog_3_method_16_code 39 = .ok (.aload_n 1, 1) := by decide +kernel
theorem d_F_findForged_40 : decode prog_3_method_16_code 40 = .ok (.iload_n 3, 1) := by decide +kernel
theorem d_F_findForged_41 : decode prog_3_method_16_code 41 = .ok (.invokevirtual 146, 3) := by decide +kernel
theorem d_F_findForged_44 : decode prog_3_method_16_code 44 = .ok (.invokevirtual 151, 3) := by decide +kernel
theorem d_F_findForged_47 : decode prog_3_method_16_code 47 = .ok (.istore 4, 2) := by decide +kernel
theorem d_F_findForged_49 : decode prog_3_method_16_code 49 = .ok (.aload_n 0, 1) := by decide +kernel
theorem d_F_findForged_50 : decode prog_3_method_16_code 50 = .ok (.aload_n 0, 1) := by decide +kernel
theorem d_F_findForged_51 : decode prog_3_method_16_code 51 = .ok (.getfield 95, 3) := by decide +kernel
theorem d_F_findForged_54 : decode prog_3_method_16_code 54 = .ok (.iload 4, 2) := by decide +kernel
theorem d_F_findForged_56 : decode prog_3_method_16_code 56 = .ok (.invokestatic 116, 3) := by decide +kernel
theorem d_F_findForged_59 : decode prog_3_method_16_code 59 = .ok (.invokestatic 33, 3) := by decide +kernel
theorem d_F_findForged_62 : decode prog_3_method_16_code 62 = .ok (.putfield 95, 3) := by decide +kernel
theorem d_F_findForged_65 : decode prog_3_method_16_code 65 = .ok (.iload 4, 2) := by decide +kernel
theorem d_F_findForged_67 : decode prog_3_method_16_code 67 = .ok (.bipush 36, 2) := by decide +kernel
theorem d_F_findForged_69 : decode prog_3_method_16_code 69 = .ok (.iand, 1) := by decide +kernel
theorem d_F_findForged_70 : decode prog_3_method_16_code 70 = .ok (.ifCond .eq 15, 3) := by decide +kernel
theorem d_F_findForged_73 : decode prog_3_method_16_code 73 = .ok (.aload_n 0, 1) := by decide +kernel
theorem d_F_findForged_74 : decode prog_3_method_16_code 74 = .ok (.dup, 1) := by decide +kernel
theorem d_F_findForged_75 : decode prog_3_method_16_code 75 = .ok (.getfield 98, 3) := by decide +kernel
theorem d_F_findForged_78 : decode prog_3_method_16_code 78 = .ok (.iconst 1, 1) := by decide +kernel
theorem d_F_findForged_79 : decode prog_3_method_16_code 79 = .ok (.iload_n 3, 1) := by decide +kernel
theorem d_F_findForged_80 : decode prog_3_method_16_code 80 = .ok (.ishl, 1) := by decide +kernel
theorem d_F_findForged_81 : decode prog_3_method_16_code 81 = .ok (.ior, 1) := by decide +kernel
theorem d_F_findForged_82 : decode prog_3_method_16_code 82 = .ok (.putfield 98, 3) := by decide +kernel
theorem d_F_findForged_85 : decode prog_3_method_16_code 85 = .ok (.iinc 3 1, 3) := by decide +kernel
theorem d_F_findForged_88 : decode prog_3_method_16_code 88 = .ok (.goto (-63), 3) := by decide +kernel
theorem d_F_findForged_91 : decode prog_3_method_16_code 91 = .ok (.return_, 1) := by decide +kernel
def w_F_findForged_85 (K : sm_Mem → Prop) (J25 : Int32 → sm_Mem → Prop) (o0 : Nat) (x2 : Int32) (x3 : Int32) (μ : sm_Mem) : Prop := J25 (x3 + 1) μ
def w_F_findForged_25 (K : sm_Mem → Prop) (o0 : Nat) (x2 : Int32) (x3 : Int32) (μ : sm_Mem) : Prop := sm_lp1 (fun J25 x3 μ => if (μ 1 12) ≤ x3 then K μ else (w_S_numberAt (fun r7 μ6 => w_F_kindsThatLeave (fun r9 μ8 => w_JI_bitCount (fun r11 μ10 => ∀ μ12 : sm_Mem, μ12 = sm_st μ10 37 7 (if r11 < (μ8 37 7) then r11 else (μ8 37 7)) → if (r9 &&& 36) = 0 then w_F_findForged_85 K J25 o0 x2 x3 μ12 else (∀ μ14 : sm_Mem, μ14 = sm_st μ12 37 8 ((μ12 37 8) ||| (1 <<< (x3 &&& 31))) → w_F_findForged_85 K J25 o0 x2 x3 μ14)) r9 μ8) x3 x2 r7 μ6) o0 x3 μ)) x3 μ
def w_F_findForged (K : sm_Mem → Prop) (o0 : Nat) (μ : sm_Mem) : Prop := isSheet o0 ∧ w_S_numberAt (fun r2 μ1 => ∀ μ3 : sm_Mem, μ3 = sm_st μ1 37 7 7 → ∀ μ4 : sm_Mem, μ4 = sm_st μ3 37 8 0 → w_F_findForged_25 K o0 r2 0 μ4) o0 (μ 1 12) μ
set_option maxHeartbeats 4000000 in
set_option maxRecDepth 100000 in
theorem P_F_findForged (l : Launch) {K : sm_Mem → Prop} {o0 : Nat} {μ : sm_Mem} (h : w_F_findForged K o0 μ) : sm_MV l ⟨"SnowMoney$Foresight", "findForged", "(LSnowMoney$Sheet;)V"⟩ prog_3_method_16_code 5 { frames := 5, cells := 0, slots := 0, locals := 124 } [sm_R 37, sm_R o0] μ K := by
  refine sm_ofV (by decide +kernel) (fun _ => Nat.le_of_ble_eq_true rfl) ?_
  intro p e s m args below meth c A Q G C hR
  obtain ⟨t_o0, h⟩ := h
  have B85 : ∀ (x2 : Int32) (x3 : Int32) (J25 : Int32 → sm_Mem → Prop) (hJ25 : ∀ (x3 : Int32) (μ : sm_Mem), J25 x3 μ → sm_W p l e { frames := 5, cells := 0, slots := 0, locals := 124 } s m args below meth c A Q G 5 0 0 25 [] [(0, sm_R 37), (1, sm_R o0), (2, sm_I x2), (3, sm_I x3)] μ) (μ : sm_Mem), w_F_findForged_85 K J25 o0 x2 x3 μ → sm_W p l e { frames := 5, cells := 0, slots := 0, locals := 124 } s m args below meth c A Q G 5 0 0 85 [] [(0, sm_R 37), (1, sm_R o0), (2, sm_I x2), (3, sm_I x3)] μ := by
    intro x2 x3 J25 hJ25 μ h
    refine sr_iinc C 3 rfl (by decide) d_F_findForged_85 rfl ?_
    refine sr_goto C (tgt := 25) (by decide) d_F_findForged_88 ?_
    refine sr_mask C [1, 2, 3, 0] rfl ?_
    exact hJ25 _ _ h
  have B25 : ∀ (x2 : Int32) (x3 : Int32) (μ : sm_Mem), w_F_findForged_25 K o0 x2 x3 μ → sm_W p l e { frames := 5, cells := 0, slots := 0, locals := 124 } s m args below meth c A Q G 5 0 0 25 [] [(0, sm_R 37), (1, sm_R o0), (2, sm_I x2), (3, sm_I x3)] μ := by
    intro x2 x3 μ h
    refine sm_lp1_sound (P := fun x3 μ => sm_W p l e { frames := 5, cells := 0, slots := 0, locals := 124 } s m args below meth c A Q G 5 0 0 25 [] [(0, sm_R 37), (1, sm_R o0), (2, sm_I x2), (3, sm_I x3)] μ) (fun J25 x3 μ hJ25 h => ?_) h
    refine sr_iload_n C 3 rfl rfl d_F_findForged_25 ?_
    refine sr_aload_n C 0 rfl rfl d_F_findForged_26 ?_
    refine sr_getR C sm_F1 0 q_220 sm_l37 (r := 1) rfl (by decide) d_F_findForged_27 ?_
    refine sr_getI C sm_F0 12 q_255 sm_l1 rfl (by decide) d_F_findForged_30 ?_
    refine sr_icmp_ge C (tgt := 91) d_F_findForged_33 (by decide) (fun c5 => ?_) (fun c5 => ?_)
    · replace h := Eq.mp (if_pos c5) h
      exact hR _ _ _ d_F_findForged_91 h
    · replace h := Eq.mp (if_neg c5) h
      refine sr_aload_n C 0 rfl rfl d_F_findForged_36 ?_
      refine sr_iload_n C 3 rfl rfl d_F_findForged_37 ?_
      refine sr_iload_n C 2 rfl rfl d_F_findForged_38 ?_
      refine sr_aload_n C 1 rfl rfl d_F_findForged_39 ?_
      refine sr_iload_n C 3 rfl rfl d_F_findForged_40 ?_
      refine sr_callVI C [sm_I _] (P_S_numberAt l h) ok_76 t_o0.1 rfl rfl rfl rfl ⟨Nat.le_of_ble_eq_true rfl, Nat.le_of_ble_eq_true rfl⟩ (Nat.le_of_ble_eq_true rfl) ⟨Nat.zero_le _, Nat.zero_le _⟩ d_F_findForged_41 (fun r7 μ6 h => ?_)
      refine sr_callVI C [sm_I _, sm_I _, sm_I _] (P_F_kindsThatLeave l h) ok_77 sm_l37 rfl rfl rfl rfl ⟨Nat.le_of_ble_eq_true rfl, Nat.le_of_ble_eq_true rfl⟩ (Nat.le_of_ble_eq_true rfl) ⟨Nat.zero_le _, Nat.zero_le _⟩ d_F_findForged_44 (fun r9 μ8 h => ?_)
      refine sr_istore C (by decide) d_F_findForged_47 ?_
      refine sr_aload_n C 1 rfl rfl d_F_findForged_49 ?_
      refine sr_aload_n C 1 rfl rfl d_F_findForged_50 ?_
      refine sr_getI C sm_F1 7 q_253 sm_l37 rfl (by decide) d_F_findForged_51 ?_
      refine sr_iload C 0 rfl d_F_findForged_54 ?_
      refine sr_callSI C [sm_I _] (P_JI_bitCount l h) ok_64 rfl rfl rfl ⟨Nat.le_of_ble_eq_true rfl, Nat.le_of_ble_eq_true rfl⟩ (Nat.le_of_ble_eq_true rfl) ⟨Nat.zero_le _, Nat.zero_le _⟩ d_F_findForged_56 (fun r11 μ10 h => ?_)
      refine sr_mmin C q_233 q_mmin1 q_mini q_mmin2 (Nat.le_of_ble_eq_true rfl) (Nat.le_of_ble_eq_true rfl) ⟨Nat.zero_le _, Nat.zero_le _⟩ d_F_findForged_59 ?_
      refine sr_putI C sm_F1 7 q_253 sm_l37 rfl rfl (by decide) rfl d_F_findForged_62 ?_
      replace h := h _ rfl
      refine sr_iload C 0 rfl d_F_findForged_65 ?_
      refine sr_bipush C (v := 36) d_F_findForged_67 (by decide) ?_
      refine sr_iand C d_F_findForged_69 ?_
      refine sr_if_eq C (tgt := 85) d_F_findForged_70 (by decide) (fun c13 => ?_) (fun c13 => ?_)
      · replace h := Eq.mp (if_pos c13) h
        refine sr_mask C [1, 2, 3, 4] rfl ?_
        exact B85 _ _ _ hJ25 _ h
      · replace h := Eq.mp (if_neg c13) h
        refine sr_aload_n C 1 rfl rfl d_F_findForged_73 ?_
        refine sr_dup C rfl d_F_findForged_74 ?_
        refine sr_getI C sm_F1 8 q_254 sm_l37 rfl (by decide) d_F_findForged_75 ?_
        refine sr_iconst C (v := 1) d_F_findForged_78 (by decide) ?_
        refine sr_iload_n C 4 rfl rfl d_F_findForged_79 ?_
        refine sr_ishl C d_F_findForged_80 ?_
        refine sr_ior C d_F_findForged_81 ?_
        refine sr_putI C sm_F1 8 q_254 sm_l37 rfl rfl (by decide) rfl d_F_findForged_82 ?_
        replace h := h _ rfl
        refine sr_mask C [1, 2, 3, 4] rfl ?_
        exact B85 _ _ _ hJ25 _ h
  refine sr_aload_n C 1 rfl rfl d_F_findForged_0 ?_
  refine sr_aload_n C 0 rfl rfl d_F_findForged_1 ?_
  refine sr_getR C sm_F1 0 q_220 sm_l37 (r := 1) rfl (by decide) d_F_findForged_2 ?_
  refine sr_getI C sm_F0 12 q_255 sm_l1 rfl (by decide) d_F_findForged_5 ?_
  refine sr_callVI C [sm_I _] (P_S_numberAt l h) ok_76 t_o0.1 rfl rfl rfl rfl ⟨Nat.le_of_ble_eq_true rfl, Nat.le_of_ble_eq_true rfl⟩ (Nat.le_of_ble_eq_true rfl) ⟨Nat.zero_le _, Nat.zero_le _⟩ d_F_findForged_8 (fun r2 μ1 h => ?_)
  refine sr_istore_n C rfl (by decide) d_F_findForged_11 ?_
  refine sr_aload_n C 1 rfl rfl d_F_findForged_12 ?_
  refine sr_bipush C (v := 7) d_F_findForged_13 (by decide) ?_
  refine sr_putI C sm_F1 7 q_253 sm_l37 rfl rfl (by decide) rfl d_F_findForged_15 ?_
  replace h := h _ rfl
  refine sr_aload_n C 1 rfl rfl d_F_findForged_18 ?_
  refine sr_iconst C (v := 0) d_F_findForged_19 (by decide) ?_
  refine sr_putI C sm_F1 8 q_254 sm_l37 rfl rfl (by decide) rfl d_F_findForged_20 ?_
  replace h := h _ rfl
  refine sr_iconst C (v := 0) d_F_findForged_23 (by decide) ?_
  refine sr_istore_n C rfl (by decide) d_F_findForged_24 ?_
  refine sr_mask C [2, 3, 1, 0] rfl ?_
  exact B25 _ _ _ h
theorem d_F_findRichest_0 : decode prog_3_method_18_code 0 = .ok (.aload_n 0, 1) := by decide +kernel
theorem d_F_findRichest_1 : decode prog_3_method_18_code 1 = .ok (.iconst (-1), 1) := by decide +kernel
theorem d_F_findRichest_2 : decode prog_3_method_18_code 2 = .ok (.putfield 95, 3) := by decide +kernel
theorem d_F_findRichest_5 : decode prog_3_method_18_code 5 = .ok (.aload_n 0, 1) := by decide +kernel
theorem d_F_findRichest_6 : decode prog_3_method_18_code 6 = .ok (.iconst 0, 1) := by decide +kernel
theorem d_F_findRichest_7 : decode prog_3_method_18_code 7 = .ok (.putfield 98, 3) := by decide +kernel
theorem d_F_findRichest_10 : decode prog_3_method_18_code 10 = .ok (.iconst 0, 1) := by decide +kernel
theorem d_F_findRichest_11 : decode prog_3_method_18_code 11 = .ok (.istore_n 3, 1) := by decide +kernel
theorem d_F_findRichest_12 : decode prog_3_method_18_code 12 = .ok (.iload_n 3, 1) := by decide +kernel
theorem d_F_findRichest_13 : decode prog_3_method_18_code 13 = .ok (.iload_n 2, 1) := by decide +kernel
theorem d_F_findRichest_14 : decode prog_3_method_18_code 14 = .ok (.if_icmp .gt 37, 3) := by decide +kernel
theorem d_F_findRichest_17 : decode prog_3_method_18_code 17 = .ok (.aload_n 0, 1) := by decide +kernel
theorem d_F_findRichest_18 : decode prog_3_method_18_code 18 = .ok (.iload_n 3, 1) := by decide +kernel
theorem d_F_findRichest_19 : decode prog_3_method_18_code 19 = .ok (.iload_n 1, 1) := by decide +kernel
theorem d_F_findRichest_20 : decode prog_3_method_18_code 20 = .ok (.invokevirtual 154, 3) := by decide +kernel
theorem d_F_findRichest_23 : decode prog_3_method_18_code 23 = .ok (.istore 4, 2) := by decide +kernel
theorem d_F_findRichest_25 : decode prog_3_method_18_code 25 = .ok (.iload 4, 2) := by decide +kernel
theorem d_F_findRichest_27 : decode prog_3_method_18_code 27 = .ok (.aload_n 0, 1) := by decide +kernel
theorem d_F_findRichest_28 : decode prog_3_method_18_code 28 = .ok (.getfield 95, 3) := by decide +kernel
theorem d_F_findRichest_31 : decode prog_3_method_18_code 31 = .ok (.if_icmp .le 14, 3) := by decide +kernel
theorem d_F_findRichest_34 : decode prog_3_method_18_code 34 = .ok (.aload_n 0, 1) := by decide +kernel
theorem d_F_findRichest_35 : decode prog_3_method_18_code 35 = .ok (.iload 4, 2) := by decide +kernel
theorem d_F_findRichest_37 : decode prog_3_method_18_code 37 = .ok (.putfield 95, 3) := by decide +kernel
theorem d_F_findRichest_40 : decode prog_3_method_18_code 40 = .ok (.aload_n 0, 1) := by decide +kernel
theorem d_F_findRichest_41 : decode prog_3_method_18_code 41 = .ok (.iload_n 3, 1) := by decide +kernel
theorem d_F_findRichest_42 : decode prog_3_method_18_code 42 = .ok (.putfield 98, 3) := by decide +kernel
theorem d_F_findRichest_45 : decode prog_3_method_18_code 45 = .ok (.iinc 3 1, 3) := by decide +kernel
theorem d_F_findRichest_48 : decode prog_3_method_18_code 48 = .ok (.goto (-36), 3) := by decide +kernel
theorem d_F_findRichest_51 : decode prog_3_method_18_code 51 = .ok (.return_, 1) := by decide +kernel
def w_F_findRichest_45 (K : sm_Mem → Prop) (J12 : Int32 → sm_Mem → Prop) (p0 : Int32) (p1 : Int32) (x3 : Int32) (μ : sm_Mem) : Prop := J12 (x3 + 1) μ
def w_F_findRichest_12 (K : sm_Mem → Prop) (p0 : Int32) (p1 : Int32) (x3 : Int32) (μ : sm_Mem) : Prop := sm_lp1 (fun J12 x3 μ => if p1 < x3 then K μ else (w_F_worthBehind (fun r5 μ4 => if r5 ≤ (μ4 37 7) then w_F_findRichest_45 K J12 p0 p1 x3 μ4 else (∀ μ7 : sm_Mem, μ7 = sm_st μ4 37 7 r5 → ∀ μ8 : sm_Mem, μ8 = sm_st μ7 37 8 x3 → w_F_findRichest_45 K J12 p0 p1 x3 μ8)) x3 p0 μ)) x3 μ
def w_F_findRichest (K : sm_Mem → Prop) (p0 : Int32) (p1 : Int32) (μ : sm_Mem) : Prop := ∀ μ1 : sm_Mem, μ1 = sm_st μ 37 7 (-1) → ∀ μ2 : sm_Mem, μ2 = sm_st μ1 37 8 0 → w_F_findRichest_12 K p0 p1 0 μ2
set_option maxHeartbeats 4000000 in
set_option maxRecDepth 100000 in
theorem P_F_findRichest (l : Launch) {K : sm_Mem → Prop} {p0 : Int32} {p1 : Int32} {μ : sm_Mem} (h : w_F_findRichest K p0 p1 μ) : sm_MV l ⟨"SnowMoney$Foresight", "findRichest", "(II)V"⟩ prog_3_method_18_code 5 { frames := 6, cells := 0, slots := 0, locals := 148 } [sm_R 37, sm_I p0, sm_I p1] μ K := by
  refine sm_ofV (by decide +kernel) (fun _ => Nat.le_of_ble_eq_true rfl) ?_
  intro p e s m args below meth c A Q G C hR
  have B45 : ∀ (x3 : Int32) (J12 : Int32 → sm_Mem → Prop) (hJ12 : ∀ (x3 : Int32) (μ : sm_Mem), J12 x3 μ → sm_W p l e { frames := 6, cells := 0, slots := 0, locals := 148 } s m args below meth c A Q G 5 0 0 12 [] [(0, sm_R 37), (1, sm_I p0), (2, sm_I p1), (3, sm_I x3)] μ) (μ : sm_Mem), w_F_findRichest_45 K J12 p0 p1 x3 μ → sm_W p l e { frames := 6, cells := 0, slots := 0, locals := 148 } s m args below meth c A Q G 5 0 0 45 [] [(0, sm_R 37), (1, sm_I p0), (2, sm_I p1), (3, sm_I x3)] μ := by
    intro x3 J12 hJ12 μ h
    refine sr_iinc C 3 rfl (by decide) d_F_findRichest_45 rfl ?_
    refine sr_goto C (tgt := 12) (by decide) d_F_findRichest_48 ?_
    refine sr_mask C [1, 2, 3, 0] rfl ?_
    exact hJ12 _ _ h
  have B12 : ∀ (x3 : Int32) (μ : sm_Mem), w_F_findRichest_12 K p0 p1 x3 μ → sm_W p l e { frames := 6, cells := 0, slots := 0, locals := 148 } s m args below meth c A Q G 5 0 0 12 [] [(0, sm_R 37), (1, sm_I p0), (2, sm_I p1), (3, sm_I x3)] μ := by
    intro x3 μ h
    refine sm_lp1_sound (P := fun x3 μ => sm_W p l e { frames := 6, cells := 0, slots := 0, locals := 148 } s m args below meth c A Q G 5 0 0 12 [] [(0, sm_R 37), (1, sm_I p0), (2, sm_I p1), (3, sm_I x3)] μ) (fun J12 x3 μ hJ12 h => ?_) h
    refine sr_iload_n C 3 rfl rfl d_F_findRichest_12 ?_
    refine sr_iload_n C 2 rfl rfl d_F_findRichest_13 ?_
    refine sr_icmp_gt C (tgt := 51) d_F_findRichest_14 (by decide) (fun c3 => ?_) (fun c3 => ?_)
    · replace h := Eq.mp (if_pos c3) h
      exact hR _ _ _ d_F_findRichest_51 h
    · replace h := Eq.mp (if_neg c3) h
      refine sr_aload_n C 0 rfl rfl d_F_findRichest_17 ?_
      refine sr_iload_n C 3 rfl rfl d_F_findRichest_18 ?_
      refine sr_iload_n C 1 rfl rfl d_F_findRichest_19 ?_
      refine sr_callVI C [sm_I _, sm_I _] (P_F_worthBehind l h) ok_79 sm_l37 rfl rfl rfl rfl ⟨Nat.le_of_ble_eq_true rfl, Nat.le_of_ble_eq_true rfl⟩ (Nat.le_of_ble_eq_true rfl) ⟨Nat.zero_le _, Nat.zero_le _⟩ d_F_findRichest_20 (fun r5 μ4 h => ?_)
      refine sr_istore C (by decide) d_F_findRichest_23 ?_
      refine sr_iload C 0 rfl d_F_findRichest_25 ?_
      refine sr_aload_n C 1 rfl rfl d_F_findRichest_27 ?_
      refine sr_getI C sm_F1 7 q_253 sm_l37 rfl (by decide) d_F_findRichest_28 ?_
      refine sr_icmp_le C (tgt := 45) d_F_findRichest_31 (by decide) (fun c6 => ?_) (fun c6 => ?_)
      · replace h := Eq.mp (if_pos c6) h
        refine sr_mask C [1, 2, 3, 4] rfl ?_
        exact B45 _ _ hJ12 _ h
      · replace h := Eq.mp (if_neg c6) h
        refine sr_aload_n C 1 rfl rfl d_F_findRichest_34 ?_
        refine sr_iload C 0 rfl d_F_findRichest_35 ?_
        refine sr_putI C sm_F1 7 q_253 sm_l37 rfl rfl (by decide) rfl d_F_findRichest_37 ?_
        replace h := h _ rfl
        refine sr_aload_n C 1 rfl rfl d_F_findRichest_40 ?_
        refine sr_iload_n C 4 rfl rfl d_F_findRichest_41 ?_
        refine sr_putI C sm_F1 8 q_254 sm_l37 rfl rfl (by decide) rfl d_F_findRichest_42 ?_
        replace h := h _ rfl
        refine sr_mask C [1, 2, 3, 4] rfl ?_
        exact B45 _ _ hJ12 _ h
  refine sr_aload_n C 0 rfl rfl d_F_findRichest_0 ?_
  refine sr_iconst C (v := (-1)) d_F_findRichest_1 (by decide) ?_
  refine sr_putI C sm_F1 7 q_253 sm_l37 rfl rfl (by decide) rfl d_F_findRichest_2 ?_
  replace h := h _ rfl
  refine sr_aload_n C 0 rfl rfl d_F_findRichest_5 ?_
  refine sr_iconst C (v := 0) d_F_findRichest_6 (by decide) ?_
  refine sr_putI C sm_F1 8 q_254 sm_l37 rfl rfl (by decide) rfl d_F_findRichest_7 ?_
  replace h := h _ rfl
  refine sr_iconst C (v := 0) d_F_findRichest_10 (by decide) ?_
  refine sr_istore_n C rfl (by decide) d_F_findRichest_11 ?_
  refine sr_mask C [1, 2, 3, 0] rfl ?_
  exact B12 _ _ h
theorem d_F_leftOfAll_0 : decode prog_3_method_5_code 0 = .ok (.iconst 0, 1) := by decide +kernel
theorem d_F_leftOfAll_1 : decode prog_3_method_5_code 1 = .ok (.istore_n 3, 1) := by decide +kernel
theorem d_F_leftOfAll_2 : decode prog_3_method_5_code 2 = .ok (.iconst 0, 1) := by decide +kernel
theorem d_F_leftOfAll_3 : decode prog_3_method_5_code 3 = .ok (.istore 4, 2) := by decide +kernel
theorem d_F_leftOfAll_5 : decode prog_3_method_5_code 5 = .ok (.iload 4, 2) := by decide +kernel
theorem d_F_leftOfAll_7 : decode prog_3_method_5_code 7 = .ok (.aload_n 0, 1) := by decide +kernel
theorem d_F_leftOfAll_8 : decode prog_3_method_5_code 8 = .ok (.getfield 29, 3) := by decide +kernel
theorem d_F_leftOfAll_11 : decode prog_3_method_5_code 11 = .ok (.getfield 76, 3) := by decide +kernel
theorem d_F_leftOfAll_14 : decode prog_3_method_5_code 14 = .ok (.if_icmp .ge 37, 3) := by decide +kernel
theorem d_F_leftOfAll_17 : decode prog_3_method_5_code 17 = .ok (.iload_n 3, 1) := by decide +kernel
theorem d_F_leftOfAll_18 : decode prog_3_method_5_code 18 = .ok (.aload_n 0, 1) := by decide +kernel
theorem d_F_leftOfAll_19 : decode prog_3_method_5_code 19 = .ok (.iload 4, 2) := by decide +kernel
theorem d_F_leftOfAll_21 : decode prog_3_method_5_code 21 = .ok (.aload_n 0, 1) := by decide +kernel
theorem d_F_leftOfAll_22 : decode prog_3_method_5_code 22 = .ok (.getfield 29, 3) := by decide +kernel
theorem d_F_leftOfAll_25 : decode prog_3_method_5_code 25 = .ok (.iload 4, 2) := by decide +kernel
theorem d_F_leftOfAll_27 : decode prog_3_method_5_code 27 = .ok (.invokevirtual 79, 3) := by decide +kernel
theorem d_F_leftOfAll_30 : decode prog_3_method_5_code 30 = .ok (.iload_n 1, 1) := by decide +kernel
theorem d_F_leftOfAll_31 : decode prog_3_method_5_code 31 = .ok (.iadd, 1) := by decide +kernel
theorem d_F_leftOfAll_32 : decode prog_3_method_5_code 32 = .ok (.aload_n 0, 1) := by decide +kernel
theorem d_F_leftOfAll_33 : decode prog_3_method_5_code 33 = .ok (.getfield 29, 3) := by decide +kernel
theorem d_F_leftOfAll_36 : decode prog_3_method_5_code 36 = .ok (.getfield 83, 3) := by decide +kernel
theorem d_F_leftOfAll_39 : decode prog_3_method_5_code 39 = .ok (.iload_n 2, 1) := by decide +kernel
theorem d_F_leftOfAll_40 : decode prog_3_method_5_code 40 = .ok (.invokevirtual 86, 3) := by decide +kernel
theorem d_F_leftOfAll_43 : decode prog_3_method_5_code 43 = .ok (.iadd, 1) := by decide +kernel
theorem d_F_leftOfAll_44 : decode prog_3_method_5_code 44 = .ok (.istore_n 3, 1) := by decide +kernel
theorem d_F_leftOfAll_45 : decode prog_3_method_5_code 45 = .ok (.iinc 4 1, 3) := by decide +kernel
theorem d_F_leftOfAll_48 : decode prog_3_method_5_code 48 = .ok (.goto (-43), 3) := by decide +kernel
theorem d_F_leftOfAll_51 : decode prog_3_method_5_code 51 = .ok (.iload_n 3, 1) := by decide +kernel
theorem d_F_leftOfAll_52 : decode prog_3_method_5_code 52 = .ok (.ireturn, 1) := by decide +kernel
def w_F_leftOfAll_5 (K : Int32 → sm_Mem → Prop) (p0 : Int32) (p1 : Int32) (x3 : Int32) (x4 : Int32) (μ : sm_Mem) : Prop := sm_lp2 (fun J5 x3 x4 μ => if (μ 1 12) ≤ x4 then K x3 μ else (w_D_warmthAround (fun r3 μ2 => w_F_leftBy (fun r5 μ4 => ∀ v6 : Int32, v6 = (x3 + r5) → J5 v6 (x4 + 1) μ4) x4 (r3 + p0) (μ2 1 13) p1 μ2) x4 μ)) x3 x4 μ
def w_F_leftOfAll (K : Int32 → sm_Mem → Prop) (p0 : Int32) (p1 : Int32) (μ : sm_Mem) : Prop := w_F_leftOfAll_5 K p0 p1 0 0 μ
set_option maxHeartbeats 4000000 in
set_option maxRecDepth 100000 in
theorem P_F_leftOfAll (l : Launch) {K : Int32 → sm_Mem → Prop} {p0 : Int32} {p1 : Int32} {μ : sm_Mem} (h : w_F_leftOfAll K p0 p1 μ) : sm_MI l ⟨"SnowMoney$Foresight", "leftOfAll", "(II)I"⟩ prog_3_method_5_code 5 (some .int) { frames := 5, cells := 0, slots := 0, locals := 123 } [sm_R 37, sm_I p0, sm_I p1] μ K := by
  refine sm_ofI (by decide +kernel) (fun _ => Nat.le_of_ble_eq_true rfl) ?_
  intro p e s m args below meth c A Q G C hR
  have B5 : ∀ (x3 : Int32) (x4 : Int32) (μ : sm_Mem), w_F_leftOfAll_5 K p0 p1 x3 x4 μ → sm_W p l e { frames := 5, cells := 0, slots := 0, locals := 123 } s m args below meth c A Q G 5 0 0 5 [] [(0, sm_R 37), (1, sm_I p0), (2, sm_I p1), (3, sm_I x3), (4, sm_I x4)] μ := by
    intro x3 x4 μ h
    refine sm_lp2_sound (P := fun x3 x4 μ => sm_W p l e { frames := 5, cells := 0, slots := 0, locals := 123 } s m args below meth c A Q G 5 0 0 5 [] [(0, sm_R 37), (1, sm_I p0), (2, sm_I p1), (3, sm_I x3), (4, sm_I x4)] μ) (fun J5 x3 x4 μ hJ5 h => ?_) h
    refine sr_iload C 4 rfl d_F_leftOfAll_5 ?_
    refine sr_aload_n C 0 rfl rfl d_F_leftOfAll_7 ?_
    refine sr_getR C sm_F1 0 q_220 sm_l37 (r := 1) rfl (by decide) d_F_leftOfAll_8 ?_
    refine sr_getI C sm_F0 12 q_255 sm_l1 rfl (by decide) d_F_leftOfAll_11 ?_
    refine sr_icmp_ge C (tgt := 51) d_F_leftOfAll_14 (by decide) (fun c1 => ?_) (fun c1 => ?_)
    · replace h := Eq.mp (if_pos c1) h
      refine sr_iload_n C 3 rfl rfl d_F_leftOfAll_51 ?_
      exact hR _ _ _ _ d_F_leftOfAll_52 rfl h
    · replace h := Eq.mp (if_neg c1) h
      refine sr_iload_n C 3 rfl rfl d_F_leftOfAll_17 ?_
      refine sr_aload_n C 0 rfl rfl d_F_leftOfAll_18 ?_
      refine sr_iload C 4 rfl d_F_leftOfAll_19 ?_
      refine sr_aload_n C 0 rfl rfl d_F_leftOfAll_21 ?_
      refine sr_getR C sm_F1 0 q_220 sm_l37 (r := 1) rfl (by decide) d_F_leftOfAll_22 ?_
      refine sr_iload C 4 rfl d_F_leftOfAll_25 ?_
      refine sr_callVI C [sm_I _] (P_D_warmthAround l h) ok_55 sm_l1 rfl rfl rfl rfl ⟨Nat.le_of_ble_eq_true rfl, Nat.le_of_ble_eq_true rfl⟩ (Nat.le_of_ble_eq_true rfl) ⟨Nat.zero_le _, Nat.zero_le _⟩ d_F_leftOfAll_27 (fun r3 μ2 h => ?_)
      refine sr_iload_n C 1 rfl rfl d_F_leftOfAll_30 ?_
      refine sr_iadd C d_F_leftOfAll_31 ?_
      refine sr_aload_n C 0 rfl rfl d_F_leftOfAll_32 ?_
      refine sr_getR C sm_F1 0 q_220 sm_l37 (r := 1) rfl (by decide) d_F_leftOfAll_33 ?_
      refine sr_getI C sm_F0 13 q_261 sm_l1 rfl (by decide) d_F_leftOfAll_36 ?_
      refine sr_iload_n C 2 rfl rfl d_F_leftOfAll_39 ?_
      refine sr_callVI C [sm_I _, sm_I _, sm_I _, sm_I _] (P_F_leftBy l h) ok_56 sm_l37 rfl rfl rfl rfl ⟨Nat.le_of_ble_eq_true rfl, Nat.le_of_ble_eq_true rfl⟩ (Nat.le_of_ble_eq_true rfl) ⟨Nat.zero_le _, Nat.zero_le _⟩ d_F_leftOfAll_40 (fun r5 μ4 h => ?_)
      refine sr_iadd C d_F_leftOfAll_43 ?_
      replace h := h _ rfl
      refine sr_istore_n C rfl (by decide) d_F_leftOfAll_44 ?_
      refine sr_iinc C 4 rfl (by decide) d_F_leftOfAll_45 rfl ?_
      refine sr_goto C (tgt := 5) (by decide) d_F_leftOfAll_48 ?_
      refine sr_mask C [2, 3, 4, 1, 0] rfl ?_
      exact hJ5 _ _ _ h
  refine sr_iconst C (v := 0) d_F_leftOfAll_0 (by decide) ?_
  refine sr_istore_n C rfl (by decide) d_F_leftOfAll_1 ?_
  refine sr_iconst C (v := 0) d_F_leftOfAll_2 (by decide) ?_
  refine sr_istore C (by decide) d_F_leftOfAll_3 ?_
  refine sr_mask C [2, 3, 4, 1, 0] rfl ?_
  exact B5 _ _ _ h
theorem d_F_weathersThatLeave_0 : decode prog_3_method_19_code 0 = .ok (.iconst 0, 1) := by decide +kernel
theorem d_F_weathersThatLeave_1 : decode prog_3_method_19_code 1 = .ok (.istore_n 3, 1) := by decide +kernel
theorem d_F_weathersThatLeave_2 : decode prog_3_method_19_code 2 = .ok (.iconst 0, 1) := by decide +kernel
theorem d_F_weathersThatLeave_3 : decode prog_3_method_19_code 3 = .ok (.istore 4, 2) := by decide +kernel
theorem d_F_weathersThatLeave_5 : decode prog_3_method_19_code 5 = .ok (.iload 4, 2) := by decide +kernel
theorem d_F_weathersThatLeave_7 : decode prog_3_method_19_code 7 = .ok (.bipush 9, 2) := by decide +kernel
theorem d_F_weathersThatLeave_9 : decode prog_3_method_19_code 9 = .ok (.if_icmp .gt 31, 3) := by decide +kernel
theorem d_F_weathersThatLeave_12 : decode prog_3_method_19_code 12 = .ok (.aload_n 0, 1) := by decide +kernel
theorem d_F_weathersThatLeave_13 : decode prog_3_method_19_code 13 = .ok (.iload_n 1, 1) := by decide +kernel
theorem d_F_weathersThatLeave_14 : decode prog_3_method_19_code 14 = .ok (.aload_n 0, 1) := by decide +kernel
theorem d_F_weathersThatLeave_15 : decode prog_3_method_19_code 15 = .ok (.getfield 29, 3) := by decide +kernel
theorem d_F_weathersThatLeave_18 : decode prog_3_method_19_code 18 = .ok (.iload_n 1, 1) := by decide +kernel
theorem d_F_weathersThatLeave_19 : decode prog_3_method_19_code 19 = .ok (.invokevirtual 79, 3) := by decide +kernel
theorem d_F_weathersThatLeave_22 : decode prog_3_method_19_code 22 = .ok (.iload 4, 2) := by decide +kernel
theorem d_F_weathersThatLeave_24 : decode prog_3_method_19_code 24 = .ok (.iload_n 2, 1) := by decide +kernel
theorem d_F_weathersThatLeave_25 : decode prog_3_method_19_code 25 = .ok (.invokevirtual 86, 3) := by decide +kernel
theorem d_F_weathersThatLeave_28 : decode prog_3_method_19_code 28 = .ok (.ifCond .le 6, 3) := by decide +kernel
theorem d_F_weathersThatLeave_31 : decode prog_3_method_19_code 31 = .ok (.iinc 3 1, 3) := by decide +kernel
theorem d_F_weathersThatLeave_34 : decode prog_3_method_19_code 34 = .ok (.iinc 4 1, 3) := by decide +kernel
theorem d_F_weathersThatLeave_37 : decode prog_3_method_19_code 37 = .ok (.goto (-32), 3) := by decide +kernel
theorem d_F_weathersThatLeave_40 : decode prog_3_method_19_code 40 = .ok (.iload_n 3, 1) := by decide +kernel
theorem d_F_weathersThatLeave_41 : decode prog_3_method_19_code 41 = .ok (.ireturn, 1) := by decide +kernel
def w_F_weathersThatLeave_34 (K : Int32 → sm_Mem → Prop) (J5 : Int32 → Int32 → sm_Mem → Prop) (p0 : Int32) (p1 : Int32) (x3 : Int32) (x4 : Int32) (μ : sm_Mem) : Prop := J5 x3 (x4 + 1) μ
def w_F_weathersThatLeave_5 (K : Int32 → sm_Mem → Prop) (p0 : Int32) (p1 : Int32) (x3 : Int32) (x4 : Int32) (μ : sm_Mem) : Prop := sm_lp2 (fun J5 x3 x4 μ => if 9 < x4 then K x3 μ else w_D_warmthAround (fun r3 μ2 => w_F_leftBy (fun r5 μ4 => if r5 ≤ 0 then w_F_weathersThatLeave_34 K J5 p0 p1 x3 x4 μ4 else w_F_weathersThatLeave_34 K J5 p0 p1 (x3 + 1) x4 μ4) p0 r3 x4 p1 μ2) p0 μ) x3 x4 μ
def w_F_weathersThatLeave (K : Int32 → sm_Mem → Prop) (p0 : Int32) (p1 : Int32) (μ : sm_Mem) : Prop := w_F_weathersThatLeave_5 K p0 p1 0 0 μ
set_option maxHeartbeats 4000000 in
set_option maxRecDepth 100000 in
theorem P_F_weathersThatLeave (l : Launch) {K : Int32 → sm_Mem → Prop} {p0 : Int32} {p1 : Int32} {μ : sm_Mem} (h : w_F_weathersThatLeave K p0 p1 μ) : sm_MI l ⟨"SnowMoney$Foresight", "weathersThatLeave", "(II)I"⟩ prog_3_method_19_code 5 (some .int) { frames := 5, cells := 0, slots := 0, locals := 123 } [sm_R 37, sm_I p0, sm_I p1] μ K := by
  refine sm_ofI (by decide +kernel) (fun _ => Nat.le_of_ble_eq_true rfl) ?_
  intro p e s m args below meth c A Q G C hR
  have B34 : ∀ (x3 : Int32) (x4 : Int32) (J5 : Int32 → Int32 → sm_Mem → Prop) (hJ5 : ∀ (x3 : Int32) (x4 : Int32) (μ : sm_Mem), J5 x3 x4 μ → sm_W p l e { frames := 5, cells := 0, slots := 0, locals := 123 } s m args below meth c A Q G 5 0 0 5 [] [(0, sm_R 37), (1, sm_I p0), (2, sm_I p1), (3, sm_I x3), (4, sm_I x4)] μ) (μ : sm_Mem), w_F_weathersThatLeave_34 K J5 p0 p1 x3 x4 μ → sm_W p l e { frames := 5, cells := 0, slots := 0, locals := 123 } s m args below meth c A Q G 5 0 0 34 [] [(0, sm_R 37), (1, sm_I p0), (2, sm_I p1), (3, sm_I x3), (4, sm_I x4)] μ := by
    intro x3 x4 J5 hJ5 μ h
    refine sr_iinc C 4 rfl (by decide) d_F_weathersThatLeave_34 rfl ?_
    refine sr_goto C (tgt := 5) (by decide) d_F_weathersThatLeave_37 ?_
    refine sr_mask C [1, 2, 3, 4, 0] rfl ?_
    exact hJ5 _ _ _ h
  have B5 : ∀ (x3 : Int32) (x4 : Int32) (μ : sm_Mem), w_F_weathersThatLeave_5 K p0 p1 x3 x4 μ → sm_W p l e { frames := 5, cells := 0, slots := 0, locals := 123 } s m args below meth c A Q G 5 0 0 5 [] [(0, sm_R 37), (1, sm_I p0), (2, sm_I p1), (3, sm_I x3), (4, sm_I x4)] μ := by
    intro x3 x4 μ h
    refine sm_lp2_sound (P := fun x3 x4 μ => sm_W p l e { frames := 5, cells := 0, slots := 0, locals := 123 } s m args below meth c A Q G 5 0 0 5 [] [(0, sm_R 37), (1, sm_I p0), (2, sm_I p1), (3, sm_I x3), (4, sm_I x4)] μ) (fun J5 x3 x4 μ hJ5 h => ?_) h
    refine sr_iload C 4 rfl d_F_weathersThatLeave_5 ?_
    refine sr_bipush C (v := 9) d_F_weathersThatLeave_7 (by decide) ?_
    refine sr_icmp_gt C (tgt := 40) d_F_weathersThatLeave_9 (by decide) (fun c1 => ?_) (fun c1 => ?_)
    · replace h := Eq.mp (if_pos c1) h
      refine sr_iload_n C 3 rfl rfl d_F_weathersThatLeave_40 ?_
      exact hR _ _ _ _ d_F_weathersThatLeave_41 rfl h
    · replace h := Eq.mp (if_neg c1) h
      refine sr_aload_n C 0 rfl rfl d_F_weathersThatLeave_12 ?_
      refine sr_iload_n C 1 rfl rfl d_F_weathersThatLeave_13 ?_
      refine sr_aload_n C 0 rfl rfl d_F_weathersThatLeave_14 ?_
      refine sr_getR C sm_F1 0 q_220 sm_l37 (r := 1) rfl (by decide) d_F_weathersThatLeave_15 ?_
      refine sr_iload_n C 1 rfl rfl d_F_weathersThatLeave_18 ?_
      refine sr_callVI C [sm_I _] (P_D_warmthAround l h) ok_55 sm_l1 rfl rfl rfl rfl ⟨Nat.le_of_ble_eq_true rfl, Nat.le_of_ble_eq_true rfl⟩ (Nat.le_of_ble_eq_true rfl) ⟨Nat.zero_le _, Nat.zero_le _⟩ d_F_weathersThatLeave_19 (fun r3 μ2 h => ?_)
      refine sr_iload C 4 rfl d_F_weathersThatLeave_22 ?_
      refine sr_iload_n C 2 rfl rfl d_F_weathersThatLeave_24 ?_
      refine sr_callVI C [sm_I _, sm_I _, sm_I _, sm_I _] (P_F_leftBy l h) ok_56 sm_l37 rfl rfl rfl rfl ⟨Nat.le_of_ble_eq_true rfl, Nat.le_of_ble_eq_true rfl⟩ (Nat.le_of_ble_eq_true rfl) ⟨Nat.zero_le _, Nat.zero_le _⟩ d_F_weathersThatLeave_25 (fun r5 μ4 h => ?_)
      refine sr_if_le C (tgt := 34) d_F_weathersThatLeave_28 (by decide) (fun c6 => ?_) (fun c6 => ?_)
      · replace h := Eq.mp (if_pos c6) h
        exact B34 _ _ _ hJ5 _ h
      · replace h := Eq.mp (if_neg c6) h
        refine sr_iinc C 3 rfl (by decide) d_F_weathersThatLeave_31 rfl ?_
        refine sr_mask C [1, 2, 3, 0, 4] rfl ?_
        exact B34 _ _ _ hJ5 _ h
  refine sr_iconst C (v := 0) d_F_weathersThatLeave_0 (by decide) ?_
  refine sr_istore_n C rfl (by decide) d_F_weathersThatLeave_1 ?_
  refine sr_iconst C (v := 0) d_F_weathersThatLeave_2 (by decide) ?_
  refine sr_istore C (by decide) d_F_weathersThatLeave_3 ?_
  refine sr_mask C [2, 3, 4, 1, 0] rfl ?_
  exact B5 _ _ _ h
theorem d_F_firstWrongTold_0 : decode prog_3_method_20_code 0 = .ok (.aload_n 0, 1) := by decide +kernel
theorem d_F_firstWrongTold_1 : decode prog_3_method_20_code 1 = .ok (.getfield 20, 3) := by decide +kernel
theorem d_F_firstWrongTold_4 : decode prog_3_method_20_code 4 = .ok (.iconst 0, 1) := by decide +kernel
theorem d_F_firstWrongTold_5 : decode prog_3_method_20_code 5 = .ok (.invokestatic 121, 3) := by decide +kernel
theorem d_F_firstWrongTold_8 : decode prog_3_method_20_code 8 = .ok (.iconst 0, 1) := by decide +kernel
theorem d_F_firstWrongTold_9 : decode prog_3_method_20_code 9 = .ok (.istore_n 1, 1) := by decide +kernel
theorem d_F_firstWrongTold_10 : decode prog_3_method_20_code 10 = .ok (.iload_n 1, 1) := by decide +kernel
theorem d_F_firstWrongTold_11 : decode prog_3_method_20_code 11 = .ok (.aload_n 0, 1) := by decide +kernel
theorem d_F_firstWrongTold_12 : decode prog_3_method_20_code 12 = .ok (.getfield 29, 3) := by decide +kernel
theorem d_F_firstWrongTold_15 : decode prog_3_method_20_code 15 = .ok (.getfield 76, 3) := by decide +kernel
theorem d_F_firstWrongTold_18 : decode prog_3_method_20_code 18 = .ok (.if_icmp .ge 71, 3) := by decide +kernel
theorem d_F_firstWrongTold_21 : decode prog_3_method_20_code 21 = .ok (.aload_n 0, 1) := by decide +kernel
theorem d_F_firstWrongTold_22 : decode prog_3_method_20_code 22 = .ok (.iload_n 1, 1) := by decide +kernel
theorem d_F_firstWrongTold_23 : decode prog_3_method_20_code 23 = .ok (.aload_n 0, 1) := by decide +kernel
theorem d_F_firstWrongTold_24 : decode prog_3_method_20_code 24 = .ok (.getfield 29, 3) := by decide +kernel
theorem d_F_firstWrongTold_27 : decode prog_3_method_20_code 27 = .ok (.iload_n 1, 1) := by decide +kernel
theorem d_F_firstWrongTold_28 : decode prog_3_method_20_code 28 = .ok (.invokevirtual 79, 3) := by decide +kernel
theorem d_F_firstWrongTold_31 : decode prog_3_method_20_code 31 = .ok (.aload_n 0, 1) := by decide +kernel
theorem d_F_firstWrongTold_32 : decode prog_3_method_20_code 32 = .ok (.getfield 29, 3) := by decide +kernel
theorem d_F_firstWrongTold_35 : decode prog_3_method_20_code 35 = .ok (.getfield 83, 3) := by decide +kernel
theorem d_F_firstWrongTold_38 : decode prog_3_method_20_code 38 = .ok (.aload_n 0, 1) := by decide +kernel
theorem d_F_firstWrongTold_39 : decode prog_3_method_20_code 39 = .ok (.getfield 29, 3) := by decide +kernel
theorem d_F_firstWrongTold_42 : decode prog_3_method_20_code 42 = .ok (.getfield 157, 3) := by decide +kernel
theorem d_F_firstWrongTold_45 : decode prog_3_method_20_code 45 = .ok (.invokevirtual 86, 3) := by decide +kernel
theorem d_F_firstWrongTold_48 : decode prog_3_method_20_code 48 = .ok (.pop, 1) := by decide +kernel
theorem d_F_firstWrongTold_49 : decode prog_3_method_20_code 49 = .ok (.iconst 0, 1) := by decide +kernel
theorem d_F_firstWrongTold_50 : decode prog_3_method_20_code 50 = .ok (.istore_n 2, 1) := by decide +kernel
theorem d_F_firstWrongTold_51 : decode prog_3_method_20_code 51 = .ok (.iload_n 2, 1) := by decide +kernel
theorem d_F_firstWrongTold_52 : decode prog_3_method_20_code 52 = .ok (.aload_n 0, 1) := by decide +kernel
theorem d_F_firstWrongTold_53 : decode prog_3_method_20_code 53 = .ok (.getfield 29, 3) := by decide +kernel
theorem d_F_firstWrongTold_56 : decode prog_3_method_20_code 56 = .ok (.getfield 157, 3) := by decide +kernel
theorem d_F_firstWrongTold_59 : decode prog_3_method_20_code 59 = .ok (.if_icmp .gt 24, 3) := by decide +kernel
theorem d_F_firstWrongTold_62 : decode prog_3_method_20_code 62 = .ok (.aload_n 0, 1) := by decide +kernel
theorem d_F_firstWrongTold_63 : decode prog_3_method_20_code 63 = .ok (.getfield 20, 3) := by decide +kernel
theorem d_F_firstWrongTold_66 : decode prog_3_method_20_code 66 = .ok (.iload_n 2, 1) := by decide +kernel
theorem d_F_firstWrongTold_67 : decode prog_3_method_20_code 67 = .ok (.dup2, 1) := by decide +kernel
theorem d_F_firstWrongTold_68 : decode prog_3_method_20_code 68 = .ok (.iaload, 1) := by decide +kernel
theorem d_F_firstWrongTold_69 : decode prog_3_method_20_code 69 = .ok (.aload_n 0, 1) := by decide +kernel
theorem d_F_firstWrongTold_70 : decode prog_3_method_20_code 70 = .ok (.getfield 17, 3) := by decide +kernel
theorem d_F_firstWrongTold_73 : decode prog_3_method_20_code 73 = .ok (.iload_n 2, 1) := by decide +kernel
theorem d_F_firstWrongTold_74 : decode prog_3_method_20_code 74 = .ok (.iaload, 1) := by decide +kernel
theorem d_F_firstWrongTold_75 : decode prog_3_method_20_code 75 = .ok (.iadd, 1) := by decide +kernel
theorem d_F_firstWrongTold_76 : decode prog_3_method_20_code 76 = .ok (.iastore, 1) := by decide +kernel
theorem d_F_firstWrongTold_77 : decode prog_3_method_20_code 77 = .ok (.iinc 2 1, 3) := by decide +kernel
theorem d_F_firstWrongTold_80 : decode prog_3_method_20_code 80 = .ok (.goto (-29), 3) := by decide +kernel
theorem d_F_firstWrongTold_83 : decode prog_3_method_20_code 83 = .ok (.iinc 1 1, 3) := by decide +kernel
theorem d_F_firstWrongTold_86 : decode prog_3_method_20_code 86 = .ok (.goto (-76), 3) := by decide +kernel
theorem d_F_firstWrongTold_89 : decode prog_3_method_20_code 89 = .ok (.iconst 0, 1) := by decide +kernel
theorem d_F_firstWrongTold_90 : decode prog_3_method_20_code 90 = .ok (.istore_n 1, 1) := by decide +kernel
theorem d_F_firstWrongTold_91 : decode prog_3_method_20_code 91 = .ok (.iload_n 1, 1) := by decide +kernel
theorem d_F_firstWrongTold_92 : decode prog_3_method_20_code 92 = .ok (.aload_n 0, 1) := by decide +kernel
theorem d_F_firstWrongTold_93 : decode prog_3_method_20_code 93 = .ok (.getfield 29, 3) := by decide +kernel
theorem d_F_firstWrongTold_96 : decode prog_3_method_20_code 96 = .ok (.getfield 157, 3) := by decide +kernel
theorem d_F_firstWrongTold_99 : decode prog_3_method_20_code 99 = .ok (.if_icmp .ge 31, 3) := by decide +kernel
theorem d_F_firstWrongTold_102 : decode prog_3_method_20_code 102 = .ok (.aload_n 0, 1) := by decide +kernel
theorem d_F_firstWrongTold_103 : decode prog_3_method_20_code 103 = .ok (.getfield 29, 3) := by decide +kernel
theorem d_F_firstWrongTold_106 : decode prog_3_method_20_code 106 = .ok (.getfield 160, 3) := by decide +kernel
theorem d_F_firstWrongTold_109 : decode prog_3_method_20_code 109 = .ok (.iload_n 1, 1) := by decide +kernel
theorem d_F_firstWrongTold_110 : decode prog_3_method_20_code 110 = .ok (.iaload, 1) := by decide +kernel
theorem d_F_firstWrongTold_111 : decode prog_3_method_20_code 111 = .ok (.aload_n 0, 1) := by decide +kernel
theorem d_F_firstWrongTold_112 : decode prog_3_method_20_code 112 = .ok (.getfield 20, 3) := by decide +kernel
theorem d_F_firstWrongTold_115 : decode prog_3_method_20_code 115 = .ok (.iload_n 1, 1) := by decide +kernel
theorem d_F_firstWrongTold_116 : decode prog_3_method_20_code 116 = .ok (.iconst 1, 1) := by decide +kernel
theorem d_F_firstWrongTold_117 : decode prog_3_method_20_code 117 = .ok (.iadd, 1) := by decide +kernel
theorem d_F_firstWrongTold_118 : decode prog_3_method_20_code 118 = .ok (.iaload, 1) := by decide +kernel
theorem d_F_firstWrongTold_119 : decode prog_3_method_20_code 119 = .ok (.if_icmp .eq 5, 3) := by decide +kernel
theorem d_F_firstWrongTold_122 : decode prog_3_method_20_code 122 = .ok (.iload_n 1, 1) := by decide +kernel
theorem d_F_firstWrongTold_123 : decode prog_3_method_20_code 123 = .ok (.ireturn, 1) := by decide +kernel
theorem d_F_firstWrongTold_124 : decode prog_3_method_20_code 124 = .ok (.iinc 1 1, 3) := by decide +kernel
theorem d_F_firstWrongTold_127 : decode prog_3_method_20_code 127 = .ok (.goto (-36), 3) := by decide +kernel
theorem d_F_firstWrongTold_130 : decode prog_3_method_20_code 130 = .ok (.iconst (-1), 1) := by decide +kernel
theorem d_F_firstWrongTold_131 : decode prog_3_method_20_code 131 = .ok (.ireturn, 1) := by decide +kernel
def w_F_firstWrongTold_91 (K : Int32 → sm_Mem → Prop) (x1 : Int32) (μ : sm_Mem) : Prop := sm_lp1 (fun J91 x1 μ => if (μ 1 16) ≤ x1 then K (-1) μ else (vp_in x1 20 ∧ vp_in (x1 + 1) 61 ∧ if (μ 10 x1.toNatClampNeg) = (μ 40 (x1 + 1).toNatClampNeg) then J91 (x1 + 1) μ else K x1 μ)) x1 μ
def w_F_firstWrongTold_51 (K : Int32 → sm_Mem → Prop) (J10 : Int32 → sm_Mem → Prop) (x1 : Int32) (x2 : Int32) (μ : sm_Mem) : Prop := sm_lp1 (fun J51 x2 μ => if (μ 1 16) < x2 then J10 (x1 + 1) μ else (vp_in x2 61 ∧ vp_in x2 61 ∧ vp_in x2 61 ∧ ∀ μ15 : sm_Mem, μ15 = sm_st μ 40 (x2.toNatClampNeg) ((μ 40 x2.toNatClampNeg) + (μ 39 x2.toNatClampNeg)) → J51 (x2 + 1) μ15)) x2 μ
def w_F_firstWrongTold_10 (K : Int32 → sm_Mem → Prop) (x1 : Int32) (μ : sm_Mem) : Prop := sm_lp1 (fun J10 x1 μ => if (μ 1 12) ≤ x1 then w_F_firstWrongTold_91 K 0 μ else w_D_warmthAround (fun r8 μ7 => w_F_leftBy (fun r10 μ9 => w_F_firstWrongTold_51 K J10 x1 0 μ9) x1 r8 (μ7 1 13) (μ7 1 16) μ7) x1 μ) x1 μ
def w_F_firstWrongTold (K : Int32 → sm_Mem → Prop) (μ : sm_Mem) : Prop := w_JA_fill (fun μ1 => w_F_firstWrongTold_10 K 0 μ1) 40 0 61 μ
set_option maxHeartbeats 4000000 in
set_option maxRecDepth 100000 in
theorem P_F_firstWrongTold (l : Launch) {K : Int32 → sm_Mem → Prop} {μ : sm_Mem} (h : w_F_firstWrongTold K μ) : sm_MI l ⟨"SnowMoney$Foresight", "firstWrongTold", "()I"⟩ prog_3_method_20_code 3 (some .int) { frames := 5, cells := 0, slots := 0, locals := 123 } [sm_R 37] μ K := by
  refine sm_ofI (by decide +kernel) (fun _ => Nat.le_of_ble_eq_true rfl) ?_
  intro p e s m args below meth c A Q G C hR
  have B91 : ∀ (x1 : Int32) (μ : sm_Mem), w_F_firstWrongTold_91 K x1 μ → sm_W p l e { frames := 5, cells := 0, slots := 0, locals := 123 } s m args below meth c A Q G 3 0 0 91 [] [(0, sm_R 37), (1, sm_I x1)] μ := by
    intro x1 μ h
    refine sm_lp1_sound (P := fun x1 μ => sm_W p l e { frames := 5, cells := 0, slots := 0, locals := 123 } s m args below meth c A Q G 3 0 0 91 [] [(0, sm_R 37), (1, sm_I x1)] μ) (fun J91 x1 μ hJ91 h => ?_) h
    refine sr_iload_n C 1 rfl rfl d_F_firstWrongTold_91 ?_
    refine sr_aload_n C 0 rfl rfl d_F_firstWrongTold_92 ?_
    refine sr_getR C sm_F1 0 q_220 sm_l37 (r := 1) rfl (by decide) d_F_firstWrongTold_93 ?_
    refine sr_getI C sm_F0 16 q_425 sm_l1 rfl (by decide) d_F_firstWrongTold_96 ?_
    refine sr_icmp_ge C (tgt := 130) d_F_firstWrongTold_99 (by decide) (fun c3 => ?_) (fun c3 => ?_)
    · replace h := Eq.mp (if_pos c3) h
      refine sr_iconst C (v := (-1)) d_F_firstWrongTold_130 (by decide) ?_
      exact hR _ _ _ _ d_F_firstWrongTold_131 rfl h
    · replace h := Eq.mp (if_neg c3) h
      refine sr_aload_n C 0 rfl rfl d_F_firstWrongTold_102 ?_
      refine sr_getR C sm_F1 0 q_220 sm_l37 (r := 1) rfl (by decide) d_F_firstWrongTold_103 ?_
      refine sr_getR C sm_F0 8 q_426 sm_l1 (r := 10) rfl (by decide) d_F_firstWrongTold_106 ?_
      refine sr_iload_n C 1 rfl rfl d_F_firstWrongTold_109 ?_
      obtain ⟨g4, h⟩ := h
      refine sr_iald C sm_l10 g4 d_F_firstWrongTold_110 ?_
      refine sr_aload_n C 0 rfl rfl d_F_firstWrongTold_111 ?_
      refine sr_getR C sm_F1 3 q_299 sm_l37 (r := 40) rfl (by decide) d_F_firstWrongTold_112 ?_
      refine sr_iload_n C 1 rfl rfl d_F_firstWrongTold_115 ?_
      refine sr_iconst C (v := 1) d_F_firstWrongTold_116 (by decide) ?_
      refine sr_iadd C d_F_firstWrongTold_117 ?_
      obtain ⟨g5, h⟩ := h
      refine sr_iald C sm_l40 g5 d_F_firstWrongTold_118 ?_
      refine sr_icmp_eq C (tgt := 124) d_F_firstWrongTold_119 (by decide) (fun c6 => ?_) (fun c6 => ?_)
      · replace h := Eq.mp (if_pos c6) h
        refine sr_iinc C 1 rfl (by decide) d_F_firstWrongTold_124 rfl ?_
        refine sr_goto C (tgt := 91) (by decide) d_F_firstWrongTold_127 ?_
        refine sr_mask C [1, 0] rfl ?_
        exact hJ91 _ _ h
      · replace h := Eq.mp (if_neg c6) h
        refine sr_iload_n C 1 rfl rfl d_F_firstWrongTold_122 ?_
        exact hR _ _ _ _ d_F_firstWrongTold_123 rfl h
  have B51 : ∀ (x1 : Int32) (x2 : Int32) (J10 : Int32 → sm_Mem → Prop) (hJ10 : ∀ (x1 : Int32) (μ : sm_Mem), J10 x1 μ → sm_W p l e { frames := 5, cells := 0, slots := 0, locals := 123 } s m args below meth c A Q G 3 0 0 10 [] [(0, sm_R 37), (1, sm_I x1)] μ) (μ : sm_Mem), w_F_firstWrongTold_51 K J10 x1 x2 μ → sm_W p l e { frames := 5, cells := 0, slots := 0, locals := 123 } s m args below meth c A Q G 3 0 0 51 [] [(0, sm_R 37), (1, sm_I x1), (2, sm_I x2)] μ := by
    intro x1 x2 J10 hJ10 μ h
    refine sm_lp1_sound (P := fun x2 μ => sm_W p l e { frames := 5, cells := 0, slots := 0, locals := 123 } s m args below meth c A Q G 3 0 0 51 [] [(0, sm_R 37), (1, sm_I x1), (2, sm_I x2)] μ) (fun J51 x2 μ hJ51 h => ?_) h
    refine sr_iload_n C 2 rfl rfl d_F_firstWrongTold_51 ?_
    refine sr_aload_n C 0 rfl rfl d_F_firstWrongTold_52 ?_
    refine sr_getR C sm_F1 0 q_220 sm_l37 (r := 1) rfl (by decide) d_F_firstWrongTold_53 ?_
    refine sr_getI C sm_F0 16 q_425 sm_l1 rfl (by decide) d_F_firstWrongTold_56 ?_
    refine sr_icmp_gt C (tgt := 83) d_F_firstWrongTold_59 (by decide) (fun c11 => ?_) (fun c11 => ?_)
    · replace h := Eq.mp (if_pos c11) h
      refine sr_iinc C 1 rfl (by decide) d_F_firstWrongTold_83 rfl ?_
      refine sr_goto C (tgt := 10) (by decide) d_F_firstWrongTold_86 ?_
      refine sr_mask C [1, 0] rfl ?_
      exact hJ10 _ _ h
    · replace h := Eq.mp (if_neg c11) h
      refine sr_aload_n C 0 rfl rfl d_F_firstWrongTold_62 ?_
      refine sr_getR C sm_F1 3 q_299 sm_l37 (r := 40) rfl (by decide) d_F_firstWrongTold_63 ?_
      refine sr_iload_n C 2 rfl rfl d_F_firstWrongTold_66 ?_
      refine sr_dup2 C rfl rfl d_F_firstWrongTold_67 ?_
      obtain ⟨g12, h⟩ := h
      refine sr_iald C sm_l40 g12 d_F_firstWrongTold_68 ?_
      refine sr_aload_n C 0 rfl rfl d_F_firstWrongTold_69 ?_
      refine sr_getR C sm_F1 2 q_237 sm_l37 (r := 39) rfl (by decide) d_F_firstWrongTold_70 ?_
      refine sr_iload_n C 2 rfl rfl d_F_firstWrongTold_73 ?_
      obtain ⟨g13, h⟩ := h
      refine sr_iald C sm_l39 g13 d_F_firstWrongTold_74 ?_
      refine sr_iadd C d_F_firstWrongTold_75 ?_
      obtain ⟨g14, h⟩ := h
      refine sr_iast C sm_l40 g14 d_F_firstWrongTold_76 ?_
      replace h := h _ rfl
      refine sr_iinc C 2 rfl (by decide) d_F_firstWrongTold_77 rfl ?_
      refine sr_goto C (tgt := 51) (by decide) d_F_firstWrongTold_80 ?_
      refine sr_mask C [1, 2, 0] rfl ?_
      exact hJ51 _ _ h
  have B10 : ∀ (x1 : Int32) (μ : sm_Mem), w_F_firstWrongTold_10 K x1 μ → sm_W p l e { frames := 5, cells := 0, slots := 0, locals := 123 } s m args below meth c A Q G 3 0 0 10 [] [(0, sm_R 37), (1, sm_I x1)] μ := by
    intro x1 μ h
    refine sm_lp1_sound (P := fun x1 μ => sm_W p l e { frames := 5, cells := 0, slots := 0, locals := 123 } s m args below meth c A Q G 3 0 0 10 [] [(0, sm_R 37), (1, sm_I x1)] μ) (fun J10 x1 μ hJ10 h => ?_) h
    refine sr_iload_n C 1 rfl rfl d_F_firstWrongTold_10 ?_
    refine sr_aload_n C 0 rfl rfl d_F_firstWrongTold_11 ?_
    refine sr_getR C sm_F1 0 q_220 sm_l37 (r := 1) rfl (by decide) d_F_firstWrongTold_12 ?_
    refine sr_getI C sm_F0 12 q_255 sm_l1 rfl (by decide) d_F_firstWrongTold_15 ?_
    refine sr_icmp_ge C (tgt := 89) d_F_firstWrongTold_18 (by decide) (fun c2 => ?_) (fun c2 => ?_)
    · replace h := Eq.mp (if_pos c2) h
      refine sr_iconst C (v := 0) d_F_firstWrongTold_89 (by decide) ?_
      refine sr_istore_n C rfl (by decide) d_F_firstWrongTold_90 ?_
      refine sr_mask C [1, 0] rfl ?_
      exact B91 _ _ h
    · replace h := Eq.mp (if_neg c2) h
      refine sr_aload_n C 0 rfl rfl d_F_firstWrongTold_21 ?_
      refine sr_iload_n C 1 rfl rfl d_F_firstWrongTold_22 ?_
      refine sr_aload_n C 0 rfl rfl d_F_firstWrongTold_23 ?_
      refine sr_getR C sm_F1 0 q_220 sm_l37 (r := 1) rfl (by decide) d_F_firstWrongTold_24 ?_
      refine sr_iload_n C 1 rfl rfl d_F_firstWrongTold_27 ?_
      refine sr_callVI C [sm_I _] (P_D_warmthAround l h) ok_55 sm_l1 rfl rfl rfl rfl ⟨Nat.le_of_ble_eq_true rfl, Nat.le_of_ble_eq_true rfl⟩ (Nat.le_of_ble_eq_true rfl) ⟨Nat.zero_le _, Nat.zero_le _⟩ d_F_firstWrongTold_28 (fun r8 μ7 h => ?_)
      refine sr_aload_n C 0 rfl rfl d_F_firstWrongTold_31 ?_
      refine sr_getR C sm_F1 0 q_220 sm_l37 (r := 1) rfl (by decide) d_F_firstWrongTold_32 ?_
      refine sr_getI C sm_F0 13 q_261 sm_l1 rfl (by decide) d_F_firstWrongTold_35 ?_
      refine sr_aload_n C 0 rfl rfl d_F_firstWrongTold_38 ?_
      refine sr_getR C sm_F1 0 q_220 sm_l37 (r := 1) rfl (by decide) d_F_firstWrongTold_39 ?_
      refine sr_getI C sm_F0 16 q_425 sm_l1 rfl (by decide) d_F_firstWrongTold_42 ?_
      refine sr_callVI C [sm_I _, sm_I _, sm_I _, sm_I _] (P_F_leftBy l h) ok_56 sm_l37 rfl rfl rfl rfl ⟨Nat.le_of_ble_eq_true rfl, Nat.le_of_ble_eq_true rfl⟩ (Nat.le_of_ble_eq_true rfl) ⟨Nat.zero_le _, Nat.zero_le _⟩ d_F_firstWrongTold_45 (fun r10 μ9 h => ?_)
      refine sr_pop C rfl d_F_firstWrongTold_48 ?_
      refine sr_iconst C (v := 0) d_F_firstWrongTold_49 (by decide) ?_
      refine sr_istore_n C rfl (by decide) d_F_firstWrongTold_50 ?_
      refine sr_mask C [1, 2, 0] rfl ?_
      exact B51 _ _ _ hJ10 _ h
  refine sr_aload_n C 0 rfl rfl d_F_firstWrongTold_0 ?_
  refine sr_getR C sm_F1 3 q_299 sm_l37 (r := 40) rfl (by decide) d_F_firstWrongTold_1 ?_
  refine sr_iconst C (v := 0) d_F_firstWrongTold_4 (by decide) ?_
  refine sr_callSV C [sm_R _, sm_I _] (P_JA_fill l h) ok_66 rfl rfl rfl ⟨Nat.le_of_ble_eq_true rfl, Nat.le_of_ble_eq_true rfl⟩ (Nat.le_of_ble_eq_true rfl) ⟨Nat.zero_le _, Nat.zero_le _⟩ d_F_firstWrongTold_5 (fun μ1 h => ?_)
  refine sr_iconst C (v := 0) d_F_firstWrongTold_8 (by decide) ?_
  refine sr_istore_n C rfl (by decide) d_F_firstWrongTold_9 ?_
  refine sr_mask C [1, 0] rfl ?_
  exact B10 _ _ h

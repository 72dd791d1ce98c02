theorem d_M_pays_0 : decode prog_10_method_44_code 0 = .ok (.aload_n 0, 1) := by decide +kernel
theorem d_M_pays_1 : decode prog_10_method_44_code 1 = .ok (.iload_n 1, 1) := by decide +kernel
theorem d_M_pays_2 : decode prog_10_method_44_code 2 = .ok (.iconst 2, 1) := by decide +kernel
theorem d_M_pays_3 : decode prog_10_method_44_code 3 = .ok (.invokevirtual 62, 3) := by decide +kernel
theorem d_M_pays_6 : decode prog_10_method_44_code 6 = .ok (.istore_n 2, 1) := by decide +kernel
theorem d_M_pays_7 : decode prog_10_method_44_code 7 = .ok (.aload_n 0, 1) := by decide +kernel
theorem d_M_pays_8 : decode prog_10_method_44_code 8 = .ok (.iconst 1, 1) := by decide +kernel
theorem d_M_pays_9 : decode prog_10_method_44_code 9 = .ok (.iload_n 2, 1) := by decide +kernel
theorem d_M_pays_10 : decode prog_10_method_44_code 10 = .ok (.aload_n 0, 1) := by decide +kernel
theorem d_M_pays_11 : decode prog_10_method_44_code 11 = .ok (.iload_n 1, 1) := by decide +kernel
theorem d_M_pays_12 : decode prog_10_method_44_code 12 = .ok (.iconst 1, 1) := by decide +kernel
theorem d_M_pays_13 : decode prog_10_method_44_code 13 = .ok (.invokevirtual 62, 3) := by decide +kernel
theorem d_M_pays_16 : decode prog_10_method_44_code 16 = .ok (.aload_n 0, 1) := by decide +kernel
theorem d_M_pays_17 : decode prog_10_method_44_code 17 = .ok (.iload_n 1, 1) := by decide +kernel
theorem d_M_pays_18 : decode prog_10_method_44_code 18 = .ok (.iconst 4, 1) := by decide +kernel
theorem d_M_pays_19 : decode prog_10_method_44_code 19 = .ok (.invokevirtual 62, 3) := by decide +kernel
theorem d_M_pays_22 : decode prog_10_method_44_code 22 = .ok (.invokevirtual 156, 3) := by decide +kernel
theorem d_M_pays_25 : decode prog_10_method_44_code 25 = .ok (.ifCond .eq 7, 3) := by decide +kernel
theorem d_M_pays_28 : decode prog_10_method_44_code 28 = .ok (.iconst 0, 1) := by decide +kernel
theorem d_M_pays_29 : decode prog_10_method_44_code 29 = .ok (.goto 4, 3) := by decide +kernel
theorem d_M_pays_32 : decode prog_10_method_44_code 32 = .ok (.iload_n 2, 1) := by decide +kernel
theorem d_M_pays_33 : decode prog_10_method_44_code 33 = .ok (.istore_n 3, 1) := by decide +kernel
theorem d_M_pays_34 : decode prog_10_method_44_code 34 = .ok (.aload_n 0, 1) := by decide +kernel
theorem d_M_pays_35 : decode prog_10_method_44_code 35 = .ok (.iload_n 1, 1) := by decide +kernel
theorem d_M_pays_36 : decode prog_10_method_44_code 36 = .ok (.iconst 0, 1) := by decide +kernel
theorem d_M_pays_37 : decode prog_10_method_44_code 37 = .ok (.invokevirtual 62, 3) := by decide +kernel
theorem d_M_pays_40 : decode prog_10_method_44_code 40 = .ok (.tableswitch 77 1 5 #[36, 54, 60, 40, 56], 36) := by decide +kernel
theorem d_M_pays_76 : decode prog_10_method_44_code 76 = .ok (.iconst 2, 1) := by decide +kernel
theorem d_M_pays_77 : decode prog_10_method_44_code 77 = .ok (.iload_n 2, 1) := by decide +kernel
theorem d_M_pays_78 : decode prog_10_method_44_code 78 = .ok (.imul, 1) := by decide +kernel
theorem d_M_pays_79 : decode prog_10_method_44_code 79 = .ok (.ireturn, 1) := by decide +kernel
theorem d_M_pays_80 : decode prog_10_method_44_code 80 = .ok (.iload_n 2, 1) := by decide +kernel
theorem d_M_pays_81 : decode prog_10_method_44_code 81 = .ok (.ifCond .le 11, 3) := by decide +kernel
theorem d_M_pays_84 : decode prog_10_method_44_code 84 = .ok (.iconst 2, 1) := by decide +kernel
theorem d_M_pays_85 : decode prog_10_method_44_code 85 = .ok (.iload_n 2, 1) := by decide +kernel
theorem d_M_pays_86 : decode prog_10_method_44_code 86 = .ok (.imul, 1) := by decide +kernel
theorem d_M_pays_87 : decode prog_10_method_44_code 87 = .ok (.iconst 5, 1) := by decide +kernel
theorem d_M_pays_88 : decode prog_10_method_44_code 88 = .ok (.iadd, 1) := by decide +kernel
theorem d_M_pays_89 : decode prog_10_method_44_code 89 = .ok (.goto 4, 3) := by decide +kernel
theorem d_M_pays_92 : decode prog_10_method_44_code 92 = .ok (.iconst 0, 1) := by decide +kernel
theorem d_M_pays_93 : decode prog_10_method_44_code 93 = .ok (.ireturn, 1) := by decide +kernel
theorem d_M_pays_94 : decode prog_10_method_44_code 94 = .ok (.iload_n 3, 1) := by decide +kernel
theorem d_M_pays_95 : decode prog_10_method_44_code 95 = .ok (.ireturn, 1) := by decide +kernel
theorem d_M_pays_96 : decode prog_10_method_44_code 96 = .ok (.iload_n 3, 1) := by decide +kernel
theorem d_M_pays_97 : decode prog_10_method_44_code 97 = .ok (.iconst 2, 1) := by decide +kernel
theorem d_M_pays_98 : decode prog_10_method_44_code 98 = .ok (.idiv, 1) := by decide +kernel
theorem d_M_pays_99 : decode prog_10_method_44_code 99 = .ok (.ireturn, 1) := by decide +kernel
theorem d_M_pays_100 : decode prog_10_method_44_code 100 = .ok (.iload_n 2, 1) := by decide +kernel
theorem d_M_pays_101 : decode prog_10_method_44_code 101 = .ok (.ifCond .le 14, 3) := by decide +kernel
theorem d_M_pays_104 : decode prog_10_method_44_code 104 = .ok (.iload_n 2, 1) := by decide +kernel
theorem d_M_pays_105 : decode prog_10_method_44_code 105 = .ok (.aload_n 0, 1) := by decide +kernel
theorem d_M_pays_106 : decode prog_10_method_44_code 106 = .ok (.iload_n 1, 1) := by decide +kernel
theorem d_M_pays_107 : decode prog_10_method_44_code 107 = .ok (.iconst 1, 1) := by decide +kernel
theorem d_M_pays_108 : decode prog_10_method_44_code 108 = .ok (.invokevirtual 62, 3) := by decide +kernel
theorem d_M_pays_111 : decode prog_10_method_44_code 111 = .ok (.iadd, 1) := by decide +kernel
theorem d_M_pays_112 : decode prog_10_method_44_code 112 = .ok (.goto 4, 3) := by decide +kernel
theorem d_M_pays_115 : decode prog_10_method_44_code 115 = .ok (.iconst 0, 1) := by decide +kernel
theorem d_M_pays_116 : decode prog_10_method_44_code 116 = .ok (.ireturn, 1) := by decide +kernel
theorem d_M_pays_117 : decode prog_10_method_44_code 117 = .ok (.iload_n 2, 1) := by decide +kernel
theorem d_M_pays_118 : decode prog_10_method_44_code 118 = .ok (.ireturn, 1) := by decide +kernel
def w_M_pays_33 (K : Int32 → sm_Mem → Prop) (p0 : Int32) (x2 : Int32) (s0 : Int32) (μ : sm_Mem) : Prop := w_M_its (fun r11 μ10 => ∀ v12 : Int32, v12 = r11 → if v12 = 1 then K (2 * x2) μ10 else (if v12 = 2 then K s0 μ10 else (if v12 = 3 then (if x2 ≤ 0 then K 0 μ10 else w_M_its (fun r18 μ17 => K (x2 + r18) μ17) p0 1 μ10) else (if v12 = 4 then (if x2 ≤ 0 then K 0 μ10 else K ((2 * x2) + 5) μ10) else (if v12 = 5 then K (s0 / 2) μ10 else K x2 μ10))))) p0 0 μ
def w_M_pays (K : Int32 → sm_Mem → Prop) (p0 : Int32) (μ : sm_Mem) : Prop := w_M_its (fun r2 μ1 => w_M_its (fun r4 μ3 => w_M_its (fun r6 μ5 => w_M_lawOf (fun r8 μ7 => if r8 = 0 then w_M_pays_33 K p0 r2 r2 μ7 else w_M_pays_33 K p0 r2 0 μ7) 1 r2 r4 r6 μ5) p0 4 μ3) p0 1 μ1) p0 2 μ
set_option maxHeartbeats 4000000 in
set_option maxRecDepth 100000 in
theorem P_M_pays (l : Launch) {K : Int32 → sm_Mem → Prop} {p0 : Int32} {μ : sm_Mem} (h : w_M_pays K p0 μ) : sm_MI l ⟨"SnowMoneyModel", "pays", "(I)I"⟩ prog_10_method_44_code 4 (some .int) { frames := 57, cells := 0, slots := 0, locals := 2192 } [sm_R 61, sm_I p0] μ K := by
  refine sm_ofI (by decide +kernel) (fun _ => Nat.le_of_ble_eq_true rfl) ?_
  intro p e s m args below meth c A Q G C hR
  have B33 : ∀ (x2 : Int32) (s0 : Int32) (μ : sm_Mem), w_M_pays_33 K p0 x2 s0 μ → sm_W p l e { frames := 57, cells := 0, slots := 0, locals := 2192 } s m args below meth c A Q G 4 0 0 33 [sm_I s0] [(0, sm_R 61), (1, sm_I p0), (2, sm_I x2)] μ := by
    intro x2 s0 μ h
    refine sr_istore_n C rfl (by decide) d_M_pays_33 ?_
    refine sr_aload_n C 1 rfl rfl d_M_pays_34 ?_
    refine sr_iload_n C 2 rfl rfl d_M_pays_35 ?_
    refine sr_iconst C (v := 0) d_M_pays_36 (by decide) ?_
    refine sr_callVI C [sm_I _, sm_I _] (P_M_its l h) ok_101 sm_l61 rfl rfl rfl rfl ⟨Nat.le_of_ble_eq_true rfl, Nat.le_of_ble_eq_true rfl⟩ (Nat.le_of_ble_eq_true rfl) ⟨Nat.zero_le _, Nat.zero_le _⟩ d_M_pays_37 (fun r11 μ10 h => ?_)
    refine sm_name (fun v12 ev12 => ?_)
    replace h := h v12 ev12
    by_cases c13 : v12 = 1
    · replace h := Eq.mp (if_pos c13) h
      refine sr_tableIn C (tgt := 76) (off := 36) d_M_pays_40 (by rw [c13]; decide) (by rw [c13]; decide) (by rw [c13]; decide) (by decide) ?_
      refine sr_iconst C (v := 2) d_M_pays_76 (by decide) ?_
      refine sr_iload_n C 3 rfl rfl d_M_pays_77 ?_
      refine sr_imul C d_M_pays_78 ?_
      exact hR _ _ _ _ d_M_pays_79 rfl h
    · replace h := Eq.mp (if_neg c13) h
      by_cases c14 : v12 = 2
      · replace h := Eq.mp (if_pos c14) h
        refine sr_tableIn C (tgt := 94) (off := 54) d_M_pays_40 (by rw [c14]; decide) (by rw [c14]; decide) (by rw [c14]; decide) (by decide) ?_
        refine sr_iload_n C 0 rfl rfl d_M_pays_94 ?_
        exact hR _ _ _ _ d_M_pays_95 rfl h
      · replace h := Eq.mp (if_neg c14) h
        by_cases c15 : v12 = 3
        · replace h := Eq.mp (if_pos c15) h
          refine sr_tableIn C (tgt := 100) (off := 60) d_M_pays_40 (by rw [c15]; decide) (by rw [c15]; decide) (by rw [c15]; decide) (by decide) ?_
          refine sr_iload_n C 3 rfl rfl d_M_pays_100 ?_
          refine sr_if_le C (tgt := 115) d_M_pays_101 (by decide) (fun c16 => ?_) (fun c16 => ?_)
          · replace h := Eq.mp (if_pos c16) h
            refine sr_iconst C (v := 0) d_M_pays_115 (by decide) ?_
            exact hR _ _ _ _ d_M_pays_116 rfl h
          · replace h := Eq.mp (if_neg c16) h
            refine sr_iload_n C 3 rfl rfl d_M_pays_104 ?_
            refine sr_aload_n C 1 rfl rfl d_M_pays_105 ?_
            refine sr_iload_n C 2 rfl rfl d_M_pays_106 ?_
            refine sr_iconst C (v := 1) d_M_pays_107 (by decide) ?_
            refine sr_callVI C [sm_I _, sm_I _] (P_M_its l h) ok_101 sm_l61 rfl rfl rfl rfl ⟨Nat.le_of_ble_eq_true rfl, Nat.le_of_ble_eq_true rfl⟩ (Nat.le_of_ble_eq_true rfl) ⟨Nat.zero_le _, Nat.zero_le _⟩ d_M_pays_108 (fun r18 μ17 h => ?_)
            refine sr_iadd C d_M_pays_111 ?_
            refine sr_goto C (tgt := 116) (by decide) d_M_pays_112 ?_
            exact hR _ _ _ _ d_M_pays_116 rfl h
        · replace h := Eq.mp (if_neg c15) h
          by_cases c19 : v12 = 4
          · replace h := Eq.mp (if_pos c19) h
            refine sr_tableIn C (tgt := 80) (off := 40) d_M_pays_40 (by rw [c19]; decide) (by rw [c19]; decide) (by rw [c19]; decide) (by decide) ?_
            refine sr_iload_n C 3 rfl rfl d_M_pays_80 ?_
            refine sr_if_le C (tgt := 92) d_M_pays_81 (by decide) (fun c20 => ?_) (fun c20 => ?_)
            · replace h := Eq.mp (if_pos c20) h
              refine sr_iconst C (v := 0) d_M_pays_92 (by decide) ?_
              exact hR _ _ _ _ d_M_pays_93 rfl h
            · replace h := Eq.mp (if_neg c20) h
              refine sr_iconst C (v := 2) d_M_pays_84 (by decide) ?_
              refine sr_iload_n C 3 rfl rfl d_M_pays_85 ?_
              refine sr_imul C d_M_pays_86 ?_
              refine sr_iconst C (v := 5) d_M_pays_87 (by decide) ?_
              refine sr_iadd C d_M_pays_88 ?_
              refine sr_goto C (tgt := 93) (by decide) d_M_pays_89 ?_
              exact hR _ _ _ _ d_M_pays_93 rfl h
          · replace h := Eq.mp (if_neg c19) h
            by_cases c21 : v12 = 5
            · replace h := Eq.mp (if_pos c21) h
              refine sr_tableIn C (tgt := 96) (off := 56) d_M_pays_40 (by rw [c21]; decide) (by rw [c21]; decide) (by rw [c21]; decide) (by decide) ?_
              refine sr_iload_n C 0 rfl rfl d_M_pays_96 ?_
              refine sr_iconst C (v := 2) d_M_pays_97 (by decide) ?_
              refine sr_idiv C (by decide) d_M_pays_98 ?_
              exact hR _ _ _ _ d_M_pays_99 rfl h
            · replace h := Eq.mp (if_neg c21) h
              have i0 := sm_ne c13 (z := 1) (by decide)
              have i1 := sm_ne c14 (z := 2) (by decide)
              have i2 := sm_ne c15 (z := 3) (by decide)
              have i3 := sm_ne c19 (z := 4) (by decide)
              have i4 := sm_ne c21 (z := 5) (by decide)
              refine sr_tableOut C (tgt := 117) d_M_pays_40 (by omega) (by decide) ?_
              refine sr_iload_n C 3 rfl rfl d_M_pays_117 ?_
              exact hR _ _ _ _ d_M_pays_118 rfl h
  refine sr_aload_n C 0 rfl rfl d_M_pays_0 ?_
  refine sr_iload_n C 1 rfl rfl d_M_pays_1 ?_
  refine sr_iconst C (v := 2) d_M_pays_2 (by decide) ?_
  refine sr_callVI C [sm_I _, sm_I _] (P_M_its l h) ok_101 sm_l61 rfl rfl rfl rfl ⟨Nat.le_of_ble_eq_true rfl, Nat.le_of_ble_eq_true rfl⟩ (Nat.le_of_ble_eq_true rfl) ⟨Nat.zero_le _, Nat.zero_le _⟩ d_M_pays_3 (fun r2 μ1 h => ?_)
  refine sr_istore_n C rfl (by decide) d_M_pays_6 ?_
  refine sr_aload_n C 1 rfl rfl d_M_pays_7 ?_
  refine sr_iconst C (v := 1) d_M_pays_8 (by decide) ?_
  refine sr_iload_n C 0 rfl rfl d_M_pays_9 ?_
  refine sr_aload_n C 1 rfl rfl d_M_pays_10 ?_
  refine sr_iload_n C 2 rfl rfl d_M_pays_11 ?_
  refine sr_iconst C (v := 1) d_M_pays_12 (by decide) ?_
  refine sr_callVI C [sm_I _, sm_I _] (P_M_its l h) ok_101 sm_l61 rfl rfl rfl rfl ⟨Nat.le_of_ble_eq_true rfl, Nat.le_of_ble_eq_true rfl⟩ (Nat.le_of_ble_eq_true rfl) ⟨Nat.zero_le _, Nat.zero_le _⟩ d_M_pays_13 (fun r4 μ3 h => ?_)
  refine sr_aload_n C 1 rfl rfl d_M_pays_16 ?_
  refine sr_iload_n C 2 rfl rfl d_M_pays_17 ?_
  refine sr_iconst C (v := 4) d_M_pays_18 (by decide) ?_
  refine sr_callVI C [sm_I _, sm_I _] (P_M_its l h) ok_101 sm_l61 rfl rfl rfl rfl ⟨Nat.le_of_ble_eq_true rfl, Nat.le_of_ble_eq_true rfl⟩ (Nat.le_of_ble_eq_true rfl) ⟨Nat.zero_le _, Nat.zero_le _⟩ d_M_pays_19 (fun r6 μ5 h => ?_)
  refine sr_callVI C [sm_I _, sm_I _, sm_I _, sm_I _] (P_M_lawOf l h) ok_108 sm_l61 rfl rfl rfl rfl ⟨Nat.le_of_ble_eq_true rfl, Nat.le_of_ble_eq_true rfl⟩ (Nat.le_of_ble_eq_true rfl) ⟨Nat.zero_le _, Nat.zero_le _⟩ d_M_pays_22 (fun r8 μ7 h => ?_)
  refine sr_if_eq C (tgt := 32) d_M_pays_25 (by decide) (fun c9 => ?_) (fun c9 => ?_)
  · replace h := Eq.mp (if_pos c9) h
    refine sr_iload_n C 0 rfl rfl d_M_pays_32 ?_
    refine sr_mask C [1, 2, 0] rfl ?_
    exact B33 _ _ _ h
  · replace h := Eq.mp (if_neg c9) h
    refine sr_iconst C (v := 0) d_M_pays_28 (by decide) ?_
    refine sr_goto C (tgt := 33) (by decide) d_M_pays_29 ?_
    refine sr_mask C [1, 2, 0] rfl ?_
    exact B33 _ _ _ h
theorem d_M_ofNote_0 : decode prog_10_method_20_code 0 = .ok (.aload_n 0, 1) := by decide +kernel
theorem d_M_ofNote_1 : decode prog_10_method_20_code 1 = .ok (.iload_n 1, 1) := by decide +kernel
theorem d_M_ofNote_2 : decode prog_10_method_20_code 2 = .ok (.invokevirtual 75, 3) := by decide +kernel
theorem d_M_ofNote_5 : decode prog_10_method_20_code 5 = .ok (.ifCond .eq 13, 3) := by decide +kernel
theorem d_M_ofNote_8 : decode prog_10_method_20_code 8 = .ok (.iload_n 2, 1) := by decide +kernel
theorem d_M_ofNote_9 : decode prog_10_method_20_code 9 = .ok (.iconst 0, 1) := by decide +kernel
theorem d_M_ofNote_10 : decode prog_10_method_20_code 10 = .ok (.bipush 6, 2) := by decide +kernel
theorem d_M_ofNote_12 : decode prog_10_method_20_code 12 = .ok (.invokestatic 44, 3) := by decide +kernel
theorem d_M_ofNote_15 : decode prog_10_method_20_code 15 = .ok (.ifCond .ne 10, 3) := by decide +kernel
theorem d_M_ofNote_18 : decode prog_10_method_20_code 18 = .ok (.aload_n 0, 1) := by decide +kernel
theorem d_M_ofNote_19 : decode prog_10_method_20_code 19 = .ok (.ldc 48, 2) := by decide +kernel
theorem d_M_ofNote_21 : decode prog_10_method_20_code 21 = .ok (.invokevirtual 49, 3) := by decide +kernel
theorem d_M_ofNote_24 : decode prog_10_method_20_code 24 = .ok (.ireturn, 1) := by decide +kernel
theorem d_M_ofNote_25 : decode prog_10_method_20_code 25 = .ok (.iload_n 2, 1) := by decide +kernel
theorem d_M_ofNote_26 : decode prog_10_method_20_code 26 = .ok (.iconst 5, 1) := by decide +kernel
theorem d_M_ofNote_27 : decode prog_10_method_20_code 27 = .ok (.if_icmp .ge 12, 3) := by decide +kernel
theorem d_M_ofNote_30 : decode prog_10_method_20_code 30 = .ok (.aload_n 0, 1) := by decide +kernel
theorem d_M_ofNote_31 : decode prog_10_method_20_code 31 = .ok (.iload_n 1, 1) := by decide +kernel
theorem d_M_ofNote_32 : decode prog_10_method_20_code 32 = .ok (.iload_n 2, 1) := by decide +kernel
theorem d_M_ofNote_33 : decode prog_10_method_20_code 33 = .ok (.invokevirtual 62, 3) := by decide +kernel
theorem d_M_ofNote_36 : decode prog_10_method_20_code 36 = .ok (.goto 21, 3) := by decide +kernel
theorem d_M_ofNote_39 : decode prog_10_method_20_code 39 = .ok (.iload_n 2, 1) := by decide +kernel
theorem d_M_ofNote_40 : decode prog_10_method_20_code 40 = .ok (.iconst 5, 1) := by decide +kernel
theorem d_M_ofNote_41 : decode prog_10_method_20_code 41 = .ok (.if_icmp .ne 11, 3) := by decide +kernel
theorem d_M_ofNote_44 : decode prog_10_method_20_code 44 = .ok (.aload_n 0, 1) := by decide +kernel
theorem d_M_ofNote_45 : decode prog_10_method_20_code 45 = .ok (.iload_n 1, 1) := by decide +kernel
theorem d_M_ofNote_46 : decode prog_10_method_20_code 46 = .ok (.invokevirtual 78, 3) := by decide +kernel
theorem d_M_ofNote_49 : decode prog_10_method_20_code 49 = .ok (.goto 8, 3) := by decide +kernel
theorem d_M_ofNote_52 : decode prog_10_method_20_code 52 = .ok (.aload_n 0, 1) := by decide +kernel
theorem d_M_ofNote_53 : decode prog_10_method_20_code 53 = .ok (.iload_n 1, 1) := by decide +kernel
theorem d_M_ofNote_54 : decode prog_10_method_20_code 54 = .ok (.invokevirtual 81, 3) := by decide +kernel
theorem d_M_ofNote_57 : decode prog_10_method_20_code 57 = .ok (.ireturn, 1) := by decide +kernel
def w_M_ofNote_18 (K : Int32 → sm_Mem → Prop) (p0 : Int32) (p1 : Int32) (μ : sm_Mem) : Prop := w_M_errs (fun r5 μ4 => K r5 μ4) (-1000000001) μ
def w_M_ofNote (K : Int32 → sm_Mem → Prop) (p0 : Int32) (p1 : Int32) (μ : sm_Mem) : Prop := w_M_isNote (fun r2 μ1 => if r2 = 0 then w_M_ofNote_18 K p0 p1 μ1 else w_M_in (fun r7 μ6 => if r7 = 0 then w_M_ofNote_18 K p0 p1 μ6 else (if 5 ≤ p1 then (if p1 = 5 then w_M_melts (fun r14 μ13 => K r14 μ13) p0 μ6 else w_M_pays (fun r12 μ11 => K r12 μ11) p0 μ6) else w_M_its (fun r16 μ15 => K r16 μ15) p0 p1 μ6)) p1 0 6 μ1) p0 μ
set_option maxHeartbeats 4000000 in
set_option maxRecDepth 100000 in
theorem P_M_ofNote (l : Launch) {K : Int32 → sm_Mem → Prop} {p0 : Int32} {p1 : Int32} {μ : sm_Mem} (h : w_M_ofNote K p0 p1 μ) : sm_MI l ⟨"SnowMoneyModel", "ofNote", "(II)I"⟩ prog_10_method_20_code 3 (some .int) { frames := 59, cells := 0, slots := 0, locals := 2238 } [sm_R 61, sm_I p0, sm_I p1] μ K := by
  refine sm_ofI (by decide +kernel) (fun _ => Nat.le_of_ble_eq_true rfl) ?_
  intro p e s m args below meth c A Q G C hR
  have B18 : ∀ (μ : sm_Mem), w_M_ofNote_18 K p0 p1 μ → sm_W p l e { frames := 59, cells := 0, slots := 0, locals := 2238 } s m args below meth c A Q G 3 0 0 18 [] [(0, sm_R 61)] μ := by
    intro μ h
    refine sr_aload_n C 0 rfl rfl d_M_ofNote_18 ?_
    refine sr_ldc C q_441 d_M_ofNote_19 ?_
    refine sr_callVI C [sm_I _] (P_M_errs l h) ok_97 sm_l61 rfl rfl rfl rfl ⟨Nat.le_of_ble_eq_true rfl, Nat.le_of_ble_eq_true rfl⟩ (Nat.le_of_ble_eq_true rfl) ⟨Nat.zero_le _, Nat.zero_le _⟩ d_M_ofNote_21 (fun r5 μ4 h => ?_)
    exact hR _ _ _ _ d_M_ofNote_24 rfl h
  refine sr_aload_n C 0 rfl rfl d_M_ofNote_0 ?_
  refine sr_iload_n C 1 rfl rfl d_M_ofNote_1 ?_
  refine sr_callVI C [sm_I _] (P_M_isNote l h) ok_104 sm_l61 rfl rfl rfl rfl ⟨Nat.le_of_ble_eq_true rfl, Nat.le_of_ble_eq_true rfl⟩ (Nat.le_of_ble_eq_true rfl) ⟨Nat.zero_le _, Nat.zero_le _⟩ d_M_ofNote_2 (fun r2 μ1 h => ?_)
  refine sr_if_eq C (tgt := 18) d_M_ofNote_5 (by decide) (fun c3 => ?_) (fun c3 => ?_)
  · replace h := Eq.mp (if_pos c3) h
    refine sr_mask C [0] rfl ?_
    exact B18 _ h
  · replace h := Eq.mp (if_neg c3) h
    refine sr_iload_n C 2 rfl rfl d_M_ofNote_8 ?_
    refine sr_iconst C (v := 0) d_M_ofNote_9 (by decide) ?_
    refine sr_bipush C (v := 6) d_M_ofNote_10 (by decide) ?_
    refine sr_callSI C [sm_I _, sm_I _, sm_I _] (P_M_in l h) ok_96 rfl rfl rfl ⟨Nat.le_of_ble_eq_true rfl, Nat.le_of_ble_eq_true rfl⟩ (Nat.le_of_ble_eq_true rfl) ⟨Nat.zero_le _, Nat.zero_le _⟩ d_M_ofNote_12 (fun r7 μ6 h => ?_)
    refine sr_if_ne C (tgt := 25) d_M_ofNote_15 (by decide) (fun c8 => ?_) (fun c8 => ?_)
    · replace h := Eq.mp (if_neg c8) h
      refine sr_iload_n C 2 rfl rfl d_M_ofNote_25 ?_
      refine sr_iconst C (v := 5) d_M_ofNote_26 (by decide) ?_
      refine sr_icmp_ge C (tgt := 39) d_M_ofNote_27 (by decide) (fun c9 => ?_) (fun c9 => ?_)
      · replace h := Eq.mp (if_pos c9) h
        refine sr_iload_n C 2 rfl rfl d_M_ofNote_39 ?_
        refine sr_iconst C (v := 5) d_M_ofNote_40 (by decide) ?_
        refine sr_icmp_ne C (tgt := 52) d_M_ofNote_41 (by decide) (fun c10 => ?_) (fun c10 => ?_)
        · replace h := Eq.mp (if_neg c10) h
          refine sr_aload_n C 0 rfl rfl d_M_ofNote_52 ?_
          refine sr_iload_n C 1 rfl rfl d_M_ofNote_53 ?_
          refine sr_callVI C [sm_I _] (P_M_pays l h) ok_105 sm_l61 rfl rfl rfl rfl ⟨Nat.le_of_ble_eq_true rfl, Nat.le_of_ble_eq_true rfl⟩ (Nat.le_of_ble_eq_true rfl) ⟨Nat.zero_le _, Nat.zero_le _⟩ d_M_ofNote_54 (fun r12 μ11 h => ?_)
          exact hR _ _ _ _ d_M_ofNote_57 rfl h
        · replace h := Eq.mp (if_pos c10) h
          refine sr_aload_n C 0 rfl rfl d_M_ofNote_44 ?_
          refine sr_iload_n C 1 rfl rfl d_M_ofNote_45 ?_
          refine sr_callVI C [sm_I _] (P_M_melts l h) ok_106 sm_l61 rfl rfl rfl rfl ⟨Nat.le_of_ble_eq_true rfl, Nat.le_of_ble_eq_true rfl⟩ (Nat.le_of_ble_eq_true rfl) ⟨Nat.zero_le _, Nat.zero_le _⟩ d_M_ofNote_46 (fun r14 μ13 h => ?_)
          refine sr_goto C (tgt := 57) (by decide) d_M_ofNote_49 ?_
          exact hR _ _ _ _ d_M_ofNote_57 rfl h
      · replace h := Eq.mp (if_neg c9) h
        refine sr_aload_n C 0 rfl rfl d_M_ofNote_30 ?_
        refine sr_iload_n C 1 rfl rfl d_M_ofNote_31 ?_
        refine sr_iload_n C 2 rfl rfl d_M_ofNote_32 ?_
        refine sr_callVI C [sm_I _, sm_I _] (P_M_its l h) ok_101 sm_l61 rfl rfl rfl rfl ⟨Nat.le_of_ble_eq_true rfl, Nat.le_of_ble_eq_true rfl⟩ (Nat.le_of_ble_eq_true rfl) ⟨Nat.zero_le _, Nat.zero_le _⟩ d_M_ofNote_33 (fun r16 μ15 h => ?_)
        refine sr_goto C (tgt := 57) (by decide) d_M_ofNote_36 ?_
        exact hR _ _ _ _ d_M_ofNote_57 rfl h
    · replace h := Eq.mp (if_pos c8) h
      refine sr_mask C [0] rfl ?_
      exact B18 _ h
theorem d_M_change_0 : decode prog_10_method_21_code 0 = .ok (.iload_n 2, 1) := by decide +kernel
theorem d_M_change_1 : decode prog_10_method_21_code 1 = .ok (.ifCond .ne 14, 3) := by decide +kernel
theorem d_M_change_4 : decode prog_10_method_21_code 4 = .ok (.iload_n 3, 1) := by decide +kernel
theorem d_M_change_5 : decode prog_10_method_21_code 5 = .ok (.iconst 0, 1) := by decide +kernel
theorem d_M_change_6 : decode prog_10_method_21_code 6 = .ok (.sipush 999, 3) := by decide +kernel
theorem d_M_change_9 : decode prog_10_method_21_code 9 = .ok (.invokestatic 44, 3) := by decide +kernel
theorem d_M_change_12 : decode prog_10_method_21_code 12 = .ok (.goto 33, 3) := by decide +kernel
theorem d_M_change_15 : decode prog_10_method_21_code 15 = .ok (.iload_n 2, 1) := by decide +kernel
theorem d_M_change_16 : decode prog_10_method_21_code 16 = .ok (.iconst 1, 1) := by decide +kernel
theorem d_M_change_17 : decode prog_10_method_21_code 17 = .ok (.if_icmp .ne 11, 3) := by decide +kernel
theorem d_M_change_20 : decode prog_10_method_21_code 20 = .ok (.aload_n 0, 1) := by decide +kernel
theorem d_M_change_21 : decode prog_10_method_21_code 21 = .ok (.iload_n 3, 1) := by decide +kernel
theorem d_M_change_22 : decode prog_10_method_21_code 22 = .ok (.invokevirtual 54, 3) := by decide +kernel
theorem d_M_change_25 : decode prog_10_method_21_code 25 = .ok (.goto 20, 3) := by decide +kernel
theorem d_M_change_28 : decode prog_10_method_21_code 28 = .ok (.iload_n 2, 1) := by decide +kernel
theorem d_M_change_29 : decode prog_10_method_21_code 29 = .ok (.iconst 2, 1) := by decide +kernel
theorem d_M_change_30 : decode prog_10_method_21_code 30 = .ok (.if_icmp .ne 14, 3) := by decide +kernel
theorem d_M_change_33 : decode prog_10_method_21_code 33 = .ok (.iload_n 3, 1) := by decide +kernel
theorem d_M_change_34 : decode prog_10_method_21_code 34 = .ok (.invokestatic 68, 3) := by decide +kernel
theorem d_M_change_37 : decode prog_10_method_21_code 37 = .ok (.ifCond .eq 7, 3) := by decide +kernel
theorem d_M_change_40 : decode prog_10_method_21_code 40 = .ok (.iconst 1, 1) := by decide +kernel
theorem d_M_change_41 : decode prog_10_method_21_code 41 = .ok (.goto 4, 3) := by decide +kernel
theorem d_M_change_44 : decode prog_10_method_21_code 44 = .ok (.iconst 0, 1) := by decide +kernel
theorem d_M_change_45 : decode prog_10_method_21_code 45 = .ok (.istore 4, 2) := by decide +kernel
theorem d_M_change_47 : decode prog_10_method_21_code 47 = .ok (.aload_n 0, 1) := by decide +kernel
theorem d_M_change_48 : decode prog_10_method_21_code 48 = .ok (.iload_n 1, 1) := by decide +kernel
theorem d_M_change_49 : decode prog_10_method_21_code 49 = .ok (.invokevirtual 75, 3) := by decide +kernel
theorem d_M_change_52 : decode prog_10_method_21_code 52 = .ok (.ifCond .eq 26, 3) := by decide +kernel
theorem d_M_change_55 : decode prog_10_method_21_code 55 = .ok (.iload 4, 2) := by decide +kernel
theorem d_M_change_57 : decode prog_10_method_21_code 57 = .ok (.ifCond .eq 21, 3) := by decide +kernel
theorem d_M_change_60 : decode prog_10_method_21_code 60 = .ok (.aload_n 0, 1) := by decide +kernel
theorem d_M_change_61 : decode prog_10_method_21_code 61 = .ok (.bipush 51, 2) := by decide +kernel
theorem d_M_change_63 : decode prog_10_method_21_code 63 = .ok (.iconst 5, 1) := by decide +kernel
theorem d_M_change_64 : decode prog_10_method_21_code 64 = .ok (.iload_n 1, 1) := by decide +kernel
theorem d_M_change_65 : decode prog_10_method_21_code 65 = .ok (.imul, 1) := by decide +kernel
theorem d_M_change_66 : decode prog_10_method_21_code 66 = .ok (.iadd, 1) := by decide +kernel
theorem d_M_change_67 : decode prog_10_method_21_code 67 = .ok (.iconst 2, 1) := by decide +kernel
theorem d_M_change_68 : decode prog_10_method_21_code 68 = .ok (.iadd, 1) := by decide +kernel
theorem d_M_change_69 : decode prog_10_method_21_code 69 = .ok (.iload_n 2, 1) := by decide +kernel
theorem d_M_change_70 : decode prog_10_method_21_code 70 = .ok (.iadd, 1) := by decide +kernel
theorem d_M_change_71 : decode prog_10_method_21_code 71 = .ok (.iload_n 3, 1) := by decide +kernel
theorem d_M_change_72 : decode prog_10_method_21_code 72 = .ok (.invokevirtual 58, 3) := by decide +kernel
theorem d_M_change_75 : decode prog_10_method_21_code 75 = .ok (.goto 9, 3) := by decide +kernel
theorem d_M_change_78 : decode prog_10_method_21_code 78 = .ok (.aload_n 0, 1) := by decide +kernel
theorem d_M_change_79 : decode prog_10_method_21_code 79 = .ok (.ldc 48, 2) := by decide +kernel
theorem d_M_change_81 : decode prog_10_method_21_code 81 = .ok (.invokevirtual 49, 3) := by decide +kernel
theorem d_M_change_84 : decode prog_10_method_21_code 84 = .ok (.ireturn, 1) := by decide +kernel
def w_M_change_78 (K : Int32 → sm_Mem → Prop) (p0 : Int32) (p1 : Int32) (p2 : Int32) (μ : sm_Mem) : Prop := w_M_errs (fun r8 μ7 => K r8 μ7) (-1000000001) μ
def w_M_change_45 (K : Int32 → sm_Mem → Prop) (p0 : Int32) (p1 : Int32) (p2 : Int32) (s0 : Int32) (μ : sm_Mem) : Prop := w_M_isNote (fun r5 μ4 => if r5 = 0 then w_M_change_78 K p0 p1 p2 μ4 else (if s0 = 0 then w_M_change_78 K p0 p1 p2 μ4 else w_M_becomes (fun r11 μ10 => K r11 μ10) (((51 + (5 * p0)) + 2) + p1) p2 μ4)) p0 μ
def w_M_change_44 (K : Int32 → sm_Mem → Prop) (p0 : Int32) (p1 : Int32) (p2 : Int32) (μ : sm_Mem) : Prop := w_M_change_45 K p0 p1 p2 0 μ
def w_M_change (K : Int32 → sm_Mem → Prop) (p0 : Int32) (p1 : Int32) (p2 : Int32) (μ : sm_Mem) : Prop := if p1 = 0 then w_M_in (fun r18 μ17 => w_M_change_45 K p0 p1 p2 r18 μ17) p2 0 999 μ else (if p1 = 1 then w_M_isPlace (fun r16 μ15 => w_M_change_45 K p0 p1 p2 r16 μ15) p2 μ else (if p1 = 2 then w_M_isOwner (fun r13 μ12 => if r13 = 0 then w_M_change_44 K p0 p1 p2 μ12 else w_M_change_45 K p0 p1 p2 1 μ12) p2 μ else w_M_change_44 K p0 p1 p2 μ))
set_option maxHeartbeats 4000000 in
set_option maxRecDepth 100000 in
theorem P_M_change (l : Launch) {K : Int32 → sm_Mem → Prop} {p0 : Int32} {p1 : Int32} {p2 : Int32} {μ : sm_Mem} (h : w_M_change K p0 p1 p2 μ) : sm_MI l ⟨"SnowMoneyModel", "change", "(III)I"⟩ prog_10_method_21_code 5 (some .int) { frames := 2, cells := 0, slots := 0, locals := 43 } [sm_R 61, sm_I p0, sm_I p1, sm_I p2] μ K := by
  refine sm_ofI (by decide +kernel) (fun _ => Nat.le_of_ble_eq_true rfl) ?_
  intro p e s m args below meth c A Q G C hR
  have B78 : ∀ (μ : sm_Mem), w_M_change_78 K p0 p1 p2 μ → sm_W p l e { frames := 2, cells := 0, slots := 0, locals := 43 } s m args below meth c A Q G 5 0 0 78 [] [(0, sm_R 61)] μ := by
    intro μ h
    refine sr_aload_n C 0 rfl rfl d_M_change_78 ?_
    refine sr_ldc C q_441 d_M_change_79 ?_
    refine sr_callVI C [sm_I _] (P_M_errs l h) ok_97 sm_l61 rfl rfl rfl rfl ⟨Nat.le_of_ble_eq_true rfl, Nat.le_of_ble_eq_true rfl⟩ (Nat.le_of_ble_eq_true rfl) ⟨Nat.zero_le _, Nat.zero_le _⟩ d_M_change_81 (fun r8 μ7 h => ?_)
    exact hR _ _ _ _ d_M_change_84 rfl h
  have B45 : ∀ (s0 : Int32) (μ : sm_Mem), w_M_change_45 K p0 p1 p2 s0 μ → sm_W p l e { frames := 2, cells := 0, slots := 0, locals := 43 } s m args below meth c A Q G 5 0 0 45 [sm_I s0] [(0, sm_R 61), (1, sm_I p0), (2, sm_I p1), (3, sm_I p2)] μ := by
    intro s0 μ h
    refine sr_istore C (by decide) d_M_change_45 ?_
    refine sr_aload_n C 1 rfl rfl d_M_change_47 ?_
    refine sr_iload_n C 2 rfl rfl d_M_change_48 ?_
    refine sr_callVI C [sm_I _] (P_M_isNote l h) ok_104 sm_l61 rfl rfl rfl rfl ⟨Nat.le_of_ble_eq_true rfl, Nat.le_of_ble_eq_true rfl⟩ (Nat.le_of_ble_eq_true rfl) ⟨Nat.zero_le _, Nat.zero_le _⟩ d_M_change_49 (fun r5 μ4 h => ?_)
    refine sr_if_eq C (tgt := 78) d_M_change_52 (by decide) (fun c6 => ?_) (fun c6 => ?_)
    · replace h := Eq.mp (if_pos c6) h
      refine sr_mask C [1] rfl ?_
      exact B78 _ h
    · replace h := Eq.mp (if_neg c6) h
      refine sr_iload C 0 rfl d_M_change_55 ?_
      refine sr_if_eq C (tgt := 78) d_M_change_57 (by decide) (fun c9 => ?_) (fun c9 => ?_)
      · replace h := Eq.mp (if_pos c9) h
        refine sr_mask C [1] rfl ?_
        exact B78 _ h
      · replace h := Eq.mp (if_neg c9) h
        refine sr_aload_n C 1 rfl rfl d_M_change_60 ?_
        refine sr_bipush C (v := 51) d_M_change_61 (by decide) ?_
        refine sr_iconst C (v := 5) d_M_change_63 (by decide) ?_
        refine sr_iload_n C 2 rfl rfl d_M_change_64 ?_
        refine sr_imul C d_M_change_65 ?_
        refine sr_iadd C d_M_change_66 ?_
        refine sr_iconst C (v := 2) d_M_change_67 (by decide) ?_
        refine sr_iadd C d_M_change_68 ?_
        refine sr_iload_n C 3 rfl rfl d_M_change_69 ?_
        refine sr_iadd C d_M_change_70 ?_
        refine sr_iload_n C 4 rfl rfl d_M_change_71 ?_
        refine sr_callVI C [sm_I _, sm_I _] (P_M_becomes l h) ok_99 sm_l61 rfl rfl rfl rfl ⟨Nat.le_of_ble_eq_true rfl, Nat.le_of_ble_eq_true rfl⟩ (Nat.le_of_ble_eq_true rfl) ⟨Nat.zero_le _, Nat.zero_le _⟩ d_M_change_72 (fun r11 μ10 h => ?_)
        refine sr_goto C (tgt := 84) (by decide) d_M_change_75 ?_
        exact hR _ _ _ _ d_M_change_84 rfl h
  have B44 : ∀ (μ : sm_Mem), w_M_change_44 K p0 p1 p2 μ → sm_W p l e { frames := 2, cells := 0, slots := 0, locals := 43 } s m args below meth c A Q G 5 0 0 44 [] [(0, sm_R 61), (1, sm_I p0), (2, sm_I p1), (3, sm_I p2)] μ := by
    intro μ h
    refine sr_iconst C (v := 0) d_M_change_44 (by decide) ?_
    exact B45 _ _ h
  refine sr_iload_n C 2 rfl rfl d_M_change_0 ?_
  refine sr_if_ne C (tgt := 15) d_M_change_1 (by decide) (fun c1 => ?_) (fun c1 => ?_)
  · replace h := Eq.mp (if_neg c1) h
    refine sr_iload_n C 2 rfl rfl d_M_change_15 ?_
    refine sr_iconst C (v := 1) d_M_change_16 (by decide) ?_
    refine sr_icmp_ne C (tgt := 28) d_M_change_17 (by decide) (fun c2 => ?_) (fun c2 => ?_)
    · replace h := Eq.mp (if_neg c2) h
      refine sr_iload_n C 2 rfl rfl d_M_change_28 ?_
      refine sr_iconst C (v := 2) d_M_change_29 (by decide) ?_
      refine sr_icmp_ne C (tgt := 44) d_M_change_30 (by decide) (fun c3 => ?_) (fun c3 => ?_)
      · replace h := Eq.mp (if_neg c3) h
        exact B44 _ h
      · replace h := Eq.mp (if_pos c3) h
        refine sr_iload_n C 3 rfl rfl d_M_change_33 ?_
        refine sr_callSI C [sm_I _] (P_M_isOwner l h) ok_102 rfl rfl rfl ⟨Nat.le_of_ble_eq_true rfl, Nat.le_of_ble_eq_true rfl⟩ (Nat.le_of_ble_eq_true rfl) ⟨Nat.zero_le _, Nat.zero_le _⟩ d_M_change_34 (fun r13 μ12 h => ?_)
        refine sr_if_eq C (tgt := 44) d_M_change_37 (by decide) (fun c14 => ?_) (fun c14 => ?_)
        · replace h := Eq.mp (if_pos c14) h
          exact B44 _ h
        · replace h := Eq.mp (if_neg c14) h
          refine sr_iconst C (v := 1) d_M_change_40 (by decide) ?_
          refine sr_goto C (tgt := 45) (by decide) d_M_change_41 ?_
          exact B45 _ _ h
    · replace h := Eq.mp (if_pos c2) h
      refine sr_aload_n C 0 rfl rfl d_M_change_20 ?_
      refine sr_iload_n C 3 rfl rfl d_M_change_21 ?_
      refine sr_callVI C [sm_I _] (P_M_isPlace l h) ok_98 sm_l61 rfl rfl rfl rfl ⟨Nat.le_of_ble_eq_true rfl, Nat.le_of_ble_eq_true rfl⟩ (Nat.le_of_ble_eq_true rfl) ⟨Nat.zero_le _, Nat.zero_le _⟩ d_M_change_22 (fun r16 μ15 h => ?_)
      refine sr_goto C (tgt := 45) (by decide) d_M_change_25 ?_
      exact B45 _ _ h
  · replace h := Eq.mp (if_pos c1) h
    refine sr_iload_n C 3 rfl rfl d_M_change_4 ?_
    refine sr_iconst C (v := 0) d_M_change_5 (by decide) ?_
    refine sr_sipush C (v := 999) d_M_change_6 (by decide) ?_
    refine sr_callSI C [sm_I _, sm_I _, sm_I _] (P_M_in l h) ok_96 rfl rfl rfl ⟨Nat.le_of_ble_eq_true rfl, Nat.le_of_ble_eq_true rfl⟩ (Nat.le_of_ble_eq_true rfl) ⟨Nat.zero_le _, Nat.zero_le _⟩ d_M_change_9 (fun r18 μ17 h => ?_)
    refine sr_goto C (tgt := 45) (by decide) d_M_change_12 ?_
    exact B45 _ _ h
theorem d_M_become_0 : decode prog_10_method_22_code 0 = .ok (.aload_n 0, 1) := by decide +kernel
theorem d_M_become_1 : decode prog_10_method_22_code 1 = .ok (.iload_n 1, 1) := by decide +kernel
theorem d_M_become_2 : decode prog_10_method_22_code 2 = .ok (.invokevirtual 75, 3) := by decide +kernel
theorem d_M_become_5 : decode prog_10_method_22_code 5 = .ok (.ifCond .eq 13, 3) := by decide +kernel
theorem d_M_become_8 : decode prog_10_method_22_code 8 = .ok (.iload_n 2, 1) := by decide +kernel
theorem d_M_become_9 : decode prog_10_method_22_code 9 = .ok (.iconst 0, 1) := by decide +kernel
theorem d_M_become_10 : decode prog_10_method_22_code 10 = .ok (.bipush 69, 2) := by decide +kernel
theorem d_M_become_12 : decode prog_10_method_22_code 12 = .ok (.invokestatic 44, 3) := by decide +kernel
theorem d_M_become_15 : decode prog_10_method_22_code 15 = .ok (.ifCond .ne 10, 3) := by decide +kernel
theorem d_M_become_18 : decode prog_10_method_22_code 18 = .ok (.aload_n 0, 1) := by decide +kernel
theorem d_M_become_19 : decode prog_10_method_22_code 19 = .ok (.ldc 48, 2) := by decide +kernel
theorem d_M_become_21 : decode prog_10_method_22_code 21 = .ok (.invokevirtual 49, 3) := by decide +kernel
theorem d_M_become_24 : decode prog_10_method_22_code 24 = .ok (.ireturn, 1) := by decide +kernel
theorem d_M_become_25 : decode prog_10_method_22_code 25 = .ok (.aload_n 0, 1) := by decide +kernel
theorem d_M_become_26 : decode prog_10_method_22_code 26 = .ok (.iload_n 1, 1) := by decide +kernel
theorem d_M_become_27 : decode prog_10_method_22_code 27 = .ok (.iconst 1, 1) := by decide +kernel
theorem d_M_become_28 : decode prog_10_method_22_code 28 = .ok (.iload_n 2, 1) := by decide +kernel
theorem d_M_become_29 : decode prog_10_method_22_code 29 = .ok (.bipush 10, 2) := by decide +kernel
theorem d_M_become_31 : decode prog_10_method_22_code 31 = .ok (.irem, 1) := by decide +kernel
theorem d_M_become_32 : decode prog_10_method_22_code 32 = .ok (.invokevirtual 71, 3) := by decide +kernel
theorem d_M_become_35 : decode prog_10_method_22_code 35 = .ok (.aload_n 0, 1) := by decide +kernel
theorem d_M_become_36 : decode prog_10_method_22_code 36 = .ok (.bipush 51, 2) := by decide +kernel
theorem d_M_become_38 : decode prog_10_method_22_code 38 = .ok (.iconst 5, 1) := by decide +kernel
theorem d_M_become_39 : decode prog_10_method_22_code 39 = .ok (.iload_n 1, 1) := by decide +kernel
theorem d_M_become_40 : decode prog_10_method_22_code 40 = .ok (.imul, 1) := by decide +kernel
theorem d_M_become_41 : decode prog_10_method_22_code 41 = .ok (.iadd, 1) := by decide +kernel
theorem d_M_become_42 : decode prog_10_method_22_code 42 = .ok (.iload_n 2, 1) := by decide +kernel
theorem d_M_become_43 : decode prog_10_method_22_code 43 = .ok (.bipush 10, 2) := by decide +kernel
theorem d_M_become_45 : decode prog_10_method_22_code 45 = .ok (.idiv, 1) := by decide +kernel
theorem d_M_become_46 : decode prog_10_method_22_code 46 = .ok (.invokevirtual 58, 3) := by decide +kernel
theorem d_M_become_49 : decode prog_10_method_22_code 49 = .ok (.ireturn, 1) := by decide +kernel
def w_M_become_18 (K : Int32 → sm_Mem → Prop) (p0 : Int32) (p1 : Int32) (μ : sm_Mem) : Prop := w_M_errs (fun r5 μ4 => K r5 μ4) (-1000000001) μ
def w_M_become (K : Int32 → sm_Mem → Prop) (p0 : Int32) (p1 : Int32) (μ : sm_Mem) : Prop := w_M_isNote (fun r2 μ1 => if r2 = 0 then w_M_become_18 K p0 p1 μ1 else w_M_in (fun r7 μ6 => if r7 = 0 then w_M_become_18 K p0 p1 μ6 else w_M_gets (fun μ9 => w_M_becomes (fun r11 μ10 => K r11 μ10) (51 + (5 * p0)) (p1 / 10) μ9) p0 1 (p1 % 10) μ6) p1 0 69 μ1) p0 μ
set_option maxHeartbeats 4000000 in
set_option maxRecDepth 100000 in
theorem P_M_become (l : Launch) {K : Int32 → sm_Mem → Prop} {p0 : Int32} {p1 : Int32} {μ : sm_Mem} (h : w_M_become K p0 p1 μ) : sm_MI l ⟨"SnowMoneyModel", "become", "(II)I"⟩ prog_10_method_22_code 3 (some .int) { frames := 2, cells := 0, slots := 0, locals := 43 } [sm_R 61, sm_I p0, sm_I p1] μ K := by
  refine sm_ofI (by decide +kernel) (fun _ => Nat.le_of_ble_eq_true rfl) ?_
  intro p e s m args below meth c A Q G C hR
  have B18 : ∀ (μ : sm_Mem), w_M_become_18 K p0 p1 μ → sm_W p l e { frames := 2, cells := 0, slots := 0, locals := 43 } s m args below meth c A Q G 3 0 0 18 [] [(0, sm_R 61)] μ := by
    intro μ h
    refine sr_aload_n C 0 rfl rfl d_M_become_18 ?_
    refine sr_ldc C q_441 d_M_become_19 ?_
    refine sr_callVI C [sm_I _] (P_M_errs l h) ok_97 sm_l61 rfl rfl rfl rfl ⟨Nat.le_of_ble_eq_true rfl, Nat.le_of_ble_eq_true rfl⟩ (Nat.le_of_ble_eq_true rfl) ⟨Nat.zero_le _, Nat.zero_le _⟩ d_M_become_21 (fun r5 μ4 h => ?_)
    exact hR _ _ _ _ d_M_become_24 rfl h
  refine sr_aload_n C 0 rfl rfl d_M_become_0 ?_
  refine sr_iload_n C 1 rfl rfl d_M_become_1 ?_
  refine sr_callVI C [sm_I _] (P_M_isNote l h) ok_104 sm_l61 rfl rfl rfl rfl ⟨Nat.le_of_ble_eq_true rfl, Nat.le_of_ble_eq_true rfl⟩ (Nat.le_of_ble_eq_true rfl) ⟨Nat.zero_le _, Nat.zero_le _⟩ d_M_become_2 (fun r2 μ1 h => ?_)
  refine sr_if_eq C (tgt := 18) d_M_become_5 (by decide) (fun c3 => ?_) (fun c3 => ?_)
  · replace h := Eq.mp (if_pos c3) h
    refine sr_mask C [0] rfl ?_
    exact B18 _ h
  · replace h := Eq.mp (if_neg c3) h
    refine sr_iload_n C 2 rfl rfl d_M_become_8 ?_
    refine sr_iconst C (v := 0) d_M_become_9 (by decide) ?_
    refine sr_bipush C (v := 69) d_M_become_10 (by decide) ?_
    refine sr_callSI C [sm_I _, sm_I _, sm_I _] (P_M_in l h) ok_96 rfl rfl rfl ⟨Nat.le_of_ble_eq_true rfl, Nat.le_of_ble_eq_true rfl⟩ (Nat.le_of_ble_eq_true rfl) ⟨Nat.zero_le _, Nat.zero_le _⟩ d_M_become_12 (fun r7 μ6 h => ?_)
    refine sr_if_ne C (tgt := 25) d_M_become_15 (by decide) (fun c8 => ?_) (fun c8 => ?_)
    · replace h := Eq.mp (if_neg c8) h
      refine sr_aload_n C 0 rfl rfl d_M_become_25 ?_
      refine sr_iload_n C 1 rfl rfl d_M_become_26 ?_
      refine sr_iconst C (v := 1) d_M_become_27 (by decide) ?_
      refine sr_iload_n C 2 rfl rfl d_M_become_28 ?_
      refine sr_bipush C (v := 10) d_M_become_29 (by decide) ?_
      refine sr_irem C (by decide) d_M_become_31 ?_
      refine sr_callVV C [sm_I _, sm_I _, sm_I _] (P_M_gets l h) ok_103 sm_l61 rfl rfl rfl rfl ⟨Nat.le_of_ble_eq_true rfl, Nat.le_of_ble_eq_true rfl⟩ (Nat.le_of_ble_eq_true rfl) ⟨Nat.zero_le _, Nat.zero_le _⟩ d_M_become_32 (fun μ9 h => ?_)
      refine sr_aload_n C 0 rfl rfl d_M_become_35 ?_
      refine sr_bipush C (v := 51) d_M_become_36 (by decide) ?_
      refine sr_iconst C (v := 5) d_M_become_38 (by decide) ?_
      refine sr_iload_n C 1 rfl rfl d_M_become_39 ?_
      refine sr_imul C d_M_become_40 ?_
      refine sr_iadd C d_M_become_41 ?_
      refine sr_iload_n C 2 rfl rfl d_M_become_42 ?_
      refine sr_bipush C (v := 10) d_M_become_43 (by decide) ?_
      refine sr_idiv C (by decide) d_M_become_45 ?_
      refine sr_callVI C [sm_I _, sm_I _] (P_M_becomes l h) ok_99 sm_l61 rfl rfl rfl rfl ⟨Nat.le_of_ble_eq_true rfl, Nat.le_of_ble_eq_true rfl⟩ (Nat.le_of_ble_eq_true rfl) ⟨Nat.zero_le _, Nat.zero_le _⟩ d_M_become_46 (fun r11 μ10 h => ?_)
      exact hR _ _ _ _ d_M_become_49 rfl h
    · replace h := Eq.mp (if_pos c8) h
      refine sr_mask C [0] rfl ?_
      exact B18 _ h
theorem d_M_above_0 : decode prog_10_method_23_code 0 = .ok (.iload_n 0, 1) := by decide +kernel
theorem d_M_above_1 : decode prog_10_method_23_code 1 = .ok (.ifCond .ne 7, 3) := by decide +kernel
theorem d_M_above_4 : decode prog_10_method_23_code 4 = .ok (.iconst (-1), 1) := by decide +kernel
theorem d_M_above_5 : decode prog_10_method_23_code 5 = .ok (.goto 15, 3) := by decide +kernel
theorem d_M_above_8 : decode prog_10_method_23_code 8 = .ok (.iload_n 0, 1) := by decide +kernel
theorem d_M_above_9 : decode prog_10_method_23_code 9 = .ok (.iconst 3, 1) := by decide +kernel
theorem d_M_above_10 : decode prog_10_method_23_code 10 = .ok (.if_icmp .le 9, 3) := by decide +kernel
theorem d_M_above_13 : decode prog_10_method_23_code 13 = .ok (.iload_n 0, 1) := by decide +kernel
theorem d_M_above_14 : decode prog_10_method_23_code 14 = .ok (.iconst 3, 1) := by decide +kernel
theorem d_M_above_15 : decode prog_10_method_23_code 15 = .ok (.isub, 1) := by decide +kernel
theorem d_M_above_16 : decode prog_10_method_23_code 16 = .ok (.goto 4, 3) := by decide +kernel
theorem d_M_above_19 : decode prog_10_method_23_code 19 = .ok (.iconst 0, 1) := by decide +kernel
theorem d_M_above_20 : decode prog_10_method_23_code 20 = .ok (.ireturn, 1) := by decide +kernel
def w_M_above (K : Int32 → sm_Mem → Prop) (p0 : Int32) (μ : sm_Mem) : Prop := if p0 = 0 then K (-1) μ else (if p0 ≤ 3 then K 0 μ else K (p0 - 3) μ)
set_option maxHeartbeats 4000000 in
set_option maxRecDepth 100000 in
theorem P_M_above (l : Launch) {K : Int32 → sm_Mem → Prop} {p0 : Int32} {μ : sm_Mem} (h : w_M_above K p0 μ) : sm_MI l ⟨"SnowMoneyModel", "above", "(I)I"⟩ prog_10_method_23_code 1 (some .int) { frames := 0, cells := 0, slots := 0, locals := 0 } [sm_I p0] μ K := by
  refine sm_ofI (by decide +kernel) (fun _ => Nat.le_of_ble_eq_true rfl) ?_
  intro p e s m args below meth c A Q G C hR
  refine sr_iload_n C 0 rfl rfl d_M_above_0 ?_
  refine sr_if_ne C (tgt := 8) d_M_above_1 (by decide) (fun c1 => ?_) (fun c1 => ?_)
  · replace h := Eq.mp (if_neg c1) h
    refine sr_iload_n C 0 rfl rfl d_M_above_8 ?_
    refine sr_iconst C (v := 3) d_M_above_9 (by decide) ?_
    refine sr_icmp_le C (tgt := 19) d_M_above_10 (by decide) (fun c2 => ?_) (fun c2 => ?_)
    · replace h := Eq.mp (if_pos c2) h
      refine sr_iconst C (v := 0) d_M_above_19 (by decide) ?_
      exact hR _ _ _ _ d_M_above_20 rfl h
    · replace h := Eq.mp (if_neg c2) h
      refine sr_iload_n C 0 rfl rfl d_M_above_13 ?_
      refine sr_iconst C (v := 3) d_M_above_14 (by decide) ?_
      refine sr_isub C d_M_above_15 ?_
      refine sr_goto C (tgt := 20) (by decide) d_M_above_16 ?_
      exact hR _ _ _ _ d_M_above_20 rfl h
  · replace h := Eq.mp (if_pos c1) h
    refine sr_iconst C (v := (-1)) d_M_above_4 (by decide) ?_
    refine sr_goto C (tgt := 20) (by decide) d_M_above_5 ?_
    exact hR _ _ _ _ d_M_above_20 rfl h
theorem d_M_as_0 : decode prog_10_method_24_code 0 = .ok (.aload_n 0, 1) := by decide +kernel
theorem d_M_as_1 : decode prog_10_method_24_code 1 = .ok (.iload_n 1, 1) := by decide +kernel
theorem d_M_as_2 : decode prog_10_method_24_code 2 = .ok (.invokevirtual 75, 3) := by decide +kernel
theorem d_M_as_5 : decode prog_10_method_24_code 5 = .ok (.ifCond .eq 13, 3) := by decide +kernel
theorem d_M_as_8 : decode prog_10_method_24_code 8 = .ok (.iload_n 2, 1) := by decide +kernel
theorem d_M_as_9 : decode prog_10_method_24_code 9 = .ok (.iconst 0, 1) := by decide +kernel
theorem d_M_as_10 : decode prog_10_method_24_code 10 = .ok (.bipush 6, 2) := by decide +kernel
theorem d_M_as_12 : decode prog_10_method_24_code 12 = .ok (.invokestatic 44, 3) := by decide +kernel
theorem d_M_as_15 : decode prog_10_method_24_code 15 = .ok (.ifCond .ne 10, 3) := by decide +kernel
theorem d_M_as_18 : decode prog_10_method_24_code 18 = .ok (.aload_n 0, 1) := by decide +kernel
theorem d_M_as_19 : decode prog_10_method_24_code 19 = .ok (.ldc 48, 2) := by decide +kernel
theorem d_M_as_21 : decode prog_10_method_24_code 21 = .ok (.invokevirtual 49, 3) := by decide +kernel
theorem d_M_as_24 : decode prog_10_method_24_code 24 = .ok (.ireturn, 1) := by decide +kernel
theorem d_M_as_25 : decode prog_10_method_24_code 25 = .ok (.aload_n 0, 1) := by decide +kernel
theorem d_M_as_26 : decode prog_10_method_24_code 26 = .ok (.iload_n 1, 1) := by decide +kernel
theorem d_M_as_27 : decode prog_10_method_24_code 27 = .ok (.iconst 0, 1) := by decide +kernel
theorem d_M_as_28 : decode prog_10_method_24_code 28 = .ok (.invokevirtual 62, 3) := by decide +kernel
theorem d_M_as_31 : decode prog_10_method_24_code 31 = .ok (.istore_n 3, 1) := by decide +kernel
theorem d_M_as_32 : decode prog_10_method_24_code 32 = .ok (.iload_n 3, 1) := by decide +kernel
theorem d_M_as_33 : decode prog_10_method_24_code 33 = .ok (.ifCond .lt 16, 3) := by decide +kernel
theorem d_M_as_36 : decode prog_10_method_24_code 36 = .ok (.iload_n 3, 1) := by decide +kernel
theorem d_M_as_37 : decode prog_10_method_24_code 37 = .ok (.iload_n 2, 1) := by decide +kernel
theorem d_M_as_38 : decode prog_10_method_24_code 38 = .ok (.if_icmp .eq 11, 3) := by decide +kernel
theorem d_M_as_41 : decode prog_10_method_24_code 41 = .ok (.iload_n 3, 1) := by decide +kernel
theorem d_M_as_42 : decode prog_10_method_24_code 42 = .ok (.invokestatic 84, 3) := by decide +kernel
theorem d_M_as_45 : decode prog_10_method_24_code 45 = .ok (.istore_n 3, 1) := by decide +kernel
theorem d_M_as_46 : decode prog_10_method_24_code 46 = .ok (.goto (-14), 3) := by decide +kernel
theorem d_M_as_49 : decode prog_10_method_24_code 49 = .ok (.iload_n 3, 1) := by decide +kernel
theorem d_M_as_50 : decode prog_10_method_24_code 50 = .ok (.ifCond .ge 12, 3) := by decide +kernel
theorem d_M_as_53 : decode prog_10_method_24_code 53 = .ok (.aload_n 0, 1) := by decide +kernel
theorem d_M_as_54 : decode prog_10_method_24_code 54 = .ok (.ldc 87, 2) := by decide +kernel
theorem d_M_as_56 : decode prog_10_method_24_code 56 = .ok (.invokevirtual 49, 3) := by decide +kernel
theorem d_M_as_59 : decode prog_10_method_24_code 59 = .ok (.goto 9, 3) := by decide +kernel
theorem d_M_as_62 : decode prog_10_method_24_code 62 = .ok (.aload_n 0, 1) := by decide +kernel
theorem d_M_as_63 : decode prog_10_method_24_code 63 = .ok (.iload_n 1, 1) := by decide +kernel
theorem d_M_as_64 : decode prog_10_method_24_code 64 = .ok (.iconst 1, 1) := by decide +kernel
theorem d_M_as_65 : decode prog_10_method_24_code 65 = .ok (.invokevirtual 62, 3) := by decide +kernel
theorem d_M_as_68 : decode prog_10_method_24_code 68 = .ok (.ireturn, 1) := by decide +kernel
def w_M_as_18 (K : Int32 → sm_Mem → Prop) (p0 : Int32) (p1 : Int32) (μ : sm_Mem) : Prop := w_M_errs (fun r5 μ4 => K r5 μ4) (-1000000001) μ
def w_M_as_49 (K : Int32 → sm_Mem → Prop) (p0 : Int32) (p1 : Int32) (x3 : Int32) (μ : sm_Mem) : Prop := if 0 ≤ x3 then w_M_its (fun r14 μ13 => K r14 μ13) p0 1 μ else w_M_errs (fun r16 μ15 => K r16 μ15) (-1000000005) μ
def w_M_as_32 (K : Int32 → sm_Mem → Prop) (p0 : Int32) (p1 : Int32) (x3 : Int32) (μ : sm_Mem) : Prop := sm_lp1 (fun J32 x3 μ => if x3 < 0 then w_M_as_49 K p0 p1 x3 μ else (if x3 = p1 then w_M_as_49 K p0 p1 x3 μ else w_M_above (fun r19 μ18 => J32 r19 μ18) x3 μ)) x3 μ
def w_M_as (K : Int32 → sm_Mem → Prop) (p0 : Int32) (p1 : Int32) (μ : sm_Mem) : Prop := w_M_isNote (fun r2 μ1 => if r2 = 0 then w_M_as_18 K p0 p1 μ1 else w_M_in (fun r7 μ6 => if r7 = 0 then w_M_as_18 K p0 p1 μ6 else w_M_its (fun r10 μ9 => w_M_as_32 K p0 p1 r10 μ9) p0 0 μ6) p1 0 6 μ1) p0 μ
set_option maxHeartbeats 4000000 in
set_option maxRecDepth 100000 in
theorem P_M_as (l : Launch) {K : Int32 → sm_Mem → Prop} {p0 : Int32} {p1 : Int32} {μ : sm_Mem} (h : w_M_as K p0 p1 μ) : sm_MI l ⟨"SnowMoneyModel", "as", "(II)I"⟩ prog_10_method_24_code 4 (some .int) { frames := 2, cells := 0, slots := 0, locals := 43 } [sm_R 61, sm_I p0, sm_I p1] μ K := by
  refine sm_ofI (by decide +kernel) (fun _ => Nat.le_of_ble_eq_true rfl) ?_
  intro p e s m args below meth c A Q G C hR
  have B18 : ∀ (μ : sm_Mem), w_M_as_18 K p0 p1 μ → sm_W p l e { frames := 2, cells := 0, slots := 0, locals := 43 } s m args below meth c A Q G 4 0 0 18 [] [(0, sm_R 61)] μ := by
    intro μ h
    refine sr_aload_n C 0 rfl rfl d_M_as_18 ?_
    refine sr_ldc C q_441 d_M_as_19 ?_
    refine sr_callVI C [sm_I _] (P_M_errs l h) ok_97 sm_l61 rfl rfl rfl rfl ⟨Nat.le_of_ble_eq_true rfl, Nat.le_of_ble_eq_true rfl⟩ (Nat.le_of_ble_eq_true rfl) ⟨Nat.zero_le _, Nat.zero_le _⟩ d_M_as_21 (fun r5 μ4 h => ?_)
    exact hR _ _ _ _ d_M_as_24 rfl h
  have B49 : ∀ (x3 : Int32) (μ : sm_Mem), w_M_as_49 K p0 p1 x3 μ → sm_W p l e { frames := 2, cells := 0, slots := 0, locals := 43 } s m args below meth c A Q G 4 0 0 49 [] [(0, sm_R 61), (1, sm_I p0), (3, sm_I x3)] μ := by
    intro x3 μ h
    refine sr_iload_n C 2 rfl rfl d_M_as_49 ?_
    refine sr_if_ge C (tgt := 62) d_M_as_50 (by decide) (fun c12 => ?_) (fun c12 => ?_)
    · replace h := Eq.mp (if_pos c12) h
      refine sr_aload_n C 0 rfl rfl d_M_as_62 ?_
      refine sr_iload_n C 1 rfl rfl d_M_as_63 ?_
      refine sr_iconst C (v := 1) d_M_as_64 (by decide) ?_
      refine sr_callVI C [sm_I _, sm_I _] (P_M_its l h) ok_101 sm_l61 rfl rfl rfl rfl ⟨Nat.le_of_ble_eq_true rfl, Nat.le_of_ble_eq_true rfl⟩ (Nat.le_of_ble_eq_true rfl) ⟨Nat.zero_le _, Nat.zero_le _⟩ d_M_as_65 (fun r14 μ13 h => ?_)
      exact hR _ _ _ _ d_M_as_68 rfl h
    · replace h := Eq.mp (if_neg c12) h
      refine sr_aload_n C 0 rfl rfl d_M_as_53 ?_
      refine sr_ldc C q_546 d_M_as_54 ?_
      refine sr_callVI C [sm_I _] (P_M_errs l h) ok_97 sm_l61 rfl rfl rfl rfl ⟨Nat.le_of_ble_eq_true rfl, Nat.le_of_ble_eq_true rfl⟩ (Nat.le_of_ble_eq_true rfl) ⟨Nat.zero_le _, Nat.zero_le _⟩ d_M_as_56 (fun r16 μ15 h => ?_)
      refine sr_goto C (tgt := 68) (by decide) d_M_as_59 ?_
      exact hR _ _ _ _ d_M_as_68 rfl h
  have B32 : ∀ (x3 : Int32) (μ : sm_Mem), w_M_as_32 K p0 p1 x3 μ → sm_W p l e { frames := 2, cells := 0, slots := 0, locals := 43 } s m args below meth c A Q G 4 0 0 32 [] [(0, sm_R 61), (1, sm_I p0), (2, sm_I p1), (3, sm_I x3)] μ := by
    intro x3 μ h
    refine sm_lp1_sound (P := fun x3 μ => sm_W p l e { frames := 2, cells := 0, slots := 0, locals := 43 } s m args below meth c A Q G 4 0 0 32 [] [(0, sm_R 61), (1, sm_I p0), (2, sm_I p1), (3, sm_I x3)] μ) (fun J32 x3 μ hJ32 h => ?_) h
    refine sr_iload_n C 3 rfl rfl d_M_as_32 ?_
    refine sr_if_lt C (tgt := 49) d_M_as_33 (by decide) (fun c11 => ?_) (fun c11 => ?_)
    · replace h := Eq.mp (if_pos c11) h
      refine sr_mask C [0, 1, 3] rfl ?_
      exact B49 _ _ h
    · replace h := Eq.mp (if_neg c11) h
      refine sr_iload_n C 3 rfl rfl d_M_as_36 ?_
      refine sr_iload_n C 2 rfl rfl d_M_as_37 ?_
      refine sr_icmp_eq C (tgt := 49) d_M_as_38 (by decide) (fun c17 => ?_) (fun c17 => ?_)
      · replace h := Eq.mp (if_pos c17) h
        refine sr_mask C [0, 1, 3] rfl ?_
        exact B49 _ _ h
      · replace h := Eq.mp (if_neg c17) h
        refine sr_iload_n C 3 rfl rfl d_M_as_41 ?_
        refine sr_callSI C [sm_I _] (P_M_above l h) ok_122 rfl rfl rfl ⟨Nat.le_of_ble_eq_true rfl, Nat.le_of_ble_eq_true rfl⟩ (Nat.le_of_ble_eq_true rfl) ⟨Nat.zero_le _, Nat.zero_le _⟩ d_M_as_42 (fun r19 μ18 h => ?_)
        refine sr_istore_n C rfl (by decide) d_M_as_45 ?_
        refine sr_goto C (tgt := 32) (by decide) d_M_as_46 ?_
        refine sr_mask C [1, 2, 3, 0] rfl ?_
        exact hJ32 _ _ h
  refine sr_aload_n C 0 rfl rfl d_M_as_0 ?_
  refine sr_iload_n C 1 rfl rfl d_M_as_1 ?_
  refine sr_callVI C [sm_I _] (P_M_isNote l h) ok_104 sm_l61 rfl rfl rfl rfl ⟨Nat.le_of_ble_eq_true rfl, Nat.le_of_ble_eq_true rfl⟩ (Nat.le_of_ble_eq_true rfl) ⟨Nat.zero_le _, Nat.zero_le _⟩ d_M_as_2 (fun r2 μ1 h => ?_)
  refine sr_if_eq C (tgt := 18) d_M_as_5 (by decide) (fun c3 => ?_) (fun c3 => ?_)
  · replace h := Eq.mp (if_pos c3) h
    refine sr_mask C [0] rfl ?_
    exact B18 _ h
  · replace h := Eq.mp (if_neg c3) h
    refine sr_iload_n C 2 rfl rfl d_M_as_8 ?_
    refine sr_iconst C (v := 0) d_M_as_9 (by decide) ?_
    refine sr_bipush C (v := 6) d_M_as_10 (by decide) ?_
    refine sr_callSI C [sm_I _, sm_I _, sm_I _] (P_M_in l h) ok_96 rfl rfl rfl ⟨Nat.le_of_ble_eq_true rfl, Nat.le_of_ble_eq_true rfl⟩ (Nat.le_of_ble_eq_true rfl) ⟨Nat.zero_le _, Nat.zero_le _⟩ d_M_as_12 (fun r7 μ6 h => ?_)
    refine sr_if_ne C (tgt := 25) d_M_as_15 (by decide) (fun c8 => ?_) (fun c8 => ?_)
    · replace h := Eq.mp (if_neg c8) h
      refine sr_aload_n C 0 rfl rfl d_M_as_25 ?_
      refine sr_iload_n C 1 rfl rfl d_M_as_26 ?_
      refine sr_iconst C (v := 0) d_M_as_27 (by decide) ?_
      refine sr_callVI C [sm_I _, sm_I _] (P_M_its l h) ok_101 sm_l61 rfl rfl rfl rfl ⟨Nat.le_of_ble_eq_true rfl, Nat.le_of_ble_eq_true rfl⟩ (Nat.le_of_ble_eq_true rfl) ⟨Nat.zero_le _, Nat.zero_le _⟩ d_M_as_28 (fun r10 μ9 h => ?_)
      refine sr_istore_n C rfl (by decide) d_M_as_31 ?_
      refine sr_mask C [1, 2, 3, 0] rfl ?_
      exact B32 _ _ h
    · replace h := Eq.mp (if_pos c8) h
      refine sr_mask C [0] rfl ?_
      exact B18 _ h
theorem d_M_weather_0 : decode prog_10_method_25_code 0 = .ok (.iload_n 1, 1) := by decide +kernel
theorem d_M_weather_1 : decode prog_10_method_25_code 1 = .ok (.iconst 0, 1) := by decide +kernel
theorem d_M_weather_2 : decode prog_10_method_25_code 2 = .ok (.bipush 9, 2) := by decide +kernel
theorem d_M_weather_4 : decode prog_10_method_25_code 4 = .ok (.invokestatic 44, 3) := by decide +kernel
theorem d_M_weather_7 : decode prog_10_method_25_code 7 = .ok (.ifCond .eq 13, 3) := by decide +kernel
theorem d_M_weather_10 : decode prog_10_method_25_code 10 = .ok (.aload_n 0, 1) := by decide +kernel
theorem d_M_weather_11 : decode prog_10_method_25_code 11 = .ok (.bipush 8, 2) := by decide +kernel
theorem d_M_weather_13 : decode prog_10_method_25_code 13 = .ok (.iload_n 1, 1) := by decide +kernel
theorem d_M_weather_14 : decode prog_10_method_25_code 14 = .ok (.invokevirtual 58, 3) := by decide +kernel
theorem d_M_weather_17 : decode prog_10_method_25_code 17 = .ok (.goto 9, 3) := by decide +kernel
theorem d_M_weather_20 : decode prog_10_method_25_code 20 = .ok (.aload_n 0, 1) := by decide +kernel
theorem d_M_weather_21 : decode prog_10_method_25_code 21 = .ok (.ldc 48, 2) := by decide +kernel
theorem d_M_weather_23 : decode prog_10_method_25_code 23 = .ok (.invokevirtual 49, 3) := by decide +kernel
theorem d_M_weather_26 : decode prog_10_method_25_code 26 = .ok (.ireturn, 1) := by decide +kernel
def w_M_weather (K : Int32 → sm_Mem → Prop) (p0 : Int32) (μ : sm_Mem) : Prop := w_M_in (fun r2 μ1 => if r2 = 0 then w_M_errs (fun r5 μ4 => K r5 μ4) (-1000000001) μ1 else w_M_becomes (fun r7 μ6 => K r7 μ6) 8 p0 μ1) p0 0 9 μ
set_option maxHeartbeats 4000000 in
set_option maxRecDepth 100000 in
theorem P_M_weather (l : Launch) {K : Int32 → sm_Mem → Prop} {p0 : Int32} {μ : sm_Mem} (h : w_M_weather K p0 μ) : sm_MI l ⟨"SnowMoneyModel", "weather", "(I)I"⟩ prog_10_method_25_code 2 (some .int) { frames := 1, cells := 0, slots := 0, locals := 23 } [sm_R 61, sm_I p0] μ K := by
  refine sm_ofI (by decide +kernel) (fun _ => Nat.le_of_ble_eq_true rfl) ?_
  intro p e s m args below meth c A Q G C hR
  refine sr_iload_n C 1 rfl rfl d_M_weather_0 ?_
  refine sr_iconst C (v := 0) d_M_weather_1 (by decide) ?_
  refine sr_bipush C (v := 9) d_M_weather_2 (by decide) ?_
  refine sr_callSI C [sm_I _, sm_I _, sm_I _] (P_M_in l h) ok_96 rfl rfl rfl ⟨Nat.le_of_ble_eq_true rfl, Nat.le_of_ble_eq_true rfl⟩ (Nat.le_of_ble_eq_true rfl) ⟨Nat.zero_le _, Nat.zero_le _⟩ d_M_weather_4 (fun r2 μ1 h => ?_)
  refine sr_if_eq C (tgt := 20) d_M_weather_7 (by decide) (fun c3 => ?_) (fun c3 => ?_)
  · replace h := Eq.mp (if_pos c3) h
    refine sr_aload_n C 0 rfl rfl d_M_weather_20 ?_
    refine sr_ldc C q_441 d_M_weather_21 ?_
    refine sr_callVI C [sm_I _] (P_M_errs l h) ok_97 sm_l61 rfl rfl rfl rfl ⟨Nat.le_of_ble_eq_true rfl, Nat.le_of_ble_eq_true rfl⟩ (Nat.le_of_ble_eq_true rfl) ⟨Nat.zero_le _, Nat.zero_le _⟩ d_M_weather_23 (fun r5 μ4 h => ?_)
    exact hR _ _ _ _ d_M_weather_26 rfl h
  · replace h := Eq.mp (if_neg c3) h
    refine sr_aload_n C 0 rfl rfl d_M_weather_10 ?_
    refine sr_bipush C (v := 8) d_M_weather_11 (by decide) ?_
    refine sr_iload_n C 1 rfl rfl d_M_weather_13 ?_
    refine sr_callVI C [sm_I _, sm_I _] (P_M_becomes l h) ok_99 sm_l61 rfl rfl rfl rfl ⟨Nat.le_of_ble_eq_true rfl, Nat.le_of_ble_eq_true rfl⟩ (Nat.le_of_ble_eq_true rfl) ⟨Nat.zero_le _, Nat.zero_le _⟩ d_M_weather_14 (fun r7 μ6 h => ?_)
    refine sr_goto C (tgt := 26) (by decide) d_M_weather_17 ?_
    exact hR _ _ _ _ d_M_weather_26 rfl h
theorem d_M_law_0 : decode prog_10_method_39_code 0 = .ok (.iload_n 1, 1) := by decide +kernel
theorem d_M_law_1 : decode prog_10_method_39_code 1 = .ok (.iconst 0, 1) := by decide +kernel
theorem d_M_law_2 : decode prog_10_method_39_code 2 = .ok (.iconst 1, 1) := by decide +kernel
theorem d_M_law_3 : decode prog_10_method_39_code 3 = .ok (.invokestatic 44, 3) := by decide +kernel
theorem d_M_law_6 : decode prog_10_method_39_code 6 = .ok (.ifCond .eq 15, 3) := by decide +kernel
theorem d_M_law_9 : decode prog_10_method_39_code 9 = .ok (.aload_n 0, 1) := by decide +kernel
theorem d_M_law_10 : decode prog_10_method_39_code 10 = .ok (.iload_n 1, 1) := by decide +kernel
theorem d_M_law_11 : decode prog_10_method_39_code 11 = .ok (.iload_n 2, 1) := by decide +kernel
theorem d_M_law_12 : decode prog_10_method_39_code 12 = .ok (.iload_n 3, 1) := by decide +kernel
theorem d_M_law_13 : decode prog_10_method_39_code 13 = .ok (.iload 4, 2) := by decide +kernel
theorem d_M_law_15 : decode prog_10_method_39_code 15 = .ok (.invokevirtual 156, 3) := by decide +kernel
theorem d_M_law_18 : decode prog_10_method_39_code 18 = .ok (.goto 9, 3) := by decide +kernel
theorem d_M_law_21 : decode prog_10_method_39_code 21 = .ok (.aload_n 0, 1) := by decide +kernel
theorem d_M_law_22 : decode prog_10_method_39_code 22 = .ok (.ldc 48, 2) := by decide +kernel
theorem d_M_law_24 : decode prog_10_method_39_code 24 = .ok (.invokevirtual 49, 3) := by decide +kernel
theorem d_M_law_27 : decode prog_10_method_39_code 27 = .ok (.ireturn, 1) := by decide +kernel
def w_M_law (K : Int32 → sm_Mem → Prop) (p0 : Int32) (p1 : Int32) (p2 : Int32) (p3 : Int32) (μ : sm_Mem) : Prop := w_M_in (fun r2 μ1 => if r2 = 0 then w_M_errs (fun r5 μ4 => K r5 μ4) (-1000000001) μ1 else w_M_lawOf (fun r7 μ6 => K r7 μ6) p0 p1 p2 p3 μ1) p0 0 1 μ
set_option maxHeartbeats 4000000 in
set_option maxRecDepth 100000 in
theorem P_M_law (l : Launch) {K : Int32 → sm_Mem → Prop} {p0 : Int32} {p1 : Int32} {p2 : Int32} {p3 : Int32} {μ : sm_Mem} (h : w_M_law K p0 p1 p2 p3 μ) : sm_MI l ⟨"SnowMoneyModel", "law", "(IIII)I"⟩ prog_10_method_39_code 5 (some .int) { frames := 57, cells := 0, slots := 0, locals := 2192 } [sm_R 61, sm_I p0, sm_I p1, sm_I p2, sm_I p3] μ K := by
  refine sm_ofI (by decide +kernel) (fun _ => Nat.le_of_ble_eq_true rfl) ?_
  intro p e s m args below meth c A Q G C hR
  refine sr_iload_n C 1 rfl rfl d_M_law_0 ?_
  refine sr_iconst C (v := 0) d_M_law_1 (by decide) ?_
  refine sr_iconst C (v := 1) d_M_law_2 (by decide) ?_
  refine sr_callSI C [sm_I _, sm_I _, sm_I _] (P_M_in l h) ok_96 rfl rfl rfl ⟨Nat.le_of_ble_eq_true rfl, Nat.le_of_ble_eq_true rfl⟩ (Nat.le_of_ble_eq_true rfl) ⟨Nat.zero_le _, Nat.zero_le _⟩ d_M_law_3 (fun r2 μ1 h => ?_)
  refine sr_if_eq C (tgt := 21) d_M_law_6 (by decide) (fun c3 => ?_) (fun c3 => ?_)
  · replace h := Eq.mp (if_pos c3) h
    refine sr_aload_n C 0 rfl rfl d_M_law_21 ?_
    refine sr_ldc C q_441 d_M_law_22 ?_
    refine sr_callVI C [sm_I _] (P_M_errs l h) ok_97 sm_l61 rfl rfl rfl rfl ⟨Nat.le_of_ble_eq_true rfl, Nat.le_of_ble_eq_true rfl⟩ (Nat.le_of_ble_eq_true rfl) ⟨Nat.zero_le _, Nat.zero_le _⟩ d_M_law_24 (fun r5 μ4 h => ?_)
    exact hR _ _ _ _ d_M_law_27 rfl h
  · replace h := Eq.mp (if_neg c3) h
    refine sr_aload_n C 0 rfl rfl d_M_law_9 ?_
    refine sr_iload_n C 1 rfl rfl d_M_law_10 ?_
    refine sr_iload_n C 2 rfl rfl d_M_law_11 ?_
    refine sr_iload_n C 3 rfl rfl d_M_law_12 ?_
    refine sr_iload C 4 rfl d_M_law_13 ?_
    refine sr_callVI C [sm_I _, sm_I _, sm_I _, sm_I _] (P_M_lawOf l h) ok_108 sm_l61 rfl rfl rfl rfl ⟨Nat.le_of_ble_eq_true rfl, Nat.le_of_ble_eq_true rfl⟩ (Nat.le_of_ble_eq_true rfl) ⟨Nat.zero_le _, Nat.zero_le _⟩ d_M_law_15 (fun r7 μ6 h => ?_)
    refine sr_goto C (tgt := 27) (by decide) d_M_law_18 ?_
    exact hR _ _ _ _ d_M_law_27 rfl h
theorem d_M_feed_0 : decode prog_10_method_40_code 0 = .ok (.iload_n 3, 1) := by decide +kernel
theorem d_M_feed_1 : decode prog_10_method_40_code 1 = .ok (.iconst 1, 1) := by decide +kernel
theorem d_M_feed_2 : decode prog_10_method_40_code 2 = .ok (.bipush 8, 2) := by decide +kernel
theorem d_M_feed_4 : decode prog_10_method_40_code 4 = .ok (.invokestatic 44, 3) := by decide +kernel
theorem d_M_feed_7 : decode prog_10_method_40_code 7 = .ok (.ifCond .ne 10, 3) := by decide +kernel
theorem d_M_feed_10 : decode prog_10_method_40_code 10 = .ok (.aload_n 0, 1) := by decide +kernel
theorem d_M_feed_11 : decode prog_10_method_40_code 11 = .ok (.ldc 48, 2) := by decide +kernel
theorem d_M_feed_13 : decode prog_10_method_40_code 13 = .ok (.invokevirtual 49, 3) := by decide +kernel
theorem d_M_feed_16 : decode prog_10_method_40_code 16 = .ok (.ireturn, 1) := by decide +kernel
theorem d_M_feed_17 : decode prog_10_method_40_code 17 = .ok (.aload_n 0, 1) := by decide +kernel
theorem d_M_feed_18 : decode prog_10_method_40_code 18 = .ok (.getfield 7, 3) := by decide +kernel
theorem d_M_feed_21 : decode prog_10_method_40_code 21 = .ok (.iconst 3, 1) := by decide +kernel
theorem d_M_feed_22 : decode prog_10_method_40_code 22 = .ok (.iaload, 1) := by decide +kernel
theorem d_M_feed_23 : decode prog_10_method_40_code 23 = .ok (.iload_n 3, 1) := by decide +kernel
theorem d_M_feed_24 : decode prog_10_method_40_code 24 = .ok (.iadd, 1) := by decide +kernel
theorem d_M_feed_25 : decode prog_10_method_40_code 25 = .ok (.bipush 50, 2) := by decide +kernel
theorem d_M_feed_27 : decode prog_10_method_40_code 27 = .ok (.if_icmp .le 10, 3) := by decide +kernel
theorem d_M_feed_30 : decode prog_10_method_40_code 30 = .ok (.aload_n 0, 1) := by decide +kernel
theorem d_M_feed_31 : decode prog_10_method_40_code 31 = .ok (.ldc 53, 2) := by decide +kernel
theorem d_M_feed_33 : decode prog_10_method_40_code 33 = .ok (.invokevirtual 49, 3) := by decide +kernel
theorem d_M_feed_36 : decode prog_10_method_40_code 36 = .ok (.ireturn, 1) := by decide +kernel
theorem d_M_feed_37 : decode prog_10_method_40_code 37 = .ok (.iconst 0, 1) := by decide +kernel
theorem d_M_feed_38 : decode prog_10_method_40_code 38 = .ok (.istore 4, 2) := by decide +kernel
theorem d_M_feed_40 : decode prog_10_method_40_code 40 = .ok (.iload 4, 2) := by decide +kernel
theorem d_M_feed_42 : decode prog_10_method_40_code 42 = .ok (.iload_n 3, 1) := by decide +kernel
theorem d_M_feed_43 : decode prog_10_method_40_code 43 = .ok (.if_icmp .ge 45, 3) := by decide +kernel
theorem d_M_feed_46 : decode prog_10_method_40_code 46 = .ok (.aload_n 0, 1) := by decide +kernel
theorem d_M_feed_47 : decode prog_10_method_40_code 47 = .ok (.getfield 7, 3) := by decide +kernel
theorem d_M_feed_50 : decode prog_10_method_40_code 50 = .ok (.bipush 101, 2) := by decide +kernel
theorem d_M_feed_52 : decode prog_10_method_40_code 52 = .ok (.aload_n 0, 1) := by decide +kernel
theorem d_M_feed_53 : decode prog_10_method_40_code 53 = .ok (.getfield 7, 3) := by decide +kernel
theorem d_M_feed_56 : decode prog_10_method_40_code 56 = .ok (.iconst 3, 1) := by decide +kernel
theorem d_M_feed_57 : decode prog_10_method_40_code 57 = .ok (.iaload, 1) := by decide +kernel
theorem d_M_feed_58 : decode prog_10_method_40_code 58 = .ok (.iadd, 1) := by decide +kernel
theorem d_M_feed_59 : decode prog_10_method_40_code 59 = .ok (.lload_n 1, 1) := by decide +kernel
theorem d_M_feed_60 : decode prog_10_method_40_code 60 = .ok (.bipush 8, 2) := by decide +kernel
theorem d_M_feed_62 : decode prog_10_method_40_code 62 = .ok (.iload 4, 2) := by decide +kernel
theorem d_M_feed_64 : decode prog_10_method_40_code 64 = .ok (.imul, 1) := by decide +kernel
theorem d_M_feed_65 : decode prog_10_method_40_code 65 = .ok (.lshr, 1) := by decide +kernel
theorem d_M_feed_66 : decode prog_10_method_40_code 66 = .ok (.ldc2_w 159, 3) := by decide +kernel
theorem d_M_feed_69 : decode prog_10_method_40_code 69 = .ok (.land, 1) := by decide +kernel
theorem d_M_feed_70 : decode prog_10_method_40_code 70 = .ok (.l2i, 1) := by decide +kernel
theorem d_M_feed_71 : decode prog_10_method_40_code 71 = .ok (.iastore, 1) := by decide +kernel
theorem d_M_feed_72 : decode prog_10_method_40_code 72 = .ok (.aload_n 0, 1) := by decide +kernel
theorem d_M_feed_73 : decode prog_10_method_40_code 73 = .ok (.getfield 7, 3) := by decide +kernel
theorem d_M_feed_76 : decode prog_10_method_40_code 76 = .ok (.iconst 3, 1) := by decide +kernel
theorem d_M_feed_77 : decode prog_10_method_40_code 77 = .ok (.dup2, 1) := by decide +kernel
theorem d_M_feed_78 : decode prog_10_method_40_code 78 = .ok (.iaload, 1) := by decide +kernel
theorem d_M_feed_79 : decode prog_10_method_40_code 79 = .ok (.iconst 1, 1) := by decide +kernel
theorem d_M_feed_80 : decode prog_10_method_40_code 80 = .ok (.iadd, 1) := by decide +kernel
theorem d_M_feed_81 : decode prog_10_method_40_code 81 = .ok (.iastore, 1) := by decide +kernel
theorem d_M_feed_82 : decode prog_10_method_40_code 82 = .ok (.iinc 4 1, 3) := by decide +kernel
theorem d_M_feed_85 : decode prog_10_method_40_code 85 = .ok (.goto (-45), 3) := by decide +kernel
theorem d_M_feed_88 : decode prog_10_method_40_code 88 = .ok (.aload_n 0, 1) := by decide +kernel
theorem d_M_feed_89 : decode prog_10_method_40_code 89 = .ok (.getfield 7, 3) := by decide +kernel
theorem d_M_feed_92 : decode prog_10_method_40_code 92 = .ok (.iconst 3, 1) := by decide +kernel
theorem d_M_feed_93 : decode prog_10_method_40_code 93 = .ok (.iaload, 1) := by decide +kernel
theorem d_M_feed_94 : decode prog_10_method_40_code 94 = .ok (.ireturn, 1) := by decide +kernel
def w_M_feed_40 (K : Int32 → sm_Mem → Prop) (p0 : Int64) (p1 : Int32) (x4 : Int32) (μ : sm_Mem) : Prop := sm_lp1 (fun J40 x4 μ => if p1 ≤ x4 then K (μ 62 3) μ else (vp_in (101 + (μ 62 3)) 271 ∧ ∀ μ7 : sm_Mem, μ7 = sm_st μ 62 ((101 + (μ 62 3)).toNatClampNeg) (((p0 >>> ((8 * x4).toInt64 &&& 63)) &&& 255).toInt32) → ∀ μ8 : sm_Mem, μ8 = sm_st μ7 62 3 ((μ7 62 3) + 1) → J40 (x4 + 1) μ8)) x4 μ
def w_M_feed (K : Int32 → sm_Mem → Prop) (p0 : Int64) (p1 : Int32) (μ : sm_Mem) : Prop := w_M_in (fun r2 μ1 => if r2 = 0 then w_M_errs (fun r12 μ11 => K r12 μ11) (-1000000001) μ1 else (if ((μ1 62 3) + p1) ≤ 50 then w_M_feed_40 K p0 p1 0 μ1 else w_M_errs (fun r10 μ9 => K r10 μ9) (-1000000004) μ1)) p1 1 8 μ
set_option maxHeartbeats 4000000 in
set_option maxRecDepth 100000 in
theorem P_M_feed (l : Launch) {K : Int32 → sm_Mem → Prop} {p0 : Int64} {p1 : Int32} {μ : sm_Mem} (h : w_M_feed K p0 p1 μ) : sm_MI l ⟨"SnowMoneyModel", "feed", "(JI)I"⟩ prog_10_method_40_code 5 (some .int) { frames := 1, cells := 0, slots := 0, locals := 22 } [sm_R 61, sm_L p0, sm_I p1] μ K := by
  refine sm_ofI (by decide +kernel) (fun _ => Nat.le_of_ble_eq_true rfl) ?_
  intro p e s m args below meth c A Q G C hR
  have B40 : ∀ (x4 : Int32) (μ : sm_Mem), w_M_feed_40 K p0 p1 x4 μ → sm_W p l e { frames := 1, cells := 0, slots := 0, locals := 22 } s m args below meth c A Q G 5 0 0 40 [] [(0, sm_R 61), (1, sm_L p0), (3, sm_I p1), (4, sm_I x4)] μ := by
    intro x4 μ h
    refine sm_lp1_sound (P := fun x4 μ => sm_W p l e { frames := 1, cells := 0, slots := 0, locals := 22 } s m args below meth c A Q G 5 0 0 40 [] [(0, sm_R 61), (1, sm_L p0), (3, sm_I p1), (4, sm_I x4)] μ) (fun J40 x4 μ hJ40 h => ?_) h
    refine sr_iload C 3 rfl d_M_feed_40 ?_
    refine sr_iload_n C 2 rfl rfl d_M_feed_42 ?_
    refine sr_icmp_ge C (tgt := 88) d_M_feed_43 (by decide) (fun c5 => ?_) (fun c5 => ?_)
    · replace h := Eq.mp (if_pos c5) h
      refine sr_aload_n C 0 rfl rfl d_M_feed_88 ?_
      refine sr_getR C sm_F7 0 q_435 sm_l61 (r := 62) rfl (by decide) d_M_feed_89 ?_
      refine sr_iconst C (v := 3) d_M_feed_92 (by decide) ?_
      refine sr_ialdJ C sm_l62 (j := 3) (sm_vin (by decide)) (by decide) d_M_feed_93 ?_
      exact hR _ _ _ _ d_M_feed_94 rfl h
    · replace h := Eq.mp (if_neg c5) h
      refine sr_aload_n C 0 rfl rfl d_M_feed_46 ?_
      refine sr_getR C sm_F7 0 q_435 sm_l61 (r := 62) rfl (by decide) d_M_feed_47 ?_
      refine sr_bipush C (v := 101) d_M_feed_50 (by decide) ?_
      refine sr_aload_n C 0 rfl rfl d_M_feed_52 ?_
      refine sr_getR C sm_F7 0 q_435 sm_l61 (r := 62) rfl (by decide) d_M_feed_53 ?_
      refine sr_iconst C (v := 3) d_M_feed_56 (by decide) ?_
      refine sr_ialdJ C sm_l62 (j := 3) (sm_vin (by decide)) (by decide) d_M_feed_57 ?_
      refine sr_iadd C d_M_feed_58 ?_
      refine sr_lload_n C 1 rfl rfl d_M_feed_59 ?_
      refine sr_bipush C (v := 8) d_M_feed_60 (by decide) ?_
      refine sr_iload C 3 rfl d_M_feed_62 ?_
      refine sr_imul C d_M_feed_64 ?_
      refine sr_lshr C d_M_feed_65 ?_
      refine sr_ldc2 C q_550 d_M_feed_66 ?_
      refine sr_land C d_M_feed_69 ?_
      refine sr_l2i C d_M_feed_70 ?_
      obtain ⟨g6, h⟩ := h
      refine sr_iast C sm_l62 g6 d_M_feed_71 ?_
      replace h := h _ rfl
      refine sr_aload_n C 0 rfl rfl d_M_feed_72 ?_
      refine sr_getR C sm_F7 0 q_435 sm_l61 (r := 62) rfl (by decide) d_M_feed_73 ?_
      refine sr_iconst C (v := 3) d_M_feed_76 (by decide) ?_
      refine sr_dup2 C rfl rfl d_M_feed_77 ?_
      refine sr_ialdJ C sm_l62 (j := 3) (sm_vin (by decide)) (by decide) d_M_feed_78 ?_
      refine sr_iconst C (v := 1) d_M_feed_79 (by decide) ?_
      refine sr_iadd C d_M_feed_80 ?_
      refine sr_iastJ C sm_l62 (j := 3) (sm_vin (by decide)) (by decide) d_M_feed_81 ?_
      replace h := h _ rfl
      refine sr_iinc C 3 rfl (by decide) d_M_feed_82 rfl ?_
      refine sr_goto C (tgt := 40) (by decide) d_M_feed_85 ?_
      refine sr_mask C [1, 2, 3, 0] rfl ?_
      exact hJ40 _ _ h
  refine sr_iload_n C 2 rfl rfl d_M_feed_0 ?_
  refine sr_iconst C (v := 1) d_M_feed_1 (by decide) ?_
  refine sr_bipush C (v := 8) d_M_feed_2 (by decide) ?_
  refine sr_callSI C [sm_I _, sm_I _, sm_I _] (P_M_in l h) ok_96 rfl rfl rfl ⟨Nat.le_of_ble_eq_true rfl, Nat.le_of_ble_eq_true rfl⟩ (Nat.le_of_ble_eq_true rfl) ⟨Nat.zero_le _, Nat.zero_le _⟩ d_M_feed_4 (fun r2 μ1 h => ?_)
  refine sr_if_ne C (tgt := 17) d_M_feed_7 (by decide) (fun c3 => ?_) (fun c3 => ?_)
  · replace h := Eq.mp (if_neg c3) h
    refine sr_aload_n C 0 rfl rfl d_M_feed_17 ?_
    refine sr_getR C sm_F7 0 q_435 sm_l61 (r := 62) rfl (by decide) d_M_feed_18 ?_
    refine sr_iconst C (v := 3) d_M_feed_21 (by decide) ?_
    refine sr_ialdJ C sm_l62 (j := 3) (sm_vin (by decide)) (by decide) d_M_feed_22 ?_
    refine sr_iload_n C 2 rfl rfl d_M_feed_23 ?_
    refine sr_iadd C d_M_feed_24 ?_
    refine sr_bipush C (v := 50) d_M_feed_25 (by decide) ?_
    refine sr_icmp_le C (tgt := 37) d_M_feed_27 (by decide) (fun c4 => ?_) (fun c4 => ?_)
    · replace h := Eq.mp (if_pos c4) h
      refine sr_iconst C (v := 0) d_M_feed_37 (by decide) ?_
      refine sr_istore C (by decide) d_M_feed_38 ?_
      refine sr_mask C [1, 2, 3, 0] rfl ?_
      exact B40 _ _ h
    · replace h := Eq.mp (if_neg c4) h
      refine sr_aload_n C 0 rfl rfl d_M_feed_30 ?_
      refine sr_ldc C q_436 d_M_feed_31 ?_
      refine sr_callVI C [sm_I _] (P_M_errs l h) ok_97 sm_l61 rfl rfl rfl rfl ⟨Nat.le_of_ble_eq_true rfl, Nat.le_of_ble_eq_true rfl⟩ (Nat.le_of_ble_eq_true rfl) ⟨Nat.zero_le _, Nat.zero_le _⟩ d_M_feed_33 (fun r10 μ9 h => ?_)
      exact hR _ _ _ _ d_M_feed_36 rfl h
  · replace h := Eq.mp (if_pos c3) h
    refine sr_aload_n C 0 rfl rfl d_M_feed_10 ?_
    refine sr_ldc C q_441 d_M_feed_11 ?_
    refine sr_callVI C [sm_I _] (P_M_errs l h) ok_97 sm_l61 rfl rfl rfl rfl ⟨Nat.le_of_ble_eq_true rfl, Nat.le_of_ble_eq_true rfl⟩ (Nat.le_of_ble_eq_true rfl) ⟨Nat.zero_le _, Nat.zero_le _⟩ d_M_feed_13 (fun r12 μ11 h => ?_)
    exact hR _ _ _ _ d_M_feed_16 rfl h
theorem d_M_moveAll_0 : decode prog_10_method_5_code 0 = .ok (.iconst 0, 1) := by decide +kernel
theorem d_M_moveAll_1 : decode prog_10_method_5_code 1 = .ok (.istore_n 3, 1) := by decide +kernel
theorem d_M_moveAll_2 : decode prog_10_method_5_code 2 = .ok (.iload_n 3, 1) := by decide +kernel
theorem d_M_moveAll_3 : decode prog_10_method_5_code 3 = .ok (.sipush 271, 3) := by decide +kernel
theorem d_M_moveAll_6 : decode prog_10_method_5_code 6 = .ok (.if_icmp .ge 15, 3) := by decide +kernel
theorem d_M_moveAll_9 : decode prog_10_method_5_code 9 = .ok (.aload_n 2, 1) := by decide +kernel
theorem d_M_moveAll_10 : decode prog_10_method_5_code 10 = .ok (.iload_n 3, 1) := by decide +kernel
theorem d_M_moveAll_11 : decode prog_10_method_5_code 11 = .ok (.aload_n 1, 1) := by decide +kernel
theorem d_M_moveAll_12 : decode prog_10_method_5_code 12 = .ok (.iload_n 3, 1) := by decide +kernel
theorem d_M_moveAll_13 : decode prog_10_method_5_code 13 = .ok (.iaload, 1) := by decide +kernel
theorem d_M_moveAll_14 : decode prog_10_method_5_code 14 = .ok (.iastore, 1) := by decide +kernel
theorem d_M_moveAll_15 : decode prog_10_method_5_code 15 = .ok (.iinc 3 1, 3) := by decide +kernel
theorem d_M_moveAll_18 : decode prog_10_method_5_code 18 = .ok (.goto (-16), 3) := by decide +kernel
theorem d_M_moveAll_21 : decode prog_10_method_5_code 21 = .ok (.return_, 1) := by decide +kernel
def w_M_moveAll_2 (K : sm_Mem → Prop) (a0 : Nat) (a1 : Nat) (x3 : Int32) (μ : sm_Mem) : Prop := sm_lp1 (fun J2 x3 μ => if 271 ≤ x3 then K μ else (vp_in x3 271 ∧ vp_in x3 271 ∧ ∀ μ4 : sm_Mem, μ4 = sm_st μ a1 (x3.toNatClampNeg) (μ a0 x3.toNatClampNeg) → J2 (x3 + 1) μ4)) x3 μ
def w_M_moveAll (K : sm_Mem → Prop) (a0 : Nat) (a1 : Nat) (μ : sm_Mem) : Prop := isArr a0 271 ∧ isArr a1 271 ∧ w_M_moveAll_2 K a0 a1 0 μ
set_option maxHeartbeats 4000000 in
set_option maxRecDepth 100000 in
theorem P_M_moveAll (l : Launch) {K : sm_Mem → Prop} {a0 : Nat} {a1 : Nat} {μ : sm_Mem} (h : w_M_moveAll K a0 a1 μ) : sm_MV l ⟨"SnowMoneyModel", "moveAll", "([I[I)V"⟩ prog_10_method_5_code 4 { frames := 0, cells := 0, slots := 0, locals := 0 } [sm_R 61, sm_R a0, sm_R a1] μ K := by
  refine sm_ofV (by decide +kernel) (fun _ => Nat.le_of_ble_eq_true rfl) ?_
  intro p e s m args below meth c A Q G C hR
  obtain ⟨t_a0, h⟩ := h
  obtain ⟨t_a1, h⟩ := h
  have B2 : ∀ (x3 : Int32) (μ : sm_Mem), w_M_moveAll_2 K a0 a1 x3 μ → sm_W p l e { frames := 0, cells := 0, slots := 0, locals := 0 } s m args below meth c A Q G 4 0 0 2 [] [(1, sm_R a0), (2, sm_R a1), (3, sm_I x3)] μ := by
    intro x3 μ h
    refine sm_lp1_sound (P := fun x3 μ => sm_W p l e { frames := 0, cells := 0, slots := 0, locals := 0 } s m args below meth c A Q G 4 0 0 2 [] [(1, sm_R a0), (2, sm_R a1), (3, sm_I x3)] μ) (fun J2 x3 μ hJ2 h => ?_) h
    refine sr_iload_n C 2 rfl rfl d_M_moveAll_2 ?_
    refine sr_sipush C (v := 271) d_M_moveAll_3 (by decide) ?_
    refine sr_icmp_ge C (tgt := 21) d_M_moveAll_6 (by decide) (fun c1 => ?_) (fun c1 => ?_)
    · replace h := Eq.mp (if_pos c1) h
      exact hR _ _ _ d_M_moveAll_21 h
    · replace h := Eq.mp (if_neg c1) h
      refine sr_aload_n C 1 rfl rfl d_M_moveAll_9 ?_
      refine sr_iload_n C 2 rfl rfl d_M_moveAll_10 ?_
      refine sr_aload_n C 0 rfl rfl d_M_moveAll_11 ?_
      refine sr_iload_n C 2 rfl rfl d_M_moveAll_12 ?_
      obtain ⟨g2, h⟩ := h
      refine sr_iald C t_a0 g2 d_M_moveAll_13 ?_
      obtain ⟨g3, h⟩ := h
      refine sr_iast C t_a1 g3 d_M_moveAll_14 ?_
      replace h := h _ rfl
      refine sr_iinc C 2 rfl (by decide) d_M_moveAll_15 rfl ?_
      refine sr_goto C (tgt := 2) (by decide) d_M_moveAll_18 ?_
      refine sr_mask C [1, 2, 0] rfl ?_
      exact hJ2 _ _ h
  refine sr_iconst C (v := 0) d_M_moveAll_0 (by decide) ?_
  refine sr_istore_n C rfl (by decide) d_M_moveAll_1 ?_
  refine sr_mask C [2, 3, 0] rfl ?_
  exact B2 _ _ h
theorem d_M_text_0 : decode prog_10_method_41_code 0 = .ok (.iload_n 1, 1) := by decide +kernel
theorem d_M_text_1 : decode prog_10_method_41_code 1 = .ok (.iconst 0, 1) := by decide +kernel
theorem d_M_text_2 : decode prog_10_method_41_code 2 = .ok (.iconst 1, 1) := by decide +kernel
theorem d_M_text_3 : decode prog_10_method_41_code 3 = .ok (.invokestatic 44, 3) := by decide +kernel
theorem d_M_text_6 : decode prog_10_method_41_code 6 = .ok (.ifCond .ne 10, 3) := by decide +kernel
theorem d_M_text_9 : decode prog_10_method_41_code 9 = .ok (.aload_n 0, 1) := by decide +kernel
theorem d_M_text_10 : decode prog_10_method_41_code 10 = .ok (.ldc 48, 2) := by decide +kernel
theorem d_M_text_12 : decode prog_10_method_41_code 12 = .ok (.invokevirtual 49, 3) := by decide +kernel
theorem d_M_text_15 : decode prog_10_method_41_code 15 = .ok (.ireturn, 1) := by decide +kernel
theorem d_M_text_16 : decode prog_10_method_41_code 16 = .ok (.aload_n 0, 1) := by decide +kernel
theorem d_M_text_17 : decode prog_10_method_41_code 17 = .ok (.aload_n 0, 1) := by decide +kernel
theorem d_M_text_18 : decode prog_10_method_41_code 18 = .ok (.getfield 7, 3) := by decide +kernel
theorem d_M_text_21 : decode prog_10_method_41_code 21 = .ok (.aload_n 0, 1) := by decide +kernel
theorem d_M_text_22 : decode prog_10_method_41_code 22 = .ok (.getfield 19, 3) := by decide +kernel
theorem d_M_text_25 : decode prog_10_method_41_code 25 = .ok (.invokevirtual 161, 3) := by decide +kernel
theorem d_M_text_28 : decode prog_10_method_41_code 28 = .ok (.iconst 0, 1) := by decide +kernel
theorem d_M_text_29 : decode prog_10_method_41_code 29 = .ok (.istore_n 2, 1) := by decide +kernel
theorem d_M_text_30 : decode prog_10_method_41_code 30 = .ok (.iload_n 2, 1) := by decide +kernel
theorem d_M_text_31 : decode prog_10_method_41_code 31 = .ok (.bipush 50, 2) := by decide +kernel
theorem d_M_text_33 : decode prog_10_method_41_code 33 = .ok (.if_icmp .ge 33, 3) := by decide +kernel
theorem d_M_text_36 : decode prog_10_method_41_code 36 = .ok (.aload_n 0, 1) := by decide +kernel
theorem d_M_text_37 : decode prog_10_method_41_code 37 = .ok (.getfield 7, 3) := by decide +kernel
theorem d_M_text_40 : decode prog_10_method_41_code 40 = .ok (.sipush 171, 3) := by decide +kernel
theorem d_M_text_43 : decode prog_10_method_41_code 43 = .ok (.bipush 50, 2) := by decide +kernel
theorem d_M_text_45 : decode prog_10_method_41_code 45 = .ok (.iload_n 1, 1) := by decide +kernel
theorem d_M_text_46 : decode prog_10_method_41_code 46 = .ok (.imul, 1) := by decide +kernel
theorem d_M_text_47 : decode prog_10_method_41_code 47 = .ok (.iadd, 1) := by decide +kernel
theorem d_M_text_48 : decode prog_10_method_41_code 48 = .ok (.iload_n 2, 1) := by decide +kernel
theorem d_M_text_49 : decode prog_10_method_41_code 49 = .ok (.iadd, 1) := by decide +kernel
theorem d_M_text_50 : decode prog_10_method_41_code 50 = .ok (.aload_n 0, 1) := by decide +kernel
theorem d_M_text_51 : decode prog_10_method_41_code 51 = .ok (.getfield 7, 3) := by decide +kernel
theorem d_M_text_54 : decode prog_10_method_41_code 54 = .ok (.bipush 101, 2) := by decide +kernel
theorem d_M_text_56 : decode prog_10_method_41_code 56 = .ok (.iload_n 2, 1) := by decide +kernel
theorem d_M_text_57 : decode prog_10_method_41_code 57 = .ok (.iadd, 1) := by decide +kernel
theorem d_M_text_58 : decode prog_10_method_41_code 58 = .ok (.iaload, 1) := by decide +kernel
theorem d_M_text_59 : decode prog_10_method_41_code 59 = .ok (.iastore, 1) := by decide +kernel
theorem d_M_text_60 : decode prog_10_method_41_code 60 = .ok (.iinc 2 1, 3) := by decide +kernel
theorem d_M_text_63 : decode prog_10_method_41_code 63 = .ok (.goto (-33), 3) := by decide +kernel
theorem d_M_text_66 : decode prog_10_method_41_code 66 = .ok (.aload_n 0, 1) := by decide +kernel
theorem d_M_text_67 : decode prog_10_method_41_code 67 = .ok (.getfield 7, 3) := by decide +kernel
theorem d_M_text_70 : decode prog_10_method_41_code 70 = .ok (.iconst 5, 1) := by decide +kernel
theorem d_M_text_71 : decode prog_10_method_41_code 71 = .ok (.iload_n 1, 1) := by decide +kernel
theorem d_M_text_72 : decode prog_10_method_41_code 72 = .ok (.iadd, 1) := by decide +kernel
theorem d_M_text_73 : decode prog_10_method_41_code 73 = .ok (.aload_n 0, 1) := by decide +kernel
theorem d_M_text_74 : decode prog_10_method_41_code 74 = .ok (.getfield 7, 3) := by decide +kernel
theorem d_M_text_77 : decode prog_10_method_41_code 77 = .ok (.iconst 3, 1) := by decide +kernel
theorem d_M_text_78 : decode prog_10_method_41_code 78 = .ok (.iaload, 1) := by decide +kernel
theorem d_M_text_79 : decode prog_10_method_41_code 79 = .ok (.iastore, 1) := by decide +kernel
theorem d_M_text_80 : decode prog_10_method_41_code 80 = .ok (.aload_n 0, 1) := by decide +kernel
theorem d_M_text_81 : decode prog_10_method_41_code 81 = .ok (.iload_n 1, 1) := by decide +kernel
theorem d_M_text_82 : decode prog_10_method_41_code 82 = .ok (.iconst 1, 1) := by decide +kernel
theorem d_M_text_83 : decode prog_10_method_41_code 83 = .ok (.iconst 1, 1) := by decide +kernel
theorem d_M_text_84 : decode prog_10_method_41_code 84 = .ok (.iconst 1, 1) := by decide +kernel
theorem d_M_text_85 : decode prog_10_method_41_code 85 = .ok (.invokevirtual 148, 3) := by decide +kernel
theorem d_M_text_88 : decode prog_10_method_41_code 88 = .ok (.istore_n 2, 1) := by decide +kernel
theorem d_M_text_89 : decode prog_10_method_41_code 89 = .ok (.aload_n 0, 1) := by decide +kernel
theorem d_M_text_90 : decode prog_10_method_41_code 90 = .ok (.getfield 95, 3) := by decide +kernel
theorem d_M_text_93 : decode prog_10_method_41_code 93 = .ok (.ifCond .eq 12, 3) := by decide +kernel
theorem d_M_text_96 : decode prog_10_method_41_code 96 = .ok (.iload_n 2, 1) := by decide +kernel
theorem d_M_text_97 : decode prog_10_method_41_code 97 = .ok (.iload_n 2, 1) := by decide +kernel
theorem d_M_text_98 : decode prog_10_method_41_code 98 = .ok (.if_icmp .ne 7, 3) := by decide +kernel
theorem d_M_text_101 : decode prog_10_method_41_code 101 = .ok (.iconst 1, 1) := by decide +kernel
theorem d_M_text_102 : decode prog_10_method_41_code 102 = .ok (.goto 4, 3) := by decide +kernel
theorem d_M_text_105 : decode prog_10_method_41_code 105 = .ok (.iconst 0, 1) := by decide +kernel
theorem d_M_text_106 : decode prog_10_method_41_code 106 = .ok (.istore_n 3, 1) := by decide +kernel
theorem d_M_text_107 : decode prog_10_method_41_code 107 = .ok (.aload_n 0, 1) := by decide +kernel
theorem d_M_text_108 : decode prog_10_method_41_code 108 = .ok (.getfield 99, 3) := by decide +kernel
theorem d_M_text_111 : decode prog_10_method_41_code 111 = .ok (.istore 4, 2) := by decide +kernel
theorem d_M_text_113 : decode prog_10_method_41_code 113 = .ok (.iload_n 3, 1) := by decide +kernel
theorem d_M_text_114 : decode prog_10_method_41_code 114 = .ok (.ifCond .ne 15, 3) := by decide +kernel
theorem d_M_text_117 : decode prog_10_method_41_code 117 = .ok (.aload_n 0, 1) := by decide +kernel
theorem d_M_text_118 : decode prog_10_method_41_code 118 = .ok (.aload_n 0, 1) := by decide +kernel
theorem d_M_text_119 : decode prog_10_method_41_code 119 = .ok (.getfield 19, 3) := by decide +kernel
theorem d_M_text_122 : decode prog_10_method_41_code 122 = .ok (.aload_n 0, 1) := by decide +kernel
theorem d_M_text_123 : decode prog_10_method_41_code 123 = .ok (.getfield 7, 3) := by decide +kernel
theorem d_M_text_126 : decode prog_10_method_41_code 126 = .ok (.invokevirtual 161, 3) := by decide +kernel
theorem d_M_text_129 : decode prog_10_method_41_code 129 = .ok (.aload_n 0, 1) := by decide +kernel
theorem d_M_text_130 : decode prog_10_method_41_code 130 = .ok (.getfield 7, 3) := by decide +kernel
theorem d_M_text_133 : decode prog_10_method_41_code 133 = .ok (.iconst 3, 1) := by decide +kernel
theorem d_M_text_134 : decode prog_10_method_41_code 134 = .ok (.iconst 0, 1) := by decide +kernel
theorem d_M_text_135 : decode prog_10_method_41_code 135 = .ok (.iastore, 1) := by decide +kernel
theorem d_M_text_136 : decode prog_10_method_41_code 136 = .ok (.iload_n 3, 1) := by decide +kernel
theorem d_M_text_137 : decode prog_10_method_41_code 137 = .ok (.ifCond .eq 7, 3) := by decide +kernel
theorem d_M_text_140 : decode prog_10_method_41_code 140 = .ok (.iconst 1, 1) := by decide +kernel
theorem d_M_text_141 : decode prog_10_method_41_code 141 = .ok (.goto 8, 3) := by decide +kernel
theorem d_M_text_144 : decode prog_10_method_41_code 144 = .ok (.bipush (-10), 2) := by decide +kernel
theorem d_M_text_146 : decode prog_10_method_41_code 146 = .ok (.iload 4, 2) := by decide +kernel
theorem d_M_text_148 : decode prog_10_method_41_code 148 = .ok (.isub, 1) := by decide +kernel
theorem d_M_text_149 : decode prog_10_method_41_code 149 = .ok (.ireturn, 1) := by decide +kernel
def w_M_text_129 (K : Int32 → sm_Mem → Prop) (p0 : Int32) (x3 : Int32) (x4 : Int32) (μ : sm_Mem) : Prop := ∀ μ13 : sm_Mem, μ13 = sm_st μ 62 3 0 → if x3 = 0 then K ((-10) - x4) μ13 else K 1 μ13
def w_M_text_106 (K : Int32 → sm_Mem → Prop) (p0 : Int32) (s0 : Int32) (μ : sm_Mem) : Prop := ∀ v11 : Int32, v11 = (μ 61 8) → if s0 = 0 then w_M_moveAll (fun μ15 => w_M_text_129 K p0 s0 v11 μ15) 65 62 μ else w_M_text_129 K p0 s0 v11 μ
def w_M_text_105 (K : Int32 → sm_Mem → Prop) (p0 : Int32) (μ : sm_Mem) : Prop := w_M_text_106 K p0 0 μ
def w_M_text_30 (K : Int32 → sm_Mem → Prop) (p0 : Int32) (x2 : Int32) (μ : sm_Mem) : Prop := sm_lp1 (fun J30 x2 μ => if 50 ≤ x2 then (vp_in (5 + p0) 271 ∧ ∀ μ7 : sm_Mem, μ7 = sm_st μ 62 ((5 + p0).toNatClampNeg) (μ 62 3) → w_M_walks (fun r9 μ8 => if (μ8 61 14) = 0 then w_M_text_105 K p0 μ8 else (if r9 = r9 then w_M_text_106 K p0 1 μ8 else w_M_text_105 K p0 μ8)) p0 1 1 1 μ7) else (vp_in (101 + x2) 271 ∧ vp_in ((171 + (50 * p0)) + x2) 271 ∧ ∀ μ19 : sm_Mem, μ19 = sm_st μ 62 (((171 + (50 * p0)) + x2).toNatClampNeg) (μ 62 (101 + x2).toNatClampNeg) → J30 (x2 + 1) μ19)) x2 μ
def w_M_text (K : Int32 → sm_Mem → Prop) (p0 : Int32) (μ : sm_Mem) : Prop := w_M_in (fun r2 μ1 => if r2 = 0 then w_M_errs (fun r21 μ20 => K r21 μ20) (-1000000001) μ1 else w_M_moveAll (fun μ4 => w_M_text_30 K p0 0 μ4) 62 65 μ1) p0 0 1 μ
set_option maxHeartbeats 4000000 in
set_option maxRecDepth 100000 in
theorem P_M_text (l : Launch) {K : Int32 → sm_Mem → Prop} {p0 : Int32} {μ : sm_Mem} (h : w_M_text K p0 μ) : sm_MI l ⟨"SnowMoneyModel", "text", "(I)I"⟩ prog_10_method_41_code 5 (some .int) { frames := 56, cells := 0, slots := 0, locals := 2167 } [sm_R 61, sm_I p0] μ K := by
  refine sm_ofI (by decide +kernel) (fun _ => Nat.le_of_ble_eq_true rfl) ?_
  intro p e s m args below meth c A Q G C hR
  have B129 : ∀ (x3 : Int32) (x4 : Int32) (μ : sm_Mem), w_M_text_129 K p0 x3 x4 μ → sm_W p l e { frames := 56, cells := 0, slots := 0, locals := 2167 } s m args below meth c A Q G 5 0 0 129 [] [(0, sm_R 61), (3, sm_I x3), (4, sm_I x4)] μ := by
    intro x3 x4 μ h
    refine sr_aload_n C 0 rfl rfl d_M_text_129 ?_
    refine sr_getR C sm_F7 0 q_435 sm_l61 (r := 62) rfl (by decide) d_M_text_130 ?_
    refine sr_iconst C (v := 3) d_M_text_133 (by decide) ?_
    refine sr_iconst C (v := 0) d_M_text_134 (by decide) ?_
    refine sr_iastJ C sm_l62 (j := 3) (sm_vin (by decide)) (by decide) d_M_text_135 ?_
    replace h := h _ rfl
    refine sr_iload_n C 1 rfl rfl d_M_text_136 ?_
    refine sr_if_eq C (tgt := 144) d_M_text_137 (by decide) (fun c14 => ?_) (fun c14 => ?_)
    · replace h := Eq.mp (if_pos c14) h
      refine sr_bipush C (v := (-10)) d_M_text_144 (by decide) ?_
      refine sr_iload C 2 rfl d_M_text_146 ?_
      refine sr_isub C d_M_text_148 ?_
      exact hR _ _ _ _ d_M_text_149 rfl h
    · replace h := Eq.mp (if_neg c14) h
      refine sr_iconst C (v := 1) d_M_text_140 (by decide) ?_
      refine sr_goto C (tgt := 149) (by decide) d_M_text_141 ?_
      exact hR _ _ _ _ d_M_text_149 rfl h
  have B106 : ∀ (s0 : Int32) (μ : sm_Mem), w_M_text_106 K p0 s0 μ → sm_W p l e { frames := 56, cells := 0, slots := 0, locals := 2167 } s m args below meth c A Q G 5 0 0 106 [sm_I s0] [(0, sm_R 61)] μ := by
    intro s0 μ h
    refine sr_istore_n C rfl (by decide) d_M_text_106 ?_
    refine sr_aload_n C 1 rfl rfl d_M_text_107 ?_
    refine sr_getI C sm_F7 8 q_496 sm_l61 rfl (by decide) d_M_text_108 ?_
    replace h := h _ rfl
    refine sr_istore C (by decide) d_M_text_111 ?_
    refine sr_iload_n C 1 rfl rfl d_M_text_113 ?_
    refine sr_if_ne C (tgt := 129) d_M_text_114 (by decide) (fun c12 => ?_) (fun c12 => ?_)
    · replace h := Eq.mp (if_neg c12) h
      refine sr_mask C [2, 1, 0] rfl ?_
      exact B129 _ _ _ h
    · replace h := Eq.mp (if_pos c12) h
      refine sr_aload_n C 2 rfl rfl d_M_text_117 ?_
      refine sr_aload_n C 2 rfl rfl d_M_text_118 ?_
      refine sr_getR C sm_F7 3 q_551 sm_l61 (r := 65) rfl (by decide) d_M_text_119 ?_
      refine sr_aload_n C 2 rfl rfl d_M_text_122 ?_
      refine sr_getR C sm_F7 0 q_435 sm_l61 (r := 62) rfl (by decide) d_M_text_123 ?_
      refine sr_callVV C [sm_R _, sm_R _] (P_M_moveAll l h) ok_123 sm_l61 rfl rfl rfl rfl ⟨Nat.le_of_ble_eq_true rfl, Nat.le_of_ble_eq_true rfl⟩ (Nat.le_of_ble_eq_true rfl) ⟨Nat.zero_le _, Nat.zero_le _⟩ d_M_text_126 (fun μ15 h => ?_)
      refine sr_mask C [2, 1, 0] rfl ?_
      exact B129 _ _ _ h
  have B105 : ∀ (μ : sm_Mem), w_M_text_105 K p0 μ → sm_W p l e { frames := 56, cells := 0, slots := 0, locals := 2167 } s m args below meth c A Q G 5 0 0 105 [] [(0, sm_R 61)] μ := by
    intro μ h
    refine sr_iconst C (v := 0) d_M_text_105 (by decide) ?_
    exact B106 _ _ h
  have B30 : ∀ (x2 : Int32) (μ : sm_Mem), w_M_text_30 K p0 x2 μ → sm_W p l e { frames := 56, cells := 0, slots := 0, locals := 2167 } s m args below meth c A Q G 5 0 0 30 [] [(0, sm_R 61), (1, sm_I p0), (2, sm_I x2)] μ := by
    intro x2 μ h
    refine sm_lp1_sound (P := fun x2 μ => sm_W p l e { frames := 56, cells := 0, slots := 0, locals := 2167 } s m args below meth c A Q G 5 0 0 30 [] [(0, sm_R 61), (1, sm_I p0), (2, sm_I x2)] μ) (fun J30 x2 μ hJ30 h => ?_) h
    refine sr_iload_n C 2 rfl rfl d_M_text_30 ?_
    refine sr_bipush C (v := 50) d_M_text_31 (by decide) ?_
    refine sr_icmp_ge C (tgt := 66) d_M_text_33 (by decide) (fun c5 => ?_) (fun c5 => ?_)
    · replace h := Eq.mp (if_pos c5) h
      refine sr_aload_n C 0 rfl rfl d_M_text_66 ?_
      refine sr_getR C sm_F7 0 q_435 sm_l61 (r := 62) rfl (by decide) d_M_text_67 ?_
      refine sr_iconst C (v := 5) d_M_text_70 (by decide) ?_
      refine sr_iload_n C 1 rfl rfl d_M_text_71 ?_
      refine sr_iadd C d_M_text_72 ?_
      refine sr_aload_n C 0 rfl rfl d_M_text_73 ?_
      refine sr_getR C sm_F7 0 q_435 sm_l61 (r := 62) rfl (by decide) d_M_text_74 ?_
      refine sr_iconst C (v := 3) d_M_text_77 (by decide) ?_
      refine sr_ialdJ C sm_l62 (j := 3) (sm_vin (by decide)) (by decide) d_M_text_78 ?_
      obtain ⟨g6, h⟩ := h
      refine sr_iast C sm_l62 g6 d_M_text_79 ?_
      replace h := h _ rfl
      refine sr_aload_n C 0 rfl rfl d_M_text_80 ?_
      refine sr_iload_n C 1 rfl rfl d_M_text_81 ?_
      refine sr_iconst C (v := 1) d_M_text_82 (by decide) ?_
      refine sr_iconst C (v := 1) d_M_text_83 (by decide) ?_
      refine sr_iconst C (v := 1) d_M_text_84 (by decide) ?_
      refine sr_callVI C [sm_I _, sm_I _, sm_I _, sm_I _] (P_M_walks l h) ok_110 sm_l61 rfl rfl rfl rfl ⟨Nat.le_of_ble_eq_true rfl, Nat.le_of_ble_eq_true rfl⟩ (Nat.le_of_ble_eq_true rfl) ⟨Nat.zero_le _, Nat.zero_le _⟩ d_M_text_85 (fun r9 μ8 h => ?_)
      refine sr_istore_n C rfl (by decide) d_M_text_88 ?_
      refine sr_aload_n C 1 rfl rfl d_M_text_89 ?_
      refine sr_getI C sm_F7 14 q_499 sm_l61 rfl (by decide) d_M_text_90 ?_
      refine sr_if_eq C (tgt := 105) d_M_text_93 (by decide) (fun c10 => ?_) (fun c10 => ?_)
      · replace h := Eq.mp (if_pos c10) h
        refine sr_mask C [1] rfl ?_
        exact B105 _ h
      · replace h := Eq.mp (if_neg c10) h
        refine sr_iload_n C 0 rfl rfl d_M_text_96 ?_
        refine sr_iload_n C 0 rfl rfl d_M_text_97 ?_
        refine sr_icmp_ne C (tgt := 105) d_M_text_98 (by decide) (fun c16 => ?_) (fun c16 => ?_)
        · replace h := Eq.mp (if_neg c16) h
          refine sr_mask C [1] rfl ?_
          exact B105 _ h
        · replace h := Eq.mp (if_pos c16) h
          refine sr_iconst C (v := 1) d_M_text_101 (by decide) ?_
          refine sr_goto C (tgt := 106) (by decide) d_M_text_102 ?_
          refine sr_mask C [1] rfl ?_
          exact B106 _ _ h
    · replace h := Eq.mp (if_neg c5) h
      refine sr_aload_n C 0 rfl rfl d_M_text_36 ?_
      refine sr_getR C sm_F7 0 q_435 sm_l61 (r := 62) rfl (by decide) d_M_text_37 ?_
      refine sr_sipush C (v := 171) d_M_text_40 (by decide) ?_
      refine sr_bipush C (v := 50) d_M_text_43 (by decide) ?_
      refine sr_iload_n C 1 rfl rfl d_M_text_45 ?_
      refine sr_imul C d_M_text_46 ?_
      refine sr_iadd C d_M_text_47 ?_
      refine sr_iload_n C 2 rfl rfl d_M_text_48 ?_
      refine sr_iadd C d_M_text_49 ?_
      refine sr_aload_n C 0 rfl rfl d_M_text_50 ?_
      refine sr_getR C sm_F7 0 q_435 sm_l61 (r := 62) rfl (by decide) d_M_text_51 ?_
      refine sr_bipush C (v := 101) d_M_text_54 (by decide) ?_
      refine sr_iload_n C 2 rfl rfl d_M_text_56 ?_
      refine sr_iadd C d_M_text_57 ?_
      obtain ⟨g17, h⟩ := h
      refine sr_iald C sm_l62 g17 d_M_text_58 ?_
      obtain ⟨g18, h⟩ := h
      refine sr_iast C sm_l62 g18 d_M_text_59 ?_
      replace h := h _ rfl
      refine sr_iinc C 2 rfl (by decide) d_M_text_60 rfl ?_
      refine sr_goto C (tgt := 30) (by decide) d_M_text_63 ?_
      refine sr_mask C [1, 2, 0] rfl ?_
      exact hJ30 _ _ h
  refine sr_iload_n C 1 rfl rfl d_M_text_0 ?_
  refine sr_iconst C (v := 0) d_M_text_1 (by decide) ?_
  refine sr_iconst C (v := 1) d_M_text_2 (by decide) ?_
  refine sr_callSI C [sm_I _, sm_I _, sm_I _] (P_M_in l h) ok_96 rfl rfl rfl ⟨Nat.le_of_ble_eq_true rfl, Nat.le_of_ble_eq_true rfl⟩ (Nat.le_of_ble_eq_true rfl) ⟨Nat.zero_le _, Nat.zero_le _⟩ d_M_text_3 (fun r2 μ1 h => ?_)
  refine sr_if_ne C (tgt := 16) d_M_text_6 (by decide) (fun c3 => ?_) (fun c3 => ?_)
  · replace h := Eq.mp (if_neg c3) h
    refine sr_aload_n C 0 rfl rfl d_M_text_16 ?_
    refine sr_aload_n C 0 rfl rfl d_M_text_17 ?_
    refine sr_getR C sm_F7 0 q_435 sm_l61 (r := 62) rfl (by decide) d_M_text_18 ?_
    refine sr_aload_n C 0 rfl rfl d_M_text_21 ?_
    refine sr_getR C sm_F7 3 q_551 sm_l61 (r := 65) rfl (by decide) d_M_text_22 ?_
    refine sr_callVV C [sm_R _, sm_R _] (P_M_moveAll l h) ok_123 sm_l61 rfl rfl rfl rfl ⟨Nat.le_of_ble_eq_true rfl, Nat.le_of_ble_eq_true rfl⟩ (Nat.le_of_ble_eq_true rfl) ⟨Nat.zero_le _, Nat.zero_le _⟩ d_M_text_25 (fun μ4 h => ?_)
    refine sr_iconst C (v := 0) d_M_text_28 (by decide) ?_
    refine sr_istore_n C rfl (by decide) d_M_text_29 ?_
    refine sr_mask C [1, 2, 0] rfl ?_
    exact B30 _ _ h
  · replace h := Eq.mp (if_pos c3) h
    refine sr_aload_n C 0 rfl rfl d_M_text_9 ?_
    refine sr_ldc C q_441 d_M_text_10 ?_
    refine sr_callVI C [sm_I _] (P_M_errs l h) ok_97 sm_l61 rfl rfl rfl rfl ⟨Nat.le_of_ble_eq_true rfl, Nat.le_of_ble_eq_true rfl⟩ (Nat.le_of_ble_eq_true rfl) ⟨Nat.zero_le _, Nat.zero_le _⟩ d_M_text_12 (fun r21 μ20 h => ?_)
    exact hR _ _ _ _ d_M_text_15 rfl h
theorem d_M_loses_0 : decode prog_10_method_45_code 0 = .ok (.aload_n 0, 1) := by decide +kernel
theorem d_M_loses_1 : decode prog_10_method_45_code 1 = .ok (.iload_n 1, 1) := by decide +kernel
theorem d_M_loses_2 : decode prog_10_method_45_code 2 = .ok (.iconst 2, 1) := by decide +kernel
theorem d_M_loses_3 : decode prog_10_method_45_code 3 = .ok (.aload_n 0, 1) := by decide +kernel
theorem d_M_loses_4 : decode prog_10_method_45_code 4 = .ok (.iload_n 1, 1) := by decide +kernel
theorem d_M_loses_5 : decode prog_10_method_45_code 5 = .ok (.iconst 2, 1) := by decide +kernel
theorem d_M_loses_6 : decode prog_10_method_45_code 6 = .ok (.invokevirtual 62, 3) := by decide +kernel
theorem d_M_loses_9 : decode prog_10_method_45_code 9 = .ok (.iload_n 2, 1) := by decide +kernel
theorem d_M_loses_10 : decode prog_10_method_45_code 10 = .ok (.if_icmp .le 14, 3) := by decide +kernel
theorem d_M_loses_13 : decode prog_10_method_45_code 13 = .ok (.aload_n 0, 1) := by decide +kernel
theorem d_M_loses_14 : decode prog_10_method_45_code 14 = .ok (.iload_n 1, 1) := by decide +kernel
theorem d_M_loses_15 : decode prog_10_method_45_code 15 = .ok (.iconst 2, 1) := by decide +kernel
theorem d_M_loses_16 : decode prog_10_method_45_code 16 = .ok (.invokevirtual 62, 3) := by decide +kernel
theorem d_M_loses_19 : decode prog_10_method_45_code 19 = .ok (.iload_n 2, 1) := by decide +kernel
theorem d_M_loses_20 : decode prog_10_method_45_code 20 = .ok (.isub, 1) := by decide +kernel
theorem d_M_loses_21 : decode prog_10_method_45_code 21 = .ok (.goto 4, 3) := by decide +kernel
theorem d_M_loses_24 : decode prog_10_method_45_code 24 = .ok (.iconst 0, 1) := by decide +kernel
theorem d_M_loses_25 : decode prog_10_method_45_code 25 = .ok (.invokevirtual 71, 3) := by decide +kernel
theorem d_M_loses_28 : decode prog_10_method_45_code 28 = .ok (.return_, 1) := by decide +kernel
def w_M_loses_25 (K : sm_Mem → Prop) (p0 : Int32) (p1 : Int32) (s0 : Int32) (s1 : Int32) (s2 : Int32) (μ : sm_Mem) : Prop := w_M_gets (fun μ4 => K μ4) s2 s1 s0 μ
def w_M_loses (K : sm_Mem → Prop) (p0 : Int32) (p1 : Int32) (μ : sm_Mem) : Prop := w_M_its (fun r2 μ1 => if r2 ≤ p1 then w_M_loses_25 K p0 p1 0 2 p0 μ1 else w_M_its (fun r6 μ5 => w_M_loses_25 K p0 p1 (r6 - p1) 2 p0 μ5) p0 2 μ1) p0 2 μ
set_option maxHeartbeats 4000000 in
set_option maxRecDepth 100000 in
theorem P_M_loses (l : Launch) {K : sm_Mem → Prop} {p0 : Int32} {p1 : Int32} {μ : sm_Mem} (h : w_M_loses K p0 p1 μ) : sm_MV l ⟨"SnowMoneyModel", "loses", "(II)V"⟩ prog_10_method_45_code 3 { frames := 1, cells := 0, slots := 0, locals := 23 } [sm_R 61, sm_I p0, sm_I p1] μ K := by
  refine sm_ofV (by decide +kernel) (fun _ => Nat.le_of_ble_eq_true rfl) ?_
  intro p e s m args below meth c A Q G C hR
  have B25 : ∀ (s0 : Int32) (s1 : Int32) (s2 : Int32) (μ : sm_Mem), w_M_loses_25 K p0 p1 s0 s1 s2 μ → sm_W p l e { frames := 1, cells := 0, slots := 0, locals := 23 } s m args below meth c A Q G 3 0 0 25 [sm_I s0, sm_I s1, sm_I s2, sm_R 61] [] μ := by
    intro s0 s1 s2 μ h
    refine sr_callVV C [sm_I _, sm_I _, sm_I _] (P_M_gets l h) ok_103 sm_l61 rfl rfl rfl rfl ⟨Nat.le_of_ble_eq_true rfl, Nat.le_of_ble_eq_true rfl⟩ (Nat.le_of_ble_eq_true rfl) ⟨Nat.zero_le _, Nat.zero_le _⟩ d_M_loses_25 (fun μ4 h => ?_)
    exact hR _ _ _ d_M_loses_28 h
  refine sr_aload_n C 0 rfl rfl d_M_loses_0 ?_
  refine sr_iload_n C 1 rfl rfl d_M_loses_1 ?_
  refine sr_iconst C (v := 2) d_M_loses_2 (by decide) ?_
  refine sr_aload_n C 0 rfl rfl d_M_loses_3 ?_
  refine sr_iload_n C 1 rfl rfl d_M_loses_4 ?_
  refine sr_iconst C (v := 2) d_M_loses_5 (by decide) ?_
  refine sr_callVI C [sm_I _, sm_I _] (P_M_its l h) ok_101 sm_l61 rfl rfl rfl rfl ⟨Nat.le_of_ble_eq_true rfl, Nat.le_of_ble_eq_true rfl⟩ (Nat.le_of_ble_eq_true rfl) ⟨Nat.zero_le _, Nat.zero_le _⟩ d_M_loses_6 (fun r2 μ1 h => ?_)
  refine sr_iload_n C 2 rfl rfl d_M_loses_9 ?_
  refine sr_icmp_le C (tgt := 24) d_M_loses_10 (by decide) (fun c3 => ?_) (fun c3 => ?_)
  · replace h := Eq.mp (if_pos c3) h
    refine sr_iconst C (v := 0) d_M_loses_24 (by decide) ?_
    refine sr_mask C [] rfl ?_
    exact B25 _ _ _ _ h
  · replace h := Eq.mp (if_neg c3) h
    refine sr_aload_n C 0 rfl rfl d_M_loses_13 ?_
    refine sr_iload_n C 1 rfl rfl d_M_loses_14 ?_
    refine sr_iconst C (v := 2) d_M_loses_15 (by decide) ?_
    refine sr_callVI C [sm_I _, sm_I _] (P_M_its l h) ok_101 sm_l61 rfl rfl rfl rfl ⟨Nat.le_of_ble_eq_true rfl, Nat.le_of_ble_eq_true rfl⟩ (Nat.le_of_ble_eq_true rfl) ⟨Nat.zero_le _, Nat.zero_le _⟩ d_M_loses_16 (fun r6 μ5 h => ?_)
    refine sr_iload_n C 2 rfl rfl d_M_loses_19 ?_
    refine sr_isub C d_M_loses_20 ?_
    refine sr_goto C (tgt := 25) (by decide) d_M_loses_21 ?_
    refine sr_mask C [] rfl ?_
    exact B25 _ _ _ _ h
theorem d_M_oneHour_0 : decode prog_10_method_46_code 0 = .ok (.iconst 0, 1) := by decide +kernel
theorem d_M_oneHour_1 : decode prog_10_method_46_code 1 = .ok (.istore_n 1, 1) := by decide +kernel
theorem d_M_oneHour_2 : decode prog_10_method_46_code 2 = .ok (.iload_n 1, 1) := by decide +kernel
theorem d_M_oneHour_3 : decode prog_10_method_46_code 3 = .ok (.aload_n 0, 1) := by decide +kernel
theorem d_M_oneHour_4 : decode prog_10_method_46_code 4 = .ok (.getfield 7, 3) := by decide +kernel
theorem d_M_oneHour_7 : decode prog_10_method_46_code 7 = .ok (.bipush 7, 2) := by decide +kernel
theorem d_M_oneHour_9 : decode prog_10_method_46_code 9 = .ok (.iaload, 1) := by decide +kernel
theorem d_M_oneHour_10 : decode prog_10_method_46_code 10 = .ok (.if_icmp .ge 19, 3) := by decide +kernel
theorem d_M_oneHour_13 : decode prog_10_method_46_code 13 = .ok (.aload_n 0, 1) := by decide +kernel
theorem d_M_oneHour_14 : decode prog_10_method_46_code 14 = .ok (.iload_n 1, 1) := by decide +kernel
theorem d_M_oneHour_15 : decode prog_10_method_46_code 15 = .ok (.aload_n 0, 1) := by decide +kernel
theorem d_M_oneHour_16 : decode prog_10_method_46_code 16 = .ok (.iload_n 1, 1) := by decide +kernel
theorem d_M_oneHour_17 : decode prog_10_method_46_code 17 = .ok (.invokevirtual 78, 3) := by decide +kernel
theorem d_M_oneHour_20 : decode prog_10_method_46_code 20 = .ok (.invokevirtual 171, 3) := by decide +kernel
theorem d_M_oneHour_23 : decode prog_10_method_46_code 23 = .ok (.iinc 1 1, 3) := by decide +kernel
theorem d_M_oneHour_26 : decode prog_10_method_46_code 26 = .ok (.goto (-24), 3) := by decide +kernel
theorem d_M_oneHour_29 : decode prog_10_method_46_code 29 = .ok (.aload_n 0, 1) := by decide +kernel
theorem d_M_oneHour_30 : decode prog_10_method_46_code 30 = .ok (.getfield 7, 3) := by decide +kernel
theorem d_M_oneHour_33 : decode prog_10_method_46_code 33 = .ok (.iconst 0, 1) := by decide +kernel
theorem d_M_oneHour_34 : decode prog_10_method_46_code 34 = .ok (.dup2, 1) := by decide +kernel
theorem d_M_oneHour_35 : decode prog_10_method_46_code 35 = .ok (.iaload, 1) := by decide +kernel
theorem d_M_oneHour_36 : decode prog_10_method_46_code 36 = .ok (.iconst 1, 1) := by decide +kernel
theorem d_M_oneHour_37 : decode prog_10_method_46_code 37 = .ok (.iadd, 1) := by decide +kernel
theorem d_M_oneHour_38 : decode prog_10_method_46_code 38 = .ok (.iastore, 1) := by decide +kernel
theorem d_M_oneHour_39 : decode prog_10_method_46_code 39 = .ok (.return_, 1) := by decide +kernel
def w_M_oneHour_2 (K : sm_Mem → Prop) (x1 : Int32) (μ : sm_Mem) : Prop := sm_lp1 (fun J2 x1 μ => if (μ 62 7) ≤ x1 then (∀ μ2 : sm_Mem, μ2 = sm_st μ 62 0 ((μ 62 0) + 1) → K μ2) else w_M_melts (fun r4 μ3 => w_M_loses (fun μ5 => J2 (x1 + 1) μ5) x1 r4 μ3) x1 μ) x1 μ
def w_M_oneHour (K : sm_Mem → Prop) (μ : sm_Mem) : Prop := w_M_oneHour_2 K 0 μ
set_option maxHeartbeats 4000000 in
set_option maxRecDepth 100000 in
theorem P_M_oneHour (l : Launch) {K : sm_Mem → Prop} {μ : sm_Mem} (h : w_M_oneHour K μ) : sm_MV l ⟨"SnowMoneyModel", "oneHour", "()V"⟩ prog_10_method_46_code 2 { frames := 59, cells := 0, slots := 0, locals := 2238 } [sm_R 61] μ K := by
  refine sm_ofV (by decide +kernel) (fun _ => Nat.le_of_ble_eq_true rfl) ?_
  intro p e s m args below meth c A Q G C hR
  have B2 : ∀ (x1 : Int32) (μ : sm_Mem), w_M_oneHour_2 K x1 μ → sm_W p l e { frames := 59, cells := 0, slots := 0, locals := 2238 } s m args below meth c A Q G 2 0 0 2 [] [(0, sm_R 61), (1, sm_I x1)] μ := by
    intro x1 μ h
    refine sm_lp1_sound (P := fun x1 μ => sm_W p l e { frames := 59, cells := 0, slots := 0, locals := 2238 } s m args below meth c A Q G 2 0 0 2 [] [(0, sm_R 61), (1, sm_I x1)] μ) (fun J2 x1 μ hJ2 h => ?_) h
    refine sr_iload_n C 1 rfl rfl d_M_oneHour_2 ?_
    refine sr_aload_n C 0 rfl rfl d_M_oneHour_3 ?_
    refine sr_getR C sm_F7 0 q_435 sm_l61 (r := 62) rfl (by decide) d_M_oneHour_4 ?_
    refine sr_bipush C (v := 7) d_M_oneHour_7 (by decide) ?_
    refine sr_ialdJ C sm_l62 (j := 7) (sm_vin (by decide)) (by decide) d_M_oneHour_9 ?_
    refine sr_icmp_ge C (tgt := 29) d_M_oneHour_10 (by decide) (fun c1 => ?_) (fun c1 => ?_)
    · replace h := Eq.mp (if_pos c1) h
      refine sr_aload_n C 0 rfl rfl d_M_oneHour_29 ?_
      refine sr_getR C sm_F7 0 q_435 sm_l61 (r := 62) rfl (by decide) d_M_oneHour_30 ?_
      refine sr_iconst C (v := 0) d_M_oneHour_33 (by decide) ?_
      refine sr_dup2 C rfl rfl d_M_oneHour_34 ?_
      refine sr_ialdJ C sm_l62 (j := 0) (sm_vin (by decide)) (by decide) d_M_oneHour_35 ?_
      refine sr_iconst C (v := 1) d_M_oneHour_36 (by decide) ?_
      refine sr_iadd C d_M_oneHour_37 ?_
      refine sr_iastJ C sm_l62 (j := 0) (sm_vin (by decide)) (by decide) d_M_oneHour_38 ?_
      replace h := h _ rfl
      exact hR _ _ _ d_M_oneHour_39 h
    · replace h := Eq.mp (if_neg c1) h
      refine sr_aload_n C 0 rfl rfl d_M_oneHour_13 ?_
      refine sr_iload_n C 1 rfl rfl d_M_oneHour_14 ?_
      refine sr_aload_n C 0 rfl rfl d_M_oneHour_15 ?_
      refine sr_iload_n C 1 rfl rfl d_M_oneHour_16 ?_
      refine sr_callVI C [sm_I _] (P_M_melts l h) ok_106 sm_l61 rfl rfl rfl rfl ⟨Nat.le_of_ble_eq_true rfl, Nat.le_of_ble_eq_true rfl⟩ (Nat.le_of_ble_eq_true rfl) ⟨Nat.zero_le _, Nat.zero_le _⟩ d_M_oneHour_17 (fun r4 μ3 h => ?_)
      refine sr_callVV C [sm_I _, sm_I _] (P_M_loses l h) ok_127 sm_l61 rfl rfl rfl rfl ⟨Nat.le_of_ble_eq_true rfl, Nat.le_of_ble_eq_true rfl⟩ (Nat.le_of_ble_eq_true rfl) ⟨Nat.zero_le _, Nat.zero_le _⟩ d_M_oneHour_20 (fun μ5 h => ?_)
      refine sr_iinc C 1 rfl (by decide) d_M_oneHour_23 rfl ?_
      refine sr_goto C (tgt := 2) (by decide) d_M_oneHour_26 ?_
      refine sr_mask C [1, 0] rfl ?_
      exact hJ2 _ _ h
  refine sr_iconst C (v := 0) d_M_oneHour_0 (by decide) ?_
  refine sr_istore_n C rfl (by decide) d_M_oneHour_1 ?_
  refine sr_mask C [1, 0] rfl ?_
  exact B2 _ _ h
theorem d_M_passes_0 : decode prog_10_method_47_code 0 = .ok (.iconst 0, 1) := by decide +kernel
theorem d_M_passes_1 : decode prog_10_method_47_code 1 = .ok (.istore_n 2, 1) := by decide +kernel
theorem d_M_passes_2 : decode prog_10_method_47_code 2 = .ok (.iload_n 2, 1) := by decide +kernel
theorem d_M_passes_3 : decode prog_10_method_47_code 3 = .ok (.iload_n 1, 1) := by decide +kernel
theorem d_M_passes_4 : decode prog_10_method_47_code 4 = .ok (.if_icmp .ge 13, 3) := by decide +kernel
theorem d_M_passes_7 : decode prog_10_method_47_code 7 = .ok (.aload_n 0, 1) := by decide +kernel
theorem d_M_passes_8 : decode prog_10_method_47_code 8 = .ok (.invokevirtual 175, 3) := by decide +kernel
theorem d_M_passes_11 : decode prog_10_method_47_code 11 = .ok (.iinc 2 1, 3) := by decide +kernel
theorem d_M_passes_14 : decode prog_10_method_47_code 14 = .ok (.goto (-12), 3) := by decide +kernel
theorem d_M_passes_17 : decode prog_10_method_47_code 17 = .ok (.return_, 1) := by decide +kernel
def w_M_passes_2 (K : sm_Mem → Prop) (p0 : Int32) (x2 : Int32) (μ : sm_Mem) : Prop := sm_lp1 (fun J2 x2 μ => if p0 ≤ x2 then K μ else w_M_oneHour (fun μ2 => J2 (x2 + 1) μ2) μ) x2 μ
def w_M_passes (K : sm_Mem → Prop) (p0 : Int32) (μ : sm_Mem) : Prop := w_M_passes_2 K p0 0 μ
set_option maxHeartbeats 4000000 in
set_option maxRecDepth 100000 in
theorem P_M_passes (l : Launch) {K : sm_Mem → Prop} {p0 : Int32} {μ : sm_Mem} (h : w_M_passes K p0 μ) : sm_MV l ⟨"SnowMoneyModel", "passes", "(I)V"⟩ prog_10_method_47_code 3 { frames := 60, cells := 0, slots := 0, locals := 2259 } [sm_R 61, sm_I p0] μ K := by
  refine sm_ofV (by decide +kernel) (fun _ => Nat.le_of_ble_eq_true rfl) ?_
  intro p e s m args below meth c A Q G C hR
  have B2 : ∀ (x2 : Int32) (μ : sm_Mem), w_M_passes_2 K p0 x2 μ → sm_W p l e { frames := 60, cells := 0, slots := 0, locals := 2259 } s m args below meth c A Q G 3 0 0 2 [] [(0, sm_R 61), (1, sm_I p0), (2, sm_I x2)] μ := by
    intro x2 μ h
    refine sm_lp1_sound (P := fun x2 μ => sm_W p l e { frames := 60, cells := 0, slots := 0, locals := 2259 } s m args below meth c A Q G 3 0 0 2 [] [(0, sm_R 61), (1, sm_I p0), (2, sm_I x2)] μ) (fun J2 x2 μ hJ2 h => ?_) h
    refine sr_iload_n C 2 rfl rfl d_M_passes_2 ?_
    refine sr_iload_n C 1 rfl rfl d_M_passes_3 ?_
    refine sr_icmp_ge C (tgt := 17) d_M_passes_4 (by decide) (fun c1 => ?_) (fun c1 => ?_)
    · replace h := Eq.mp (if_pos c1) h
      exact hR _ _ _ d_M_passes_17 h
    · replace h := Eq.mp (if_neg c1) h
      refine sr_aload_n C 0 rfl rfl d_M_passes_7 ?_
      refine sr_callVV C [] (P_M_oneHour l h) ok_126 sm_l61 rfl rfl rfl rfl ⟨Nat.le_of_ble_eq_true rfl, Nat.le_of_ble_eq_true rfl⟩ (Nat.le_of_ble_eq_true rfl) ⟨Nat.zero_le _, Nat.zero_le _⟩ d_M_passes_8 (fun μ2 h => ?_)
      refine sr_iinc C 2 rfl (by decide) d_M_passes_11 rfl ?_
      refine sr_goto C (tgt := 2) (by decide) d_M_passes_14 ?_
      refine sr_mask C [1, 2, 0] rfl ?_
      exact hJ2 _ _ h
  refine sr_iconst C (v := 0) d_M_passes_0 (by decide) ?_
  refine sr_istore_n C rfl (by decide) d_M_passes_1 ?_
  refine sr_mask C [1, 2, 0] rfl ?_
  exact B2 _ _ h
theorem d_M_snowOfAll_0 : decode prog_10_method_48_code 0 = .ok (.iconst 0, 1) := by decide +kernel
theorem d_M_snowOfAll_1 : decode prog_10_method_48_code 1 = .ok (.istore_n 1, 1) := by decide +kernel
theorem d_M_snowOfAll_2 : decode prog_10_method_48_code 2 = .ok (.iconst 0, 1) := by decide +kernel
theorem d_M_snowOfAll_3 : decode prog_10_method_48_code 3 = .ok (.istore_n 2, 1) := by decide +kernel
theorem d_M_snowOfAll_4 : decode prog_10_method_48_code 4 = .ok (.iload_n 2, 1) := by decide +kernel
theorem d_M_snowOfAll_5 : decode prog_10_method_48_code 5 = .ok (.aload_n 0, 1) := by decide +kernel
theorem d_M_snowOfAll_6 : decode prog_10_method_48_code 6 = .ok (.getfield 7, 3) := by decide +kernel
theorem d_M_snowOfAll_9 : decode prog_10_method_48_code 9 = .ok (.bipush 7, 2) := by decide +kernel
theorem d_M_snowOfAll_11 : decode prog_10_method_48_code 11 = .ok (.iaload, 1) := by decide +kernel
theorem d_M_snowOfAll_12 : decode prog_10_method_48_code 12 = .ok (.if_icmp .ge 18, 3) := by decide +kernel
theorem d_M_snowOfAll_15 : decode prog_10_method_48_code 15 = .ok (.iload_n 1, 1) := by decide +kernel
theorem d_M_snowOfAll_16 : decode prog_10_method_48_code 16 = .ok (.aload_n 0, 1) := by decide +kernel
theorem d_M_snowOfAll_17 : decode prog_10_method_48_code 17 = .ok (.iload_n 2, 1) := by decide +kernel
theorem d_M_snowOfAll_18 : decode prog_10_method_48_code 18 = .ok (.iconst 2, 1) := by decide +kernel
theorem d_M_snowOfAll_19 : decode prog_10_method_48_code 19 = .ok (.invokevirtual 62, 3) := by decide +kernel
theorem d_M_snowOfAll_22 : decode prog_10_method_48_code 22 = .ok (.iadd, 1) := by decide +kernel
theorem d_M_snowOfAll_23 : decode prog_10_method_48_code 23 = .ok (.istore_n 1, 1) := by decide +kernel
theorem d_M_snowOfAll_24 : decode prog_10_method_48_code 24 = .ok (.iinc 2 1, 3) := by decide +kernel
theorem d_M_snowOfAll_27 : decode prog_10_method_48_code 27 = .ok (.goto (-23), 3) := by decide +kernel
theorem d_M_snowOfAll_30 : decode prog_10_method_48_code 30 = .ok (.iload_n 1, 1) := by decide +kernel
theorem d_M_snowOfAll_31 : decode prog_10_method_48_code 31 = .ok (.ireturn, 1) := by decide +kernel
def w_M_snowOfAll_4 (K : Int32 → sm_Mem → Prop) (x1 : Int32) (x2 : Int32) (μ : sm_Mem) : Prop := sm_lp2 (fun J4 x1 x2 μ => if (μ 62 7) ≤ x2 then K x1 μ else (w_M_its (fun r3 μ2 => ∀ v4 : Int32, v4 = (x1 + r3) → J4 v4 (x2 + 1) μ2) x2 2 μ)) x1 x2 μ
def w_M_snowOfAll (K : Int32 → sm_Mem → Prop) (μ : sm_Mem) : Prop := w_M_snowOfAll_4 K 0 0 μ
set_option maxHeartbeats 4000000 in
set_option maxRecDepth 100000 in
theorem P_M_snowOfAll (l : Launch) {K : Int32 → sm_Mem → Prop} {μ : sm_Mem} (h : w_M_snowOfAll K μ) : sm_MI l ⟨"SnowMoneyModel", "snowOfAll", "()I"⟩ prog_10_method_48_code 3 (some .int) { frames := 1, cells := 0, slots := 0, locals := 22 } [sm_R 61] μ K := by
  refine sm_ofI (by decide +kernel) (fun _ => Nat.le_of_ble_eq_true rfl) ?_
  intro p e s m args below meth c A Q G C hR
  have B4 : ∀ (x1 : Int32) (x2 : Int32) (μ : sm_Mem), w_M_snowOfAll_4 K x1 x2 μ → sm_W p l e { frames := 1, cells := 0, slots := 0, locals := 22 } s m args below meth c A Q G 3 0 0 4 [] [(0, sm_R 61), (1, sm_I x1), (2, sm_I x2)] μ := by
    intro x1 x2 μ h
    refine sm_lp2_sound (P := fun x1 x2 μ => sm_W p l e { frames := 1, cells := 0, slots := 0, locals := 22 } s m args below meth c A Q G 3 0 0 4 [] [(0, sm_R 61), (1, sm_I x1), (2, sm_I x2)] μ) (fun J4 x1 x2 μ hJ4 h => ?_) h
    refine sr_iload_n C 2 rfl rfl d_M_snowOfAll_4 ?_
    refine sr_aload_n C 0 rfl rfl d_M_snowOfAll_5 ?_
    refine sr_getR C sm_F7 0 q_435 sm_l61 (r := 62) rfl (by decide) d_M_snowOfAll_6 ?_
    refine sr_bipush C (v := 7) d_M_snowOfAll_9 (by decide) ?_
    refine sr_ialdJ C sm_l62 (j := 7) (sm_vin (by decide)) (by decide) d_M_snowOfAll_11 ?_
    refine sr_icmp_ge C (tgt := 30) d_M_snowOfAll_12 (by decide) (fun c1 => ?_) (fun c1 => ?_)
    · replace h := Eq.mp (if_pos c1) h
      refine sr_iload_n C 1 rfl rfl d_M_snowOfAll_30 ?_
      exact hR _ _ _ _ d_M_snowOfAll_31 rfl h
    · replace h := Eq.mp (if_neg c1) h
      refine sr_iload_n C 1 rfl rfl d_M_snowOfAll_15 ?_
      refine sr_aload_n C 0 rfl rfl d_M_snowOfAll_16 ?_
      refine sr_iload_n C 2 rfl rfl d_M_snowOfAll_17 ?_
      refine sr_iconst C (v := 2) d_M_snowOfAll_18 (by decide) ?_
      refine sr_callVI C [sm_I _, sm_I _] (P_M_its l h) ok_101 sm_l61 rfl rfl rfl rfl ⟨Nat.le_of_ble_eq_true rfl, Nat.le_of_ble_eq_true rfl⟩ (Nat.le_of_ble_eq_true rfl) ⟨Nat.zero_le _, Nat.zero_le _⟩ d_M_snowOfAll_19 (fun r3 μ2 h => ?_)
      refine sr_iadd C d_M_snowOfAll_22 ?_
      replace h := h _ rfl
      refine sr_istore_n C rfl (by decide) d_M_snowOfAll_23 ?_
      refine sr_iinc C 2 rfl (by decide) d_M_snowOfAll_24 rfl ?_
      refine sr_goto C (tgt := 4) (by decide) d_M_snowOfAll_27 ?_
      refine sr_mask C [2, 1, 0] rfl ?_
      exact hJ4 _ _ _ h
  refine sr_iconst C (v := 0) d_M_snowOfAll_0 (by decide) ?_
  refine sr_istore_n C rfl (by decide) d_M_snowOfAll_1 ?_
  refine sr_iconst C (v := 0) d_M_snowOfAll_2 (by decide) ?_
  refine sr_istore_n C rfl (by decide) d_M_snowOfAll_3 ?_
  refine sr_mask C [2, 1, 0] rfl ?_
  exact B4 _ _ _ h
theorem d_M_hours_0 : decode prog_10_method_49_code 0 = .ok (.iload_n 1, 1) := by decide +kernel
theorem d_M_hours_1 : decode prog_10_method_49_code 1 = .ok (.iconst 1, 1) := by decide +kernel
theorem d_M_hours_2 : decode prog_10_method_49_code 2 = .ok (.bipush 60, 2) := by decide +kernel
theorem d_M_hours_4 : decode prog_10_method_49_code 4 = .ok (.invokestatic 44, 3) := by decide +kernel
theorem d_M_hours_7 : decode prog_10_method_49_code 7 = .ok (.ifCond .ne 10, 3) := by decide +kernel
theorem d_M_hours_10 : decode prog_10_method_49_code 10 = .ok (.aload_n 0, 1) := by decide +kernel
theorem d_M_hours_11 : decode prog_10_method_49_code 11 = .ok (.ldc 48, 2) := by decide +kernel
theorem d_M_hours_13 : decode prog_10_method_49_code 13 = .ok (.invokevirtual 49, 3) := by decide +kernel
theorem d_M_hours_16 : decode prog_10_method_49_code 16 = .ok (.ireturn, 1) := by decide +kernel
theorem d_M_hours_17 : decode prog_10_method_49_code 17 = .ok (.aload_n 0, 1) := by decide +kernel
theorem d_M_hours_18 : decode prog_10_method_49_code 18 = .ok (.getfield 7, 3) := by decide +kernel
theorem d_M_hours_21 : decode prog_10_method_49_code 21 = .ok (.iconst 0, 1) := by decide +kernel
theorem d_M_hours_22 : decode prog_10_method_49_code 22 = .ok (.iaload, 1) := by decide +kernel
theorem d_M_hours_23 : decode prog_10_method_49_code 23 = .ok (.iload_n 1, 1) := by decide +kernel
theorem d_M_hours_24 : decode prog_10_method_49_code 24 = .ok (.iadd, 1) := by decide +kernel
theorem d_M_hours_25 : decode prog_10_method_49_code 25 = .ok (.sipush 9999, 3) := by decide +kernel
theorem d_M_hours_28 : decode prog_10_method_49_code 28 = .ok (.if_icmp .le 10, 3) := by decide +kernel
theorem d_M_hours_31 : decode prog_10_method_49_code 31 = .ok (.aload_n 0, 1) := by decide +kernel
theorem d_M_hours_32 : decode prog_10_method_49_code 32 = .ok (.ldc 178, 2) := by decide +kernel
theorem d_M_hours_34 : decode prog_10_method_49_code 34 = .ok (.invokevirtual 49, 3) := by decide +kernel
theorem d_M_hours_37 : decode prog_10_method_49_code 37 = .ok (.ireturn, 1) := by decide +kernel
theorem d_M_hours_38 : decode prog_10_method_49_code 38 = .ok (.aload_n 0, 1) := by decide +kernel
theorem d_M_hours_39 : decode prog_10_method_49_code 39 = .ok (.iload_n 1, 1) := by decide +kernel
theorem d_M_hours_40 : decode prog_10_method_49_code 40 = .ok (.invokevirtual 179, 3) := by decide +kernel
theorem d_M_hours_43 : decode prog_10_method_49_code 43 = .ok (.aload_n 0, 1) := by decide +kernel
theorem d_M_hours_44 : decode prog_10_method_49_code 44 = .ok (.invokevirtual 183, 3) := by decide +kernel
theorem d_M_hours_47 : decode prog_10_method_49_code 47 = .ok (.ireturn, 1) := by decide +kernel
def w_M_hours (K : Int32 → sm_Mem → Prop) (p0 : Int32) (μ : sm_Mem) : Prop := w_M_in (fun r2 μ1 => if r2 = 0 then w_M_errs (fun r11 μ10 => K r11 μ10) (-1000000001) μ1 else (if ((μ1 62 0) + p0) ≤ 9999 then w_M_passes (fun μ5 => w_M_snowOfAll (fun r7 μ6 => K r7 μ6) μ5) p0 μ1 else w_M_errs (fun r9 μ8 => K r9 μ8) (-1000000003) μ1)) p0 1 60 μ
set_option maxHeartbeats 4000000 in
set_option maxRecDepth 100000 in
theorem P_M_hours (l : Launch) {K : Int32 → sm_Mem → Prop} {p0 : Int32} {μ : sm_Mem} (h : w_M_hours K p0 μ) : sm_MI l ⟨"SnowMoneyModel", "hours", "(I)I"⟩ prog_10_method_49_code 2 (some .int) { frames := 61, cells := 0, slots := 0, locals := 2281 } [sm_R 61, sm_I p0] μ K := by
  refine sm_ofI (by decide +kernel) (fun _ => Nat.le_of_ble_eq_true rfl) ?_
  intro p e s m args below meth c A Q G C hR
  refine sr_iload_n C 1 rfl rfl d_M_hours_0 ?_
  refine sr_iconst C (v := 1) d_M_hours_1 (by decide) ?_
  refine sr_bipush C (v := 60) d_M_hours_2 (by decide) ?_
  refine sr_callSI C [sm_I _, sm_I _, sm_I _] (P_M_in l h) ok_96 rfl rfl rfl ⟨Nat.le_of_ble_eq_true rfl, Nat.le_of_ble_eq_true rfl⟩ (Nat.le_of_ble_eq_true rfl) ⟨Nat.zero_le _, Nat.zero_le _⟩ d_M_hours_4 (fun r2 μ1 h => ?_)
  refine sr_if_ne C (tgt := 17) d_M_hours_7 (by decide) (fun c3 => ?_) (fun c3 => ?_)
  · replace h := Eq.mp (if_neg c3) h
    refine sr_aload_n C 0 rfl rfl d_M_hours_17 ?_
    refine sr_getR C sm_F7 0 q_435 sm_l61 (r := 62) rfl (by decide) d_M_hours_18 ?_
    refine sr_iconst C (v := 0) d_M_hours_21 (by decide) ?_
    refine sr_ialdJ C sm_l62 (j := 0) (sm_vin (by decide)) (by decide) d_M_hours_22 ?_
    refine sr_iload_n C 1 rfl rfl d_M_hours_23 ?_
    refine sr_iadd C d_M_hours_24 ?_
    refine sr_sipush C (v := 9999) d_M_hours_25 (by decide) ?_
    refine sr_icmp_le C (tgt := 38) d_M_hours_28 (by decide) (fun c4 => ?_) (fun c4 => ?_)
    · replace h := Eq.mp (if_pos c4) h
      refine sr_aload_n C 0 rfl rfl d_M_hours_38 ?_
      refine sr_iload_n C 1 rfl rfl d_M_hours_39 ?_
      refine sr_callVV C [sm_I _] (P_M_passes l h) ok_124 sm_l61 rfl rfl rfl rfl ⟨Nat.le_of_ble_eq_true rfl, Nat.le_of_ble_eq_true rfl⟩ (Nat.le_of_ble_eq_true rfl) ⟨Nat.zero_le _, Nat.zero_le _⟩ d_M_hours_40 (fun μ5 h => ?_)
      refine sr_aload_n C 0 rfl rfl d_M_hours_43 ?_
      refine sr_callVI C [] (P_M_snowOfAll l h) ok_125 sm_l61 rfl rfl rfl rfl ⟨Nat.le_of_ble_eq_true rfl, Nat.le_of_ble_eq_true rfl⟩ (Nat.le_of_ble_eq_true rfl) ⟨Nat.zero_le _, Nat.zero_le _⟩ d_M_hours_44 (fun r7 μ6 h => ?_)
      exact hR _ _ _ _ d_M_hours_47 rfl h
    · replace h := Eq.mp (if_neg c4) h
      refine sr_aload_n C 0 rfl rfl d_M_hours_31 ?_
      refine sr_ldc C q_564 d_M_hours_32 ?_
      refine sr_callVI C [sm_I _] (P_M_errs l h) ok_97 sm_l61 rfl rfl rfl rfl ⟨Nat.le_of_ble_eq_true rfl, Nat.le_of_ble_eq_true rfl⟩ (Nat.le_of_ble_eq_true rfl) ⟨Nat.zero_le _, Nat.zero_le _⟩ d_M_hours_34 (fun r9 μ8 h => ?_)
      exact hR _ _ _ _ d_M_hours_37 rfl h
  · replace h := Eq.mp (if_pos c3) h
    refine sr_aload_n C 0 rfl rfl d_M_hours_10 ?_
    refine sr_ldc C q_441 d_M_hours_11 ?_
    refine sr_callVI C [sm_I _] (P_M_errs l h) ok_97 sm_l61 rfl rfl rfl rfl ⟨Nat.le_of_ble_eq_true rfl, Nat.le_of_ble_eq_true rfl⟩ (Nat.le_of_ble_eq_true rfl) ⟨Nat.zero_le _, Nat.zero_le _⟩ d_M_hours_13 (fun r11 μ10 h => ?_)
    exact hR _ _ _ _ d_M_hours_16 rfl h
theorem d_M_drawn_0 : decode prog_10_method_50_code 0 = .ok (.aload_n 0, 1) := by decide +kernel
theorem d_M_drawn_1 : decode prog_10_method_50_code 1 = .ok (.getfield 7, 3) := by decide +kernel
theorem d_M_drawn_4 : decode prog_10_method_50_code 4 = .ok (.iconst 1, 1) := by decide +kernel
theorem d_M_drawn_5 : decode prog_10_method_50_code 5 = .ok (.aload_n 0, 1) := by decide +kernel
theorem d_M_drawn_6 : decode prog_10_method_50_code 6 = .ok (.getfield 7, 3) := by decide +kernel
theorem d_M_drawn_9 : decode prog_10_method_50_code 9 = .ok (.iconst 1, 1) := by decide +kernel
theorem d_M_drawn_10 : decode prog_10_method_50_code 10 = .ok (.iaload, 1) := by decide +kernel
theorem d_M_drawn_11 : decode prog_10_method_50_code 11 = .ok (.ldc 186, 2) := by decide +kernel
theorem d_M_drawn_13 : decode prog_10_method_50_code 13 = .ok (.imul, 1) := by decide +kernel
theorem d_M_drawn_14 : decode prog_10_method_50_code 14 = .ok (.sipush 12345, 3) := by decide +kernel
theorem d_M_drawn_17 : decode prog_10_method_50_code 17 = .ok (.iadd, 1) := by decide +kernel
theorem d_M_drawn_18 : decode prog_10_method_50_code 18 = .ok (.iastore, 1) := by decide +kernel
theorem d_M_drawn_19 : decode prog_10_method_50_code 19 = .ok (.aload_n 0, 1) := by decide +kernel
theorem d_M_drawn_20 : decode prog_10_method_50_code 20 = .ok (.getfield 7, 3) := by decide +kernel
theorem d_M_drawn_23 : decode prog_10_method_50_code 23 = .ok (.iconst 1, 1) := by decide +kernel
theorem d_M_drawn_24 : decode prog_10_method_50_code 24 = .ok (.iaload, 1) := by decide +kernel
theorem d_M_drawn_25 : decode prog_10_method_50_code 25 = .ok (.bipush 8, 2) := by decide +kernel
theorem d_M_drawn_27 : decode prog_10_method_50_code 27 = .ok (.iushr, 1) := by decide +kernel
theorem d_M_drawn_28 : decode prog_10_method_50_code 28 = .ok (.iload_n 1, 1) := by decide +kernel
theorem d_M_drawn_29 : decode prog_10_method_50_code 29 = .ok (.irem, 1) := by decide +kernel
theorem d_M_drawn_30 : decode prog_10_method_50_code 30 = .ok (.ireturn, 1) := by decide +kernel
def w_M_drawn (K : Int32 → sm_Mem → Prop) (p0 : Int32) (μ : sm_Mem) : Prop := ∀ μ1 : sm_Mem, μ1 = sm_st μ 62 1 (((μ 62 1) * 1103515245) + 12345) → (¬ p0 = 0) ∧ K (((μ1 62 1).toUInt32 >>> ((8 : Int32).toUInt32 &&& Int32.toUInt32 31)).toInt32 % p0) μ1
set_option maxHeartbeats 4000000 in
set_option maxRecDepth 100000 in
theorem P_M_drawn (l : Launch) {K : Int32 → sm_Mem → Prop} {p0 : Int32} {μ : sm_Mem} (h : w_M_drawn K p0 μ) : sm_MI l ⟨"SnowMoneyModel", "drawn", "(I)I"⟩ prog_10_method_50_code 2 (some .int) { frames := 0, cells := 0, slots := 0, locals := 0 } [sm_R 61, sm_I p0] μ K := by
  refine sm_ofI (by decide +kernel) (fun _ => Nat.le_of_ble_eq_true rfl) ?_
  intro p e s m args below meth c A Q G C hR
  refine sr_aload_n C 0 rfl rfl d_M_drawn_0 ?_
  refine sr_getR C sm_F7 0 q_435 sm_l61 (r := 62) rfl (by decide) d_M_drawn_1 ?_
  refine sr_iconst C (v := 1) d_M_drawn_4 (by decide) ?_
  refine sr_aload_n C 0 rfl rfl d_M_drawn_5 ?_
  refine sr_getR C sm_F7 0 q_435 sm_l61 (r := 62) rfl (by decide) d_M_drawn_6 ?_
  refine sr_iconst C (v := 1) d_M_drawn_9 (by decide) ?_
  refine sr_ialdJ C sm_l62 (j := 1) (sm_vin (by decide)) (by decide) d_M_drawn_10 ?_
  refine sr_ldc C q_577 d_M_drawn_11 ?_
  refine sr_imul C d_M_drawn_13 ?_
  refine sr_sipush C (v := 12345) d_M_drawn_14 (by decide) ?_
  refine sr_iadd C d_M_drawn_17 ?_
  refine sr_iastJ C sm_l62 (j := 1) (sm_vin (by decide)) (by decide) d_M_drawn_18 ?_
  replace h := h _ rfl
  refine sr_aload_n C 0 rfl rfl d_M_drawn_19 ?_
  refine sr_getR C sm_F7 0 q_435 sm_l61 (r := 62) rfl (by decide) d_M_drawn_20 ?_
  refine sr_iconst C (v := 1) d_M_drawn_23 (by decide) ?_
  refine sr_ialdJ C sm_l62 (j := 1) (sm_vin (by decide)) (by decide) d_M_drawn_24 ?_
  refine sr_bipush C (v := 8) d_M_drawn_25 (by decide) ?_
  refine sr_iushr C d_M_drawn_27 ?_
  refine sr_iload_n C 1 rfl rfl d_M_drawn_28 ?_
  obtain ⟨g2, h⟩ := h
  refine sr_irem C g2 d_M_drawn_29 ?_
  exact hR _ _ _ _ d_M_drawn_30 rfl h
theorem d_M_loose_0 : decode prog_10_method_51_code 0 = .ok (.iload_n 1, 1) := by decide +kernel
theorem d_M_loose_1 : decode prog_10_method_51_code 1 = .ok (.iconst 1, 1) := by decide +kernel
theorem d_M_loose_2 : decode prog_10_method_51_code 2 = .ok (.bipush 40, 2) := by decide +kernel
theorem d_M_loose_4 : decode prog_10_method_51_code 4 = .ok (.invokestatic 44, 3) := by decide +kernel
theorem d_M_loose_7 : decode prog_10_method_51_code 7 = .ok (.ifCond .ne 10, 3) := by decide +kernel
theorem d_M_loose_10 : decode prog_10_method_51_code 10 = .ok (.aload_n 0, 1) := by decide +kernel
theorem d_M_loose_11 : decode prog_10_method_51_code 11 = .ok (.ldc 48, 2) := by decide +kernel
theorem d_M_loose_13 : decode prog_10_method_51_code 13 = .ok (.invokevirtual 49, 3) := by decide +kernel
theorem d_M_loose_16 : decode prog_10_method_51_code 16 = .ok (.ireturn, 1) := by decide +kernel
theorem d_M_loose_17 : decode prog_10_method_51_code 17 = .ok (.aload_n 0, 1) := by decide +kernel
theorem d_M_loose_18 : decode prog_10_method_51_code 18 = .ok (.getfield 7, 3) := by decide +kernel
theorem d_M_loose_21 : decode prog_10_method_51_code 21 = .ok (.iconst 0, 1) := by decide +kernel
theorem d_M_loose_22 : decode prog_10_method_51_code 22 = .ok (.iaload, 1) := by decide +kernel
theorem d_M_loose_23 : decode prog_10_method_51_code 23 = .ok (.iload_n 1, 1) := by decide +kernel
theorem d_M_loose_24 : decode prog_10_method_51_code 24 = .ok (.iadd, 1) := by decide +kernel
theorem d_M_loose_25 : decode prog_10_method_51_code 25 = .ok (.sipush 9999, 3) := by decide +kernel
theorem d_M_loose_28 : decode prog_10_method_51_code 28 = .ok (.if_icmp .le 10, 3) := by decide +kernel
theorem d_M_loose_31 : decode prog_10_method_51_code 31 = .ok (.aload_n 0, 1) := by decide +kernel
theorem d_M_loose_32 : decode prog_10_method_51_code 32 = .ok (.ldc 178, 2) := by decide +kernel
theorem d_M_loose_34 : decode prog_10_method_51_code 34 = .ok (.invokevirtual 49, 3) := by decide +kernel
theorem d_M_loose_37 : decode prog_10_method_51_code 37 = .ok (.ireturn, 1) := by decide +kernel
theorem d_M_loose_38 : decode prog_10_method_51_code 38 = .ok (.iconst 0, 1) := by decide +kernel
theorem d_M_loose_39 : decode prog_10_method_51_code 39 = .ok (.istore_n 2, 1) := by decide +kernel
theorem d_M_loose_40 : decode prog_10_method_51_code 40 = .ok (.iload_n 2, 1) := by decide +kernel
theorem d_M_loose_41 : decode prog_10_method_51_code 41 = .ok (.iload_n 1, 1) := by decide +kernel
theorem d_M_loose_42 : decode prog_10_method_51_code 42 = .ok (.if_icmp .ge 26, 3) := by decide +kernel
theorem d_M_loose_45 : decode prog_10_method_51_code 45 = .ok (.aload_n 0, 1) := by decide +kernel
theorem d_M_loose_46 : decode prog_10_method_51_code 46 = .ok (.getfield 7, 3) := by decide +kernel
theorem d_M_loose_49 : decode prog_10_method_51_code 49 = .ok (.bipush 8, 2) := by decide +kernel
theorem d_M_loose_51 : decode prog_10_method_51_code 51 = .ok (.aload_n 0, 1) := by decide +kernel
theorem d_M_loose_52 : decode prog_10_method_51_code 52 = .ok (.bipush 10, 2) := by decide +kernel
theorem d_M_loose_54 : decode prog_10_method_51_code 54 = .ok (.invokevirtual 187, 3) := by decide +kernel
theorem d_M_loose_57 : decode prog_10_method_51_code 57 = .ok (.iastore, 1) := by decide +kernel
theorem d_M_loose_58 : decode prog_10_method_51_code 58 = .ok (.aload_n 0, 1) := by decide +kernel
theorem d_M_loose_59 : decode prog_10_method_51_code 59 = .ok (.invokevirtual 175, 3) := by decide +kernel
theorem d_M_loose_62 : decode prog_10_method_51_code 62 = .ok (.iinc 2 1, 3) := by decide +kernel
theorem d_M_loose_65 : decode prog_10_method_51_code 65 = .ok (.goto (-25), 3) := by decide +kernel
theorem d_M_loose_68 : decode prog_10_method_51_code 68 = .ok (.aload_n 0, 1) := by decide +kernel
theorem d_M_loose_69 : decode prog_10_method_51_code 69 = .ok (.invokevirtual 183, 3) := by decide +kernel
theorem d_M_loose_72 : decode prog_10_method_51_code 72 = .ok (.ireturn, 1) := by decide +kernel
def w_M_loose_40 (K : Int32 → sm_Mem → Prop) (p0 : Int32) (x2 : Int32) (μ : sm_Mem) : Prop := sm_lp1 (fun J40 x2 μ => if p0 ≤ x2 then w_M_snowOfAll (fun r7 μ6 => K r7 μ6) μ else (w_M_drawn (fun r9 μ8 => ∀ μ10 : sm_Mem, μ10 = sm_st μ8 62 8 r9 → w_M_oneHour (fun μ11 => J40 (x2 + 1) μ11) μ10) 10 μ)) x2 μ
def w_M_loose (K : Int32 → sm_Mem → Prop) (p0 : Int32) (μ : sm_Mem) : Prop := w_M_in (fun r2 μ1 => if r2 = 0 then w_M_errs (fun r15 μ14 => K r15 μ14) (-1000000001) μ1 else (if ((μ1 62 0) + p0) ≤ 9999 then w_M_loose_40 K p0 0 μ1 else w_M_errs (fun r13 μ12 => K r13 μ12) (-1000000003) μ1)) p0 1 40 μ
set_option maxHeartbeats 4000000 in
set_option maxRecDepth 100000 in
theorem P_M_loose (l : Launch) {K : Int32 → sm_Mem → Prop} {p0 : Int32} {μ : sm_Mem} (h : w_M_loose K p0 μ) : sm_MI l ⟨"SnowMoneyModel", "loose", "(I)I"⟩ prog_10_method_51_code 3 (some .int) { frames := 60, cells := 0, slots := 0, locals := 2259 } [sm_R 61, sm_I p0] μ K := by
  refine sm_ofI (by decide +kernel) (fun _ => Nat.le_of_ble_eq_true rfl) ?_
  intro p e s m args below meth c A Q G C hR
  have B40 : ∀ (x2 : Int32) (μ : sm_Mem), w_M_loose_40 K p0 x2 μ → sm_W p l e { frames := 60, cells := 0, slots := 0, locals := 2259 } s m args below meth c A Q G 3 0 0 40 [] [(0, sm_R 61), (1, sm_I p0), (2, sm_I x2)] μ := by
    intro x2 μ h
    refine sm_lp1_sound (P := fun x2 μ => sm_W p l e { frames := 60, cells := 0, slots := 0, locals := 2259 } s m args below meth c A Q G 3 0 0 40 [] [(0, sm_R 61), (1, sm_I p0), (2, sm_I x2)] μ) (fun J40 x2 μ hJ40 h => ?_) h
    refine sr_iload_n C 2 rfl rfl d_M_loose_40 ?_
    refine sr_iload_n C 1 rfl rfl d_M_loose_41 ?_
    refine sr_icmp_ge C (tgt := 68) d_M_loose_42 (by decide) (fun c5 => ?_) (fun c5 => ?_)
    · replace h := Eq.mp (if_pos c5) h
      refine sr_aload_n C 0 rfl rfl d_M_loose_68 ?_
      refine sr_callVI C [] (P_M_snowOfAll l h) ok_125 sm_l61 rfl rfl rfl rfl ⟨Nat.le_of_ble_eq_true rfl, Nat.le_of_ble_eq_true rfl⟩ (Nat.le_of_ble_eq_true rfl) ⟨Nat.zero_le _, Nat.zero_le _⟩ d_M_loose_69 (fun r7 μ6 h => ?_)
      exact hR _ _ _ _ d_M_loose_72 rfl h
    · replace h := Eq.mp (if_neg c5) h
      refine sr_aload_n C 0 rfl rfl d_M_loose_45 ?_
      refine sr_getR C sm_F7 0 q_435 sm_l61 (r := 62) rfl (by decide) d_M_loose_46 ?_
      refine sr_bipush C (v := 8) d_M_loose_49 (by decide) ?_
      refine sr_aload_n C 0 rfl rfl d_M_loose_51 ?_
      refine sr_bipush C (v := 10) d_M_loose_52 (by decide) ?_
      refine sr_callVI C [sm_I _] (P_M_drawn l h) ok_128 sm_l61 rfl rfl rfl rfl ⟨Nat.le_of_ble_eq_true rfl, Nat.le_of_ble_eq_true rfl⟩ (Nat.le_of_ble_eq_true rfl) ⟨Nat.zero_le _, Nat.zero_le _⟩ d_M_loose_54 (fun r9 μ8 h => ?_)
      refine sr_iastJ C sm_l62 (j := 8) (sm_vin (by decide)) (by decide) d_M_loose_57 ?_
      replace h := h _ rfl
      refine sr_aload_n C 0 rfl rfl d_M_loose_58 ?_
      refine sr_callVV C [] (P_M_oneHour l h) ok_126 sm_l61 rfl rfl rfl rfl ⟨Nat.le_of_ble_eq_true rfl, Nat.le_of_ble_eq_true rfl⟩ (Nat.le_of_ble_eq_true rfl) ⟨Nat.zero_le _, Nat.zero_le _⟩ d_M_loose_59 (fun μ11 h => ?_)
      refine sr_iinc C 2 rfl (by decide) d_M_loose_62 rfl ?_
      refine sr_goto C (tgt := 40) (by decide) d_M_loose_65 ?_
      refine sr_mask C [1, 2, 0] rfl ?_
      exact hJ40 _ _ h
  refine sr_iload_n C 1 rfl rfl d_M_loose_0 ?_
  refine sr_iconst C (v := 1) d_M_loose_1 (by decide) ?_
  refine sr_bipush C (v := 40) d_M_loose_2 (by decide) ?_
  refine sr_callSI C [sm_I _, sm_I _, sm_I _] (P_M_in l h) ok_96 rfl rfl rfl ⟨Nat.le_of_ble_eq_true rfl, Nat.le_of_ble_eq_true rfl⟩ (Nat.le_of_ble_eq_true rfl) ⟨Nat.zero_le _, Nat.zero_le _⟩ d_M_loose_4 (fun r2 μ1 h => ?_)
  refine sr_if_ne C (tgt := 17) d_M_loose_7 (by decide) (fun c3 => ?_) (fun c3 => ?_)
  · replace h := Eq.mp (if_neg c3) h
    refine sr_aload_n C 0 rfl rfl d_M_loose_17 ?_
    refine sr_getR C sm_F7 0 q_435 sm_l61 (r := 62) rfl (by decide) d_M_loose_18 ?_
    refine sr_iconst C (v := 0) d_M_loose_21 (by decide) ?_
    refine sr_ialdJ C sm_l62 (j := 0) (sm_vin (by decide)) (by decide) d_M_loose_22 ?_
    refine sr_iload_n C 1 rfl rfl d_M_loose_23 ?_
    refine sr_iadd C d_M_loose_24 ?_
    refine sr_sipush C (v := 9999) d_M_loose_25 (by decide) ?_
    refine sr_icmp_le C (tgt := 38) d_M_loose_28 (by decide) (fun c4 => ?_) (fun c4 => ?_)
    · replace h := Eq.mp (if_pos c4) h
      refine sr_iconst C (v := 0) d_M_loose_38 (by decide) ?_
      refine sr_istore_n C rfl (by decide) d_M_loose_39 ?_
      refine sr_mask C [1, 2, 0] rfl ?_
      exact B40 _ _ h
    · replace h := Eq.mp (if_neg c4) h
      refine sr_aload_n C 0 rfl rfl d_M_loose_31 ?_
      refine sr_ldc C q_564 d_M_loose_32 ?_
      refine sr_callVI C [sm_I _] (P_M_errs l h) ok_97 sm_l61 rfl rfl rfl rfl ⟨Nat.le_of_ble_eq_true rfl, Nat.le_of_ble_eq_true rfl⟩ (Nat.le_of_ble_eq_true rfl) ⟨Nat.zero_le _, Nat.zero_le _⟩ d_M_loose_34 (fun r13 μ12 h => ?_)
      exact hR _ _ _ _ d_M_loose_37 rfl h
  · replace h := Eq.mp (if_pos c3) h
    refine sr_aload_n C 0 rfl rfl d_M_loose_10 ?_
    refine sr_ldc C q_441 d_M_loose_11 ?_
    refine sr_callVI C [sm_I _] (P_M_errs l h) ok_97 sm_l61 rfl rfl rfl rfl ⟨Nat.le_of_ble_eq_true rfl, Nat.le_of_ble_eq_true rfl⟩ (Nat.le_of_ble_eq_true rfl) ⟨Nat.zero_le _, Nat.zero_le _⟩ d_M_loose_13 (fun r15 μ14 h => ?_)
    exact hR _ _ _ _ d_M_loose_16 rfl h
theorem d_M_roadOf_0 : decode prog_10_method_12_code 0 = .ok (.aload_n 0, 1) := by decide +kernel
theorem d_M_roadOf_1 : decode prog_10_method_12_code 1 = .ok (.getfield 7, 3) := by decide +kernel
theorem d_M_roadOf_4 : decode prog_10_method_12_code 4 = .ok (.bipush 15, 2) := by decide +kernel
theorem d_M_roadOf_6 : decode prog_10_method_12_code 6 = .ok (.bipush 6, 2) := by decide +kernel
theorem d_M_roadOf_8 : decode prog_10_method_12_code 8 = .ok (.iload_n 1, 1) := by decide +kernel
theorem d_M_roadOf_9 : decode prog_10_method_12_code 9 = .ok (.imul, 1) := by decide +kernel
theorem d_M_roadOf_10 : decode prog_10_method_12_code 10 = .ok (.iadd, 1) := by decide +kernel
theorem d_M_roadOf_11 : decode prog_10_method_12_code 11 = .ok (.iload_n 2, 1) := by decide +kernel
theorem d_M_roadOf_12 : decode prog_10_method_12_code 12 = .ok (.iadd, 1) := by decide +kernel
theorem d_M_roadOf_13 : decode prog_10_method_12_code 13 = .ok (.iaload, 1) := by decide +kernel
theorem d_M_roadOf_14 : decode prog_10_method_12_code 14 = .ok (.ireturn, 1) := by decide +kernel
def w_M_roadOf (K : Int32 → sm_Mem → Prop) (p0 : Int32) (p1 : Int32) (μ : sm_Mem) : Prop := vp_in ((15 + (6 * p0)) + p1) 271 ∧ K (μ 62 ((15 + (6 * p0)) + p1).toNatClampNeg) μ
set_option maxHeartbeats 4000000 in
set_option maxRecDepth 100000 in
theorem P_M_roadOf (l : Launch) {K : Int32 → sm_Mem → Prop} {p0 : Int32} {p1 : Int32} {μ : sm_Mem} (h : w_M_roadOf K p0 p1 μ) : sm_MI l ⟨"SnowMoneyModel", "roadOf", "(II)I"⟩ prog_10_method_12_code 3 (some .int) { frames := 0, cells := 0, slots := 0, locals := 0 } [sm_R 61, sm_I p0, sm_I p1] μ K := by
  refine sm_ofI (by decide +kernel) (fun _ => Nat.le_of_ble_eq_true rfl) ?_
  intro p e s m args below meth c A Q G C hR
  refine sr_aload_n C 0 rfl rfl d_M_roadOf_0 ?_
  refine sr_getR C sm_F7 0 q_435 sm_l61 (r := 62) rfl (by decide) d_M_roadOf_1 ?_
  refine sr_bipush C (v := 15) d_M_roadOf_4 (by decide) ?_
  refine sr_bipush C (v := 6) d_M_roadOf_6 (by decide) ?_
  refine sr_iload_n C 1 rfl rfl d_M_roadOf_8 ?_
  refine sr_imul C d_M_roadOf_9 ?_
  refine sr_iadd C d_M_roadOf_10 ?_
  refine sr_iload_n C 2 rfl rfl d_M_roadOf_11 ?_
  refine sr_iadd C d_M_roadOf_12 ?_
  obtain ⟨g1, h⟩ := h
  refine sr_iald C sm_l62 g1 d_M_roadOf_13 ?_
  exact hR _ _ _ _ d_M_roadOf_14 rfl h
theorem d_M_carry_0 : decode prog_10_method_52_code 0 = .ok (.aload_n 0, 1) := by decide +kernel
theorem d_M_carry_1 : decode prog_10_method_52_code 1 = .ok (.iload_n 1, 1) := by decide +kernel
theorem d_M_carry_2 : decode prog_10_method_52_code 2 = .ok (.invokevirtual 75, 3) := by decide +kernel
theorem d_M_carry_5 : decode prog_10_method_52_code 5 = .ok (.ifCond .eq 11, 3) := by decide +kernel
theorem d_M_carry_8 : decode prog_10_method_52_code 8 = .ok (.aload_n 0, 1) := by decide +kernel
theorem d_M_carry_9 : decode prog_10_method_52_code 9 = .ok (.iload_n 2, 1) := by decide +kernel
theorem d_M_carry_10 : decode prog_10_method_52_code 10 = .ok (.invokevirtual 54, 3) := by decide +kernel
theorem d_M_carry_13 : decode prog_10_method_52_code 13 = .ok (.ifCond .ne 10, 3) := by decide +kernel
theorem d_M_carry_16 : decode prog_10_method_52_code 16 = .ok (.aload_n 0, 1) := by decide +kernel
theorem d_M_carry_17 : decode prog_10_method_52_code 17 = .ok (.ldc 48, 2) := by decide +kernel
theorem d_M_carry_19 : decode prog_10_method_52_code 19 = .ok (.invokevirtual 49, 3) := by decide +kernel
theorem d_M_carry_22 : decode prog_10_method_52_code 22 = .ok (.ireturn, 1) := by decide +kernel
theorem d_M_carry_23 : decode prog_10_method_52_code 23 = .ok (.aload_n 0, 1) := by decide +kernel
theorem d_M_carry_24 : decode prog_10_method_52_code 24 = .ok (.aload_n 0, 1) := by decide +kernel
theorem d_M_carry_25 : decode prog_10_method_52_code 25 = .ok (.iload_n 1, 1) := by decide +kernel
theorem d_M_carry_26 : decode prog_10_method_52_code 26 = .ok (.iconst 3, 1) := by decide +kernel
theorem d_M_carry_27 : decode prog_10_method_52_code 27 = .ok (.invokevirtual 62, 3) := by decide +kernel
theorem d_M_carry_30 : decode prog_10_method_52_code 30 = .ok (.iload_n 2, 1) := by decide +kernel
theorem d_M_carry_31 : decode prog_10_method_52_code 31 = .ok (.invokevirtual 190, 3) := by decide +kernel
theorem d_M_carry_34 : decode prog_10_method_52_code 34 = .ok (.istore_n 3, 1) := by decide +kernel
theorem d_M_carry_35 : decode prog_10_method_52_code 35 = .ok (.iload_n 3, 1) := by decide +kernel
theorem d_M_carry_36 : decode prog_10_method_52_code 36 = .ok (.ifCond .ne 10, 3) := by decide +kernel
theorem d_M_carry_39 : decode prog_10_method_52_code 39 = .ok (.aload_n 0, 1) := by decide +kernel
theorem d_M_carry_40 : decode prog_10_method_52_code 40 = .ok (.ldc 178, 2) := by decide +kernel
theorem d_M_carry_42 : decode prog_10_method_52_code 42 = .ok (.invokevirtual 49, 3) := by decide +kernel
theorem d_M_carry_45 : decode prog_10_method_52_code 45 = .ok (.ireturn, 1) := by decide +kernel
theorem d_M_carry_46 : decode prog_10_method_52_code 46 = .ok (.aload_n 0, 1) := by decide +kernel
theorem d_M_carry_47 : decode prog_10_method_52_code 47 = .ok (.iload_n 1, 1) := by decide +kernel
theorem d_M_carry_48 : decode prog_10_method_52_code 48 = .ok (.iload_n 3, 1) := by decide +kernel
theorem d_M_carry_49 : decode prog_10_method_52_code 49 = .ok (.aload_n 0, 1) := by decide +kernel
theorem d_M_carry_50 : decode prog_10_method_52_code 50 = .ok (.iload_n 1, 1) := by decide +kernel
theorem d_M_carry_51 : decode prog_10_method_52_code 51 = .ok (.invokevirtual 78, 3) := by decide +kernel
theorem d_M_carry_54 : decode prog_10_method_52_code 54 = .ok (.imul, 1) := by decide +kernel
theorem d_M_carry_55 : decode prog_10_method_52_code 55 = .ok (.invokevirtual 171, 3) := by decide +kernel
theorem d_M_carry_58 : decode prog_10_method_52_code 58 = .ok (.aload_n 0, 1) := by decide +kernel
theorem d_M_carry_59 : decode prog_10_method_52_code 59 = .ok (.iload_n 1, 1) := by decide +kernel
theorem d_M_carry_60 : decode prog_10_method_52_code 60 = .ok (.iconst 3, 1) := by decide +kernel
theorem d_M_carry_61 : decode prog_10_method_52_code 61 = .ok (.iload_n 2, 1) := by decide +kernel
theorem d_M_carry_62 : decode prog_10_method_52_code 62 = .ok (.invokevirtual 71, 3) := by decide +kernel
theorem d_M_carry_65 : decode prog_10_method_52_code 65 = .ok (.aload_n 0, 1) := by decide +kernel
theorem d_M_carry_66 : decode prog_10_method_52_code 66 = .ok (.iload_n 1, 1) := by decide +kernel
theorem d_M_carry_67 : decode prog_10_method_52_code 67 = .ok (.iconst 2, 1) := by decide +kernel
theorem d_M_carry_68 : decode prog_10_method_52_code 68 = .ok (.invokevirtual 62, 3) := by decide +kernel
theorem d_M_carry_71 : decode prog_10_method_52_code 71 = .ok (.ireturn, 1) := by decide +kernel
def w_M_carry_16 (K : Int32 → sm_Mem → Prop) (p0 : Int32) (p1 : Int32) (μ : sm_Mem) : Prop := w_M_errs (fun r5 μ4 => K r5 μ4) (-1000000001) μ
def w_M_carry (K : Int32 → sm_Mem → Prop) (p0 : Int32) (p1 : Int32) (μ : sm_Mem) : Prop := w_M_isNote (fun r2 μ1 => if r2 = 0 then w_M_carry_16 K p0 p1 μ1 else w_M_isPlace (fun r7 μ6 => if r7 = 0 then w_M_carry_16 K p0 p1 μ6 else w_M_its (fun r10 μ9 => w_M_roadOf (fun r12 μ11 => if r12 = 0 then w_M_errs (fun r21 μ20 => K r21 μ20) (-1000000003) μ11 else w_M_melts (fun r15 μ14 => w_M_loses (fun μ16 => w_M_gets (fun μ17 => w_M_its (fun r19 μ18 => K r19 μ18) p0 2 μ17) p0 3 p1 μ16) p0 (r12 * r15) μ14) p0 μ11) r10 p1 μ9) p0 3 μ6) p1 μ1) p0 μ
set_option maxHeartbeats 4000000 in
set_option maxRecDepth 100000 in
theorem P_M_carry (l : Launch) {K : Int32 → sm_Mem → Prop} {p0 : Int32} {p1 : Int32} {μ : sm_Mem} (h : w_M_carry K p0 p1 μ) : sm_MI l ⟨"SnowMoneyModel", "carry", "(II)I"⟩ prog_10_method_52_code 4 (some .int) { frames := 59, cells := 0, slots := 0, locals := 2238 } [sm_R 61, sm_I p0, sm_I p1] μ K := by
  refine sm_ofI (by decide +kernel) (fun _ => Nat.le_of_ble_eq_true rfl) ?_
  intro p e s m args below meth c A Q G C hR
  have B16 : ∀ (μ : sm_Mem), w_M_carry_16 K p0 p1 μ → sm_W p l e { frames := 59, cells := 0, slots := 0, locals := 2238 } s m args below meth c A Q G 4 0 0 16 [] [(0, sm_R 61)] μ := by
    intro μ h
    refine sr_aload_n C 0 rfl rfl d_M_carry_16 ?_
    refine sr_ldc C q_441 d_M_carry_17 ?_
    refine sr_callVI C [sm_I _] (P_M_errs l h) ok_97 sm_l61 rfl rfl rfl rfl ⟨Nat.le_of_ble_eq_true rfl, Nat.le_of_ble_eq_true rfl⟩ (Nat.le_of_ble_eq_true rfl) ⟨Nat.zero_le _, Nat.zero_le _⟩ d_M_carry_19 (fun r5 μ4 h => ?_)
    exact hR _ _ _ _ d_M_carry_22 rfl h
  refine sr_aload_n C 0 rfl rfl d_M_carry_0 ?_
  refine sr_iload_n C 1 rfl rfl d_M_carry_1 ?_
  refine sr_callVI C [sm_I _] (P_M_isNote l h) ok_104 sm_l61 rfl rfl rfl rfl ⟨Nat.le_of_ble_eq_true rfl, Nat.le_of_ble_eq_true rfl⟩ (Nat.le_of_ble_eq_true rfl) ⟨Nat.zero_le _, Nat.zero_le _⟩ d_M_carry_2 (fun r2 μ1 h => ?_)
  refine sr_if_eq C (tgt := 16) d_M_carry_5 (by decide) (fun c3 => ?_) (fun c3 => ?_)
  · replace h := Eq.mp (if_pos c3) h
    refine sr_mask C [0] rfl ?_
    exact B16 _ h
  · replace h := Eq.mp (if_neg c3) h
    refine sr_aload_n C 0 rfl rfl d_M_carry_8 ?_
    refine sr_iload_n C 2 rfl rfl d_M_carry_9 ?_
    refine sr_callVI C [sm_I _] (P_M_isPlace l h) ok_98 sm_l61 rfl rfl rfl rfl ⟨Nat.le_of_ble_eq_true rfl, Nat.le_of_ble_eq_true rfl⟩ (Nat.le_of_ble_eq_true rfl) ⟨Nat.zero_le _, Nat.zero_le _⟩ d_M_carry_10 (fun r7 μ6 h => ?_)
    refine sr_if_ne C (tgt := 23) d_M_carry_13 (by decide) (fun c8 => ?_) (fun c8 => ?_)
    · replace h := Eq.mp (if_neg c8) h
      refine sr_aload_n C 0 rfl rfl d_M_carry_23 ?_
      refine sr_aload_n C 0 rfl rfl d_M_carry_24 ?_
      refine sr_iload_n C 1 rfl rfl d_M_carry_25 ?_
      refine sr_iconst C (v := 3) d_M_carry_26 (by decide) ?_
      refine sr_callVI C [sm_I _, sm_I _] (P_M_its l h) ok_101 sm_l61 rfl rfl rfl rfl ⟨Nat.le_of_ble_eq_true rfl, Nat.le_of_ble_eq_true rfl⟩ (Nat.le_of_ble_eq_true rfl) ⟨Nat.zero_le _, Nat.zero_le _⟩ d_M_carry_27 (fun r10 μ9 h => ?_)
      refine sr_iload_n C 2 rfl rfl d_M_carry_30 ?_
      refine sr_callVI C [sm_I _, sm_I _] (P_M_roadOf l h) ok_129 sm_l61 rfl rfl rfl rfl ⟨Nat.le_of_ble_eq_true rfl, Nat.le_of_ble_eq_true rfl⟩ (Nat.le_of_ble_eq_true rfl) ⟨Nat.zero_le _, Nat.zero_le _⟩ d_M_carry_31 (fun r12 μ11 h => ?_)
      refine sr_istore_n C rfl (by decide) d_M_carry_34 ?_
      refine sr_iload_n C 0 rfl rfl d_M_carry_35 ?_
      refine sr_if_ne C (tgt := 46) d_M_carry_36 (by decide) (fun c13 => ?_) (fun c13 => ?_)
      · replace h := Eq.mp (if_neg c13) h
        refine sr_aload_n C 1 rfl rfl d_M_carry_46 ?_
        refine sr_iload_n C 2 rfl rfl d_M_carry_47 ?_
        refine sr_iload_n C 0 rfl rfl d_M_carry_48 ?_
        refine sr_aload_n C 1 rfl rfl d_M_carry_49 ?_
        refine sr_iload_n C 2 rfl rfl d_M_carry_50 ?_
        refine sr_callVI C [sm_I _] (P_M_melts l h) ok_106 sm_l61 rfl rfl rfl rfl ⟨Nat.le_of_ble_eq_true rfl, Nat.le_of_ble_eq_true rfl⟩ (Nat.le_of_ble_eq_true rfl) ⟨Nat.zero_le _, Nat.zero_le _⟩ d_M_carry_51 (fun r15 μ14 h => ?_)
        refine sr_imul C d_M_carry_54 ?_
        refine sr_callVV C [sm_I _, sm_I _] (P_M_loses l h) ok_127 sm_l61 rfl rfl rfl rfl ⟨Nat.le_of_ble_eq_true rfl, Nat.le_of_ble_eq_true rfl⟩ (Nat.le_of_ble_eq_true rfl) ⟨Nat.zero_le _, Nat.zero_le _⟩ d_M_carry_55 (fun μ16 h => ?_)
        refine sr_aload_n C 1 rfl rfl d_M_carry_58 ?_
        refine sr_iload_n C 2 rfl rfl d_M_carry_59 ?_
        refine sr_iconst C (v := 3) d_M_carry_60 (by decide) ?_
        refine sr_iload_n C 3 rfl rfl d_M_carry_61 ?_
        refine sr_callVV C [sm_I _, sm_I _, sm_I _] (P_M_gets l h) ok_103 sm_l61 rfl rfl rfl rfl ⟨Nat.le_of_ble_eq_true rfl, Nat.le_of_ble_eq_true rfl⟩ (Nat.le_of_ble_eq_true rfl) ⟨Nat.zero_le _, Nat.zero_le _⟩ d_M_carry_62 (fun μ17 h => ?_)
        refine sr_aload_n C 1 rfl rfl d_M_carry_65 ?_
        refine sr_iload_n C 2 rfl rfl d_M_carry_66 ?_
        refine sr_iconst C (v := 2) d_M_carry_67 (by decide) ?_
        refine sr_callVI C [sm_I _, sm_I _] (P_M_its l h) ok_101 sm_l61 rfl rfl rfl rfl ⟨Nat.le_of_ble_eq_true rfl, Nat.le_of_ble_eq_true rfl⟩ (Nat.le_of_ble_eq_true rfl) ⟨Nat.zero_le _, Nat.zero_le _⟩ d_M_carry_68 (fun r19 μ18 h => ?_)
        exact hR _ _ _ _ d_M_carry_71 rfl h
      · replace h := Eq.mp (if_pos c13) h
        refine sr_aload_n C 1 rfl rfl d_M_carry_39 ?_
        refine sr_ldc C q_564 d_M_carry_40 ?_
        refine sr_callVI C [sm_I _] (P_M_errs l h) ok_97 sm_l61 rfl rfl rfl rfl ⟨Nat.le_of_ble_eq_true rfl, Nat.le_of_ble_eq_true rfl⟩ (Nat.le_of_ble_eq_true rfl) ⟨Nat.zero_le _, Nat.zero_le _⟩ d_M_carry_42 (fun r21 μ20 h => ?_)
        exact hR _ _ _ _ d_M_carry_45 rfl h
    · replace h := Eq.mp (if_pos c8) h
      refine sr_mask C [0] rfl ?_
      exact B16 _ h
theorem d_M_then_0 : decode prog_10_method_53_code 0 = .ok (.iload_n 1, 1) := by decide +kernel
theorem d_M_then_1 : decode prog_10_method_53_code 1 = .ok (.iconst 0, 1) := by decide +kernel
theorem d_M_then_2 : decode prog_10_method_53_code 2 = .ok (.bipush 60, 2) := by decide +kernel
theorem d_M_then_4 : decode prog_10_method_53_code 4 = .ok (.invokestatic 44, 3) := by decide +kernel
theorem d_M_then_7 : decode prog_10_method_53_code 7 = .ok (.ifCond .eq 20, 3) := by decide +kernel
theorem d_M_then_10 : decode prog_10_method_53_code 10 = .ok (.aload_n 0, 1) := by decide +kernel
theorem d_M_then_11 : decode prog_10_method_53_code 11 = .ok (.iload_n 2, 1) := by decide +kernel
theorem d_M_then_12 : decode prog_10_method_53_code 12 = .ok (.invokevirtual 75, 3) := by decide +kernel
theorem d_M_then_15 : decode prog_10_method_53_code 15 = .ok (.ifCond .eq 12, 3) := by decide +kernel
theorem d_M_then_18 : decode prog_10_method_53_code 18 = .ok (.iload_n 3, 1) := by decide +kernel
theorem d_M_then_19 : decode prog_10_method_53_code 19 = .ok (.iconst 0, 1) := by decide +kernel
theorem d_M_then_20 : decode prog_10_method_53_code 20 = .ok (.iconst 1, 1) := by decide +kernel
theorem d_M_then_21 : decode prog_10_method_53_code 21 = .ok (.invokestatic 44, 3) := by decide +kernel
theorem d_M_then_24 : decode prog_10_method_53_code 24 = .ok (.ifCond .ne 10, 3) := by decide +kernel
theorem d_M_then_27 : decode prog_10_method_53_code 27 = .ok (.aload_n 0, 1) := by decide +kernel
theorem d_M_then_28 : decode prog_10_method_53_code 28 = .ok (.ldc 48, 2) := by decide +kernel
theorem d_M_then_30 : decode prog_10_method_53_code 30 = .ok (.invokevirtual 49, 3) := by decide +kernel
theorem d_M_then_33 : decode prog_10_method_53_code 33 = .ok (.ireturn, 1) := by decide +kernel
theorem d_M_then_34 : decode prog_10_method_53_code 34 = .ok (.aload_n 0, 1) := by decide +kernel
theorem d_M_then_35 : decode prog_10_method_53_code 35 = .ok (.aload_n 0, 1) := by decide +kernel
theorem d_M_then_36 : decode prog_10_method_53_code 36 = .ok (.getfield 7, 3) := by decide +kernel
theorem d_M_then_39 : decode prog_10_method_53_code 39 = .ok (.aload_n 0, 1) := by decide +kernel
theorem d_M_then_40 : decode prog_10_method_53_code 40 = .ok (.getfield 16, 3) := by decide +kernel
theorem d_M_then_43 : decode prog_10_method_53_code 43 = .ok (.invokevirtual 161, 3) := by decide +kernel
theorem d_M_then_46 : decode prog_10_method_53_code 46 = .ok (.aload_n 0, 1) := by decide +kernel
theorem d_M_then_47 : decode prog_10_method_53_code 47 = .ok (.iload_n 1, 1) := by decide +kernel
theorem d_M_then_48 : decode prog_10_method_53_code 48 = .ok (.invokevirtual 179, 3) := by decide +kernel
theorem d_M_then_51 : decode prog_10_method_53_code 51 = .ok (.iload_n 3, 1) := by decide +kernel
theorem d_M_then_52 : decode prog_10_method_53_code 52 = .ok (.ifCond .ne 12, 3) := by decide +kernel
theorem d_M_then_55 : decode prog_10_method_53_code 55 = .ok (.aload_n 0, 1) := by decide +kernel
theorem d_M_then_56 : decode prog_10_method_53_code 56 = .ok (.iload_n 2, 1) := by decide +kernel
theorem d_M_then_57 : decode prog_10_method_53_code 57 = .ok (.iconst 2, 1) := by decide +kernel
theorem d_M_then_58 : decode prog_10_method_53_code 58 = .ok (.invokevirtual 62, 3) := by decide +kernel
theorem d_M_then_61 : decode prog_10_method_53_code 61 = .ok (.goto 8, 3) := by decide +kernel
theorem d_M_then_64 : decode prog_10_method_53_code 64 = .ok (.aload_n 0, 1) := by decide +kernel
theorem d_M_then_65 : decode prog_10_method_53_code 65 = .ok (.iload_n 2, 1) := by decide +kernel
theorem d_M_then_66 : decode prog_10_method_53_code 66 = .ok (.invokevirtual 81, 3) := by decide +kernel
theorem d_M_then_69 : decode prog_10_method_53_code 69 = .ok (.istore 4, 2) := by decide +kernel
theorem d_M_then_71 : decode prog_10_method_53_code 71 = .ok (.aload_n 0, 1) := by decide +kernel
theorem d_M_then_72 : decode prog_10_method_53_code 72 = .ok (.aload_n 0, 1) := by decide +kernel
theorem d_M_then_73 : decode prog_10_method_53_code 73 = .ok (.getfield 16, 3) := by decide +kernel
theorem d_M_then_76 : decode prog_10_method_53_code 76 = .ok (.aload_n 0, 1) := by decide +kernel
theorem d_M_then_77 : decode prog_10_method_53_code 77 = .ok (.getfield 7, 3) := by decide +kernel
theorem d_M_then_80 : decode prog_10_method_53_code 80 = .ok (.invokevirtual 161, 3) := by decide +kernel
theorem d_M_then_83 : decode prog_10_method_53_code 83 = .ok (.iload 4, 2) := by decide +kernel
theorem d_M_then_85 : decode prog_10_method_53_code 85 = .ok (.ireturn, 1) := by decide +kernel
def w_M_then_27 (K : Int32 → sm_Mem → Prop) (p0 : Int32) (p1 : Int32) (p2 : Int32) (μ : sm_Mem) : Prop := w_M_errs (fun r5 μ4 => K r5 μ4) (-1000000001) μ
def w_M_then_69 (K : Int32 → sm_Mem → Prop) (p0 : Int32) (p1 : Int32) (p2 : Int32) (s0 : Int32) (μ : sm_Mem) : Prop := w_M_moveAll (fun μ17 => K s0 μ17) 64 62 μ
def w_M_then (K : Int32 → sm_Mem → Prop) (p0 : Int32) (p1 : Int32) (p2 : Int32) (μ : sm_Mem) : Prop := w_M_in (fun r2 μ1 => if r2 = 0 then w_M_then_27 K p0 p1 p2 μ1 else w_M_isNote (fun r7 μ6 => if r7 = 0 then w_M_then_27 K p0 p1 p2 μ6 else w_M_in (fun r10 μ9 => if r10 = 0 then w_M_then_27 K p0 p1 p2 μ9 else w_M_moveAll (fun μ12 => w_M_passes (fun μ13 => if p2 = 0 then w_M_its (fun r19 μ18 => w_M_then_69 K p0 p1 p2 r19 μ18) p1 2 μ13 else w_M_pays (fun r16 μ15 => w_M_then_69 K p0 p1 p2 r16 μ15) p1 μ13) p0 μ12) 62 64 μ9) p2 0 1 μ6) p1 μ1) p0 0 60 μ
set_option maxHeartbeats 4000000 in
set_option maxRecDepth 100000 in
theorem P_M_then (l : Launch) {K : Int32 → sm_Mem → Prop} {p0 : Int32} {p1 : Int32} {p2 : Int32} {μ : sm_Mem} (h : w_M_then K p0 p1 p2 μ) : sm_MI l ⟨"SnowMoneyModel", "then", "(III)I"⟩ prog_10_method_53_code 5 (some .int) { frames := 61, cells := 0, slots := 0, locals := 2281 } [sm_R 61, sm_I p0, sm_I p1, sm_I p2] μ K := by
  refine sm_ofI (by decide +kernel) (fun _ => Nat.le_of_ble_eq_true rfl) ?_
  intro p e s m args below meth c A Q G C hR
  have B27 : ∀ (μ : sm_Mem), w_M_then_27 K p0 p1 p2 μ → sm_W p l e { frames := 61, cells := 0, slots := 0, locals := 2281 } s m args below meth c A Q G 5 0 0 27 [] [(0, sm_R 61)] μ := by
    intro μ h
    refine sr_aload_n C 0 rfl rfl d_M_then_27 ?_
    refine sr_ldc C q_441 d_M_then_28 ?_
    refine sr_callVI C [sm_I _] (P_M_errs l h) ok_97 sm_l61 rfl rfl rfl rfl ⟨Nat.le_of_ble_eq_true rfl, Nat.le_of_ble_eq_true rfl⟩ (Nat.le_of_ble_eq_true rfl) ⟨Nat.zero_le _, Nat.zero_le _⟩ d_M_then_30 (fun r5 μ4 h => ?_)
    exact hR _ _ _ _ d_M_then_33 rfl h
  have B69 : ∀ (s0 : Int32) (μ : sm_Mem), w_M_then_69 K p0 p1 p2 s0 μ → sm_W p l e { frames := 61, cells := 0, slots := 0, locals := 2281 } s m args below meth c A Q G 5 0 0 69 [sm_I s0] [(0, sm_R 61)] μ := by
    intro s0 μ h
    refine sr_istore C (by decide) d_M_then_69 ?_
    refine sr_aload_n C 1 rfl rfl d_M_then_71 ?_
    refine sr_aload_n C 1 rfl rfl d_M_then_72 ?_
    refine sr_getR C sm_F7 2 q_582 sm_l61 (r := 64) rfl (by decide) d_M_then_73 ?_
    refine sr_aload_n C 1 rfl rfl d_M_then_76 ?_
    refine sr_getR C sm_F7 0 q_435 sm_l61 (r := 62) rfl (by decide) d_M_then_77 ?_
    refine sr_callVV C [sm_R _, sm_R _] (P_M_moveAll l h) ok_123 sm_l61 rfl rfl rfl rfl ⟨Nat.le_of_ble_eq_true rfl, Nat.le_of_ble_eq_true rfl⟩ (Nat.le_of_ble_eq_true rfl) ⟨Nat.zero_le _, Nat.zero_le _⟩ d_M_then_80 (fun μ17 h => ?_)
    refine sr_iload C 0 rfl d_M_then_83 ?_
    exact hR _ _ _ _ d_M_then_85 rfl h
  refine sr_iload_n C 1 rfl rfl d_M_then_0 ?_
  refine sr_iconst C (v := 0) d_M_then_1 (by decide) ?_
  refine sr_bipush C (v := 60) d_M_then_2 (by decide) ?_
  refine sr_callSI C [sm_I _, sm_I _, sm_I _] (P_M_in l h) ok_96 rfl rfl rfl ⟨Nat.le_of_ble_eq_true rfl, Nat.le_of_ble_eq_true rfl⟩ (Nat.le_of_ble_eq_true rfl) ⟨Nat.zero_le _, Nat.zero_le _⟩ d_M_then_4 (fun r2 μ1 h => ?_)
  refine sr_if_eq C (tgt := 27) d_M_then_7 (by decide) (fun c3 => ?_) (fun c3 => ?_)
  · replace h := Eq.mp (if_pos c3) h
    refine sr_mask C [0] rfl ?_
    exact B27 _ h
  · replace h := Eq.mp (if_neg c3) h
    refine sr_aload_n C 0 rfl rfl d_M_then_10 ?_
    refine sr_iload_n C 2 rfl rfl d_M_then_11 ?_
    refine sr_callVI C [sm_I _] (P_M_isNote l h) ok_104 sm_l61 rfl rfl rfl rfl ⟨Nat.le_of_ble_eq_true rfl, Nat.le_of_ble_eq_true rfl⟩ (Nat.le_of_ble_eq_true rfl) ⟨Nat.zero_le _, Nat.zero_le _⟩ d_M_then_12 (fun r7 μ6 h => ?_)
    refine sr_if_eq C (tgt := 27) d_M_then_15 (by decide) (fun c8 => ?_) (fun c8 => ?_)
    · replace h := Eq.mp (if_pos c8) h
      refine sr_mask C [0] rfl ?_
      exact B27 _ h
    · replace h := Eq.mp (if_neg c8) h
      refine sr_iload_n C 3 rfl rfl d_M_then_18 ?_
      refine sr_iconst C (v := 0) d_M_then_19 (by decide) ?_
      refine sr_iconst C (v := 1) d_M_then_20 (by decide) ?_
      refine sr_callSI C [sm_I _, sm_I _, sm_I _] (P_M_in l h) ok_96 rfl rfl rfl ⟨Nat.le_of_ble_eq_true rfl, Nat.le_of_ble_eq_true rfl⟩ (Nat.le_of_ble_eq_true rfl) ⟨Nat.zero_le _, Nat.zero_le _⟩ d_M_then_21 (fun r10 μ9 h => ?_)
      refine sr_if_ne C (tgt := 34) d_M_then_24 (by decide) (fun c11 => ?_) (fun c11 => ?_)
      · replace h := Eq.mp (if_neg c11) h
        refine sr_aload_n C 0 rfl rfl d_M_then_34 ?_
        refine sr_aload_n C 0 rfl rfl d_M_then_35 ?_
        refine sr_getR C sm_F7 0 q_435 sm_l61 (r := 62) rfl (by decide) d_M_then_36 ?_
        refine sr_aload_n C 0 rfl rfl d_M_then_39 ?_
        refine sr_getR C sm_F7 2 q_582 sm_l61 (r := 64) rfl (by decide) d_M_then_40 ?_
        refine sr_callVV C [sm_R _, sm_R _] (P_M_moveAll l h) ok_123 sm_l61 rfl rfl rfl rfl ⟨Nat.le_of_ble_eq_true rfl, Nat.le_of_ble_eq_true rfl⟩ (Nat.le_of_ble_eq_true rfl) ⟨Nat.zero_le _, Nat.zero_le _⟩ d_M_then_43 (fun μ12 h => ?_)
        refine sr_aload_n C 0 rfl rfl d_M_then_46 ?_
        refine sr_iload_n C 1 rfl rfl d_M_then_47 ?_
        refine sr_callVV C [sm_I _] (P_M_passes l h) ok_124 sm_l61 rfl rfl rfl rfl ⟨Nat.le_of_ble_eq_true rfl, Nat.le_of_ble_eq_true rfl⟩ (Nat.le_of_ble_eq_true rfl) ⟨Nat.zero_le _, Nat.zero_le _⟩ d_M_then_48 (fun μ13 h => ?_)
        refine sr_iload_n C 3 rfl rfl d_M_then_51 ?_
        refine sr_if_ne C (tgt := 64) d_M_then_52 (by decide) (fun c14 => ?_) (fun c14 => ?_)
        · replace h := Eq.mp (if_neg c14) h
          refine sr_aload_n C 0 rfl rfl d_M_then_64 ?_
          refine sr_iload_n C 2 rfl rfl d_M_then_65 ?_
          refine sr_callVI C [sm_I _] (P_M_pays l h) ok_105 sm_l61 rfl rfl rfl rfl ⟨Nat.le_of_ble_eq_true rfl, Nat.le_of_ble_eq_true rfl⟩ (Nat.le_of_ble_eq_true rfl) ⟨Nat.zero_le _, Nat.zero_le _⟩ d_M_then_66 (fun r16 μ15 h => ?_)
          refine sr_mask C [0] rfl ?_
          exact B69 _ _ h
        · replace h := Eq.mp (if_pos c14) h
          refine sr_aload_n C 0 rfl rfl d_M_then_55 ?_
          refine sr_iload_n C 2 rfl rfl d_M_then_56 ?_
          refine sr_iconst C (v := 2) d_M_then_57 (by decide) ?_
          refine sr_callVI C [sm_I _, sm_I _] (P_M_its l h) ok_101 sm_l61 rfl rfl rfl rfl ⟨Nat.le_of_ble_eq_true rfl, Nat.le_of_ble_eq_true rfl⟩ (Nat.le_of_ble_eq_true rfl) ⟨Nat.zero_le _, Nat.zero_le _⟩ d_M_then_58 (fun r19 μ18 h => ?_)
          refine sr_goto C (tgt := 69) (by decide) d_M_then_61 ?_
          refine sr_mask C [0] rfl ?_
          exact B69 _ _ h
      · replace h := Eq.mp (if_pos c11) h
        refine sr_mask C [0] rfl ?_
        exact B27 _ h
theorem d_M_goneSince_0 : decode prog_10_method_54_code 0 = .ok (.iconst 0, 1) := by decide +kernel
theorem d_M_goneSince_1 : decode prog_10_method_54_code 1 = .ok (.istore_n 1, 1) := by decide +kernel
theorem d_M_goneSince_2 : decode prog_10_method_54_code 2 = .ok (.iload_n 1, 1) := by decide +kernel
theorem d_M_goneSince_3 : decode prog_10_method_54_code 3 = .ok (.aload_n 0, 1) := by decide +kernel
theorem d_M_goneSince_4 : decode prog_10_method_54_code 4 = .ok (.getfield 7, 3) := by decide +kernel
theorem d_M_goneSince_7 : decode prog_10_method_54_code 7 = .ok (.bipush 7, 2) := by decide +kernel
theorem d_M_goneSince_9 : decode prog_10_method_54_code 9 = .ok (.iaload, 1) := by decide +kernel
theorem d_M_goneSince_10 : decode prog_10_method_54_code 10 = .ok (.if_icmp .ge 34, 3) := by decide +kernel
theorem d_M_goneSince_13 : decode prog_10_method_54_code 13 = .ok (.aload_n 0, 1) := by decide +kernel
theorem d_M_goneSince_14 : decode prog_10_method_54_code 14 = .ok (.iload_n 1, 1) := by decide +kernel
theorem d_M_goneSince_15 : decode prog_10_method_54_code 15 = .ok (.iconst 2, 1) := by decide +kernel
theorem d_M_goneSince_16 : decode prog_10_method_54_code 16 = .ok (.invokevirtual 62, 3) := by decide +kernel
theorem d_M_goneSince_19 : decode prog_10_method_54_code 19 = .ok (.ifCond .gt 19, 3) := by decide +kernel
theorem d_M_goneSince_22 : decode prog_10_method_54_code 22 = .ok (.aload_n 0, 1) := by decide +kernel
theorem d_M_goneSince_23 : decode prog_10_method_54_code 23 = .ok (.getfield 16, 3) := by decide +kernel
theorem d_M_goneSince_26 : decode prog_10_method_54_code 26 = .ok (.bipush 51, 2) := by decide +kernel
theorem d_M_goneSince_28 : decode prog_10_method_54_code 28 = .ok (.iconst 5, 1) := by decide +kernel
theorem d_M_goneSince_29 : decode prog_10_method_54_code 29 = .ok (.iload_n 1, 1) := by decide +kernel
theorem d_M_goneSince_30 : decode prog_10_method_54_code 30 = .ok (.imul, 1) := by decide +kernel
theorem d_M_goneSince_31 : decode prog_10_method_54_code 31 = .ok (.iadd, 1) := by decide +kernel
theorem d_M_goneSince_32 : decode prog_10_method_54_code 32 = .ok (.iconst 2, 1) := by decide +kernel
theorem d_M_goneSince_33 : decode prog_10_method_54_code 33 = .ok (.iadd, 1) := by decide +kernel
theorem d_M_goneSince_34 : decode prog_10_method_54_code 34 = .ok (.iaload, 1) := by decide +kernel
theorem d_M_goneSince_35 : decode prog_10_method_54_code 35 = .ok (.ifCond .ne 9, 3) := by decide +kernel
theorem d_M_goneSince_38 : decode prog_10_method_54_code 38 = .ok (.iinc 1 1, 3) := by decide +kernel
theorem d_M_goneSince_41 : decode prog_10_method_54_code 41 = .ok (.goto (-39), 3) := by decide +kernel
theorem d_M_goneSince_44 : decode prog_10_method_54_code 44 = .ok (.iload_n 1, 1) := by decide +kernel
theorem d_M_goneSince_45 : decode prog_10_method_54_code 45 = .ok (.ireturn, 1) := by decide +kernel
def w_M_goneSince_38 (K : Int32 → sm_Mem → Prop) (J2 : Int32 → sm_Mem → Prop) (x1 : Int32) (μ : sm_Mem) : Prop := J2 (x1 + 1) μ
def w_M_goneSince_2 (K : Int32 → sm_Mem → Prop) (x1 : Int32) (μ : sm_Mem) : Prop := sm_lp1 (fun J2 x1 μ => if (μ 62 7) ≤ x1 then K x1 μ else (w_M_its (fun r3 μ2 => if 0 < r3 then w_M_goneSince_38 K J2 x1 μ2 else (vp_in ((51 + (5 * x1)) + 2) 271 ∧ if (μ2 64 ((51 + (5 * x1)) + 2).toNatClampNeg) = 0 then w_M_goneSince_38 K J2 x1 μ2 else K x1 μ2)) x1 2 μ)) x1 μ
def w_M_goneSince (K : Int32 → sm_Mem → Prop) (μ : sm_Mem) : Prop := w_M_goneSince_2 K 0 μ
set_option maxHeartbeats 4000000 in
set_option maxRecDepth 100000 in
theorem P_M_goneSince (l : Launch) {K : Int32 → sm_Mem → Prop} {μ : sm_Mem} (h : w_M_goneSince K μ) : sm_MI l ⟨"SnowMoneyModel", "goneSince", "()I"⟩ prog_10_method_54_code 2 (some .int) { frames := 1, cells := 0, slots := 0, locals := 22 } [sm_R 61] μ K := by
  refine sm_ofI (by decide +kernel) (fun _ => Nat.le_of_ble_eq_true rfl) ?_
  intro p e s m args below meth c A Q G C hR
  have B38 : ∀ (x1 : Int32) (J2 : Int32 → sm_Mem → Prop) (hJ2 : ∀ (x1 : Int32) (μ : sm_Mem), J2 x1 μ → sm_W p l e { frames := 1, cells := 0, slots := 0, locals := 22 } s m args below meth c A Q G 2 0 0 2 [] [(0, sm_R 61), (1, sm_I x1)] μ) (μ : sm_Mem), w_M_goneSince_38 K J2 x1 μ → sm_W p l e { frames := 1, cells := 0, slots := 0, locals := 22 } s m args below meth c A Q G 2 0 0 38 [] [(0, sm_R 61), (1, sm_I x1)] μ := by
    intro x1 J2 hJ2 μ h
    refine sr_iinc C 1 rfl (by decide) d_M_goneSince_38 rfl ?_
    refine sr_goto C (tgt := 2) (by decide) d_M_goneSince_41 ?_
    refine sr_mask C [1, 0] rfl ?_
    exact hJ2 _ _ h
  have B2 : ∀ (x1 : Int32) (μ : sm_Mem), w_M_goneSince_2 K x1 μ → sm_W p l e { frames := 1, cells := 0, slots := 0, locals := 22 } s m args below meth c A Q G 2 0 0 2 [] [(0, sm_R 61), (1, sm_I x1)] μ := by
    intro x1 μ h
    refine sm_lp1_sound (P := fun x1 μ => sm_W p l e { frames := 1, cells := 0, slots := 0, locals := 22 } s m args below meth c A Q G 2 0 0 2 [] [(0, sm_R 61), (1, sm_I x1)] μ) (fun J2 x1 μ hJ2 h => ?_) h
    refine sr_iload_n C 1 rfl rfl d_M_goneSince_2 ?_
    refine sr_aload_n C 0 rfl rfl d_M_goneSince_3 ?_
    refine sr_getR C sm_F7 0 q_435 sm_l61 (r := 62) rfl (by decide) d_M_goneSince_4 ?_
    refine sr_bipush C (v := 7) d_M_goneSince_7 (by decide) ?_
    refine sr_ialdJ C sm_l62 (j := 7) (sm_vin (by decide)) (by decide) d_M_goneSince_9 ?_
    refine sr_icmp_ge C (tgt := 44) d_M_goneSince_10 (by decide) (fun c1 => ?_) (fun c1 => ?_)
    · replace h := Eq.mp (if_pos c1) h
      refine sr_iload_n C 1 rfl rfl d_M_goneSince_44 ?_
      exact hR _ _ _ _ d_M_goneSince_45 rfl h
    · replace h := Eq.mp (if_neg c1) h
      refine sr_aload_n C 0 rfl rfl d_M_goneSince_13 ?_
      refine sr_iload_n C 1 rfl rfl d_M_goneSince_14 ?_
      refine sr_iconst C (v := 2) d_M_goneSince_15 (by decide) ?_
      refine sr_callVI C [sm_I _, sm_I _] (P_M_its l h) ok_101 sm_l61 rfl rfl rfl rfl ⟨Nat.le_of_ble_eq_true rfl, Nat.le_of_ble_eq_true rfl⟩ (Nat.le_of_ble_eq_true rfl) ⟨Nat.zero_le _, Nat.zero_le _⟩ d_M_goneSince_16 (fun r3 μ2 h => ?_)
      refine sr_if_gt C (tgt := 38) d_M_goneSince_19 (by decide) (fun c4 => ?_) (fun c4 => ?_)
      · replace h := Eq.mp (if_pos c4) h
        exact B38 _ _ hJ2 _ h
      · replace h := Eq.mp (if_neg c4) h
        refine sr_aload_n C 0 rfl rfl d_M_goneSince_22 ?_
        refine sr_getR C sm_F7 2 q_582 sm_l61 (r := 64) rfl (by decide) d_M_goneSince_23 ?_
        refine sr_bipush C (v := 51) d_M_goneSince_26 (by decide) ?_
        refine sr_iconst C (v := 5) d_M_goneSince_28 (by decide) ?_
        refine sr_iload_n C 1 rfl rfl d_M_goneSince_29 ?_
        refine sr_imul C d_M_goneSince_30 ?_
        refine sr_iadd C d_M_goneSince_31 ?_
        refine sr_iconst C (v := 2) d_M_goneSince_32 (by decide) ?_
        refine sr_iadd C d_M_goneSince_33 ?_
        obtain ⟨g5, h⟩ := h
        refine sr_iald C sm_l64 g5 d_M_goneSince_34 ?_
        refine sr_if_ne C (tgt := 44) d_M_goneSince_35 (by decide) (fun c6 => ?_) (fun c6 => ?_)
        · replace h := Eq.mp (if_neg c6) h
          refine sr_iload_n C 1 rfl rfl d_M_goneSince_44 ?_
          exact hR _ _ _ _ d_M_goneSince_45 rfl h
        · replace h := Eq.mp (if_pos c6) h
          exact B38 _ _ hJ2 _ h
  refine sr_iconst C (v := 0) d_M_goneSince_0 (by decide) ?_
  refine sr_istore_n C rfl (by decide) d_M_goneSince_1 ?_
  refine sr_mask C [1, 0] rfl ?_
  exact B2 _ _ h
theorem d_M_first_0 : decode prog_10_method_55_code 0 = .ok (.iload_n 1, 1) := by decide +kernel
theorem d_M_first_1 : decode prog_10_method_55_code 1 = .ok (.iconst 0, 1) := by decide +kernel
theorem d_M_first_2 : decode prog_10_method_55_code 2 = .ok (.iconst 1, 1) := by decide +kernel
theorem d_M_first_3 : decode prog_10_method_55_code 3 = .ok (.invokestatic 44, 3) := by decide +kernel
theorem d_M_first_6 : decode prog_10_method_55_code 6 = .ok (.ifCond .ne 10, 3) := by decide +kernel
theorem d_M_first_9 : decode prog_10_method_55_code 9 = .ok (.aload_n 0, 1) := by decide +kernel
theorem d_M_first_10 : decode prog_10_method_55_code 10 = .ok (.ldc 48, 2) := by decide +kernel
theorem d_M_first_12 : decode prog_10_method_55_code 12 = .ok (.invokevirtual 49, 3) := by decide +kernel
theorem d_M_first_15 : decode prog_10_method_55_code 15 = .ok (.ireturn, 1) := by decide +kernel
theorem d_M_first_16 : decode prog_10_method_55_code 16 = .ok (.aload_n 0, 1) := by decide +kernel
theorem d_M_first_17 : decode prog_10_method_55_code 17 = .ok (.aload_n 0, 1) := by decide +kernel
theorem d_M_first_18 : decode prog_10_method_55_code 18 = .ok (.getfield 7, 3) := by decide +kernel
theorem d_M_first_21 : decode prog_10_method_55_code 21 = .ok (.aload_n 0, 1) := by decide +kernel
theorem d_M_first_22 : decode prog_10_method_55_code 22 = .ok (.getfield 16, 3) := by decide +kernel
theorem d_M_first_25 : decode prog_10_method_55_code 25 = .ok (.invokevirtual 161, 3) := by decide +kernel
theorem d_M_first_28 : decode prog_10_method_55_code 28 = .ok (.iconst 0, 1) := by decide +kernel
theorem d_M_first_29 : decode prog_10_method_55_code 29 = .ok (.istore_n 2, 1) := by decide +kernel
theorem d_M_first_30 : decode prog_10_method_55_code 30 = .ok (.iload_n 2, 1) := by decide +kernel
theorem d_M_first_31 : decode prog_10_method_55_code 31 = .ok (.bipush 60, 2) := by decide +kernel
theorem d_M_first_33 : decode prog_10_method_55_code 33 = .ok (.if_icmp .gt 27, 3) := by decide +kernel
theorem d_M_first_36 : decode prog_10_method_55_code 36 = .ok (.aload_n 0, 1) := by decide +kernel
theorem d_M_first_37 : decode prog_10_method_55_code 37 = .ok (.invokevirtual 193, 3) := by decide +kernel
theorem d_M_first_40 : decode prog_10_method_55_code 40 = .ok (.aload_n 0, 1) := by decide +kernel
theorem d_M_first_41 : decode prog_10_method_55_code 41 = .ok (.getfield 7, 3) := by decide +kernel
theorem d_M_first_44 : decode prog_10_method_55_code 44 = .ok (.bipush 7, 2) := by decide +kernel
theorem d_M_first_46 : decode prog_10_method_55_code 46 = .ok (.iaload, 1) := by decide +kernel
theorem d_M_first_47 : decode prog_10_method_55_code 47 = .ok (.if_icmp .ne 13, 3) := by decide +kernel
theorem d_M_first_50 : decode prog_10_method_55_code 50 = .ok (.aload_n 0, 1) := by decide +kernel
theorem d_M_first_51 : decode prog_10_method_55_code 51 = .ok (.invokevirtual 175, 3) := by decide +kernel
theorem d_M_first_54 : decode prog_10_method_55_code 54 = .ok (.iinc 2 1, 3) := by decide +kernel
theorem d_M_first_57 : decode prog_10_method_55_code 57 = .ok (.goto (-27), 3) := by decide +kernel
theorem d_M_first_60 : decode prog_10_method_55_code 60 = .ok (.aload_n 0, 1) := by decide +kernel
theorem d_M_first_61 : decode prog_10_method_55_code 61 = .ok (.invokevirtual 193, 3) := by decide +kernel
theorem d_M_first_64 : decode prog_10_method_55_code 64 = .ok (.istore_n 3, 1) := by decide +kernel
theorem d_M_first_65 : decode prog_10_method_55_code 65 = .ok (.aload_n 0, 1) := by decide +kernel
theorem d_M_first_66 : decode prog_10_method_55_code 66 = .ok (.aload_n 0, 1) := by decide +kernel
theorem d_M_first_67 : decode prog_10_method_55_code 67 = .ok (.getfield 16, 3) := by decide +kernel
theorem d_M_first_70 : decode prog_10_method_55_code 70 = .ok (.aload_n 0, 1) := by decide +kernel
theorem d_M_first_71 : decode prog_10_method_55_code 71 = .ok (.getfield 7, 3) := by decide +kernel
theorem d_M_first_74 : decode prog_10_method_55_code 74 = .ok (.invokevirtual 161, 3) := by decide +kernel
theorem d_M_first_77 : decode prog_10_method_55_code 77 = .ok (.iload_n 2, 1) := by decide +kernel
theorem d_M_first_78 : decode prog_10_method_55_code 78 = .ok (.bipush 60, 2) := by decide +kernel
theorem d_M_first_80 : decode prog_10_method_55_code 80 = .ok (.if_icmp .le 10, 3) := by decide +kernel
theorem d_M_first_83 : decode prog_10_method_55_code 83 = .ok (.aload_n 0, 1) := by decide +kernel
theorem d_M_first_84 : decode prog_10_method_55_code 84 = .ok (.ldc 196, 2) := by decide +kernel
theorem d_M_first_86 : decode prog_10_method_55_code 86 = .ok (.invokevirtual 49, 3) := by decide +kernel
theorem d_M_first_89 : decode prog_10_method_55_code 89 = .ok (.ireturn, 1) := by decide +kernel
theorem d_M_first_90 : decode prog_10_method_55_code 90 = .ok (.iload_n 1, 1) := by decide +kernel
theorem d_M_first_91 : decode prog_10_method_55_code 91 = .ok (.ifCond .ne 7, 3) := by decide +kernel
theorem d_M_first_94 : decode prog_10_method_55_code 94 = .ok (.iload_n 2, 1) := by decide +kernel
theorem d_M_first_95 : decode prog_10_method_55_code 95 = .ok (.goto 4, 3) := by decide +kernel
theorem d_M_first_98 : decode prog_10_method_55_code 98 = .ok (.iload_n 3, 1) := by decide +kernel
theorem d_M_first_99 : decode prog_10_method_55_code 99 = .ok (.ireturn, 1) := by decide +kernel
def w_M_first_60 (K : Int32 → sm_Mem → Prop) (p0 : Int32) (x2 : Int32) (μ : sm_Mem) : Prop := w_M_goneSince (fun r7 μ6 => w_M_moveAll (fun μ8 => if x2 ≤ 60 then (if p0 = 0 then K x2 μ8 else K r7 μ8) else w_M_errs (fun r12 μ11 => K r12 μ11) (-1000000002) μ8) 64 62 μ6) μ
def w_M_first_30 (K : Int32 → sm_Mem → Prop) (p0 : Int32) (x2 : Int32) (μ : sm_Mem) : Prop := sm_lp1 (fun J30 x2 μ => if 60 < x2 then w_M_first_60 K p0 x2 μ else w_M_goneSince (fun r14 μ13 => if r14 = (μ13 62 7) then w_M_oneHour (fun μ16 => J30 (x2 + 1) μ16) μ13 else w_M_first_60 K p0 x2 μ13) μ) x2 μ
def w_M_first (K : Int32 → sm_Mem → Prop) (p0 : Int32) (μ : sm_Mem) : Prop := w_M_in (fun r2 μ1 => if r2 = 0 then w_M_errs (fun r18 μ17 => K r18 μ17) (-1000000001) μ1 else w_M_moveAll (fun μ4 => w_M_first_30 K p0 0 μ4) 62 64 μ1) p0 0 1 μ
set_option maxHeartbeats 4000000 in
set_option maxRecDepth 100000 in
theorem P_M_first (l : Launch) {K : Int32 → sm_Mem → Prop} {p0 : Int32} {μ : sm_Mem} (h : w_M_first K p0 μ) : sm_MI l ⟨"SnowMoneyModel", "first", "(I)I"⟩ prog_10_method_55_code 4 (some .int) { frames := 60, cells := 0, slots := 0, locals := 2259 } [sm_R 61, sm_I p0] μ K := by
  refine sm_ofI (by decide +kernel) (fun _ => Nat.le_of_ble_eq_true rfl) ?_
  intro p e s m args below meth c A Q G C hR
  have B60 : ∀ (x2 : Int32) (μ : sm_Mem), w_M_first_60 K p0 x2 μ → sm_W p l e { frames := 60, cells := 0, slots := 0, locals := 2259 } s m args below meth c A Q G 4 0 0 60 [] [(0, sm_R 61), (1, sm_I p0), (2, sm_I x2)] μ := by
    intro x2 μ h
    refine sr_aload_n C 0 rfl rfl d_M_first_60 ?_
    refine sr_callVI C [] (P_M_goneSince l h) ok_130 sm_l61 rfl rfl rfl rfl ⟨Nat.le_of_ble_eq_true rfl, Nat.le_of_ble_eq_true rfl⟩ (Nat.le_of_ble_eq_true rfl) ⟨Nat.zero_le _, Nat.zero_le _⟩ d_M_first_61 (fun r7 μ6 h => ?_)
    refine sr_istore_n C rfl (by decide) d_M_first_64 ?_
    refine sr_aload_n C 1 rfl rfl d_M_first_65 ?_
    refine sr_aload_n C 1 rfl rfl d_M_first_66 ?_
    refine sr_getR C sm_F7 2 q_582 sm_l61 (r := 64) rfl (by decide) d_M_first_67 ?_
    refine sr_aload_n C 1 rfl rfl d_M_first_70 ?_
    refine sr_getR C sm_F7 0 q_435 sm_l61 (r := 62) rfl (by decide) d_M_first_71 ?_
    refine sr_callVV C [sm_R _, sm_R _] (P_M_moveAll l h) ok_123 sm_l61 rfl rfl rfl rfl ⟨Nat.le_of_ble_eq_true rfl, Nat.le_of_ble_eq_true rfl⟩ (Nat.le_of_ble_eq_true rfl) ⟨Nat.zero_le _, Nat.zero_le _⟩ d_M_first_74 (fun μ8 h => ?_)
    refine sr_iload_n C 3 rfl rfl d_M_first_77 ?_
    refine sr_bipush C (v := 60) d_M_first_78 (by decide) ?_
    refine sr_icmp_le C (tgt := 90) d_M_first_80 (by decide) (fun c9 => ?_) (fun c9 => ?_)
    · replace h := Eq.mp (if_pos c9) h
      refine sr_iload_n C 2 rfl rfl d_M_first_90 ?_
      refine sr_if_ne C (tgt := 98) d_M_first_91 (by decide) (fun c10 => ?_) (fun c10 => ?_)
      · replace h := Eq.mp (if_neg c10) h
        refine sr_iload_n C 0 rfl rfl d_M_first_98 ?_
        exact hR _ _ _ _ d_M_first_99 rfl h
      · replace h := Eq.mp (if_pos c10) h
        refine sr_iload_n C 3 rfl rfl d_M_first_94 ?_
        refine sr_goto C (tgt := 99) (by decide) d_M_first_95 ?_
        exact hR _ _ _ _ d_M_first_99 rfl h
    · replace h := Eq.mp (if_neg c9) h
      refine sr_aload_n C 1 rfl rfl d_M_first_83 ?_
      refine sr_ldc C q_587 d_M_first_84 ?_
      refine sr_callVI C [sm_I _] (P_M_errs l h) ok_97 sm_l61 rfl rfl rfl rfl ⟨Nat.le_of_ble_eq_true rfl, Nat.le_of_ble_eq_true rfl⟩ (Nat.le_of_ble_eq_true rfl) ⟨Nat.zero_le _, Nat.zero_le _⟩ d_M_first_86 (fun r12 μ11 h => ?_)
      exact hR _ _ _ _ d_M_first_89 rfl h
  have B30 : ∀ (x2 : Int32) (μ : sm_Mem), w_M_first_30 K p0 x2 μ → sm_W p l e { frames := 60, cells := 0, slots := 0, locals := 2259 } s m args below meth c A Q G 4 0 0 30 [] [(0, sm_R 61), (1, sm_I p0), (2, sm_I x2)] μ := by
    intro x2 μ h
    refine sm_lp1_sound (P := fun x2 μ => sm_W p l e { frames := 60, cells := 0, slots := 0, locals := 2259 } s m args below meth c A Q G 4 0 0 30 [] [(0, sm_R 61), (1, sm_I p0), (2, sm_I x2)] μ) (fun J30 x2 μ hJ30 h => ?_) h
    refine sr_iload_n C 2 rfl rfl d_M_first_30 ?_
    refine sr_bipush C (v := 60) d_M_first_31 (by decide) ?_
    refine sr_icmp_gt C (tgt := 60) d_M_first_33 (by decide) (fun c5 => ?_) (fun c5 => ?_)
    · replace h := Eq.mp (if_pos c5) h
      exact B60 _ _ h
    · replace h := Eq.mp (if_neg c5) h
      refine sr_aload_n C 0 rfl rfl d_M_first_36 ?_
      refine sr_callVI C [] (P_M_goneSince l h) ok_130 sm_l61 rfl rfl rfl rfl ⟨Nat.le_of_ble_eq_true rfl, Nat.le_of_ble_eq_true rfl⟩ (Nat.le_of_ble_eq_true rfl) ⟨Nat.zero_le _, Nat.zero_le _⟩ d_M_first_37 (fun r14 μ13 h => ?_)
      refine sr_aload_n C 0 rfl rfl d_M_first_40 ?_
      refine sr_getR C sm_F7 0 q_435 sm_l61 (r := 62) rfl (by decide) d_M_first_41 ?_
      refine sr_bipush C (v := 7) d_M_first_44 (by decide) ?_
      refine sr_ialdJ C sm_l62 (j := 7) (sm_vin (by decide)) (by decide) d_M_first_46 ?_
      refine sr_icmp_ne C (tgt := 60) d_M_first_47 (by decide) (fun c15 => ?_) (fun c15 => ?_)
      · replace h := Eq.mp (if_neg c15) h
        exact B60 _ _ h
      · replace h := Eq.mp (if_pos c15) h
        refine sr_aload_n C 0 rfl rfl d_M_first_50 ?_
        refine sr_callVV C [] (P_M_oneHour l h) ok_126 sm_l61 rfl rfl rfl rfl ⟨Nat.le_of_ble_eq_true rfl, Nat.le_of_ble_eq_true rfl⟩ (Nat.le_of_ble_eq_true rfl) ⟨Nat.zero_le _, Nat.zero_le _⟩ d_M_first_51 (fun μ16 h => ?_)
        refine sr_iinc C 2 rfl (by decide) d_M_first_54 rfl ?_
        refine sr_goto C (tgt := 30) (by decide) d_M_first_57 ?_
        refine sr_mask C [1, 2, 0] rfl ?_
        exact hJ30 _ _ h
  refine sr_iload_n C 1 rfl rfl d_M_first_0 ?_
  refine sr_iconst C (v := 0) d_M_first_1 (by decide) ?_
  refine sr_iconst C (v := 1) d_M_first_2 (by decide) ?_
  refine sr_callSI C [sm_I _, sm_I _, sm_I _] (P_M_in l h) ok_96 rfl rfl rfl ⟨Nat.le_of_ble_eq_true rfl, Nat.le_of_ble_eq_true rfl⟩ (Nat.le_of_ble_eq_true rfl) ⟨Nat.zero_le _, Nat.zero_le _⟩ d_M_first_3 (fun r2 μ1 h => ?_)
  refine sr_if_ne C (tgt := 16) d_M_first_6 (by decide) (fun c3 => ?_) (fun c3 => ?_)
  · replace h := Eq.mp (if_neg c3) h
    refine sr_aload_n C 0 rfl rfl d_M_first_16 ?_
    refine sr_aload_n C 0 rfl rfl d_M_first_17 ?_
    refine sr_getR C sm_F7 0 q_435 sm_l61 (r := 62) rfl (by decide) d_M_first_18 ?_
    refine sr_aload_n C 0 rfl rfl d_M_first_21 ?_
    refine sr_getR C sm_F7 2 q_582 sm_l61 (r := 64) rfl (by decide) d_M_first_22 ?_
    refine sr_callVV C [sm_R _, sm_R _] (P_M_moveAll l h) ok_123 sm_l61 rfl rfl rfl rfl ⟨Nat.le_of_ble_eq_true rfl, Nat.le_of_ble_eq_true rfl⟩ (Nat.le_of_ble_eq_true rfl) ⟨Nat.zero_le _, Nat.zero_le _⟩ d_M_first_25 (fun μ4 h => ?_)
    refine sr_iconst C (v := 0) d_M_first_28 (by decide) ?_
    refine sr_istore_n C rfl (by decide) d_M_first_29 ?_
    refine sr_mask C [1, 2, 0] rfl ?_
    exact B30 _ _ h
  · replace h := Eq.mp (if_pos c3) h
    refine sr_aload_n C 0 rfl rfl d_M_first_9 ?_
    refine sr_ldc C q_441 d_M_first_10 ?_
    refine sr_callVI C [sm_I _] (P_M_errs l h) ok_97 sm_l61 rfl rfl rfl rfl ⟨Nat.le_of_ble_eq_true rfl, Nat.le_of_ble_eq_true rfl⟩ (Nat.le_of_ble_eq_true rfl) ⟨Nat.zero_le _, Nat.zero_le _⟩ d_M_first_12 (fun r18 μ17 h => ?_)
    exact hR _ _ _ _ d_M_first_15 rfl h
theorem d_M_worthOf_0 : decode prog_10_method_56_code 0 = .ok (.iconst 0, 1) := by decide +kernel
theorem d_M_worthOf_1 : decode prog_10_method_56_code 1 = .ok (.istore_n 2, 1) := by decide +kernel
theorem d_M_worthOf_2 : decode prog_10_method_56_code 2 = .ok (.iconst 0, 1) := by decide +kernel
theorem d_M_worthOf_3 : decode prog_10_method_56_code 3 = .ok (.istore_n 3, 1) := by decide +kernel
theorem d_M_worthOf_4 : decode prog_10_method_56_code 4 = .ok (.iload_n 3, 1) := by decide +kernel
theorem d_M_worthOf_5 : decode prog_10_method_56_code 5 = .ok (.aload_n 0, 1) := by decide +kernel
theorem d_M_worthOf_6 : decode prog_10_method_56_code 6 = .ok (.getfield 7, 3) := by decide +kernel
theorem d_M_worthOf_9 : decode prog_10_method_56_code 9 = .ok (.bipush 7, 2) := by decide +kernel
theorem d_M_worthOf_11 : decode prog_10_method_56_code 11 = .ok (.iaload, 1) := by decide +kernel
theorem d_M_worthOf_12 : decode prog_10_method_56_code 12 = .ok (.if_icmp .ge 31, 3) := by decide +kernel
theorem d_M_worthOf_15 : decode prog_10_method_56_code 15 = .ok (.iload_n 2, 1) := by decide +kernel
theorem d_M_worthOf_16 : decode prog_10_method_56_code 16 = .ok (.aload_n 0, 1) := by decide +kernel
theorem d_M_worthOf_17 : decode prog_10_method_56_code 17 = .ok (.iload_n 3, 1) := by decide +kernel
theorem d_M_worthOf_18 : decode prog_10_method_56_code 18 = .ok (.iconst 4, 1) := by decide +kernel
theorem d_M_worthOf_19 : decode prog_10_method_56_code 19 = .ok (.invokevirtual 62, 3) := by decide +kernel
theorem d_M_worthOf_22 : decode prog_10_method_56_code 22 = .ok (.iload_n 1, 1) := by decide +kernel
theorem d_M_worthOf_23 : decode prog_10_method_56_code 23 = .ok (.if_icmp .ne 11, 3) := by decide +kernel
theorem d_M_worthOf_26 : decode prog_10_method_56_code 26 = .ok (.aload_n 0, 1) := by decide +kernel
theorem d_M_worthOf_27 : decode prog_10_method_56_code 27 = .ok (.iload_n 3, 1) := by decide +kernel
theorem d_M_worthOf_28 : decode prog_10_method_56_code 28 = .ok (.invokevirtual 81, 3) := by decide +kernel
theorem d_M_worthOf_31 : decode prog_10_method_56_code 31 = .ok (.goto 4, 3) := by decide +kernel
theorem d_M_worthOf_34 : decode prog_10_method_56_code 34 = .ok (.iconst 0, 1) := by decide +kernel
theorem d_M_worthOf_35 : decode prog_10_method_56_code 35 = .ok (.iadd, 1) := by decide +kernel
theorem d_M_worthOf_36 : decode prog_10_method_56_code 36 = .ok (.istore_n 2, 1) := by decide +kernel
theorem d_M_worthOf_37 : decode prog_10_method_56_code 37 = .ok (.iinc 3 1, 3) := by decide +kernel
theorem d_M_worthOf_40 : decode prog_10_method_56_code 40 = .ok (.goto (-36), 3) := by decide +kernel
theorem d_M_worthOf_43 : decode prog_10_method_56_code 43 = .ok (.iload_n 2, 1) := by decide +kernel
theorem d_M_worthOf_44 : decode prog_10_method_56_code 44 = .ok (.ireturn, 1) := by decide +kernel
def w_M_worthOf_35 (K : Int32 → sm_Mem → Prop) (J4 : Int32 → Int32 → sm_Mem → Prop) (p0 : Int32) (x3 : Int32) (s0 : Int32) (s1 : Int32) (μ : sm_Mem) : Prop := ∀ v5 : Int32, v5 = (s1 + s0) → J4 v5 (x3 + 1) μ
def w_M_worthOf_4 (K : Int32 → sm_Mem → Prop) (p0 : Int32) (x2 : Int32) (x3 : Int32) (μ : sm_Mem) : Prop := sm_lp2 (fun J4 x2 x3 μ => if (μ 62 7) ≤ x3 then K x2 μ else w_M_its (fun r3 μ2 => if r3 = p0 then w_M_pays (fun r7 μ6 => w_M_worthOf_35 K J4 p0 x3 r7 x2 μ6) x3 μ2 else w_M_worthOf_35 K J4 p0 x3 0 x2 μ2) x3 4 μ) x2 x3 μ
def w_M_worthOf (K : Int32 → sm_Mem → Prop) (p0 : Int32) (μ : sm_Mem) : Prop := w_M_worthOf_4 K p0 0 0 μ
set_option maxHeartbeats 4000000 in
set_option maxRecDepth 100000 in
theorem P_M_worthOf (l : Launch) {K : Int32 → sm_Mem → Prop} {p0 : Int32} {μ : sm_Mem} (h : w_M_worthOf K p0 μ) : sm_MI l ⟨"SnowMoneyModel", "worthOf", "(I)I"⟩ prog_10_method_56_code 4 (some .int) { frames := 58, cells := 0, slots := 0, locals := 2215 } [sm_R 61, sm_I p0] μ K := by
  refine sm_ofI (by decide +kernel) (fun _ => Nat.le_of_ble_eq_true rfl) ?_
  intro p e s m args below meth c A Q G C hR
  have B35 : ∀ (x3 : Int32) (s0 : Int32) (s1 : Int32) (J4 : Int32 → Int32 → sm_Mem → Prop) (hJ4 : ∀ (x2 : Int32) (x3 : Int32) (μ : sm_Mem), J4 x2 x3 μ → sm_W p l e { frames := 58, cells := 0, slots := 0, locals := 2215 } s m args below meth c A Q G 4 0 0 4 [] [(0, sm_R 61), (1, sm_I p0), (2, sm_I x2), (3, sm_I x3)] μ) (μ : sm_Mem), w_M_worthOf_35 K J4 p0 x3 s0 s1 μ → sm_W p l e { frames := 58, cells := 0, slots := 0, locals := 2215 } s m args below meth c A Q G 4 0 0 35 [sm_I s0, sm_I s1] [(0, sm_R 61), (1, sm_I p0), (3, sm_I x3)] μ := by
    intro x3 s0 s1 J4 hJ4 μ h
    refine sr_iadd C d_M_worthOf_35 ?_
    replace h := h _ rfl
    refine sr_istore_n C rfl (by decide) d_M_worthOf_36 ?_
    refine sr_iinc C 3 rfl (by decide) d_M_worthOf_37 rfl ?_
    refine sr_goto C (tgt := 4) (by decide) d_M_worthOf_40 ?_
    refine sr_mask C [2, 3, 1, 0] rfl ?_
    exact hJ4 _ _ _ h
  have B4 : ∀ (x2 : Int32) (x3 : Int32) (μ : sm_Mem), w_M_worthOf_4 K p0 x2 x3 μ → sm_W p l e { frames := 58, cells := 0, slots := 0, locals := 2215 } s m args below meth c A Q G 4 0 0 4 [] [(0, sm_R 61), (1, sm_I p0), (2, sm_I x2), (3, sm_I x3)] μ := by
    intro x2 x3 μ h
    refine sm_lp2_sound (P := fun x2 x3 μ => sm_W p l e { frames := 58, cells := 0, slots := 0, locals := 2215 } s m args below meth c A Q G 4 0 0 4 [] [(0, sm_R 61), (1, sm_I p0), (2, sm_I x2), (3, sm_I x3)] μ) (fun J4 x2 x3 μ hJ4 h => ?_) h
    refine sr_iload_n C 3 rfl rfl d_M_worthOf_4 ?_
    refine sr_aload_n C 0 rfl rfl d_M_worthOf_5 ?_
    refine sr_getR C sm_F7 0 q_435 sm_l61 (r := 62) rfl (by decide) d_M_worthOf_6 ?_
    refine sr_bipush C (v := 7) d_M_worthOf_9 (by decide) ?_
    refine sr_ialdJ C sm_l62 (j := 7) (sm_vin (by decide)) (by decide) d_M_worthOf_11 ?_
    refine sr_icmp_ge C (tgt := 43) d_M_worthOf_12 (by decide) (fun c1 => ?_) (fun c1 => ?_)
    · replace h := Eq.mp (if_pos c1) h
      refine sr_iload_n C 2 rfl rfl d_M_worthOf_43 ?_
      exact hR _ _ _ _ d_M_worthOf_44 rfl h
    · replace h := Eq.mp (if_neg c1) h
      refine sr_iload_n C 2 rfl rfl d_M_worthOf_15 ?_
      refine sr_aload_n C 0 rfl rfl d_M_worthOf_16 ?_
      refine sr_iload_n C 3 rfl rfl d_M_worthOf_17 ?_
      refine sr_iconst C (v := 4) d_M_worthOf_18 (by decide) ?_
      refine sr_callVI C [sm_I _, sm_I _] (P_M_its l h) ok_101 sm_l61 rfl rfl rfl rfl ⟨Nat.le_of_ble_eq_true rfl, Nat.le_of_ble_eq_true rfl⟩ (Nat.le_of_ble_eq_true rfl) ⟨Nat.zero_le _, Nat.zero_le _⟩ d_M_worthOf_19 (fun r3 μ2 h => ?_)
      refine sr_iload_n C 1 rfl rfl d_M_worthOf_22 ?_
      refine sr_icmp_ne C (tgt := 34) d_M_worthOf_23 (by decide) (fun c4 => ?_) (fun c4 => ?_)
      · replace h := Eq.mp (if_neg c4) h
        refine sr_iconst C (v := 0) d_M_worthOf_34 (by decide) ?_
        refine sr_mask C [0, 1, 3] rfl ?_
        exact B35 _ _ _ _ hJ4 _ h
      · replace h := Eq.mp (if_pos c4) h
        refine sr_aload_n C 0 rfl rfl d_M_worthOf_26 ?_
        refine sr_iload_n C 3 rfl rfl d_M_worthOf_27 ?_
        refine sr_callVI C [sm_I _] (P_M_pays l h) ok_105 sm_l61 rfl rfl rfl rfl ⟨Nat.le_of_ble_eq_true rfl, Nat.le_of_ble_eq_true rfl⟩ (Nat.le_of_ble_eq_true rfl) ⟨Nat.zero_le _, Nat.zero_le _⟩ d_M_worthOf_28 (fun r7 μ6 h => ?_)
        refine sr_goto C (tgt := 35) (by decide) d_M_worthOf_31 ?_
        refine sr_mask C [0, 1, 3] rfl ?_
        exact B35 _ _ _ _ hJ4 _ h
  refine sr_iconst C (v := 0) d_M_worthOf_0 (by decide) ?_
  refine sr_istore_n C rfl (by decide) d_M_worthOf_1 ?_
  refine sr_iconst C (v := 0) d_M_worthOf_2 (by decide) ?_
  refine sr_istore_n C rfl (by decide) d_M_worthOf_3 ?_
  refine sr_mask C [2, 3, 1, 0] rfl ?_
  exact B4 _ _ _ h
theorem d_M_worth_0 : decode prog_10_method_57_code 0 = .ok (.iload_n 1, 1) := by decide +kernel
theorem d_M_worth_1 : decode prog_10_method_57_code 1 = .ok (.invokestatic 68, 3) := by decide +kernel
theorem d_M_worth_4 : decode prog_10_method_57_code 4 = .ok (.ifCond .eq 11, 3) := by decide +kernel
theorem d_M_worth_7 : decode prog_10_method_57_code 7 = .ok (.aload_n 0, 1) := by decide +kernel
theorem d_M_worth_8 : decode prog_10_method_57_code 8 = .ok (.iload_n 1, 1) := by decide +kernel
theorem d_M_worth_9 : decode prog_10_method_57_code 9 = .ok (.invokevirtual 197, 3) := by decide +kernel
theorem d_M_worth_12 : decode prog_10_method_57_code 12 = .ok (.goto 9, 3) := by decide +kernel
theorem d_M_worth_15 : decode prog_10_method_57_code 15 = .ok (.aload_n 0, 1) := by decide +kernel
theorem d_M_worth_16 : decode prog_10_method_57_code 16 = .ok (.ldc 48, 2) := by decide +kernel
theorem d_M_worth_18 : decode prog_10_method_57_code 18 = .ok (.invokevirtual 49, 3) := by decide +kernel
theorem d_M_worth_21 : decode prog_10_method_57_code 21 = .ok (.ireturn, 1) := by decide +kernel
def w_M_worth (K : Int32 → sm_Mem → Prop) (p0 : Int32) (μ : sm_Mem) : Prop := w_M_isOwner (fun r2 μ1 => if r2 = 0 then w_M_errs (fun r5 μ4 => K r5 μ4) (-1000000001) μ1 else w_M_worthOf (fun r7 μ6 => K r7 μ6) p0 μ1) p0 μ
set_option maxHeartbeats 4000000 in
set_option maxRecDepth 100000 in
theorem P_M_worth (l : Launch) {K : Int32 → sm_Mem → Prop} {p0 : Int32} {μ : sm_Mem} (h : w_M_worth K p0 μ) : sm_MI l ⟨"SnowMoneyModel", "worth", "(I)I"⟩ prog_10_method_57_code 2 (some .int) { frames := 59, cells := 0, slots := 0, locals := 2238 } [sm_R 61, sm_I p0] μ K := by
  refine sm_ofI (by decide +kernel) (fun _ => Nat.le_of_ble_eq_true rfl) ?_
  intro p e s m args below meth c A Q G C hR
  refine sr_iload_n C 1 rfl rfl d_M_worth_0 ?_
  refine sr_callSI C [sm_I _] (P_M_isOwner l h) ok_102 rfl rfl rfl ⟨Nat.le_of_ble_eq_true rfl, Nat.le_of_ble_eq_true rfl⟩ (Nat.le_of_ble_eq_true rfl) ⟨Nat.zero_le _, Nat.zero_le _⟩ d_M_worth_1 (fun r2 μ1 h => ?_)
  refine sr_if_eq C (tgt := 15) d_M_worth_4 (by decide) (fun c3 => ?_) (fun c3 => ?_)
  · replace h := Eq.mp (if_pos c3) h
    refine sr_aload_n C 0 rfl rfl d_M_worth_15 ?_
    refine sr_ldc C q_441 d_M_worth_16 ?_
    refine sr_callVI C [sm_I _] (P_M_errs l h) ok_97 sm_l61 rfl rfl rfl rfl ⟨Nat.le_of_ble_eq_true rfl, Nat.le_of_ble_eq_true rfl⟩ (Nat.le_of_ble_eq_true rfl) ⟨Nat.zero_le _, Nat.zero_le _⟩ d_M_worth_18 (fun r5 μ4 h => ?_)
    exact hR _ _ _ _ d_M_worth_21 rfl h
  · replace h := Eq.mp (if_neg c3) h
    refine sr_aload_n C 0 rfl rfl d_M_worth_7 ?_
    refine sr_iload_n C 1 rfl rfl d_M_worth_8 ?_
    refine sr_callVI C [sm_I _] (P_M_worthOf l h) ok_131 sm_l61 rfl rfl rfl rfl ⟨Nat.le_of_ble_eq_true rfl, Nat.le_of_ble_eq_true rfl⟩ (Nat.le_of_ble_eq_true rfl) ⟨Nat.zero_le _, Nat.zero_le _⟩ d_M_worth_9 (fun r7 μ6 h => ?_)
    refine sr_goto C (tgt := 21) (by decide) d_M_worth_12 ?_
    exact hR _ _ _ _ d_M_worth_21 rfl h
theorem d_M_keep_0 : decode prog_10_method_58_code 0 = .ok (.aload_n 0, 1) := by decide +kernel
theorem d_M_keep_1 : decode prog_10_method_58_code 1 = .ok (.iload_n 1, 1) := by decide +kernel
theorem d_M_keep_2 : decode prog_10_method_58_code 2 = .ok (.invokevirtual 75, 3) := by decide +kernel
theorem d_M_keep_5 : decode prog_10_method_58_code 5 = .ok (.ifCond .eq 22, 3) := by decide +kernel
theorem d_M_keep_8 : decode prog_10_method_58_code 8 = .ok (.iload_n 2, 1) := by decide +kernel
theorem d_M_keep_9 : decode prog_10_method_58_code 9 = .ok (.iconst 0, 1) := by decide +kernel
theorem d_M_keep_10 : decode prog_10_method_58_code 10 = .ok (.bipush 60, 2) := by decide +kernel
theorem d_M_keep_12 : decode prog_10_method_58_code 12 = .ok (.invokestatic 44, 3) := by decide +kernel
theorem d_M_keep_15 : decode prog_10_method_58_code 15 = .ok (.ifCond .eq 12, 3) := by decide +kernel
theorem d_M_keep_18 : decode prog_10_method_58_code 18 = .ok (.iload_n 3, 1) := by decide +kernel
theorem d_M_keep_19 : decode prog_10_method_58_code 19 = .ok (.iconst 0, 1) := by decide +kernel
theorem d_M_keep_20 : decode prog_10_method_58_code 20 = .ok (.iconst 1, 1) := by decide +kernel
theorem d_M_keep_21 : decode prog_10_method_58_code 21 = .ok (.invokestatic 44, 3) := by decide +kernel
theorem d_M_keep_24 : decode prog_10_method_58_code 24 = .ok (.ifCond .ne 10, 3) := by decide +kernel
theorem d_M_keep_27 : decode prog_10_method_58_code 27 = .ok (.aload_n 0, 1) := by decide +kernel
theorem d_M_keep_28 : decode prog_10_method_58_code 28 = .ok (.ldc 48, 2) := by decide +kernel
theorem d_M_keep_30 : decode prog_10_method_58_code 30 = .ok (.invokevirtual 49, 3) := by decide +kernel
theorem d_M_keep_33 : decode prog_10_method_58_code 33 = .ok (.ireturn, 1) := by decide +kernel
theorem d_M_keep_34 : decode prog_10_method_58_code 34 = .ok (.iconst 0, 1) := by decide +kernel
theorem d_M_keep_35 : decode prog_10_method_58_code 35 = .ok (.istore 4, 2) := by decide +kernel
theorem d_M_keep_37 : decode prog_10_method_58_code 37 = .ok (.iconst (-1), 1) := by decide +kernel
theorem d_M_keep_38 : decode prog_10_method_58_code 38 = .ok (.istore 5, 2) := by decide +kernel
theorem d_M_keep_40 : decode prog_10_method_58_code 40 = .ok (.aload_n 0, 1) := by decide +kernel
theorem d_M_keep_41 : decode prog_10_method_58_code 41 = .ok (.aload_n 0, 1) := by decide +kernel
theorem d_M_keep_42 : decode prog_10_method_58_code 42 = .ok (.getfield 7, 3) := by decide +kernel
theorem d_M_keep_45 : decode prog_10_method_58_code 45 = .ok (.aload_n 0, 1) := by decide +kernel
theorem d_M_keep_46 : decode prog_10_method_58_code 46 = .ok (.getfield 16, 3) := by decide +kernel
theorem d_M_keep_49 : decode prog_10_method_58_code 49 = .ok (.invokevirtual 161, 3) := by decide +kernel
theorem d_M_keep_52 : decode prog_10_method_58_code 52 = .ok (.iconst 0, 1) := by decide +kernel
theorem d_M_keep_53 : decode prog_10_method_58_code 53 = .ok (.istore 6, 2) := by decide +kernel
theorem d_M_keep_55 : decode prog_10_method_58_code 55 = .ok (.iload 6, 2) := by decide +kernel
theorem d_M_keep_57 : decode prog_10_method_58_code 57 = .ok (.aload_n 0, 1) := by decide +kernel
theorem d_M_keep_58 : decode prog_10_method_58_code 58 = .ok (.getfield 16, 3) := by decide +kernel
theorem d_M_keep_61 : decode prog_10_method_58_code 61 = .ok (.iconst 2, 1) := by decide +kernel
theorem d_M_keep_62 : decode prog_10_method_58_code 62 = .ok (.iaload, 1) := by decide +kernel
theorem d_M_keep_63 : decode prog_10_method_58_code 63 = .ok (.if_icmp .ge 74, 3) := by decide +kernel
theorem d_M_keep_66 : decode prog_10_method_58_code 66 = .ok (.aload_n 0, 1) := by decide +kernel
theorem d_M_keep_67 : decode prog_10_method_58_code 67 = .ok (.iload_n 1, 1) := by decide +kernel
theorem d_M_keep_68 : decode prog_10_method_58_code 68 = .ok (.iconst 3, 1) := by decide +kernel
theorem d_M_keep_69 : decode prog_10_method_58_code 69 = .ok (.iload 6, 2) := by decide +kernel
theorem d_M_keep_71 : decode prog_10_method_58_code 71 = .ok (.invokevirtual 71, 3) := by decide +kernel
theorem d_M_keep_74 : decode prog_10_method_58_code 74 = .ok (.aload_n 0, 1) := by decide +kernel
theorem d_M_keep_75 : decode prog_10_method_58_code 75 = .ok (.iload_n 2, 1) := by decide +kernel
theorem d_M_keep_76 : decode prog_10_method_58_code 76 = .ok (.invokevirtual 179, 3) := by decide +kernel
theorem d_M_keep_79 : decode prog_10_method_58_code 79 = .ok (.aload_n 0, 1) := by decide +kernel
theorem d_M_keep_80 : decode prog_10_method_58_code 80 = .ok (.iload_n 1, 1) := by decide +kernel
theorem d_M_keep_81 : decode prog_10_method_58_code 81 = .ok (.iconst 2, 1) := by decide +kernel
theorem d_M_keep_82 : decode prog_10_method_58_code 82 = .ok (.invokevirtual 62, 3) := by decide +kernel
theorem d_M_keep_85 : decode prog_10_method_58_code 85 = .ok (.istore 7, 2) := by decide +kernel
theorem d_M_keep_87 : decode prog_10_method_58_code 87 = .ok (.aload_n 0, 1) := by decide +kernel
theorem d_M_keep_88 : decode prog_10_method_58_code 88 = .ok (.aload_n 0, 1) := by decide +kernel
theorem d_M_keep_89 : decode prog_10_method_58_code 89 = .ok (.getfield 16, 3) := by decide +kernel
theorem d_M_keep_92 : decode prog_10_method_58_code 92 = .ok (.aload_n 0, 1) := by decide +kernel
theorem d_M_keep_93 : decode prog_10_method_58_code 93 = .ok (.getfield 7, 3) := by decide +kernel
theorem d_M_keep_96 : decode prog_10_method_58_code 96 = .ok (.invokevirtual 161, 3) := by decide +kernel
theorem d_M_keep_99 : decode prog_10_method_58_code 99 = .ok (.iload 7, 2) := by decide +kernel
theorem d_M_keep_101 : decode prog_10_method_58_code 101 = .ok (.iload 5, 2) := by decide +kernel
theorem d_M_keep_103 : decode prog_10_method_58_code 103 = .ok (.if_icmp .le 8, 3) := by decide +kernel
theorem d_M_keep_106 : decode prog_10_method_58_code 106 = .ok (.iload 6, 2) := by decide +kernel
theorem d_M_keep_108 : decode prog_10_method_58_code 108 = .ok (.goto 5, 3) := by decide +kernel
theorem d_M_keep_111 : decode prog_10_method_58_code 111 = .ok (.iload 4, 2) := by decide +kernel
theorem d_M_keep_113 : decode prog_10_method_58_code 113 = .ok (.istore 4, 2) := by decide +kernel
theorem d_M_keep_115 : decode prog_10_method_58_code 115 = .ok (.iload 7, 2) := by decide +kernel
theorem d_M_keep_117 : decode prog_10_method_58_code 117 = .ok (.iload 5, 2) := by decide +kernel
theorem d_M_keep_119 : decode prog_10_method_58_code 119 = .ok (.if_icmp .le 8, 3) := by decide +kernel
theorem d_M_keep_122 : decode prog_10_method_58_code 122 = .ok (.iload 7, 2) := by decide +kernel
theorem d_M_keep_124 : decode prog_10_method_58_code 124 = .ok (.goto 5, 3) := by decide +kernel
theorem d_M_keep_127 : decode prog_10_method_58_code 127 = .ok (.iload 5, 2) := by decide +kernel
theorem d_M_keep_129 : decode prog_10_method_58_code 129 = .ok (.istore 5, 2) := by decide +kernel
theorem d_M_keep_131 : decode prog_10_method_58_code 131 = .ok (.iinc 6 1, 3) := by decide +kernel
theorem d_M_keep_134 : decode prog_10_method_58_code 134 = .ok (.goto (-79), 3) := by decide +kernel
theorem d_M_keep_137 : decode prog_10_method_58_code 137 = .ok (.iload_n 3, 1) := by decide +kernel
theorem d_M_keep_138 : decode prog_10_method_58_code 138 = .ok (.ifCond .ne 8, 3) := by decide +kernel
theorem d_M_keep_141 : decode prog_10_method_58_code 141 = .ok (.iload 4, 2) := by decide +kernel
theorem d_M_keep_143 : decode prog_10_method_58_code 143 = .ok (.goto 5, 3) := by decide +kernel
theorem d_M_keep_146 : decode prog_10_method_58_code 146 = .ok (.iload 5, 2) := by decide +kernel
theorem d_M_keep_148 : decode prog_10_method_58_code 148 = .ok (.ireturn, 1) := by decide +kernel
def w_M_keep_27 (K : Int32 → sm_Mem → Prop) (p0 : Int32) (p1 : Int32) (p2 : Int32) (μ : sm_Mem) : Prop := w_M_errs (fun r5 μ4 => K r5 μ4) (-1000000001) μ
def w_M_keep_129 (K : Int32 → sm_Mem → Prop) (J55 : Int32 → Int32 → Int32 → sm_Mem → Prop) (p0 : Int32) (p1 : Int32) (p2 : Int32) (x4 : Int32) (x6 : Int32) (s0 : Int32) (μ : sm_Mem) : Prop := J55 x4 s0 (x6 + 1) μ
def w_M_keep_113 (K : Int32 → sm_Mem → Prop) (J55 : Int32 → Int32 → Int32 → sm_Mem → Prop) (p0 : Int32) (p1 : Int32) (p2 : Int32) (x5 : Int32) (x6 : Int32) (x7 : Int32) (s0 : Int32) (μ : sm_Mem) : Prop := if x7 ≤ x5 then w_M_keep_129 K J55 p0 p1 p2 s0 x6 x5 μ else w_M_keep_129 K J55 p0 p1 p2 s0 x6 x7 μ
def w_M_keep_55 (K : Int32 → sm_Mem → Prop) (p0 : Int32) (p1 : Int32) (p2 : Int32) (x4 : Int32) (x5 : Int32) (x6 : Int32) (μ : sm_Mem) : Prop := sm_lp3 (fun J55 x4 x5 x6 μ => if (μ 64 2) ≤ x6 then (if p2 = 0 then K x4 μ else K x5 μ) else w_M_gets (fun μ15 => w_M_passes (fun μ16 => w_M_its (fun r18 μ17 => w_M_moveAll (fun μ19 => if r18 ≤ x5 then w_M_keep_113 K J55 p0 p1 p2 x5 x6 r18 x4 μ19 else w_M_keep_113 K J55 p0 p1 p2 x5 x6 r18 x6 μ19) 64 62 μ17) p0 2 μ16) p1 μ15) p0 3 x6 μ) x4 x5 x6 μ
def w_M_keep (K : Int32 → sm_Mem → Prop) (p0 : Int32) (p1 : Int32) (p2 : Int32) (μ : sm_Mem) : Prop := w_M_isNote (fun r2 μ1 => if r2 = 0 then w_M_keep_27 K p0 p1 p2 μ1 else w_M_in (fun r7 μ6 => if r7 = 0 then w_M_keep_27 K p0 p1 p2 μ6 else w_M_in (fun r10 μ9 => if r10 = 0 then w_M_keep_27 K p0 p1 p2 μ9 else w_M_moveAll (fun μ12 => w_M_keep_55 K p0 p1 p2 0 (-1) 0 μ12) 62 64 μ9) p2 0 1 μ6) p1 0 60 μ1) p0 μ
set_option maxHeartbeats 4000000 in
set_option maxRecDepth 100000 in
theorem P_M_keep (l : Launch) {K : Int32 → sm_Mem → Prop} {p0 : Int32} {p1 : Int32} {p2 : Int32} {μ : sm_Mem} (h : w_M_keep K p0 p1 p2 μ) : sm_MI l ⟨"SnowMoneyModel", "keep", "(III)I"⟩ prog_10_method_58_code 8 (some .int) { frames := 61, cells := 0, slots := 0, locals := 2281 } [sm_R 61, sm_I p0, sm_I p1, sm_I p2] μ K := by
  refine sm_ofI (by decide +kernel) (fun _ => Nat.le_of_ble_eq_true rfl) ?_
  intro p e s m args below meth c A Q G C hR
  have B27 : ∀ (μ : sm_Mem), w_M_keep_27 K p0 p1 p2 μ → sm_W p l e { frames := 61, cells := 0, slots := 0, locals := 2281 } s m args below meth c A Q G 8 0 0 27 [] [(0, sm_R 61)] μ := by
    intro μ h
    refine sr_aload_n C 0 rfl rfl d_M_keep_27 ?_
    refine sr_ldc C q_441 d_M_keep_28 ?_
    refine sr_callVI C [sm_I _] (P_M_errs l h) ok_97 sm_l61 rfl rfl rfl rfl ⟨Nat.le_of_ble_eq_true rfl, Nat.le_of_ble_eq_true rfl⟩ (Nat.le_of_ble_eq_true rfl) ⟨Nat.zero_le _, Nat.zero_le _⟩ d_M_keep_30 (fun r5 μ4 h => ?_)
    exact hR _ _ _ _ d_M_keep_33 rfl h
  have B129 : ∀ (x4 : Int32) (x6 : Int32) (s0 : Int32) (J55 : Int32 → Int32 → Int32 → sm_Mem → Prop) (hJ55 : ∀ (x4 : Int32) (x5 : Int32) (x6 : Int32) (μ : sm_Mem), J55 x4 x5 x6 μ → sm_W p l e { frames := 61, cells := 0, slots := 0, locals := 2281 } s m args below meth c A Q G 8 0 0 55 [] [(0, sm_R 61), (1, sm_I p0), (2, sm_I p1), (3, sm_I p2), (4, sm_I x4), (5, sm_I x5), (6, sm_I x6)] μ) (μ : sm_Mem), w_M_keep_129 K J55 p0 p1 p2 x4 x6 s0 μ → sm_W p l e { frames := 61, cells := 0, slots := 0, locals := 2281 } s m args below meth c A Q G 8 0 0 129 [sm_I s0] [(0, sm_R 61), (1, sm_I p0), (2, sm_I p1), (3, sm_I p2), (4, sm_I x4), (6, sm_I x6)] μ := by
    intro x4 x6 s0 J55 hJ55 μ h
    refine sr_istore C (by decide) d_M_keep_129 ?_
    refine sr_iinc C 6 rfl (by decide) d_M_keep_131 rfl ?_
    refine sr_goto C (tgt := 55) (by decide) d_M_keep_134 ?_
    refine sr_mask C [2, 3, 4, 5, 6, 1, 0] rfl ?_
    exact hJ55 _ _ _ _ h
  have B113 : ∀ (x5 : Int32) (x6 : Int32) (x7 : Int32) (s0 : Int32) (J55 : Int32 → Int32 → Int32 → sm_Mem → Prop) (hJ55 : ∀ (x4 : Int32) (x5 : Int32) (x6 : Int32) (μ : sm_Mem), J55 x4 x5 x6 μ → sm_W p l e { frames := 61, cells := 0, slots := 0, locals := 2281 } s m args below meth c A Q G 8 0 0 55 [] [(0, sm_R 61), (1, sm_I p0), (2, sm_I p1), (3, sm_I p2), (4, sm_I x4), (5, sm_I x5), (6, sm_I x6)] μ) (μ : sm_Mem), w_M_keep_113 K J55 p0 p1 p2 x5 x6 x7 s0 μ → sm_W p l e { frames := 61, cells := 0, slots := 0, locals := 2281 } s m args below meth c A Q G 8 0 0 113 [sm_I s0] [(0, sm_R 61), (1, sm_I p0), (2, sm_I p1), (3, sm_I p2), (5, sm_I x5), (6, sm_I x6), (7, sm_I x7)] μ := by
    intro x5 x6 x7 s0 J55 hJ55 μ h
    refine sr_istore C (by decide) d_M_keep_113 ?_
    refine sr_iload C 7 rfl d_M_keep_115 ?_
    refine sr_iload C 5 rfl d_M_keep_117 ?_
    refine sr_icmp_le C (tgt := 127) d_M_keep_119 (by decide) (fun c21 => ?_) (fun c21 => ?_)
    · replace h := Eq.mp (if_pos c21) h
      refine sr_iload C 5 rfl d_M_keep_127 ?_
      refine sr_mask C [1, 2, 3, 4, 0, 6] rfl ?_
      exact B129 _ _ _ _ hJ55 _ h
    · replace h := Eq.mp (if_neg c21) h
      refine sr_iload C 7 rfl d_M_keep_122 ?_
      refine sr_goto C (tgt := 129) (by decide) d_M_keep_124 ?_
      refine sr_mask C [1, 2, 3, 4, 0, 6] rfl ?_
      exact B129 _ _ _ _ hJ55 _ h
  have B55 : ∀ (x4 : Int32) (x5 : Int32) (x6 : Int32) (μ : sm_Mem), w_M_keep_55 K p0 p1 p2 x4 x5 x6 μ → sm_W p l e { frames := 61, cells := 0, slots := 0, locals := 2281 } s m args below meth c A Q G 8 0 0 55 [] [(0, sm_R 61), (1, sm_I p0), (2, sm_I p1), (3, sm_I p2), (4, sm_I x4), (5, sm_I x5), (6, sm_I x6)] μ := by
    intro x4 x5 x6 μ h
    refine sm_lp3_sound (P := fun x4 x5 x6 μ => sm_W p l e { frames := 61, cells := 0, slots := 0, locals := 2281 } s m args below meth c A Q G 8 0 0 55 [] [(0, sm_R 61), (1, sm_I p0), (2, sm_I p1), (3, sm_I p2), (4, sm_I x4), (5, sm_I x5), (6, sm_I x6)] μ) (fun J55 x4 x5 x6 μ hJ55 h => ?_) h
    refine sr_iload C 6 rfl d_M_keep_55 ?_
    refine sr_aload_n C 0 rfl rfl d_M_keep_57 ?_
    refine sr_getR C sm_F7 2 q_582 sm_l61 (r := 64) rfl (by decide) d_M_keep_58 ?_
    refine sr_iconst C (v := 2) d_M_keep_61 (by decide) ?_
    refine sr_ialdJ C sm_l64 (j := 2) (sm_vin (by decide)) (by decide) d_M_keep_62 ?_
    refine sr_icmp_ge C (tgt := 137) d_M_keep_63 (by decide) (fun c13 => ?_) (fun c13 => ?_)
    · replace h := Eq.mp (if_pos c13) h
      refine sr_iload_n C 3 rfl rfl d_M_keep_137 ?_
      refine sr_if_ne C (tgt := 146) d_M_keep_138 (by decide) (fun c14 => ?_) (fun c14 => ?_)
      · replace h := Eq.mp (if_neg c14) h
        refine sr_iload C 5 rfl d_M_keep_146 ?_
        exact hR _ _ _ _ d_M_keep_148 rfl h
      · replace h := Eq.mp (if_pos c14) h
        refine sr_iload C 4 rfl d_M_keep_141 ?_
        refine sr_goto C (tgt := 148) (by decide) d_M_keep_143 ?_
        exact hR _ _ _ _ d_M_keep_148 rfl h
    · replace h := Eq.mp (if_neg c13) h
      refine sr_aload_n C 0 rfl rfl d_M_keep_66 ?_
      refine sr_iload_n C 1 rfl rfl d_M_keep_67 ?_
      refine sr_iconst C (v := 3) d_M_keep_68 (by decide) ?_
      refine sr_iload C 6 rfl d_M_keep_69 ?_
      refine sr_callVV C [sm_I _, sm_I _, sm_I _] (P_M_gets l h) ok_103 sm_l61 rfl rfl rfl rfl ⟨Nat.le_of_ble_eq_true rfl, Nat.le_of_ble_eq_true rfl⟩ (Nat.le_of_ble_eq_true rfl) ⟨Nat.zero_le _, Nat.zero_le _⟩ d_M_keep_71 (fun μ15 h => ?_)
      refine sr_aload_n C 0 rfl rfl d_M_keep_74 ?_
      refine sr_iload_n C 2 rfl rfl d_M_keep_75 ?_
      refine sr_callVV C [sm_I _] (P_M_passes l h) ok_124 sm_l61 rfl rfl rfl rfl ⟨Nat.le_of_ble_eq_true rfl, Nat.le_of_ble_eq_true rfl⟩ (Nat.le_of_ble_eq_true rfl) ⟨Nat.zero_le _, Nat.zero_le _⟩ d_M_keep_76 (fun μ16 h => ?_)
      refine sr_aload_n C 0 rfl rfl d_M_keep_79 ?_
      refine sr_iload_n C 1 rfl rfl d_M_keep_80 ?_
      refine sr_iconst C (v := 2) d_M_keep_81 (by decide) ?_
      refine sr_callVI C [sm_I _, sm_I _] (P_M_its l h) ok_101 sm_l61 rfl rfl rfl rfl ⟨Nat.le_of_ble_eq_true rfl, Nat.le_of_ble_eq_true rfl⟩ (Nat.le_of_ble_eq_true rfl) ⟨Nat.zero_le _, Nat.zero_le _⟩ d_M_keep_82 (fun r18 μ17 h => ?_)
      refine sr_istore C (by decide) d_M_keep_85 ?_
      refine sr_aload_n C 1 rfl rfl d_M_keep_87 ?_
      refine sr_aload_n C 1 rfl rfl d_M_keep_88 ?_
      refine sr_getR C sm_F7 2 q_582 sm_l61 (r := 64) rfl (by decide) d_M_keep_89 ?_
      refine sr_aload_n C 1 rfl rfl d_M_keep_92 ?_
      refine sr_getR C sm_F7 0 q_435 sm_l61 (r := 62) rfl (by decide) d_M_keep_93 ?_
      refine sr_callVV C [sm_R _, sm_R _] (P_M_moveAll l h) ok_123 sm_l61 rfl rfl rfl rfl ⟨Nat.le_of_ble_eq_true rfl, Nat.le_of_ble_eq_true rfl⟩ (Nat.le_of_ble_eq_true rfl) ⟨Nat.zero_le _, Nat.zero_le _⟩ d_M_keep_96 (fun μ19 h => ?_)
      refine sr_iload C 0 rfl d_M_keep_99 ?_
      refine sr_iload C 6 rfl d_M_keep_101 ?_
      refine sr_icmp_le C (tgt := 111) d_M_keep_103 (by decide) (fun c20 => ?_) (fun c20 => ?_)
      · replace h := Eq.mp (if_pos c20) h
        refine sr_iload C 5 rfl d_M_keep_111 ?_
        refine sr_mask C [1, 2, 3, 4, 6, 7, 0] rfl ?_
        exact B113 _ _ _ _ _ hJ55 _ h
      · replace h := Eq.mp (if_neg c20) h
        refine sr_iload C 7 rfl d_M_keep_106 ?_
        refine sr_goto C (tgt := 113) (by decide) d_M_keep_108 ?_
        refine sr_mask C [1, 2, 3, 4, 6, 7, 0] rfl ?_
        exact B113 _ _ _ _ _ hJ55 _ h
  refine sr_aload_n C 0 rfl rfl d_M_keep_0 ?_
  refine sr_iload_n C 1 rfl rfl d_M_keep_1 ?_
  refine sr_callVI C [sm_I _] (P_M_isNote l h) ok_104 sm_l61 rfl rfl rfl rfl ⟨Nat.le_of_ble_eq_true rfl, Nat.le_of_ble_eq_true rfl⟩ (Nat.le_of_ble_eq_true rfl) ⟨Nat.zero_le _, Nat.zero_le _⟩ d_M_keep_2 (fun r2 μ1 h => ?_)
  refine sr_if_eq C (tgt := 27) d_M_keep_5 (by decide) (fun c3 => ?_) (fun c3 => ?_)
  · replace h := Eq.mp (if_pos c3) h
    refine sr_mask C [0] rfl ?_
    exact B27 _ h
  · replace h := Eq.mp (if_neg c3) h
    refine sr_iload_n C 2 rfl rfl d_M_keep_8 ?_
    refine sr_iconst C (v := 0) d_M_keep_9 (by decide) ?_
    refine sr_bipush C (v := 60) d_M_keep_10 (by decide) ?_
    refine sr_callSI C [sm_I _, sm_I _, sm_I _] (P_M_in l h) ok_96 rfl rfl rfl ⟨Nat.le_of_ble_eq_true rfl, Nat.le_of_ble_eq_true rfl⟩ (Nat.le_of_ble_eq_true rfl) ⟨Nat.zero_le _, Nat.zero_le _⟩ d_M_keep_12 (fun r7 μ6 h => ?_)
    refine sr_if_eq C (tgt := 27) d_M_keep_15 (by decide) (fun c8 => ?_) (fun c8 => ?_)
    · replace h := Eq.mp (if_pos c8) h
      refine sr_mask C [0] rfl ?_
      exact B27 _ h
    · replace h := Eq.mp (if_neg c8) h
      refine sr_iload_n C 3 rfl rfl d_M_keep_18 ?_
      refine sr_iconst C (v := 0) d_M_keep_19 (by decide) ?_
      refine sr_iconst C (v := 1) d_M_keep_20 (by decide) ?_
      refine sr_callSI C [sm_I _, sm_I _, sm_I _] (P_M_in l h) ok_96 rfl rfl rfl ⟨Nat.le_of_ble_eq_true rfl, Nat.le_of_ble_eq_true rfl⟩ (Nat.le_of_ble_eq_true rfl) ⟨Nat.zero_le _, Nat.zero_le _⟩ d_M_keep_21 (fun r10 μ9 h => ?_)
      refine sr_if_ne C (tgt := 34) d_M_keep_24 (by decide) (fun c11 => ?_) (fun c11 => ?_)
      · replace h := Eq.mp (if_neg c11) h
        refine sr_iconst C (v := 0) d_M_keep_34 (by decide) ?_
        refine sr_istore C (by decide) d_M_keep_35 ?_
        refine sr_iconst C (v := (-1)) d_M_keep_37 (by decide) ?_
        refine sr_istore C (by decide) d_M_keep_38 ?_
        refine sr_aload_n C 2 rfl rfl d_M_keep_40 ?_
        refine sr_aload_n C 2 rfl rfl d_M_keep_41 ?_
        refine sr_getR C sm_F7 0 q_435 sm_l61 (r := 62) rfl (by decide) d_M_keep_42 ?_
        refine sr_aload_n C 2 rfl rfl d_M_keep_45 ?_
        refine sr_getR C sm_F7 2 q_582 sm_l61 (r := 64) rfl (by decide) d_M_keep_46 ?_
        refine sr_callVV C [sm_R _, sm_R _] (P_M_moveAll l h) ok_123 sm_l61 rfl rfl rfl rfl ⟨Nat.le_of_ble_eq_true rfl, Nat.le_of_ble_eq_true rfl⟩ (Nat.le_of_ble_eq_true rfl) ⟨Nat.zero_le _, Nat.zero_le _⟩ d_M_keep_49 (fun μ12 h => ?_)
        refine sr_iconst C (v := 0) d_M_keep_52 (by decide) ?_
        refine sr_istore C (by decide) d_M_keep_53 ?_
        refine sr_mask C [3, 4, 5, 6, 2, 1, 0] rfl ?_
        exact B55 _ _ _ _ h
      · replace h := Eq.mp (if_pos c11) h
        refine sr_mask C [0] rfl ?_
        exact B27 _ h
theorem d_M_bits_0 : decode prog_10_method_6_code 0 = .ok (.iconst 0, 1) := by decide +kernel
theorem d_M_bits_1 : decode prog_10_method_6_code 1 = .ok (.istore_n 1, 1) := by decide +kernel
theorem d_M_bits_2 : decode prog_10_method_6_code 2 = .ok (.iload_n 0, 1) := by decide +kernel
theorem d_M_bits_3 : decode prog_10_method_6_code 3 = .ok (.istore_n 2, 1) := by decide +kernel
theorem d_M_bits_4 : decode prog_10_method_6_code 4 = .ok (.iload_n 2, 1) := by decide +kernel
theorem d_M_bits_5 : decode prog_10_method_6_code 5 = .ok (.ifCond .eq 15, 3) := by decide +kernel
theorem d_M_bits_8 : decode prog_10_method_6_code 8 = .ok (.iinc 1 1, 3) := by decide +kernel
theorem d_M_bits_11 : decode prog_10_method_6_code 11 = .ok (.iload_n 2, 1) := by decide +kernel
theorem d_M_bits_12 : decode prog_10_method_6_code 12 = .ok (.iload_n 2, 1) := by decide +kernel
theorem d_M_bits_13 : decode prog_10_method_6_code 13 = .ok (.iconst 1, 1) := by decide +kernel
theorem d_M_bits_14 : decode prog_10_method_6_code 14 = .ok (.isub, 1) := by decide +kernel
theorem d_M_bits_15 : decode prog_10_method_6_code 15 = .ok (.iand, 1) := by decide +kernel
theorem d_M_bits_16 : decode prog_10_method_6_code 16 = .ok (.istore_n 2, 1) := by decide +kernel
theorem d_M_bits_17 : decode prog_10_method_6_code 17 = .ok (.goto (-13), 3) := by decide +kernel
theorem d_M_bits_20 : decode prog_10_method_6_code 20 = .ok (.iload_n 1, 1) := by decide +kernel
theorem d_M_bits_21 : decode prog_10_method_6_code 21 = .ok (.ireturn, 1) := by decide +kernel
def w_M_bits_4 (K : Int32 → sm_Mem → Prop) (p0 : Int32) (x1 : Int32) (x2 : Int32) (μ : sm_Mem) : Prop := sm_lp2 (fun J4 x1 x2 μ => if x2 = 0 then K x1 μ else (∀ v2 : Int32, v2 = (x2 &&& (x2 - 1)) → J4 (x1 + 1) v2 μ)) x1 x2 μ
def w_M_bits (K : Int32 → sm_Mem → Prop) (p0 : Int32) (μ : sm_Mem) : Prop := w_M_bits_4 K p0 0 p0 μ
set_option maxHeartbeats 4000000 in
set_option maxRecDepth 100000 in
theorem P_M_bits (l : Launch) {K : Int32 → sm_Mem → Prop} {p0 : Int32} {μ : sm_Mem} (h : w_M_bits K p0 μ) : sm_MI l ⟨"SnowMoneyModel", "bits", "(I)I"⟩ prog_10_method_6_code 3 (some .int) { frames := 0, cells := 0, slots := 0, locals := 0 } [sm_I p0] μ K := by
  refine sm_ofI (by decide +kernel) (fun _ => Nat.le_of_ble_eq_true rfl) ?_
  intro p e s m args below meth c A Q G C hR
  have B4 : ∀ (x1 : Int32) (x2 : Int32) (μ : sm_Mem), w_M_bits_4 K p0 x1 x2 μ → sm_W p l e { frames := 0, cells := 0, slots := 0, locals := 0 } s m args below meth c A Q G 3 0 0 4 [] [(1, sm_I x1), (2, sm_I x2)] μ := by
    intro x1 x2 μ h
    refine sm_lp2_sound (P := fun x1 x2 μ => sm_W p l e { frames := 0, cells := 0, slots := 0, locals := 0 } s m args below meth c A Q G 3 0 0 4 [] [(1, sm_I x1), (2, sm_I x2)] μ) (fun J4 x1 x2 μ hJ4 h => ?_) h
    refine sr_iload_n C 1 rfl rfl d_M_bits_4 ?_
    refine sr_if_eq C (tgt := 20) d_M_bits_5 (by decide) (fun c1 => ?_) (fun c1 => ?_)
    · replace h := Eq.mp (if_pos c1) h
      refine sr_iload_n C 0 rfl rfl d_M_bits_20 ?_
      exact hR _ _ _ _ d_M_bits_21 rfl h
    · replace h := Eq.mp (if_neg c1) h
      refine sr_iinc C 0 rfl (by decide) d_M_bits_8 rfl ?_
      refine sr_iload_n C 1 rfl rfl d_M_bits_11 ?_
      refine sr_iload_n C 1 rfl rfl d_M_bits_12 ?_
      refine sr_iconst C (v := 1) d_M_bits_13 (by decide) ?_
      refine sr_isub C d_M_bits_14 ?_
      refine sr_iand C d_M_bits_15 ?_
      replace h := h _ rfl
      refine sr_istore_n C rfl (by decide) d_M_bits_16 ?_
      refine sr_goto C (tgt := 4) (by decide) d_M_bits_17 ?_
      refine sr_mask C [1, 0] rfl ?_
      exact hJ4 _ _ _ h
  refine sr_iconst C (v := 0) d_M_bits_0 (by decide) ?_
  refine sr_istore_n C rfl (by decide) d_M_bits_1 ?_
  refine sr_iload_n C 1 rfl rfl d_M_bits_2 ?_
  refine sr_istore_n C rfl (by decide) d_M_bits_3 ?_
  refine sr_mask C [1, 0] rfl ?_
  exact B4 _ _ _ h
theorem d_M_pay_0 : decode prog_10_method_59_code 0 = .ok (.iload_n 1, 1) := by decide +kernel
theorem d_M_pay_1 : decode prog_10_method_59_code 1 = .ok (.invokestatic 68, 3) := by decide +kernel
theorem d_M_pay_4 : decode prog_10_method_59_code 4 = .ok (.ifCond .eq 23, 3) := by decide +kernel
theorem d_M_pay_7 : decode prog_10_method_59_code 7 = .ok (.iload_n 2, 1) := by decide +kernel
theorem d_M_pay_8 : decode prog_10_method_59_code 8 = .ok (.iconst 1, 1) := by decide +kernel
theorem d_M_pay_9 : decode prog_10_method_59_code 9 = .ok (.sipush 9999, 3) := by decide +kernel
theorem d_M_pay_12 : decode prog_10_method_59_code 12 = .ok (.invokestatic 44, 3) := by decide +kernel
theorem d_M_pay_15 : decode prog_10_method_59_code 15 = .ok (.ifCond .eq 12, 3) := by decide +kernel
theorem d_M_pay_18 : decode prog_10_method_59_code 18 = .ok (.iload_n 3, 1) := by decide +kernel
theorem d_M_pay_19 : decode prog_10_method_59_code 19 = .ok (.iconst 0, 1) := by decide +kernel
theorem d_M_pay_20 : decode prog_10_method_59_code 20 = .ok (.iconst 1, 1) := by decide +kernel
theorem d_M_pay_21 : decode prog_10_method_59_code 21 = .ok (.invokestatic 44, 3) := by decide +kernel
theorem d_M_pay_24 : decode prog_10_method_59_code 24 = .ok (.ifCond .ne 10, 3) := by decide +kernel
theorem d_M_pay_27 : decode prog_10_method_59_code 27 = .ok (.aload_n 0, 1) := by decide +kernel
theorem d_M_pay_28 : decode prog_10_method_59_code 28 = .ok (.ldc 48, 2) := by decide +kernel
theorem d_M_pay_30 : decode prog_10_method_59_code 30 = .ok (.invokevirtual 49, 3) := by decide +kernel
theorem d_M_pay_33 : decode prog_10_method_59_code 33 = .ok (.ireturn, 1) := by decide +kernel
theorem d_M_pay_34 : decode prog_10_method_59_code 34 = .ok (.iconst 0, 1) := by decide +kernel
theorem d_M_pay_35 : decode prog_10_method_59_code 35 = .ok (.istore 4, 2) := by decide +kernel
theorem d_M_pay_37 : decode prog_10_method_59_code 37 = .ok (.iconst 0, 1) := by decide +kernel
theorem d_M_pay_38 : decode prog_10_method_59_code 38 = .ok (.istore 5, 2) := by decide +kernel
theorem d_M_pay_40 : decode prog_10_method_59_code 40 = .ok (.iload 5, 2) := by decide +kernel
theorem d_M_pay_42 : decode prog_10_method_59_code 42 = .ok (.aload_n 0, 1) := by decide +kernel
theorem d_M_pay_43 : decode prog_10_method_59_code 43 = .ok (.getfield 7, 3) := by decide +kernel
theorem d_M_pay_46 : decode prog_10_method_59_code 46 = .ok (.bipush 7, 2) := by decide +kernel
theorem d_M_pay_48 : decode prog_10_method_59_code 48 = .ok (.iaload, 1) := by decide +kernel
theorem d_M_pay_49 : decode prog_10_method_59_code 49 = .ok (.if_icmp .ge 33, 3) := by decide +kernel
theorem d_M_pay_52 : decode prog_10_method_59_code 52 = .ok (.iload 4, 2) := by decide +kernel
theorem d_M_pay_54 : decode prog_10_method_59_code 54 = .ok (.aload_n 0, 1) := by decide +kernel
theorem d_M_pay_55 : decode prog_10_method_59_code 55 = .ok (.iload 5, 2) := by decide +kernel
theorem d_M_pay_57 : decode prog_10_method_59_code 57 = .ok (.iconst 4, 1) := by decide +kernel
theorem d_M_pay_58 : decode prog_10_method_59_code 58 = .ok (.invokevirtual 62, 3) := by decide +kernel
theorem d_M_pay_61 : decode prog_10_method_59_code 61 = .ok (.iload_n 1, 1) := by decide +kernel
theorem d_M_pay_62 : decode prog_10_method_59_code 62 = .ok (.if_icmp .ne 10, 3) := by decide +kernel
theorem d_M_pay_65 : decode prog_10_method_59_code 65 = .ok (.iconst 1, 1) := by decide +kernel
theorem d_M_pay_66 : decode prog_10_method_59_code 66 = .ok (.iload 5, 2) := by decide +kernel
theorem d_M_pay_68 : decode prog_10_method_59_code 68 = .ok (.ishl, 1) := by decide +kernel
theorem d_M_pay_69 : decode prog_10_method_59_code 69 = .ok (.goto 4, 3) := by decide +kernel
theorem d_M_pay_72 : decode prog_10_method_59_code 72 = .ok (.iconst 0, 1) := by decide +kernel
theorem d_M_pay_73 : decode prog_10_method_59_code 73 = .ok (.ior, 1) := by decide +kernel
theorem d_M_pay_74 : decode prog_10_method_59_code 74 = .ok (.istore 4, 2) := by decide +kernel
theorem d_M_pay_76 : decode prog_10_method_59_code 76 = .ok (.iinc 5 1, 3) := by decide +kernel
theorem d_M_pay_79 : decode prog_10_method_59_code 79 = .ok (.goto (-39), 3) := by decide +kernel
theorem d_M_pay_82 : decode prog_10_method_59_code 82 = .ok (.iconst (-1), 1) := by decide +kernel
theorem d_M_pay_83 : decode prog_10_method_59_code 83 = .ok (.istore 5, 2) := by decide +kernel
theorem d_M_pay_85 : decode prog_10_method_59_code 85 = .ok (.iconst 0, 1) := by decide +kernel
theorem d_M_pay_86 : decode prog_10_method_59_code 86 = .ok (.istore 6, 2) := by decide +kernel
theorem d_M_pay_88 : decode prog_10_method_59_code 88 = .ok (.iconst 0, 1) := by decide +kernel
theorem d_M_pay_89 : decode prog_10_method_59_code 89 = .ok (.istore 7, 2) := by decide +kernel
theorem d_M_pay_91 : decode prog_10_method_59_code 91 = .ok (.iload 7, 2) := by decide +kernel
theorem d_M_pay_93 : decode prog_10_method_59_code 93 = .ok (.iconst 1, 1) := by decide +kernel
theorem d_M_pay_94 : decode prog_10_method_59_code 94 = .ok (.aload_n 0, 1) := by decide +kernel
theorem d_M_pay_95 : decode prog_10_method_59_code 95 = .ok (.getfield 7, 3) := by decide +kernel
theorem d_M_pay_98 : decode prog_10_method_59_code 98 = .ok (.bipush 7, 2) := by decide +kernel
theorem d_M_pay_100 : decode prog_10_method_59_code 100 = .ok (.iaload, 1) := by decide +kernel
theorem d_M_pay_101 : decode prog_10_method_59_code 101 = .ok (.ishl, 1) := by decide +kernel
theorem d_M_pay_102 : decode prog_10_method_59_code 102 = .ok (.if_icmp .ge 127, 3) := by decide +kernel
theorem d_M_pay_105 : decode prog_10_method_59_code 105 = .ok (.iconst 0, 1) := by decide +kernel
theorem d_M_pay_106 : decode prog_10_method_59_code 106 = .ok (.istore 8, 2) := by decide +kernel
theorem d_M_pay_108 : decode prog_10_method_59_code 108 = .ok (.iconst 0, 1) := by decide +kernel
theorem d_M_pay_109 : decode prog_10_method_59_code 109 = .ok (.istore 9, 2) := by decide +kernel
theorem d_M_pay_111 : decode prog_10_method_59_code 111 = .ok (.iload 9, 2) := by decide +kernel
theorem d_M_pay_113 : decode prog_10_method_59_code 113 = .ok (.aload_n 0, 1) := by decide +kernel
theorem d_M_pay_114 : decode prog_10_method_59_code 114 = .ok (.getfield 7, 3) := by decide +kernel
theorem d_M_pay_117 : decode prog_10_method_59_code 117 = .ok (.bipush 7, 2) := by decide +kernel
theorem d_M_pay_119 : decode prog_10_method_59_code 119 = .ok (.iaload, 1) := by decide +kernel
theorem d_M_pay_120 : decode prog_10_method_59_code 120 = .ok (.if_icmp .ge 35, 3) := by decide +kernel
theorem d_M_pay_123 : decode prog_10_method_59_code 123 = .ok (.iload 8, 2) := by decide +kernel
theorem d_M_pay_125 : decode prog_10_method_59_code 125 = .ok (.iload 7, 2) := by decide +kernel
theorem d_M_pay_127 : decode prog_10_method_59_code 127 = .ok (.iload 9, 2) := by decide +kernel
theorem d_M_pay_129 : decode prog_10_method_59_code 129 = .ok (.ishr, 1) := by decide +kernel
theorem d_M_pay_130 : decode prog_10_method_59_code 130 = .ok (.iconst 1, 1) := by decide +kernel
theorem d_M_pay_131 : decode prog_10_method_59_code 131 = .ok (.iand, 1) := by decide +kernel
theorem d_M_pay_132 : decode prog_10_method_59_code 132 = .ok (.iconst 1, 1) := by decide +kernel
theorem d_M_pay_133 : decode prog_10_method_59_code 133 = .ok (.if_icmp .ne 12, 3) := by decide +kernel
theorem d_M_pay_136 : decode prog_10_method_59_code 136 = .ok (.aload_n 0, 1) := by decide +kernel
theorem d_M_pay_137 : decode prog_10_method_59_code 137 = .ok (.iload 9, 2) := by decide +kernel
theorem d_M_pay_139 : decode prog_10_method_59_code 139 = .ok (.invokevirtual 81, 3) := by decide +kernel
theorem d_M_pay_142 : decode prog_10_method_59_code 142 = .ok (.goto 4, 3) := by decide +kernel
theorem d_M_pay_145 : decode prog_10_method_59_code 145 = .ok (.iconst 0, 1) := by decide +kernel
theorem d_M_pay_146 : decode prog_10_method_59_code 146 = .ok (.iadd, 1) := by decide +kernel
theorem d_M_pay_147 : decode prog_10_method_59_code 147 = .ok (.istore 8, 2) := by decide +kernel
theorem d_M_pay_149 : decode prog_10_method_59_code 149 = .ok (.iinc 9 1, 3) := by decide +kernel
theorem d_M_pay_152 : decode prog_10_method_59_code 152 = .ok (.goto (-41), 3) := by decide +kernel
theorem d_M_pay_155 : decode prog_10_method_59_code 155 = .ok (.iload 7, 2) := by decide +kernel
theorem d_M_pay_157 : decode prog_10_method_59_code 157 = .ok (.iload 4, 2) := by decide +kernel
theorem d_M_pay_159 : decode prog_10_method_59_code 159 = .ok (.iconst (-1), 1) := by decide +kernel
theorem d_M_pay_160 : decode prog_10_method_59_code 160 = .ok (.ixor, 1) := by decide +kernel
theorem d_M_pay_161 : decode prog_10_method_59_code 161 = .ok (.iand, 1) := by decide +kernel
theorem d_M_pay_162 : decode prog_10_method_59_code 162 = .ok (.ifCond .ne 13, 3) := by decide +kernel
theorem d_M_pay_165 : decode prog_10_method_59_code 165 = .ok (.iload 8, 2) := by decide +kernel
theorem d_M_pay_167 : decode prog_10_method_59_code 167 = .ok (.iload_n 2, 1) := by decide +kernel
theorem d_M_pay_168 : decode prog_10_method_59_code 168 = .ok (.if_icmp .lt 7, 3) := by decide +kernel
theorem d_M_pay_171 : decode prog_10_method_59_code 171 = .ok (.iconst 1, 1) := by decide +kernel
theorem d_M_pay_172 : decode prog_10_method_59_code 172 = .ok (.goto 4, 3) := by decide +kernel
theorem d_M_pay_175 : decode prog_10_method_59_code 175 = .ok (.iconst 0, 1) := by decide +kernel
theorem d_M_pay_176 : decode prog_10_method_59_code 176 = .ok (.istore 9, 2) := by decide +kernel
theorem d_M_pay_178 : decode prog_10_method_59_code 178 = .ok (.iload 9, 2) := by decide +kernel
theorem d_M_pay_180 : decode prog_10_method_59_code 180 = .ok (.ifCond .eq 43, 3) := by decide +kernel
theorem d_M_pay_183 : decode prog_10_method_59_code 183 = .ok (.iload 5, 2) := by decide +kernel
theorem d_M_pay_185 : decode prog_10_method_59_code 185 = .ok (.ifCond .lt 30, 3) := by decide +kernel
theorem d_M_pay_188 : decode prog_10_method_59_code 188 = .ok (.iload 8, 2) := by decide +kernel
theorem d_M_pay_190 : decode prog_10_method_59_code 190 = .ok (.iload 6, 2) := by decide +kernel
theorem d_M_pay_192 : decode prog_10_method_59_code 192 = .ok (.if_icmp .lt 23, 3) := by decide +kernel
theorem d_M_pay_195 : decode prog_10_method_59_code 195 = .ok (.iload 8, 2) := by decide +kernel
theorem d_M_pay_197 : decode prog_10_method_59_code 197 = .ok (.iload 6, 2) := by decide +kernel
theorem d_M_pay_199 : decode prog_10_method_59_code 199 = .ok (.if_icmp .ne 24, 3) := by decide +kernel
theorem d_M_pay_202 : decode prog_10_method_59_code 202 = .ok (.iload 7, 2) := by decide +kernel
theorem d_M_pay_204 : decode prog_10_method_59_code 204 = .ok (.invokestatic 200, 3) := by decide +kernel
theorem d_M_pay_207 : decode prog_10_method_59_code 207 = .ok (.iload 5, 2) := by decide +kernel
theorem d_M_pay_209 : decode prog_10_method_59_code 209 = .ok (.invokestatic 200, 3) := by decide +kernel
theorem d_M_pay_212 : decode prog_10_method_59_code 212 = .ok (.if_icmp .ge 11, 3) := by decide +kernel
theorem d_M_pay_215 : decode prog_10_method_59_code 215 = .ok (.iload 7, 2) := by decide +kernel
theorem d_M_pay_217 : decode prog_10_method_59_code 217 = .ok (.istore 5, 2) := by decide +kernel
theorem d_M_pay_219 : decode prog_10_method_59_code 219 = .ok (.iload 8, 2) := by decide +kernel
theorem d_M_pay_221 : decode prog_10_method_59_code 221 = .ok (.istore 6, 2) := by decide +kernel
theorem d_M_pay_223 : decode prog_10_method_59_code 223 = .ok (.iinc 7 1, 3) := by decide +kernel
theorem d_M_pay_226 : decode prog_10_method_59_code 226 = .ok (.goto (-135), 3) := by decide +kernel
theorem d_M_pay_229 : decode prog_10_method_59_code 229 = .ok (.iload 5, 2) := by decide +kernel
theorem d_M_pay_231 : decode prog_10_method_59_code 231 = .ok (.ifCond .ge 10, 3) := by decide +kernel
theorem d_M_pay_234 : decode prog_10_method_59_code 234 = .ok (.aload_n 0, 1) := by decide +kernel
theorem d_M_pay_235 : decode prog_10_method_59_code 235 = .ok (.ldc 196, 2) := by decide +kernel
theorem d_M_pay_237 : decode prog_10_method_59_code 237 = .ok (.invokevirtual 49, 3) := by decide +kernel
theorem d_M_pay_240 : decode prog_10_method_59_code 240 = .ok (.ireturn, 1) := by decide +kernel
theorem d_M_pay_241 : decode prog_10_method_59_code 241 = .ok (.iload_n 3, 1) := by decide +kernel
theorem d_M_pay_242 : decode prog_10_method_59_code 242 = .ok (.ifCond .ne 8, 3) := by decide +kernel
theorem d_M_pay_245 : decode prog_10_method_59_code 245 = .ok (.iload 5, 2) := by decide +kernel
theorem d_M_pay_247 : decode prog_10_method_59_code 247 = .ok (.goto 5, 3) := by decide +kernel
theorem d_M_pay_250 : decode prog_10_method_59_code 250 = .ok (.iload 6, 2) := by decide +kernel
theorem d_M_pay_252 : decode prog_10_method_59_code 252 = .ok (.ireturn, 1) := by decide +kernel
def w_M_pay_27 (K : Int32 → sm_Mem → Prop) (p0 : Int32) (p1 : Int32) (p2 : Int32) (μ : sm_Mem) : Prop := w_M_errs (fun r5 μ4 => K r5 μ4) (-1000000001) μ
def w_M_pay_223 (K : Int32 → sm_Mem → Prop) (J91 : Int32 → Int32 → Int32 → sm_Mem → Prop) (p0 : Int32) (p1 : Int32) (p2 : Int32) (x4 : Int32) (x5 : Int32) (x6 : Int32) (x7 : Int32) (μ : sm_Mem) : Prop := J91 x5 x6 (x7 + 1) μ
def w_M_pay_215 (K : Int32 → sm_Mem → Prop) (J91 : Int32 → Int32 → Int32 → sm_Mem → Prop) (p0 : Int32) (p1 : Int32) (p2 : Int32) (x4 : Int32) (x7 : Int32) (x8 : Int32) (μ : sm_Mem) : Prop := w_M_pay_223 K J91 p0 p1 p2 x4 x7 x8 x7 μ
def w_M_pay_176 (K : Int32 → sm_Mem → Prop) (J91 : Int32 → Int32 → Int32 → sm_Mem → Prop) (p0 : Int32) (p1 : Int32) (p2 : Int32) (x4 : Int32) (x5 : Int32) (x6 : Int32) (x7 : Int32) (x8 : Int32) (s0 : Int32) (μ : sm_Mem) : Prop := if s0 = 0 then w_M_pay_223 K J91 p0 p1 p2 x4 x5 x6 x7 μ else (if x5 < 0 then w_M_pay_215 K J91 p0 p1 p2 x4 x7 x8 μ else (if x8 < x6 then w_M_pay_215 K J91 p0 p1 p2 x4 x7 x8 μ else (if x8 = x6 then w_M_bits (fun r25 μ24 => w_M_bits (fun r27 μ26 => if r27 ≤ r25 then w_M_pay_223 K J91 p0 p1 p2 x4 x5 x6 x7 μ26 else w_M_pay_215 K J91 p0 p1 p2 x4 x7 x8 μ26) x5 μ24) x7 μ else w_M_pay_223 K J91 p0 p1 p2 x4 x5 x6 x7 μ)))
def w_M_pay_175 (K : Int32 → sm_Mem → Prop) (J91 : Int32 → Int32 → Int32 → sm_Mem → Prop) (p0 : Int32) (p1 : Int32) (p2 : Int32) (x4 : Int32) (x5 : Int32) (x6 : Int32) (x7 : Int32) (x8 : Int32) (μ : sm_Mem) : Prop := w_M_pay_176 K J91 p0 p1 p2 x4 x5 x6 x7 x8 0 μ
def w_M_pay_146 (K : Int32 → sm_Mem → Prop) (J91 : Int32 → Int32 → Int32 → sm_Mem → Prop) (J111 : Int32 → Int32 → sm_Mem → Prop) (p0 : Int32) (p1 : Int32) (p2 : Int32) (x4 : Int32) (x5 : Int32) (x6 : Int32) (x7 : Int32) (x9 : Int32) (s0 : Int32) (s1 : Int32) (μ : sm_Mem) : Prop := ∀ v31 : Int32, v31 = (s1 + s0) → J111 v31 (x9 + 1) μ
def w_M_pay_111 (K : Int32 → sm_Mem → Prop) (J91 : Int32 → Int32 → Int32 → sm_Mem → Prop) (p0 : Int32) (p1 : Int32) (p2 : Int32) (x4 : Int32) (x5 : Int32) (x6 : Int32) (x7 : Int32) (x8 : Int32) (x9 : Int32) (μ : sm_Mem) : Prop := sm_lp2 (fun J111 x8 x9 μ => if (μ 62 7) ≤ x9 then (if (x7 &&& (x4 ^^^ (-1))) = 0 then (if x8 < p1 then w_M_pay_175 K J91 p0 p1 p2 x4 x5 x6 x7 x8 μ else w_M_pay_176 K J91 p0 p1 p2 x4 x5 x6 x7 x8 1 μ) else w_M_pay_175 K J91 p0 p1 p2 x4 x5 x6 x7 x8 μ) else (if ((x7 >>> (x9 &&& 31)) &&& 1) = 1 then w_M_pays (fun r33 μ32 => w_M_pay_146 K J91 J111 p0 p1 p2 x4 x5 x6 x7 x9 r33 x8 μ32) x9 μ else w_M_pay_146 K J91 J111 p0 p1 p2 x4 x5 x6 x7 x9 0 x8 μ)) x8 x9 μ
def w_M_pay_91 (K : Int32 → sm_Mem → Prop) (p0 : Int32) (p1 : Int32) (p2 : Int32) (x4 : Int32) (x5 : Int32) (x6 : Int32) (x7 : Int32) (μ : sm_Mem) : Prop := sm_lp3 (fun J91 x5 x6 x7 μ => if (1 <<< ((μ 62 7) &&& 31)) ≤ x7 then (if 0 ≤ x5 then (if p2 = 0 then K x5 μ else K x6 μ) else w_M_errs (fun r17 μ16 => K r17 μ16) (-1000000002) μ) else w_M_pay_111 K J91 p0 p1 p2 x4 x5 x6 x7 0 0 μ) x5 x6 x7 μ
def w_M_pay_73 (K : Int32 → sm_Mem → Prop) (J40 : Int32 → Int32 → sm_Mem → Prop) (p0 : Int32) (p1 : Int32) (p2 : Int32) (x5 : Int32) (s0 : Int32) (s1 : Int32) (μ : sm_Mem) : Prop := ∀ v37 : Int32, v37 = (s1 ||| s0) → J40 v37 (x5 + 1) μ
def w_M_pay_40 (K : Int32 → sm_Mem → Prop) (p0 : Int32) (p1 : Int32) (p2 : Int32) (x4 : Int32) (x5 : Int32) (μ : sm_Mem) : Prop := sm_lp2 (fun J40 x4 x5 μ => if (μ 62 7) ≤ x5 then w_M_pay_91 K p0 p1 p2 x4 (-1) 0 0 μ else w_M_its (fun r35 μ34 => if r35 = p0 then w_M_pay_73 K J40 p0 p1 p2 x5 (1 <<< (x5 &&& 31)) x4 μ34 else w_M_pay_73 K J40 p0 p1 p2 x5 0 x4 μ34) x5 4 μ) x4 x5 μ
def w_M_pay (K : Int32 → sm_Mem → Prop) (p0 : Int32) (p1 : Int32) (p2 : Int32) (μ : sm_Mem) : Prop := w_M_isOwner (fun r2 μ1 => if r2 = 0 then w_M_pay_27 K p0 p1 p2 μ1 else w_M_in (fun r7 μ6 => if r7 = 0 then w_M_pay_27 K p0 p1 p2 μ6 else w_M_in (fun r10 μ9 => if r10 = 0 then w_M_pay_27 K p0 p1 p2 μ9 else w_M_pay_40 K p0 p1 p2 0 0 μ9) p2 0 1 μ6) p1 1 9999 μ1) p0 μ
set_option maxHeartbeats 4000000 in
set_option maxRecDepth 100000 in
theorem P_M_pay (l : Launch) {K : Int32 → sm_Mem → Prop} {p0 : Int32} {p1 : Int32} {p2 : Int32} {μ : sm_Mem} (h : w_M_pay K p0 p1 p2 μ) : sm_MI l ⟨"SnowMoneyModel", "pay", "(III)I"⟩ prog_10_method_59_code 10 (some .int) { frames := 58, cells := 0, slots := 0, locals := 2215 } [sm_R 61, sm_I p0, sm_I p1, sm_I p2] μ K := by
  refine sm_ofI (by decide +kernel) (fun _ => Nat.le_of_ble_eq_true rfl) ?_
  intro p e s m args below meth c A Q G C hR
  have B27 : ∀ (μ : sm_Mem), w_M_pay_27 K p0 p1 p2 μ → sm_W p l e { frames := 58, cells := 0, slots := 0, locals := 2215 } s m args below meth c A Q G 10 0 0 27 [] [(0, sm_R 61)] μ := by
    intro μ h
    refine sr_aload_n C 0 rfl rfl d_M_pay_27 ?_
    refine sr_ldc C q_441 d_M_pay_28 ?_
    refine sr_callVI C [sm_I _] (P_M_errs l h) ok_97 sm_l61 rfl rfl rfl rfl ⟨Nat.le_of_ble_eq_true rfl, Nat.le_of_ble_eq_true rfl⟩ (Nat.le_of_ble_eq_true rfl) ⟨Nat.zero_le _, Nat.zero_le _⟩ d_M_pay_30 (fun r5 μ4 h => ?_)
    exact hR _ _ _ _ d_M_pay_33 rfl h
  have B223 : ∀ (x4 : Int32) (x5 : Int32) (x6 : Int32) (x7 : Int32) (J91 : Int32 → Int32 → Int32 → sm_Mem → Prop) (hJ91 : ∀ (x5 : Int32) (x6 : Int32) (x7 : Int32) (μ : sm_Mem), J91 x5 x6 x7 μ → sm_W p l e { frames := 58, cells := 0, slots := 0, locals := 2215 } s m args below meth c A Q G 10 0 0 91 [] [(0, sm_R 61), (2, sm_I p1), (3, sm_I p2), (4, sm_I x4), (5, sm_I x5), (6, sm_I x6), (7, sm_I x7)] μ) (μ : sm_Mem), w_M_pay_223 K J91 p0 p1 p2 x4 x5 x6 x7 μ → sm_W p l e { frames := 58, cells := 0, slots := 0, locals := 2215 } s m args below meth c A Q G 10 0 0 223 [] [(0, sm_R 61), (2, sm_I p1), (3, sm_I p2), (4, sm_I x4), (5, sm_I x5), (6, sm_I x6), (7, sm_I x7)] μ := by
    intro x4 x5 x6 x7 J91 hJ91 μ h
    refine sr_iinc C 6 rfl (by decide) d_M_pay_223 rfl ?_
    refine sr_goto C (tgt := 91) (by decide) d_M_pay_226 ?_
    refine sr_mask C [1, 2, 3, 4, 5, 6, 0] rfl ?_
    exact hJ91 _ _ _ _ h
  have B215 : ∀ (x4 : Int32) (x7 : Int32) (x8 : Int32) (J91 : Int32 → Int32 → Int32 → sm_Mem → Prop) (hJ91 : ∀ (x5 : Int32) (x6 : Int32) (x7 : Int32) (μ : sm_Mem), J91 x5 x6 x7 μ → sm_W p l e { frames := 58, cells := 0, slots := 0, locals := 2215 } s m args below meth c A Q G 10 0 0 91 [] [(0, sm_R 61), (2, sm_I p1), (3, sm_I p2), (4, sm_I x4), (5, sm_I x5), (6, sm_I x6), (7, sm_I x7)] μ) (μ : sm_Mem), w_M_pay_215 K J91 p0 p1 p2 x4 x7 x8 μ → sm_W p l e { frames := 58, cells := 0, slots := 0, locals := 2215 } s m args below meth c A Q G 10 0 0 215 [] [(0, sm_R 61), (2, sm_I p1), (3, sm_I p2), (4, sm_I x4), (7, sm_I x7), (8, sm_I x8)] μ := by
    intro x4 x7 x8 J91 hJ91 μ h
    refine sr_iload C 4 rfl d_M_pay_215 ?_
    refine sr_istore C (by decide) d_M_pay_217 ?_
    refine sr_iload C 6 rfl d_M_pay_219 ?_
    refine sr_istore C (by decide) d_M_pay_221 ?_
    refine sr_mask C [2, 3, 4, 5, 1, 0, 6] rfl ?_
    exact B223 _ _ _ _ _ hJ91 _ h
  have B176 : ∀ (x4 : Int32) (x5 : Int32) (x6 : Int32) (x7 : Int32) (x8 : Int32) (s0 : Int32) (J91 : Int32 → Int32 → Int32 → sm_Mem → Prop) (hJ91 : ∀ (x5 : Int32) (x6 : Int32) (x7 : Int32) (μ : sm_Mem), J91 x5 x6 x7 μ → sm_W p l e { frames := 58, cells := 0, slots := 0, locals := 2215 } s m args below meth c A Q G 10 0 0 91 [] [(0, sm_R 61), (2, sm_I p1), (3, sm_I p2), (4, sm_I x4), (5, sm_I x5), (6, sm_I x6), (7, sm_I x7)] μ) (μ : sm_Mem), w_M_pay_176 K J91 p0 p1 p2 x4 x5 x6 x7 x8 s0 μ → sm_W p l e { frames := 58, cells := 0, slots := 0, locals := 2215 } s m args below meth c A Q G 10 0 0 176 [sm_I s0] [(0, sm_R 61), (2, sm_I p1), (3, sm_I p2), (4, sm_I x4), (5, sm_I x5), (6, sm_I x6), (7, sm_I x7), (8, sm_I x8)] μ := by
    intro x4 x5 x6 x7 x8 s0 J91 hJ91 μ h
    refine sr_istore C (by decide) d_M_pay_176 ?_
    refine sr_iload C 0 rfl d_M_pay_178 ?_
    refine sr_if_eq C (tgt := 223) d_M_pay_180 (by decide) (fun c20 => ?_) (fun c20 => ?_)
    · replace h := Eq.mp (if_pos c20) h
      refine sr_mask C [1, 2, 3, 4, 5, 6, 7] rfl ?_
      exact B223 _ _ _ _ _ hJ91 _ h
    · replace h := Eq.mp (if_neg c20) h
      refine sr_iload C 5 rfl d_M_pay_183 ?_
      refine sr_if_lt C (tgt := 215) d_M_pay_185 (by decide) (fun c21 => ?_) (fun c21 => ?_)
      · replace h := Eq.mp (if_pos c21) h
        refine sr_mask C [1, 2, 3, 4, 7, 8] rfl ?_
        exact B215 _ _ _ _ hJ91 _ h
      · replace h := Eq.mp (if_neg c21) h
        refine sr_iload C 8 rfl d_M_pay_188 ?_
        refine sr_iload C 6 rfl d_M_pay_190 ?_
        refine sr_icmp_lt C (tgt := 215) d_M_pay_192 (by decide) (fun c22 => ?_) (fun c22 => ?_)
        · replace h := Eq.mp (if_pos c22) h
          refine sr_mask C [1, 2, 3, 4, 7, 8] rfl ?_
          exact B215 _ _ _ _ hJ91 _ h
        · replace h := Eq.mp (if_neg c22) h
          refine sr_iload C 8 rfl d_M_pay_195 ?_
          refine sr_iload C 6 rfl d_M_pay_197 ?_
          refine sr_icmp_ne C (tgt := 223) d_M_pay_199 (by decide) (fun c23 => ?_) (fun c23 => ?_)
          · replace h := Eq.mp (if_neg c23) h
            refine sr_mask C [1, 2, 3, 4, 5, 6, 7] rfl ?_
            exact B223 _ _ _ _ _ hJ91 _ h
          · replace h := Eq.mp (if_pos c23) h
            refine sr_iload C 7 rfl d_M_pay_202 ?_
            refine sr_callSI C [sm_I _] (P_M_bits l h) ok_132 rfl rfl rfl ⟨Nat.le_of_ble_eq_true rfl, Nat.le_of_ble_eq_true rfl⟩ (Nat.le_of_ble_eq_true rfl) ⟨Nat.zero_le _, Nat.zero_le _⟩ d_M_pay_204 (fun r25 μ24 h => ?_)
            refine sr_iload C 5 rfl d_M_pay_207 ?_
            refine sr_callSI C [sm_I _] (P_M_bits l h) ok_132 rfl rfl rfl ⟨Nat.le_of_ble_eq_true rfl, Nat.le_of_ble_eq_true rfl⟩ (Nat.le_of_ble_eq_true rfl) ⟨Nat.zero_le _, Nat.zero_le _⟩ d_M_pay_209 (fun r27 μ26 h => ?_)
            refine sr_icmp_ge C (tgt := 223) d_M_pay_212 (by decide) (fun c28 => ?_) (fun c28 => ?_)
            · replace h := Eq.mp (if_pos c28) h
              refine sr_mask C [1, 2, 3, 4, 5, 6, 7] rfl ?_
              exact B223 _ _ _ _ _ hJ91 _ h
            · replace h := Eq.mp (if_neg c28) h
              refine sr_mask C [1, 2, 3, 4, 7, 8] rfl ?_
              exact B215 _ _ _ _ hJ91 _ h
  have B175 : ∀ (x4 : Int32) (x5 : Int32) (x6 : Int32) (x7 : Int32) (x8 : Int32) (J91 : Int32 → Int32 → Int32 → sm_Mem → Prop) (hJ91 : ∀ (x5 : Int32) (x6 : Int32) (x7 : Int32) (μ : sm_Mem), J91 x5 x6 x7 μ → sm_W p l e { frames := 58, cells := 0, slots := 0, locals := 2215 } s m args below meth c A Q G 10 0 0 91 [] [(0, sm_R 61), (2, sm_I p1), (3, sm_I p2), (4, sm_I x4), (5, sm_I x5), (6, sm_I x6), (7, sm_I x7)] μ) (μ : sm_Mem), w_M_pay_175 K J91 p0 p1 p2 x4 x5 x6 x7 x8 μ → sm_W p l e { frames := 58, cells := 0, slots := 0, locals := 2215 } s m args below meth c A Q G 10 0 0 175 [] [(0, sm_R 61), (2, sm_I p1), (3, sm_I p2), (4, sm_I x4), (5, sm_I x5), (6, sm_I x6), (7, sm_I x7), (8, sm_I x8)] μ := by
    intro x4 x5 x6 x7 x8 J91 hJ91 μ h
    refine sr_iconst C (v := 0) d_M_pay_175 (by decide) ?_
    exact B176 _ _ _ _ _ _ _ hJ91 _ h
  have B146 : ∀ (x4 : Int32) (x5 : Int32) (x6 : Int32) (x7 : Int32) (x9 : Int32) (s0 : Int32) (s1 : Int32) (J91 : Int32 → Int32 → Int32 → sm_Mem → Prop) (hJ91 : ∀ (x5 : Int32) (x6 : Int32) (x7 : Int32) (μ : sm_Mem), J91 x5 x6 x7 μ → sm_W p l e { frames := 58, cells := 0, slots := 0, locals := 2215 } s m args below meth c A Q G 10 0 0 91 [] [(0, sm_R 61), (2, sm_I p1), (3, sm_I p2), (4, sm_I x4), (5, sm_I x5), (6, sm_I x6), (7, sm_I x7)] μ) (J111 : Int32 → Int32 → sm_Mem → Prop) (hJ111 : ∀ (x8 : Int32) (x9 : Int32) (μ : sm_Mem), J111 x8 x9 μ → sm_W p l e { frames := 58, cells := 0, slots := 0, locals := 2215 } s m args below meth c A Q G 10 0 0 111 [] [(0, sm_R 61), (2, sm_I p1), (3, sm_I p2), (4, sm_I x4), (5, sm_I x5), (6, sm_I x6), (7, sm_I x7), (8, sm_I x8), (9, sm_I x9)] μ) (μ : sm_Mem), w_M_pay_146 K J91 J111 p0 p1 p2 x4 x5 x6 x7 x9 s0 s1 μ → sm_W p l e { frames := 58, cells := 0, slots := 0, locals := 2215 } s m args below meth c A Q G 10 0 0 146 [sm_I s0, sm_I s1] [(0, sm_R 61), (2, sm_I p1), (3, sm_I p2), (4, sm_I x4), (5, sm_I x5), (6, sm_I x6), (7, sm_I x7), (9, sm_I x9)] μ := by
    intro x4 x5 x6 x7 x9 s0 s1 J91 hJ91 J111 hJ111 μ h
    refine sr_iadd C d_M_pay_146 ?_
    replace h := h _ rfl
    refine sr_istore C (by decide) d_M_pay_147 ?_
    refine sr_iinc C 8 rfl (by decide) d_M_pay_149 rfl ?_
    refine sr_goto C (tgt := 111) (by decide) d_M_pay_152 ?_
    refine sr_mask C [2, 3, 4, 5, 6, 7, 8, 1, 0] rfl ?_
    exact hJ111 _ _ _ h
  have B111 : ∀ (x4 : Int32) (x5 : Int32) (x6 : Int32) (x7 : Int32) (x8 : Int32) (x9 : Int32) (J91 : Int32 → Int32 → Int32 → sm_Mem → Prop) (hJ91 : ∀ (x5 : Int32) (x6 : Int32) (x7 : Int32) (μ : sm_Mem), J91 x5 x6 x7 μ → sm_W p l e { frames := 58, cells := 0, slots := 0, locals := 2215 } s m args below meth c A Q G 10 0 0 91 [] [(0, sm_R 61), (2, sm_I p1), (3, sm_I p2), (4, sm_I x4), (5, sm_I x5), (6, sm_I x6), (7, sm_I x7)] μ) (μ : sm_Mem), w_M_pay_111 K J91 p0 p1 p2 x4 x5 x6 x7 x8 x9 μ → sm_W p l e { frames := 58, cells := 0, slots := 0, locals := 2215 } s m args below meth c A Q G 10 0 0 111 [] [(0, sm_R 61), (2, sm_I p1), (3, sm_I p2), (4, sm_I x4), (5, sm_I x5), (6, sm_I x6), (7, sm_I x7), (8, sm_I x8), (9, sm_I x9)] μ := by
    intro x4 x5 x6 x7 x8 x9 J91 hJ91 μ h
    refine sm_lp2_sound (P := fun x8 x9 μ => sm_W p l e { frames := 58, cells := 0, slots := 0, locals := 2215 } s m args below meth c A Q G 10 0 0 111 [] [(0, sm_R 61), (2, sm_I p1), (3, sm_I p2), (4, sm_I x4), (5, sm_I x5), (6, sm_I x6), (7, sm_I x7), (8, sm_I x8), (9, sm_I x9)] μ) (fun J111 x8 x9 μ hJ111 h => ?_) h
    refine sr_iload C 8 rfl d_M_pay_111 ?_
    refine sr_aload_n C 0 rfl rfl d_M_pay_113 ?_
    refine sr_getR C sm_F7 0 q_435 sm_l61 (r := 62) rfl (by decide) d_M_pay_114 ?_
    refine sr_bipush C (v := 7) d_M_pay_117 (by decide) ?_
    refine sr_ialdJ C sm_l62 (j := 7) (sm_vin (by decide)) (by decide) d_M_pay_119 ?_
    refine sr_icmp_ge C (tgt := 155) d_M_pay_120 (by decide) (fun c18 => ?_) (fun c18 => ?_)
    · replace h := Eq.mp (if_pos c18) h
      refine sr_iload C 6 rfl d_M_pay_155 ?_
      refine sr_iload C 3 rfl d_M_pay_157 ?_
      refine sr_iconst C (v := (-1)) d_M_pay_159 (by decide) ?_
      refine sr_ixor C d_M_pay_160 ?_
      refine sr_iand C d_M_pay_161 ?_
      refine sr_if_ne C (tgt := 175) d_M_pay_162 (by decide) (fun c19 => ?_) (fun c19 => ?_)
      · replace h := Eq.mp (if_neg c19) h
        refine sr_mask C [0, 1, 2, 3, 4, 5, 6, 7] rfl ?_
        exact B175 _ _ _ _ _ _ hJ91 _ h
      · replace h := Eq.mp (if_pos c19) h
        refine sr_iload C 7 rfl d_M_pay_165 ?_
        refine sr_iload_n C 1 rfl rfl d_M_pay_167 ?_
        refine sr_icmp_lt C (tgt := 175) d_M_pay_168 (by decide) (fun c29 => ?_) (fun c29 => ?_)
        · replace h := Eq.mp (if_pos c29) h
          refine sr_mask C [0, 1, 2, 3, 4, 5, 6, 7] rfl ?_
          exact B175 _ _ _ _ _ _ hJ91 _ h
        · replace h := Eq.mp (if_neg c29) h
          refine sr_iconst C (v := 1) d_M_pay_171 (by decide) ?_
          refine sr_goto C (tgt := 176) (by decide) d_M_pay_172 ?_
          refine sr_mask C [0, 1, 2, 3, 4, 5, 6, 7] rfl ?_
          exact B176 _ _ _ _ _ _ _ hJ91 _ h
    · replace h := Eq.mp (if_neg c18) h
      refine sr_iload C 7 rfl d_M_pay_123 ?_
      refine sr_iload C 6 rfl d_M_pay_125 ?_
      refine sr_iload C 8 rfl d_M_pay_127 ?_
      refine sr_ishr C d_M_pay_129 ?_
      refine sr_iconst C (v := 1) d_M_pay_130 (by decide) ?_
      refine sr_iand C d_M_pay_131 ?_
      refine sr_iconst C (v := 1) d_M_pay_132 (by decide) ?_
      refine sr_icmp_ne C (tgt := 145) d_M_pay_133 (by decide) (fun c30 => ?_) (fun c30 => ?_)
      · replace h := Eq.mp (if_neg c30) h
        refine sr_iconst C (v := 0) d_M_pay_145 (by decide) ?_
        refine sr_mask C [0, 1, 2, 3, 4, 5, 6, 8] rfl ?_
        exact B146 _ _ _ _ _ _ _ _ hJ91 _ hJ111 _ h
      · replace h := Eq.mp (if_pos c30) h
        refine sr_aload_n C 0 rfl rfl d_M_pay_136 ?_
        refine sr_iload C 8 rfl d_M_pay_137 ?_
        refine sr_callVI C [sm_I _] (P_M_pays l h) ok_105 sm_l61 rfl rfl rfl rfl ⟨Nat.le_of_ble_eq_true rfl, Nat.le_of_ble_eq_true rfl⟩ (Nat.le_of_ble_eq_true rfl) ⟨Nat.zero_le _, Nat.zero_le _⟩ d_M_pay_139 (fun r33 μ32 h => ?_)
        refine sr_goto C (tgt := 146) (by decide) d_M_pay_142 ?_
        refine sr_mask C [0, 1, 2, 3, 4, 5, 6, 8] rfl ?_
        exact B146 _ _ _ _ _ _ _ _ hJ91 _ hJ111 _ h
  have B91 : ∀ (x4 : Int32) (x5 : Int32) (x6 : Int32) (x7 : Int32) (μ : sm_Mem), w_M_pay_91 K p0 p1 p2 x4 x5 x6 x7 μ → sm_W p l e { frames := 58, cells := 0, slots := 0, locals := 2215 } s m args below meth c A Q G 10 0 0 91 [] [(0, sm_R 61), (2, sm_I p1), (3, sm_I p2), (4, sm_I x4), (5, sm_I x5), (6, sm_I x6), (7, sm_I x7)] μ := by
    intro x4 x5 x6 x7 μ h
    refine sm_lp3_sound (P := fun x5 x6 x7 μ => sm_W p l e { frames := 58, cells := 0, slots := 0, locals := 2215 } s m args below meth c A Q G 10 0 0 91 [] [(0, sm_R 61), (2, sm_I p1), (3, sm_I p2), (4, sm_I x4), (5, sm_I x5), (6, sm_I x6), (7, sm_I x7)] μ) (fun J91 x5 x6 x7 μ hJ91 h => ?_) h
    refine sr_iload C 6 rfl d_M_pay_91 ?_
    refine sr_iconst C (v := 1) d_M_pay_93 (by decide) ?_
    refine sr_aload_n C 0 rfl rfl d_M_pay_94 ?_
    refine sr_getR C sm_F7 0 q_435 sm_l61 (r := 62) rfl (by decide) d_M_pay_95 ?_
    refine sr_bipush C (v := 7) d_M_pay_98 (by decide) ?_
    refine sr_ialdJ C sm_l62 (j := 7) (sm_vin (by decide)) (by decide) d_M_pay_100 ?_
    refine sr_ishl C d_M_pay_101 ?_
    refine sr_icmp_ge C (tgt := 229) d_M_pay_102 (by decide) (fun c13 => ?_) (fun c13 => ?_)
    · replace h := Eq.mp (if_pos c13) h
      refine sr_iload C 4 rfl d_M_pay_229 ?_
      refine sr_if_ge C (tgt := 241) d_M_pay_231 (by decide) (fun c14 => ?_) (fun c14 => ?_)
      · replace h := Eq.mp (if_pos c14) h
        refine sr_iload_n C 2 rfl rfl d_M_pay_241 ?_
        refine sr_if_ne C (tgt := 250) d_M_pay_242 (by decide) (fun c15 => ?_) (fun c15 => ?_)
        · replace h := Eq.mp (if_neg c15) h
          refine sr_iload C 5 rfl d_M_pay_250 ?_
          exact hR _ _ _ _ d_M_pay_252 rfl h
        · replace h := Eq.mp (if_pos c15) h
          refine sr_iload C 4 rfl d_M_pay_245 ?_
          refine sr_goto C (tgt := 252) (by decide) d_M_pay_247 ?_
          exact hR _ _ _ _ d_M_pay_252 rfl h
      · replace h := Eq.mp (if_neg c14) h
        refine sr_aload_n C 0 rfl rfl d_M_pay_234 ?_
        refine sr_ldc C q_587 d_M_pay_235 ?_
        refine sr_callVI C [sm_I _] (P_M_errs l h) ok_97 sm_l61 rfl rfl rfl rfl ⟨Nat.le_of_ble_eq_true rfl, Nat.le_of_ble_eq_true rfl⟩ (Nat.le_of_ble_eq_true rfl) ⟨Nat.zero_le _, Nat.zero_le _⟩ d_M_pay_237 (fun r17 μ16 h => ?_)
        exact hR _ _ _ _ d_M_pay_240 rfl h
    · replace h := Eq.mp (if_neg c13) h
      refine sr_iconst C (v := 0) d_M_pay_105 (by decide) ?_
      refine sr_istore C (by decide) d_M_pay_106 ?_
      refine sr_iconst C (v := 0) d_M_pay_108 (by decide) ?_
      refine sr_istore C (by decide) d_M_pay_109 ?_
      refine sr_mask C [2, 3, 4, 5, 6, 7, 8, 1, 0] rfl ?_
      exact B111 _ _ _ _ _ _ _ hJ91 _ h
  have B73 : ∀ (x5 : Int32) (s0 : Int32) (s1 : Int32) (J40 : Int32 → Int32 → sm_Mem → Prop) (hJ40 : ∀ (x4 : Int32) (x5 : Int32) (μ : sm_Mem), J40 x4 x5 μ → sm_W p l e { frames := 58, cells := 0, slots := 0, locals := 2215 } s m args below meth c A Q G 10 0 0 40 [] [(0, sm_R 61), (1, sm_I p0), (2, sm_I p1), (3, sm_I p2), (4, sm_I x4), (5, sm_I x5)] μ) (μ : sm_Mem), w_M_pay_73 K J40 p0 p1 p2 x5 s0 s1 μ → sm_W p l e { frames := 58, cells := 0, slots := 0, locals := 2215 } s m args below meth c A Q G 10 0 0 73 [sm_I s0, sm_I s1] [(0, sm_R 61), (1, sm_I p0), (2, sm_I p1), (3, sm_I p2), (5, sm_I x5)] μ := by
    intro x5 s0 s1 J40 hJ40 μ h
    refine sr_ior C d_M_pay_73 ?_
    replace h := h _ rfl
    refine sr_istore C (by decide) d_M_pay_74 ?_
    refine sr_iinc C 5 rfl (by decide) d_M_pay_76 rfl ?_
    refine sr_goto C (tgt := 40) (by decide) d_M_pay_79 ?_
    refine sr_mask C [2, 3, 4, 5, 1, 0] rfl ?_
    exact hJ40 _ _ _ h
  have B40 : ∀ (x4 : Int32) (x5 : Int32) (μ : sm_Mem), w_M_pay_40 K p0 p1 p2 x4 x5 μ → sm_W p l e { frames := 58, cells := 0, slots := 0, locals := 2215 } s m args below meth c A Q G 10 0 0 40 [] [(0, sm_R 61), (1, sm_I p0), (2, sm_I p1), (3, sm_I p2), (4, sm_I x4), (5, sm_I x5)] μ := by
    intro x4 x5 μ h
    refine sm_lp2_sound (P := fun x4 x5 μ => sm_W p l e { frames := 58, cells := 0, slots := 0, locals := 2215 } s m args below meth c A Q G 10 0 0 40 [] [(0, sm_R 61), (1, sm_I p0), (2, sm_I p1), (3, sm_I p2), (4, sm_I x4), (5, sm_I x5)] μ) (fun J40 x4 x5 μ hJ40 h => ?_) h
    refine sr_iload C 5 rfl d_M_pay_40 ?_
    refine sr_aload_n C 0 rfl rfl d_M_pay_42 ?_
    refine sr_getR C sm_F7 0 q_435 sm_l61 (r := 62) rfl (by decide) d_M_pay_43 ?_
    refine sr_bipush C (v := 7) d_M_pay_46 (by decide) ?_
    refine sr_ialdJ C sm_l62 (j := 7) (sm_vin (by decide)) (by decide) d_M_pay_48 ?_
    refine sr_icmp_ge C (tgt := 82) d_M_pay_49 (by decide) (fun c12 => ?_) (fun c12 => ?_)
    · replace h := Eq.mp (if_pos c12) h
      refine sr_iconst C (v := (-1)) d_M_pay_82 (by decide) ?_
      refine sr_istore C (by decide) d_M_pay_83 ?_
      refine sr_iconst C (v := 0) d_M_pay_85 (by decide) ?_
      refine sr_istore C (by decide) d_M_pay_86 ?_
      refine sr_iconst C (v := 0) d_M_pay_88 (by decide) ?_
      refine sr_istore C (by decide) d_M_pay_89 ?_
      refine sr_mask C [3, 5, 6, 7, 2, 1, 0] rfl ?_
      exact B91 _ _ _ _ _ h
    · replace h := Eq.mp (if_neg c12) h
      refine sr_iload C 4 rfl d_M_pay_52 ?_
      refine sr_aload_n C 0 rfl rfl d_M_pay_54 ?_
      refine sr_iload C 5 rfl d_M_pay_55 ?_
      refine sr_iconst C (v := 4) d_M_pay_57 (by decide) ?_
      refine sr_callVI C [sm_I _, sm_I _] (P_M_its l h) ok_101 sm_l61 rfl rfl rfl rfl ⟨Nat.le_of_ble_eq_true rfl, Nat.le_of_ble_eq_true rfl⟩ (Nat.le_of_ble_eq_true rfl) ⟨Nat.zero_le _, Nat.zero_le _⟩ d_M_pay_58 (fun r35 μ34 h => ?_)
      refine sr_iload_n C 1 rfl rfl d_M_pay_61 ?_
      refine sr_icmp_ne C (tgt := 72) d_M_pay_62 (by decide) (fun c36 => ?_) (fun c36 => ?_)
      · replace h := Eq.mp (if_neg c36) h
        refine sr_iconst C (v := 0) d_M_pay_72 (by decide) ?_
        refine sr_mask C [0, 1, 2, 3, 5] rfl ?_
        exact B73 _ _ _ _ hJ40 _ h
      · replace h := Eq.mp (if_pos c36) h
        refine sr_iconst C (v := 1) d_M_pay_65 (by decide) ?_
        refine sr_iload C 5 rfl d_M_pay_66 ?_
        refine sr_ishl C d_M_pay_68 ?_
        refine sr_goto C (tgt := 73) (by decide) d_M_pay_69 ?_
        refine sr_mask C [0, 1, 2, 3, 5] rfl ?_
        exact B73 _ _ _ _ hJ40 _ h
  refine sr_iload_n C 1 rfl rfl d_M_pay_0 ?_
  refine sr_callSI C [sm_I _] (P_M_isOwner l h) ok_102 rfl rfl rfl ⟨Nat.le_of_ble_eq_true rfl, Nat.le_of_ble_eq_true rfl⟩ (Nat.le_of_ble_eq_true rfl) ⟨Nat.zero_le _, Nat.zero_le _⟩ d_M_pay_1 (fun r2 μ1 h => ?_)
  refine sr_if_eq C (tgt := 27) d_M_pay_4 (by decide) (fun c3 => ?_) (fun c3 => ?_)
  · replace h := Eq.mp (if_pos c3) h
    refine sr_mask C [0] rfl ?_
    exact B27 _ h
  · replace h := Eq.mp (if_neg c3) h
    refine sr_iload_n C 2 rfl rfl d_M_pay_7 ?_
    refine sr_iconst C (v := 1) d_M_pay_8 (by decide) ?_
    refine sr_sipush C (v := 9999) d_M_pay_9 (by decide) ?_
    refine sr_callSI C [sm_I _, sm_I _, sm_I _] (P_M_in l h) ok_96 rfl rfl rfl ⟨Nat.le_of_ble_eq_true rfl, Nat.le_of_ble_eq_true rfl⟩ (Nat.le_of_ble_eq_true rfl) ⟨Nat.zero_le _, Nat.zero_le _⟩ d_M_pay_12 (fun r7 μ6 h => ?_)
    refine sr_if_eq C (tgt := 27) d_M_pay_15 (by decide) (fun c8 => ?_) (fun c8 => ?_)
    · replace h := Eq.mp (if_pos c8) h
      refine sr_mask C [0] rfl ?_
      exact B27 _ h
    · replace h := Eq.mp (if_neg c8) h
      refine sr_iload_n C 3 rfl rfl d_M_pay_18 ?_
      refine sr_iconst C (v := 0) d_M_pay_19 (by decide) ?_
      refine sr_iconst C (v := 1) d_M_pay_20 (by decide) ?_
      refine sr_callSI C [sm_I _, sm_I _, sm_I _] (P_M_in l h) ok_96 rfl rfl rfl ⟨Nat.le_of_ble_eq_true rfl, Nat.le_of_ble_eq_true rfl⟩ (Nat.le_of_ble_eq_true rfl) ⟨Nat.zero_le _, Nat.zero_le _⟩ d_M_pay_21 (fun r10 μ9 h => ?_)
      refine sr_if_ne C (tgt := 34) d_M_pay_24 (by decide) (fun c11 => ?_) (fun c11 => ?_)
      · replace h := Eq.mp (if_neg c11) h
        refine sr_iconst C (v := 0) d_M_pay_34 (by decide) ?_
        refine sr_istore C (by decide) d_M_pay_35 ?_
        refine sr_iconst C (v := 0) d_M_pay_37 (by decide) ?_
        refine sr_istore C (by decide) d_M_pay_38 ?_
        refine sr_mask C [2, 3, 4, 5, 1, 0] rfl ?_
        exact B40 _ _ _ h
      · replace h := Eq.mp (if_pos c11) h
        refine sr_mask C [0] rfl ?_
        exact B27 _ h
theorem d_M_lasts_0 : decode prog_10_method_60_code 0 = .ok (.iload_n 1, 1) := by decide +kernel
theorem d_M_lasts_1 : decode prog_10_method_60_code 1 = .ok (.invokestatic 68, 3) := by decide +kernel
theorem d_M_lasts_4 : decode prog_10_method_60_code 4 = .ok (.ifCond .eq 14, 3) := by decide +kernel
theorem d_M_lasts_7 : decode prog_10_method_60_code 7 = .ok (.iload_n 2, 1) := by decide +kernel
theorem d_M_lasts_8 : decode prog_10_method_60_code 8 = .ok (.iconst 1, 1) := by decide +kernel
theorem d_M_lasts_9 : decode prog_10_method_60_code 9 = .ok (.sipush 9999, 3) := by decide +kernel
theorem d_M_lasts_12 : decode prog_10_method_60_code 12 = .ok (.invokestatic 44, 3) := by decide +kernel
theorem d_M_lasts_15 : decode prog_10_method_60_code 15 = .ok (.ifCond .ne 10, 3) := by decide +kernel
theorem d_M_lasts_18 : decode prog_10_method_60_code 18 = .ok (.aload_n 0, 1) := by decide +kernel
theorem d_M_lasts_19 : decode prog_10_method_60_code 19 = .ok (.ldc 48, 2) := by decide +kernel
theorem d_M_lasts_21 : decode prog_10_method_60_code 21 = .ok (.invokevirtual 49, 3) := by decide +kernel
theorem d_M_lasts_24 : decode prog_10_method_60_code 24 = .ok (.ireturn, 1) := by decide +kernel
theorem d_M_lasts_25 : decode prog_10_method_60_code 25 = .ok (.aload_n 0, 1) := by decide +kernel
theorem d_M_lasts_26 : decode prog_10_method_60_code 26 = .ok (.iload_n 1, 1) := by decide +kernel
theorem d_M_lasts_27 : decode prog_10_method_60_code 27 = .ok (.invokevirtual 197, 3) := by decide +kernel
theorem d_M_lasts_30 : decode prog_10_method_60_code 30 = .ok (.iload_n 2, 1) := by decide +kernel
theorem d_M_lasts_31 : decode prog_10_method_60_code 31 = .ok (.if_icmp .ge 10, 3) := by decide +kernel
theorem d_M_lasts_34 : decode prog_10_method_60_code 34 = .ok (.aload_n 0, 1) := by decide +kernel
theorem d_M_lasts_35 : decode prog_10_method_60_code 35 = .ok (.ldc 196, 2) := by decide +kernel
theorem d_M_lasts_37 : decode prog_10_method_60_code 37 = .ok (.invokevirtual 49, 3) := by decide +kernel
theorem d_M_lasts_40 : decode prog_10_method_60_code 40 = .ok (.ireturn, 1) := by decide +kernel
theorem d_M_lasts_41 : decode prog_10_method_60_code 41 = .ok (.aload_n 0, 1) := by decide +kernel
theorem d_M_lasts_42 : decode prog_10_method_60_code 42 = .ok (.aload_n 0, 1) := by decide +kernel
theorem d_M_lasts_43 : decode prog_10_method_60_code 43 = .ok (.getfield 7, 3) := by decide +kernel
theorem d_M_lasts_46 : decode prog_10_method_60_code 46 = .ok (.aload_n 0, 1) := by decide +kernel
theorem d_M_lasts_47 : decode prog_10_method_60_code 47 = .ok (.getfield 16, 3) := by decide +kernel
theorem d_M_lasts_50 : decode prog_10_method_60_code 50 = .ok (.invokevirtual 161, 3) := by decide +kernel
theorem d_M_lasts_53 : decode prog_10_method_60_code 53 = .ok (.iconst 0, 1) := by decide +kernel
theorem d_M_lasts_54 : decode prog_10_method_60_code 54 = .ok (.istore_n 3, 1) := by decide +kernel
theorem d_M_lasts_55 : decode prog_10_method_60_code 55 = .ok (.aload_n 0, 1) := by decide +kernel
theorem d_M_lasts_56 : decode prog_10_method_60_code 56 = .ok (.invokevirtual 175, 3) := by decide +kernel
theorem d_M_lasts_59 : decode prog_10_method_60_code 59 = .ok (.iload_n 3, 1) := by decide +kernel
theorem d_M_lasts_60 : decode prog_10_method_60_code 60 = .ok (.bipush 60, 2) := by decide +kernel
theorem d_M_lasts_62 : decode prog_10_method_60_code 62 = .ok (.if_icmp .ge 22, 3) := by decide +kernel
theorem d_M_lasts_65 : decode prog_10_method_60_code 65 = .ok (.aload_n 0, 1) := by decide +kernel
theorem d_M_lasts_66 : decode prog_10_method_60_code 66 = .ok (.iload_n 1, 1) := by decide +kernel
theorem d_M_lasts_67 : decode prog_10_method_60_code 67 = .ok (.invokevirtual 197, 3) := by decide +kernel
theorem d_M_lasts_70 : decode prog_10_method_60_code 70 = .ok (.iload_n 2, 1) := by decide +kernel
theorem d_M_lasts_71 : decode prog_10_method_60_code 71 = .ok (.if_icmp .lt 13, 3) := by decide +kernel
theorem d_M_lasts_74 : decode prog_10_method_60_code 74 = .ok (.aload_n 0, 1) := by decide +kernel
theorem d_M_lasts_75 : decode prog_10_method_60_code 75 = .ok (.invokevirtual 175, 3) := by decide +kernel
theorem d_M_lasts_78 : decode prog_10_method_60_code 78 = .ok (.iinc 3 1, 3) := by decide +kernel
theorem d_M_lasts_81 : decode prog_10_method_60_code 81 = .ok (.goto (-22), 3) := by decide +kernel
theorem d_M_lasts_84 : decode prog_10_method_60_code 84 = .ok (.aload_n 0, 1) := by decide +kernel
theorem d_M_lasts_85 : decode prog_10_method_60_code 85 = .ok (.aload_n 0, 1) := by decide +kernel
theorem d_M_lasts_86 : decode prog_10_method_60_code 86 = .ok (.getfield 16, 3) := by decide +kernel
theorem d_M_lasts_89 : decode prog_10_method_60_code 89 = .ok (.aload_n 0, 1) := by decide +kernel
theorem d_M_lasts_90 : decode prog_10_method_60_code 90 = .ok (.getfield 7, 3) := by decide +kernel
theorem d_M_lasts_93 : decode prog_10_method_60_code 93 = .ok (.invokevirtual 161, 3) := by decide +kernel
theorem d_M_lasts_96 : decode prog_10_method_60_code 96 = .ok (.iload_n 3, 1) := by decide +kernel
theorem d_M_lasts_97 : decode prog_10_method_60_code 97 = .ok (.ireturn, 1) := by decide +kernel
def w_M_lasts_18 (K : Int32 → sm_Mem → Prop) (p0 : Int32) (p1 : Int32) (μ : sm_Mem) : Prop := w_M_errs (fun r5 μ4 => K r5 μ4) (-1000000001) μ
def w_M_lasts_84 (K : Int32 → sm_Mem → Prop) (p0 : Int32) (p1 : Int32) (x3 : Int32) (μ : sm_Mem) : Prop := w_M_moveAll (fun μ15 => K x3 μ15) 64 62 μ
def w_M_lasts_59 (K : Int32 → sm_Mem → Prop) (p0 : Int32) (p1 : Int32) (x3 : Int32) (μ : sm_Mem) : Prop := sm_lp1 (fun J59 x3 μ => if 60 ≤ x3 then w_M_lasts_84 K p0 p1 x3 μ else w_M_worthOf (fun r17 μ16 => if r17 < p1 then w_M_lasts_84 K p0 p1 x3 μ16 else w_M_oneHour (fun μ19 => J59 (x3 + 1) μ19) μ16) p0 μ) x3 μ
def w_M_lasts (K : Int32 → sm_Mem → Prop) (p0 : Int32) (p1 : Int32) (μ : sm_Mem) : Prop := w_M_isOwner (fun r2 μ1 => if r2 = 0 then w_M_lasts_18 K p0 p1 μ1 else w_M_in (fun r7 μ6 => if r7 = 0 then w_M_lasts_18 K p0 p1 μ6 else w_M_worthOf (fun r10 μ9 => if p1 ≤ r10 then w_M_moveAll (fun μ12 => w_M_oneHour (fun μ13 => w_M_lasts_59 K p0 p1 0 μ13) μ12) 62 64 μ9 else w_M_errs (fun r21 μ20 => K r21 μ20) (-1000000002) μ9) p0 μ6) p1 1 9999 μ1) p0 μ
set_option maxHeartbeats 4000000 in
set_option maxRecDepth 100000 in
theorem P_M_lasts (l : Launch) {K : Int32 → sm_Mem → Prop} {p0 : Int32} {p1 : Int32} {μ : sm_Mem} (h : w_M_lasts K p0 p1 μ) : sm_MI l ⟨"SnowMoneyModel", "lasts", "(II)I"⟩ prog_10_method_60_code 4 (some .int) { frames := 60, cells := 0, slots := 0, locals := 2259 } [sm_R 61, sm_I p0, sm_I p1] μ K := by
  refine sm_ofI (by decide +kernel) (fun _ => Nat.le_of_ble_eq_true rfl) ?_
  intro p e s m args below meth c A Q G C hR
  have B18 : ∀ (μ : sm_Mem), w_M_lasts_18 K p0 p1 μ → sm_W p l e { frames := 60, cells := 0, slots := 0, locals := 2259 } s m args below meth c A Q G 4 0 0 18 [] [(0, sm_R 61)] μ := by
    intro μ h
    refine sr_aload_n C 0 rfl rfl d_M_lasts_18 ?_
    refine sr_ldc C q_441 d_M_lasts_19 ?_
    refine sr_callVI C [sm_I _] (P_M_errs l h) ok_97 sm_l61 rfl rfl rfl rfl ⟨Nat.le_of_ble_eq_true rfl, Nat.le_of_ble_eq_true rfl⟩ (Nat.le_of_ble_eq_true rfl) ⟨Nat.zero_le _, Nat.zero_le _⟩ d_M_lasts_21 (fun r5 μ4 h => ?_)
    exact hR _ _ _ _ d_M_lasts_24 rfl h
  have B84 : ∀ (x3 : Int32) (μ : sm_Mem), w_M_lasts_84 K p0 p1 x3 μ → sm_W p l e { frames := 60, cells := 0, slots := 0, locals := 2259 } s m args below meth c A Q G 4 0 0 84 [] [(0, sm_R 61), (3, sm_I x3)] μ := by
    intro x3 μ h
    refine sr_aload_n C 0 rfl rfl d_M_lasts_84 ?_
    refine sr_aload_n C 0 rfl rfl d_M_lasts_85 ?_
    refine sr_getR C sm_F7 2 q_582 sm_l61 (r := 64) rfl (by decide) d_M_lasts_86 ?_
    refine sr_aload_n C 0 rfl rfl d_M_lasts_89 ?_
    refine sr_getR C sm_F7 0 q_435 sm_l61 (r := 62) rfl (by decide) d_M_lasts_90 ?_
    refine sr_callVV C [sm_R _, sm_R _] (P_M_moveAll l h) ok_123 sm_l61 rfl rfl rfl rfl ⟨Nat.le_of_ble_eq_true rfl, Nat.le_of_ble_eq_true rfl⟩ (Nat.le_of_ble_eq_true rfl) ⟨Nat.zero_le _, Nat.zero_le _⟩ d_M_lasts_93 (fun μ15 h => ?_)
    refine sr_iload_n C 1 rfl rfl d_M_lasts_96 ?_
    exact hR _ _ _ _ d_M_lasts_97 rfl h
  have B59 : ∀ (x3 : Int32) (μ : sm_Mem), w_M_lasts_59 K p0 p1 x3 μ → sm_W p l e { frames := 60, cells := 0, slots := 0, locals := 2259 } s m args below meth c A Q G 4 0 0 59 [] [(0, sm_R 61), (1, sm_I p0), (2, sm_I p1), (3, sm_I x3)] μ := by
    intro x3 μ h
    refine sm_lp1_sound (P := fun x3 μ => sm_W p l e { frames := 60, cells := 0, slots := 0, locals := 2259 } s m args below meth c A Q G 4 0 0 59 [] [(0, sm_R 61), (1, sm_I p0), (2, sm_I p1), (3, sm_I x3)] μ) (fun J59 x3 μ hJ59 h => ?_) h
    refine sr_iload_n C 3 rfl rfl d_M_lasts_59 ?_
    refine sr_bipush C (v := 60) d_M_lasts_60 (by decide) ?_
    refine sr_icmp_ge C (tgt := 84) d_M_lasts_62 (by decide) (fun c14 => ?_) (fun c14 => ?_)
    · replace h := Eq.mp (if_pos c14) h
      refine sr_mask C [0, 3] rfl ?_
      exact B84 _ _ h
    · replace h := Eq.mp (if_neg c14) h
      refine sr_aload_n C 0 rfl rfl d_M_lasts_65 ?_
      refine sr_iload_n C 1 rfl rfl d_M_lasts_66 ?_
      refine sr_callVI C [sm_I _] (P_M_worthOf l h) ok_131 sm_l61 rfl rfl rfl rfl ⟨Nat.le_of_ble_eq_true rfl, Nat.le_of_ble_eq_true rfl⟩ (Nat.le_of_ble_eq_true rfl) ⟨Nat.zero_le _, Nat.zero_le _⟩ d_M_lasts_67 (fun r17 μ16 h => ?_)
      refine sr_iload_n C 2 rfl rfl d_M_lasts_70 ?_
      refine sr_icmp_lt C (tgt := 84) d_M_lasts_71 (by decide) (fun c18 => ?_) (fun c18 => ?_)
      · replace h := Eq.mp (if_pos c18) h
        refine sr_mask C [0, 3] rfl ?_
        exact B84 _ _ h
      · replace h := Eq.mp (if_neg c18) h
        refine sr_aload_n C 0 rfl rfl d_M_lasts_74 ?_
        refine sr_callVV C [] (P_M_oneHour l h) ok_126 sm_l61 rfl rfl rfl rfl ⟨Nat.le_of_ble_eq_true rfl, Nat.le_of_ble_eq_true rfl⟩ (Nat.le_of_ble_eq_true rfl) ⟨Nat.zero_le _, Nat.zero_le _⟩ d_M_lasts_75 (fun μ19 h => ?_)
        refine sr_iinc C 3 rfl (by decide) d_M_lasts_78 rfl ?_
        refine sr_goto C (tgt := 59) (by decide) d_M_lasts_81 ?_
        refine sr_mask C [1, 2, 3, 0] rfl ?_
        exact hJ59 _ _ h
  refine sr_iload_n C 1 rfl rfl d_M_lasts_0 ?_
  refine sr_callSI C [sm_I _] (P_M_isOwner l h) ok_102 rfl rfl rfl ⟨Nat.le_of_ble_eq_true rfl, Nat.le_of_ble_eq_true rfl⟩ (Nat.le_of_ble_eq_true rfl) ⟨Nat.zero_le _, Nat.zero_le _⟩ d_M_lasts_1 (fun r2 μ1 h => ?_)
  refine sr_if_eq C (tgt := 18) d_M_lasts_4 (by decide) (fun c3 => ?_) (fun c3 => ?_)
  · replace h := Eq.mp (if_pos c3) h
    refine sr_mask C [0] rfl ?_
    exact B18 _ h
  · replace h := Eq.mp (if_neg c3) h
    refine sr_iload_n C 2 rfl rfl d_M_lasts_7 ?_
    refine sr_iconst C (v := 1) d_M_lasts_8 (by decide) ?_
    refine sr_sipush C (v := 9999) d_M_lasts_9 (by decide) ?_
    refine sr_callSI C [sm_I _, sm_I _, sm_I _] (P_M_in l h) ok_96 rfl rfl rfl ⟨Nat.le_of_ble_eq_true rfl, Nat.le_of_ble_eq_true rfl⟩ (Nat.le_of_ble_eq_true rfl) ⟨Nat.zero_le _, Nat.zero_le _⟩ d_M_lasts_12 (fun r7 μ6 h => ?_)
    refine sr_if_ne C (tgt := 25) d_M_lasts_15 (by decide) (fun c8 => ?_) (fun c8 => ?_)
    · replace h := Eq.mp (if_neg c8) h
      refine sr_aload_n C 0 rfl rfl d_M_lasts_25 ?_
      refine sr_iload_n C 1 rfl rfl d_M_lasts_26 ?_
      refine sr_callVI C [sm_I _] (P_M_worthOf l h) ok_131 sm_l61 rfl rfl rfl rfl ⟨Nat.le_of_ble_eq_true rfl, Nat.le_of_ble_eq_true rfl⟩ (Nat.le_of_ble_eq_true rfl) ⟨Nat.zero_le _, Nat.zero_le _⟩ d_M_lasts_27 (fun r10 μ9 h => ?_)
      refine sr_iload_n C 2 rfl rfl d_M_lasts_30 ?_
      refine sr_icmp_ge C (tgt := 41) d_M_lasts_31 (by decide) (fun c11 => ?_) (fun c11 => ?_)
      · replace h := Eq.mp (if_pos c11) h
        refine sr_aload_n C 0 rfl rfl d_M_lasts_41 ?_
        refine sr_aload_n C 0 rfl rfl d_M_lasts_42 ?_
        refine sr_getR C sm_F7 0 q_435 sm_l61 (r := 62) rfl (by decide) d_M_lasts_43 ?_
        refine sr_aload_n C 0 rfl rfl d_M_lasts_46 ?_
        refine sr_getR C sm_F7 2 q_582 sm_l61 (r := 64) rfl (by decide) d_M_lasts_47 ?_
        refine sr_callVV C [sm_R _, sm_R _] (P_M_moveAll l h) ok_123 sm_l61 rfl rfl rfl rfl ⟨Nat.le_of_ble_eq_true rfl, Nat.le_of_ble_eq_true rfl⟩ (Nat.le_of_ble_eq_true rfl) ⟨Nat.zero_le _, Nat.zero_le _⟩ d_M_lasts_50 (fun μ12 h => ?_)
        refine sr_iconst C (v := 0) d_M_lasts_53 (by decide) ?_
        refine sr_istore_n C rfl (by decide) d_M_lasts_54 ?_
        refine sr_aload_n C 1 rfl rfl d_M_lasts_55 ?_
        refine sr_callVV C [] (P_M_oneHour l h) ok_126 sm_l61 rfl rfl rfl rfl ⟨Nat.le_of_ble_eq_true rfl, Nat.le_of_ble_eq_true rfl⟩ (Nat.le_of_ble_eq_true rfl) ⟨Nat.zero_le _, Nat.zero_le _⟩ d_M_lasts_56 (fun μ13 h => ?_)
        refine sr_mask C [1, 2, 3, 0] rfl ?_
        exact B59 _ _ h
      · replace h := Eq.mp (if_neg c11) h
        refine sr_aload_n C 0 rfl rfl d_M_lasts_34 ?_
        refine sr_ldc C q_587 d_M_lasts_35 ?_
        refine sr_callVI C [sm_I _] (P_M_errs l h) ok_97 sm_l61 rfl rfl rfl rfl ⟨Nat.le_of_ble_eq_true rfl, Nat.le_of_ble_eq_true rfl⟩ (Nat.le_of_ble_eq_true rfl) ⟨Nat.zero_le _, Nat.zero_le _⟩ d_M_lasts_37 (fun r21 μ20 h => ?_)
        exact hR _ _ _ _ d_M_lasts_40 rfl h
    · replace h := Eq.mp (if_pos c8) h
      refine sr_mask C [0] rfl ?_
      exact B18 _ h
theorem d_M_measures_0 : decode prog_10_method_62_code 0 = .ok (.aload_n 0, 1) := by decide +kernel
theorem d_M_measures_1 : decode prog_10_method_62_code 1 = .ok (.iload_n 1, 1) := by decide +kernel
theorem d_M_measures_2 : decode prog_10_method_62_code 2 = .ok (.iconst 3, 1) := by decide +kernel
theorem d_M_measures_3 : decode prog_10_method_62_code 3 = .ok (.invokevirtual 62, 3) := by decide +kernel
theorem d_M_measures_6 : decode prog_10_method_62_code 6 = .ok (.istore 4, 2) := by decide +kernel
theorem d_M_measures_8 : decode prog_10_method_62_code 8 = .ok (.iconst 0, 1) := by decide +kernel
theorem d_M_measures_9 : decode prog_10_method_62_code 9 = .ok (.istore 5, 2) := by decide +kernel
theorem d_M_measures_11 : decode prog_10_method_62_code 11 = .ok (.iconst 0, 1) := by decide +kernel
theorem d_M_measures_12 : decode prog_10_method_62_code 12 = .ok (.istore 6, 2) := by decide +kernel
theorem d_M_measures_14 : decode prog_10_method_62_code 14 = .ok (.iload 6, 2) := by decide +kernel
theorem d_M_measures_16 : decode prog_10_method_62_code 16 = .ok (.iload_n 3, 1) := by decide +kernel
theorem d_M_measures_17 : decode prog_10_method_62_code 17 = .ok (.if_icmp .ge 44, 3) := by decide +kernel
theorem d_M_measures_20 : decode prog_10_method_62_code 20 = .ok (.iload 5, 2) := by decide +kernel
theorem d_M_measures_22 : decode prog_10_method_62_code 22 = .ok (.aload_n 0, 1) := by decide +kernel
theorem d_M_measures_23 : decode prog_10_method_62_code 23 = .ok (.iload 4, 2) := by decide +kernel
theorem d_M_measures_25 : decode prog_10_method_62_code 25 = .ok (.aload_n 0, 1) := by decide +kernel
theorem d_M_measures_26 : decode prog_10_method_62_code 26 = .ok (.getfield 25, 3) := by decide +kernel
theorem d_M_measures_29 : decode prog_10_method_62_code 29 = .ok (.iload 6, 2) := by decide +kernel
theorem d_M_measures_31 : decode prog_10_method_62_code 31 = .ok (.iaload, 1) := by decide +kernel
theorem d_M_measures_32 : decode prog_10_method_62_code 32 = .ok (.invokevirtual 190, 3) := by decide +kernel
theorem d_M_measures_35 : decode prog_10_method_62_code 35 = .ok (.aload_n 0, 1) := by decide +kernel
theorem d_M_measures_36 : decode prog_10_method_62_code 36 = .ok (.iload_n 1, 1) := by decide +kernel
theorem d_M_measures_37 : decode prog_10_method_62_code 37 = .ok (.iload 4, 2) := by decide +kernel
theorem d_M_measures_39 : decode prog_10_method_62_code 39 = .ok (.invokevirtual 168, 3) := by decide +kernel
theorem d_M_measures_42 : decode prog_10_method_62_code 42 = .ok (.imul, 1) := by decide +kernel
theorem d_M_measures_43 : decode prog_10_method_62_code 43 = .ok (.iadd, 1) := by decide +kernel
theorem d_M_measures_44 : decode prog_10_method_62_code 44 = .ok (.istore 5, 2) := by decide +kernel
theorem d_M_measures_46 : decode prog_10_method_62_code 46 = .ok (.aload_n 0, 1) := by decide +kernel
theorem d_M_measures_47 : decode prog_10_method_62_code 47 = .ok (.getfield 25, 3) := by decide +kernel
theorem d_M_measures_50 : decode prog_10_method_62_code 50 = .ok (.iload 6, 2) := by decide +kernel
theorem d_M_measures_52 : decode prog_10_method_62_code 52 = .ok (.iaload, 1) := by decide +kernel
theorem d_M_measures_53 : decode prog_10_method_62_code 53 = .ok (.istore 4, 2) := by decide +kernel
theorem d_M_measures_55 : decode prog_10_method_62_code 55 = .ok (.iinc 6 1, 3) := by decide +kernel
theorem d_M_measures_58 : decode prog_10_method_62_code 58 = .ok (.goto (-44), 3) := by decide +kernel
theorem d_M_measures_61 : decode prog_10_method_62_code 61 = .ok (.aload_n 0, 1) := by decide +kernel
theorem d_M_measures_62 : decode prog_10_method_62_code 62 = .ok (.iload_n 1, 1) := by decide +kernel
theorem d_M_measures_63 : decode prog_10_method_62_code 63 = .ok (.iconst 2, 1) := by decide +kernel
theorem d_M_measures_64 : decode prog_10_method_62_code 64 = .ok (.invokevirtual 62, 3) := by decide +kernel
theorem d_M_measures_67 : decode prog_10_method_62_code 67 = .ok (.iload 5, 2) := by decide +kernel
theorem d_M_measures_69 : decode prog_10_method_62_code 69 = .ok (.if_icmp .le 15, 3) := by decide +kernel
theorem d_M_measures_72 : decode prog_10_method_62_code 72 = .ok (.aload_n 0, 1) := by decide +kernel
theorem d_M_measures_73 : decode prog_10_method_62_code 73 = .ok (.iload_n 1, 1) := by decide +kernel
theorem d_M_measures_74 : decode prog_10_method_62_code 74 = .ok (.iconst 2, 1) := by decide +kernel
theorem d_M_measures_75 : decode prog_10_method_62_code 75 = .ok (.invokevirtual 62, 3) := by decide +kernel
theorem d_M_measures_78 : decode prog_10_method_62_code 78 = .ok (.iload 5, 2) := by decide +kernel
theorem d_M_measures_80 : decode prog_10_method_62_code 80 = .ok (.isub, 1) := by decide +kernel
theorem d_M_measures_81 : decode prog_10_method_62_code 81 = .ok (.goto 4, 3) := by decide +kernel
theorem d_M_measures_84 : decode prog_10_method_62_code 84 = .ok (.iconst 0, 1) := by decide +kernel
theorem d_M_measures_85 : decode prog_10_method_62_code 85 = .ok (.istore 6, 2) := by decide +kernel
theorem d_M_measures_87 : decode prog_10_method_62_code 87 = .ok (.iload 4, 2) := by decide +kernel
theorem d_M_measures_89 : decode prog_10_method_62_code 89 = .ok (.iload_n 2, 1) := by decide +kernel
theorem d_M_measures_90 : decode prog_10_method_62_code 90 = .ok (.if_icmp .ne 36, 3) := by decide +kernel
theorem d_M_measures_93 : decode prog_10_method_62_code 93 = .ok (.iload 6, 2) := by decide +kernel
theorem d_M_measures_95 : decode prog_10_method_62_code 95 = .ok (.aload_n 0, 1) := by decide +kernel
theorem d_M_measures_96 : decode prog_10_method_62_code 96 = .ok (.getfield 203, 3) := by decide +kernel
theorem d_M_measures_99 : decode prog_10_method_62_code 99 = .ok (.if_icmp .le 27, 3) := by decide +kernel
theorem d_M_measures_102 : decode prog_10_method_62_code 102 = .ok (.aload_n 0, 1) := by decide +kernel
theorem d_M_measures_103 : decode prog_10_method_62_code 103 = .ok (.iload 6, 2) := by decide +kernel
theorem d_M_measures_105 : decode prog_10_method_62_code 105 = .ok (.putfield 203, 3) := by decide +kernel
theorem d_M_measures_108 : decode prog_10_method_62_code 108 = .ok (.aload_n 0, 1) := by decide +kernel
theorem d_M_measures_109 : decode prog_10_method_62_code 109 = .ok (.iload_n 3, 1) := by decide +kernel
theorem d_M_measures_110 : decode prog_10_method_62_code 110 = .ok (.ifCond .ne 7, 3) := by decide +kernel
theorem d_M_measures_113 : decode prog_10_method_62_code 113 = .ok (.iload_n 2, 1) := by decide +kernel
theorem d_M_measures_114 : decode prog_10_method_62_code 114 = .ok (.goto 9, 3) := by decide +kernel
theorem d_M_measures_117 : decode prog_10_method_62_code 117 = .ok (.aload_n 0, 1) := by decide +kernel
theorem d_M_measures_118 : decode prog_10_method_62_code 118 = .ok (.getfield 25, 3) := by decide +kernel
theorem d_M_measures_121 : decode prog_10_method_62_code 121 = .ok (.iconst 0, 1) := by decide +kernel
theorem d_M_measures_122 : decode prog_10_method_62_code 122 = .ok (.iaload, 1) := by decide +kernel
theorem d_M_measures_123 : decode prog_10_method_62_code 123 = .ok (.putfield 206, 3) := by decide +kernel
theorem d_M_measures_126 : decode prog_10_method_62_code 126 = .ok (.return_, 1) := by decide +kernel
def w_M_measures_85 (K : sm_Mem → Prop) (p0 : Int32) (p1 : Int32) (p2 : Int32) (x4 : Int32) (s0 : Int32) (μ : sm_Mem) : Prop := if x4 = p1 then (if s0 ≤ (μ 61 17) then K μ else (∀ μ9 : sm_Mem, μ9 = sm_st μ 61 17 s0 → if p2 = 0 then (∀ μ12 : sm_Mem, μ12 = sm_st μ9 61 18 p1 → K μ12) else (∀ μ11 : sm_Mem, μ11 = sm_st μ9 61 18 (μ9 67 0) → K μ11))) else K μ
def w_M_measures_14 (K : sm_Mem → Prop) (p0 : Int32) (p1 : Int32) (p2 : Int32) (x4 : Int32) (x5 : Int32) (x6 : Int32) (μ : sm_Mem) : Prop := sm_lp3 (fun J14 x4 x5 x6 μ => if p2 ≤ x6 then w_M_its (fun r5 μ4 => if r5 ≤ x5 then w_M_measures_85 K p0 p1 p2 x4 0 μ4 else w_M_its (fun r14 μ13 => w_M_measures_85 K p0 p1 p2 x4 (r14 - x5) μ13) p0 2 μ4) p0 2 μ else (vp_in x6 6 ∧ w_M_roadOf (fun r17 μ16 => w_M_meltsAt (fun r19 μ18 => ∀ v20 : Int32, v20 = (x5 + (r17 * r19)) → vp_in x6 6 ∧ ∀ v22 : Int32, v22 = (μ18 67 x6.toNatClampNeg) → J14 v22 v20 (x6 + 1) μ18) p0 x4 μ16) x4 (μ 67 x6.toNatClampNeg) μ)) x4 x5 x6 μ
def w_M_measures (K : sm_Mem → Prop) (p0 : Int32) (p1 : Int32) (p2 : Int32) (μ : sm_Mem) : Prop := w_M_its (fun r2 μ1 => w_M_measures_14 K p0 p1 p2 r2 0 0 μ1) p0 3 μ
set_option maxHeartbeats 4000000 in
set_option maxRecDepth 100000 in
theorem P_M_measures (l : Launch) {K : sm_Mem → Prop} {p0 : Int32} {p1 : Int32} {p2 : Int32} {μ : sm_Mem} (h : w_M_measures K p0 p1 p2 μ) : sm_MV l ⟨"SnowMoneyModel", "measures", "(III)V"⟩ prog_10_method_62_code 7 { frames := 58, cells := 0, slots := 0, locals := 2217 } [sm_R 61, sm_I p0, sm_I p1, sm_I p2] μ K := by
  refine sm_ofV (by decide +kernel) (fun _ => Nat.le_of_ble_eq_true rfl) ?_
  intro p e s m args below meth c A Q G C hR
  have B85 : ∀ (x4 : Int32) (s0 : Int32) (μ : sm_Mem), w_M_measures_85 K p0 p1 p2 x4 s0 μ → sm_W p l e { frames := 58, cells := 0, slots := 0, locals := 2217 } s m args below meth c A Q G 7 0 0 85 [sm_I s0] [(0, sm_R 61), (2, sm_I p1), (3, sm_I p2), (4, sm_I x4)] μ := by
    intro x4 s0 μ h
    refine sr_istore C (by decide) d_M_measures_85 ?_
    refine sr_iload C 4 rfl d_M_measures_87 ?_
    refine sr_iload_n C 2 rfl rfl d_M_measures_89 ?_
    refine sr_icmp_ne C (tgt := 126) d_M_measures_90 (by decide) (fun c7 => ?_) (fun c7 => ?_)
    · replace h := Eq.mp (if_neg c7) h
      exact hR _ _ _ d_M_measures_126 h
    · replace h := Eq.mp (if_pos c7) h
      refine sr_iload C 0 rfl d_M_measures_93 ?_
      refine sr_aload_n C 1 rfl rfl d_M_measures_95 ?_
      refine sr_getI C sm_F7 17 q_599 sm_l61 rfl (by decide) d_M_measures_96 ?_
      refine sr_icmp_le C (tgt := 126) d_M_measures_99 (by decide) (fun c8 => ?_) (fun c8 => ?_)
      · replace h := Eq.mp (if_pos c8) h
        exact hR _ _ _ d_M_measures_126 h
      · replace h := Eq.mp (if_neg c8) h
        refine sr_aload_n C 1 rfl rfl d_M_measures_102 ?_
        refine sr_iload C 0 rfl d_M_measures_103 ?_
        refine sr_putI C sm_F7 17 q_599 sm_l61 rfl rfl (by decide) rfl d_M_measures_105 ?_
        replace h := h _ rfl
        refine sr_aload_n C 1 rfl rfl d_M_measures_108 ?_
        refine sr_iload_n C 3 rfl rfl d_M_measures_109 ?_
        refine sr_if_ne C (tgt := 117) d_M_measures_110 (by decide) (fun c10 => ?_) (fun c10 => ?_)
        · replace h := Eq.mp (if_neg c10) h
          refine sr_aload_n C 1 rfl rfl d_M_measures_117 ?_
          refine sr_getR C sm_F7 16 q_601 sm_l61 (r := 67) rfl (by decide) d_M_measures_118 ?_
          refine sr_iconst C (v := 0) d_M_measures_121 (by decide) ?_
          refine sr_ialdJ C sm_l67 (j := 0) (sm_vin (by decide)) (by decide) d_M_measures_122 ?_
          refine sr_putI C sm_F7 18 q_600 sm_l61 rfl rfl (by decide) rfl d_M_measures_123 ?_
          replace h := h _ rfl
          exact hR _ _ _ d_M_measures_126 h
        · replace h := Eq.mp (if_pos c10) h
          refine sr_iload_n C 2 rfl rfl d_M_measures_113 ?_
          refine sr_goto C (tgt := 123) (by decide) d_M_measures_114 ?_
          refine sr_putI C sm_F7 18 q_600 sm_l61 rfl rfl (by decide) rfl d_M_measures_123 ?_
          replace h := h _ rfl
          exact hR _ _ _ d_M_measures_126 h
  have B14 : ∀ (x4 : Int32) (x5 : Int32) (x6 : Int32) (μ : sm_Mem), w_M_measures_14 K p0 p1 p2 x4 x5 x6 μ → sm_W p l e { frames := 58, cells := 0, slots := 0, locals := 2217 } s m args below meth c A Q G 7 0 0 14 [] [(0, sm_R 61), (1, sm_I p0), (2, sm_I p1), (3, sm_I p2), (4, sm_I x4), (5, sm_I x5), (6, sm_I x6)] μ := by
    intro x4 x5 x6 μ h
    refine sm_lp3_sound (P := fun x4 x5 x6 μ => sm_W p l e { frames := 58, cells := 0, slots := 0, locals := 2217 } s m args below meth c A Q G 7 0 0 14 [] [(0, sm_R 61), (1, sm_I p0), (2, sm_I p1), (3, sm_I p2), (4, sm_I x4), (5, sm_I x5), (6, sm_I x6)] μ) (fun J14 x4 x5 x6 μ hJ14 h => ?_) h
    refine sr_iload C 6 rfl d_M_measures_14 ?_
    refine sr_iload_n C 3 rfl rfl d_M_measures_16 ?_
    refine sr_icmp_ge C (tgt := 61) d_M_measures_17 (by decide) (fun c3 => ?_) (fun c3 => ?_)
    · replace h := Eq.mp (if_pos c3) h
      refine sr_aload_n C 0 rfl rfl d_M_measures_61 ?_
      refine sr_iload_n C 1 rfl rfl d_M_measures_62 ?_
      refine sr_iconst C (v := 2) d_M_measures_63 (by decide) ?_
      refine sr_callVI C [sm_I _, sm_I _] (P_M_its l h) ok_101 sm_l61 rfl rfl rfl rfl ⟨Nat.le_of_ble_eq_true rfl, Nat.le_of_ble_eq_true rfl⟩ (Nat.le_of_ble_eq_true rfl) ⟨Nat.zero_le _, Nat.zero_le _⟩ d_M_measures_64 (fun r5 μ4 h => ?_)
      refine sr_iload C 5 rfl d_M_measures_67 ?_
      refine sr_icmp_le C (tgt := 84) d_M_measures_69 (by decide) (fun c6 => ?_) (fun c6 => ?_)
      · replace h := Eq.mp (if_pos c6) h
        refine sr_iconst C (v := 0) d_M_measures_84 (by decide) ?_
        refine sr_mask C [0, 2, 3, 4] rfl ?_
        exact B85 _ _ _ h
      · replace h := Eq.mp (if_neg c6) h
        refine sr_aload_n C 0 rfl rfl d_M_measures_72 ?_
        refine sr_iload_n C 1 rfl rfl d_M_measures_73 ?_
        refine sr_iconst C (v := 2) d_M_measures_74 (by decide) ?_
        refine sr_callVI C [sm_I _, sm_I _] (P_M_its l h) ok_101 sm_l61 rfl rfl rfl rfl ⟨Nat.le_of_ble_eq_true rfl, Nat.le_of_ble_eq_true rfl⟩ (Nat.le_of_ble_eq_true rfl) ⟨Nat.zero_le _, Nat.zero_le _⟩ d_M_measures_75 (fun r14 μ13 h => ?_)
        refine sr_iload C 5 rfl d_M_measures_78 ?_
        refine sr_isub C d_M_measures_80 ?_
        refine sr_goto C (tgt := 85) (by decide) d_M_measures_81 ?_
        refine sr_mask C [0, 2, 3, 4] rfl ?_
        exact B85 _ _ _ h
    · replace h := Eq.mp (if_neg c3) h
      refine sr_iload C 5 rfl d_M_measures_20 ?_
      refine sr_aload_n C 0 rfl rfl d_M_measures_22 ?_
      refine sr_iload C 4 rfl d_M_measures_23 ?_
      refine sr_aload_n C 0 rfl rfl d_M_measures_25 ?_
      refine sr_getR C sm_F7 16 q_601 sm_l61 (r := 67) rfl (by decide) d_M_measures_26 ?_
      refine sr_iload C 6 rfl d_M_measures_29 ?_
      obtain ⟨g15, h⟩ := h
      refine sr_iald C sm_l67 g15 d_M_measures_31 ?_
      refine sr_callVI C [sm_I _, sm_I _] (P_M_roadOf l h) ok_129 sm_l61 rfl rfl rfl rfl ⟨Nat.le_of_ble_eq_true rfl, Nat.le_of_ble_eq_true rfl⟩ (Nat.le_of_ble_eq_true rfl) ⟨Nat.zero_le _, Nat.zero_le _⟩ d_M_measures_32 (fun r17 μ16 h => ?_)
      refine sr_aload_n C 0 rfl rfl d_M_measures_35 ?_
      refine sr_iload_n C 1 rfl rfl d_M_measures_36 ?_
      refine sr_iload C 4 rfl d_M_measures_37 ?_
      refine sr_callVI C [sm_I _, sm_I _] (P_M_meltsAt l h) ok_107 sm_l61 rfl rfl rfl rfl ⟨Nat.le_of_ble_eq_true rfl, Nat.le_of_ble_eq_true rfl⟩ (Nat.le_of_ble_eq_true rfl) ⟨Nat.zero_le _, Nat.zero_le _⟩ d_M_measures_39 (fun r19 μ18 h => ?_)
      refine sr_imul C d_M_measures_42 ?_
      refine sr_iadd C d_M_measures_43 ?_
      replace h := h _ rfl
      refine sr_istore C (by decide) d_M_measures_44 ?_
      refine sr_aload_n C 1 rfl rfl d_M_measures_46 ?_
      refine sr_getR C sm_F7 16 q_601 sm_l61 (r := 67) rfl (by decide) d_M_measures_47 ?_
      refine sr_iload C 6 rfl d_M_measures_50 ?_
      obtain ⟨g21, h⟩ := h
      refine sr_iald C sm_l67 g21 d_M_measures_52 ?_
      replace h := h _ rfl
      refine sr_istore C (by decide) d_M_measures_53 ?_
      refine sr_iinc C 6 rfl (by decide) d_M_measures_55 rfl ?_
      refine sr_goto C (tgt := 14) (by decide) d_M_measures_58 ?_
      refine sr_mask C [3, 4, 5, 6, 1, 2, 0] rfl ?_
      exact hJ14 _ _ _ _ h
  refine sr_aload_n C 0 rfl rfl d_M_measures_0 ?_
  refine sr_iload_n C 1 rfl rfl d_M_measures_1 ?_
  refine sr_iconst C (v := 3) d_M_measures_2 (by decide) ?_
  refine sr_callVI C [sm_I _, sm_I _] (P_M_its l h) ok_101 sm_l61 rfl rfl rfl rfl ⟨Nat.le_of_ble_eq_true rfl, Nat.le_of_ble_eq_true rfl⟩ (Nat.le_of_ble_eq_true rfl) ⟨Nat.zero_le _, Nat.zero_le _⟩ d_M_measures_3 (fun r2 μ1 h => ?_)
  refine sr_istore C (by decide) d_M_measures_6 ?_
  refine sr_iconst C (v := 0) d_M_measures_8 (by decide) ?_
  refine sr_istore C (by decide) d_M_measures_9 ?_
  refine sr_iconst C (v := 0) d_M_measures_11 (by decide) ?_
  refine sr_istore C (by decide) d_M_measures_12 ?_
  refine sr_mask C [3, 4, 5, 6, 2, 1, 0] rfl ?_
  exact B14 _ _ _ _ h

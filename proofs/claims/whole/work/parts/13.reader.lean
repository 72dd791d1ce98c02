theorem d_R_next_0 : decode prog_5_method_3_code 0 = .ok (.aload_n 0, 1) := by decide +kernel
theorem d_R_next_1 : decode prog_5_method_3_code 1 = .ok (.getfield 47, 3) := by decide +kernel
theorem d_R_next_4 : decode prog_5_method_3_code 4 = .ok (.ifCond .lt 26, 3) := by decide +kernel
theorem d_R_next_7 : decode prog_5_method_3_code 7 = .ok (.aload_n 0, 1) := by decide +kernel
theorem d_R_next_8 : decode prog_5_method_3_code 8 = .ok (.getfield 47, 3) := by decide +kernel
theorem d_R_next_11 : decode prog_5_method_3_code 11 = .ok (.aload_n 0, 1) := by decide +kernel
theorem d_R_next_12 : decode prog_5_method_3_code 12 = .ok (.getfield 37, 3) := by decide +kernel
theorem d_R_next_15 : decode prog_5_method_3_code 15 = .ok (.if_icmp .ge 15, 3) := by decide +kernel
theorem d_R_next_18 : decode prog_5_method_3_code 18 = .ok (.aload_n 0, 1) := by decide +kernel
theorem d_R_next_19 : decode prog_5_method_3_code 19 = .ok (.getfield 18, 3) := by decide +kernel
theorem d_R_next_22 : decode prog_5_method_3_code 22 = .ok (.aload_n 0, 1) := by decide +kernel
theorem d_R_next_23 : decode prog_5_method_3_code 23 = .ok (.getfield 47, 3) := by decide +kernel
theorem d_R_next_26 : decode prog_5_method_3_code 26 = .ok (.iaload, 1) := by decide +kernel
theorem d_R_next_27 : decode prog_5_method_3_code 27 = .ok (.goto 4, 3) := by decide +kernel
theorem d_R_next_30 : decode prog_5_method_3_code 30 = .ok (.iconst (-1), 1) := by decide +kernel
theorem d_R_next_31 : decode prog_5_method_3_code 31 = .ok (.ireturn, 1) := by decide +kernel
def w_R_next (K : Int32 → sm_Mem → Prop) (μ : sm_Mem) : Prop := if (μ 43 3) < 0 then K (-1) μ else (if (μ 43 2) ≤ (μ 43 3) then K (-1) μ else (vp_in (μ 43 3) 50 ∧ K (μ 48 (μ 43 3).toNatClampNeg) μ))
set_option maxHeartbeats 4000000 in
set_option maxRecDepth 100000 in
theorem P_R_next (l : Launch) {K : Int32 → sm_Mem → Prop} {μ : sm_Mem} (h : w_R_next K μ) : sm_MI l ⟨"SnowMoney$Reader", "next", "()I"⟩ prog_5_method_3_code 1 (some .int) { frames := 0, cells := 0, slots := 0, locals := 0 } [sm_R 43] μ K := by
  refine sm_ofI (by decide +kernel) (fun _ => Nat.le_of_ble_eq_true rfl) ?_
  intro p e s m args below meth c A Q G C hR
  refine sr_aload_n C 0 rfl rfl d_R_next_0 ?_
  refine sr_getI C sm_F2 3 q_139 sm_l43 rfl (by decide) d_R_next_1 ?_
  refine sr_if_lt C (tgt := 30) d_R_next_4 (by decide) (fun c1 => ?_) (fun c1 => ?_)
  · replace h := Eq.mp (if_pos c1) h
    refine sr_iconst C (v := (-1)) d_R_next_30 (by decide) ?_
    exact hR _ _ _ _ d_R_next_31 rfl h
  · replace h := Eq.mp (if_neg c1) h
    refine sr_aload_n C 0 rfl rfl d_R_next_7 ?_
    refine sr_getI C sm_F2 3 q_139 sm_l43 rfl (by decide) d_R_next_8 ?_
    refine sr_aload_n C 0 rfl rfl d_R_next_11 ?_
    refine sr_getI C sm_F2 2 q_136 sm_l43 rfl (by decide) d_R_next_12 ?_
    refine sr_icmp_ge C (tgt := 30) d_R_next_15 (by decide) (fun c2 => ?_) (fun c2 => ?_)
    · replace h := Eq.mp (if_pos c2) h
      refine sr_iconst C (v := (-1)) d_R_next_30 (by decide) ?_
      exact hR _ _ _ _ d_R_next_31 rfl h
    · replace h := Eq.mp (if_neg c2) h
      refine sr_aload_n C 0 rfl rfl d_R_next_18 ?_
      refine sr_getR C sm_F2 1 q_133 sm_l43 (r := 48) rfl (by decide) d_R_next_19 ?_
      refine sr_aload_n C 0 rfl rfl d_R_next_22 ?_
      refine sr_getI C sm_F2 3 q_139 sm_l43 rfl (by decide) d_R_next_23 ?_
      obtain ⟨g3, h⟩ := h
      refine sr_iald C sm_l48 g3 d_R_next_26 ?_
      refine sr_goto C (tgt := 31) (by decide) d_R_next_27 ?_
      exact hR _ _ _ _ d_R_next_31 rfl h
theorem d_R_readOr_0 : decode prog_5_method_4_code 0 = .ok (.aload_n 0, 1) := by decide +kernel
theorem d_R_readOr_1 : decode prog_5_method_4_code 1 = .ok (.iload_n 1, 1) := by decide +kernel
theorem d_R_readOr_2 : decode prog_5_method_4_code 2 = .ok (.invokevirtual 57, 3) := by decide +kernel
theorem d_R_readOr_5 : decode prog_5_method_4_code 5 = .ok (.istore_n 2, 1) := by decide +kernel
theorem d_R_readOr_6 : decode prog_5_method_4_code 6 = .ok (.iconst 0, 1) := by decide +kernel
theorem d_R_readOr_7 : decode prog_5_method_4_code 7 = .ok (.istore_n 3, 1) := by decide +kernel
theorem d_R_readOr_8 : decode prog_5_method_4_code 8 = .ok (.iload_n 3, 1) := by decide +kernel
theorem d_R_readOr_9 : decode prog_5_method_4_code 9 = .ok (.aload_n 0, 1) := by decide +kernel
theorem d_R_readOr_10 : decode prog_5_method_4_code 10 = .ok (.getfield 37, 3) := by decide +kernel
theorem d_R_readOr_13 : decode prog_5_method_4_code 13 = .ok (.if_icmp .ge 48, 3) := by decide +kernel
theorem d_R_readOr_16 : decode prog_5_method_4_code 16 = .ok (.iload_n 2, 1) := by decide +kernel
theorem d_R_readOr_17 : decode prog_5_method_4_code 17 = .ok (.ifCond .eq 44, 3) := by decide +kernel
theorem d_R_readOr_20 : decode prog_5_method_4_code 20 = .ok (.aload_n 0, 1) := by decide +kernel
theorem d_R_readOr_21 : decode prog_5_method_4_code 21 = .ok (.invokevirtual 60, 3) := by decide +kernel
theorem d_R_readOr_24 : decode prog_5_method_4_code 24 = .ok (.bipush 124, 2) := by decide +kernel
theorem d_R_readOr_26 : decode prog_5_method_4_code 26 = .ok (.if_icmp .ne 35, 3) := by decide +kernel
theorem d_R_readOr_29 : decode prog_5_method_4_code 29 = .ok (.aload_n 0, 1) := by decide +kernel
theorem d_R_readOr_30 : decode prog_5_method_4_code 30 = .ok (.dup, 1) := by decide +kernel
theorem d_R_readOr_31 : decode prog_5_method_4_code 31 = .ok (.getfield 47, 3) := by decide +kernel
theorem d_R_readOr_34 : decode prog_5_method_4_code 34 = .ok (.iconst 1, 1) := by decide +kernel
theorem d_R_readOr_35 : decode prog_5_method_4_code 35 = .ok (.iadd, 1) := by decide +kernel
theorem d_R_readOr_36 : decode prog_5_method_4_code 36 = .ok (.putfield 47, 3) := by decide +kernel
theorem d_R_readOr_39 : decode prog_5_method_4_code 39 = .ok (.aload_n 0, 1) := by decide +kernel
theorem d_R_readOr_40 : decode prog_5_method_4_code 40 = .ok (.iload_n 1, 1) := by decide +kernel
theorem d_R_readOr_41 : decode prog_5_method_4_code 41 = .ok (.invokevirtual 57, 3) := by decide +kernel
theorem d_R_readOr_44 : decode prog_5_method_4_code 44 = .ok (.istore_n 2, 1) := by decide +kernel
theorem d_R_readOr_45 : decode prog_5_method_4_code 45 = .ok (.aload_n 0, 1) := by decide +kernel
theorem d_R_readOr_46 : decode prog_5_method_4_code 46 = .ok (.getfield 10, 3) := by decide +kernel
theorem d_R_readOr_49 : decode prog_5_method_4_code 49 = .ok (.bipush 124, 2) := by decide +kernel
theorem d_R_readOr_51 : decode prog_5_method_4_code 51 = .ok (.iconst 0, 1) := by decide +kernel
theorem d_R_readOr_52 : decode prog_5_method_4_code 52 = .ok (.invokevirtual 64, 3) := by decide +kernel
theorem d_R_readOr_55 : decode prog_5_method_4_code 55 = .ok (.iinc 3 1, 3) := by decide +kernel
theorem d_R_readOr_58 : decode prog_5_method_4_code 58 = .ok (.goto (-50), 3) := by decide +kernel
theorem d_R_readOr_61 : decode prog_5_method_4_code 61 = .ok (.iload_n 2, 1) := by decide +kernel
theorem d_R_readOr_62 : decode prog_5_method_4_code 62 = .ok (.ireturn, 1) := by decide +kernel
def w_R_readOr_8 (F : Nat → (Int32 → sm_Mem → Prop) → Int32 → sm_Mem → Prop) (K : Int32 → sm_Mem → Prop) (p0 : Int32) (x2 : Int32) (x3 : Int32) (μ : sm_Mem) : Prop := sm_lp2 (fun J8 x2 x3 μ => if (μ 43 2) ≤ x3 then ((x2 = 0 ∨ x2 = 1) ∧ K x2 μ) else (if x2 = 0 then ((x2 = 0 ∨ x2 = 1) ∧ K x2 μ) else (w_R_next (fun r8 μ7 => if r8 = 124 then (∀ μ11 : sm_Mem, μ11 = sm_st μ7 43 3 ((μ7 43 3) + 1) → F 1 (fun r13 μ12 => w_T_add (fun μ14 => J8 r13 (x3 + 1) μ14) 44 124 0 μ12) p0 μ11) else ((x2 = 0 ∨ x2 = 1) ∧ K x2 μ7)) μ))) x2 x3 μ
def w_R_readOr (F : Nat → (Int32 → sm_Mem → Prop) → Int32 → sm_Mem → Prop) (K : Int32 → sm_Mem → Prop) (p0 : Int32) (μ : sm_Mem) : Prop := F 1 (fun r2 μ1 => w_R_readOr_8 F K p0 r2 0 μ1) p0 μ
set_option maxHeartbeats 4000000 in
set_option maxRecDepth 100000 in
theorem P_R_readOr (l : Launch) {F : Nat → (Int32 → sm_Mem → Prop) → Int32 → sm_Mem → Prop} {n : Nat} (hF1 : ∀ {K : Int32 → sm_Mem → Prop} {p0 : Int32} {μ : sm_Mem}, F 1 K p0 μ → sm_MI l ⟨"SnowMoney$Reader", "readAnd", "(I)Z"⟩ prog_5_method_5_code 4 (some .boolean) { frames := n + 12, cells := 0, slots := 0, locals := n * 40 + 800 } [sm_R 43, sm_I p0] μ K) {K : Int32 → sm_Mem → Prop} {p0 : Int32} {μ : sm_Mem} (h : w_R_readOr F K p0 μ) : sm_MI l ⟨"SnowMoney$Reader", "readOr", "(I)Z"⟩ prog_5_method_4_code 4 (some .boolean) { frames := n + 1 + 12, cells := 0, slots := 0, locals := (n + 1) * 40 + 800 } [sm_R 43, sm_I p0] μ K := by
  refine sm_ofI (by decide +kernel) (fun _ => Nat.le_of_ble_eq_true rfl) ?_
  intro p e s m args below meth c A Q G C hR
  have B8 : ∀ (x2 : Int32) (x3 : Int32) (μ : sm_Mem), w_R_readOr_8 F K p0 x2 x3 μ → sm_W p l e { frames := n + 1 + 12, cells := 0, slots := 0, locals := (n + 1) * 40 + 800 } s m args below meth c A Q G 4 0 0 8 [] [(0, sm_R 43), (1, sm_I p0), (2, sm_I x2), (3, sm_I x3)] μ := by
    intro x2 x3 μ h
    refine sm_lp2_sound (P := fun x2 x3 μ => sm_W p l e { frames := n + 1 + 12, cells := 0, slots := 0, locals := (n + 1) * 40 + 800 } s m args below meth c A Q G 4 0 0 8 [] [(0, sm_R 43), (1, sm_I p0), (2, sm_I x2), (3, sm_I x3)] μ) (fun J8 x2 x3 μ hJ8 h => ?_) h
    refine sr_iload_n C 3 rfl rfl d_R_readOr_8 ?_
    refine sr_aload_n C 0 rfl rfl d_R_readOr_9 ?_
    refine sr_getI C sm_F2 2 q_136 sm_l43 rfl (by decide) d_R_readOr_10 ?_
    refine sr_icmp_ge C (tgt := 61) d_R_readOr_13 (by decide) (fun c3 => ?_) (fun c3 => ?_)
    · replace h := Eq.mp (if_pos c3) h
      refine sr_iload_n C 2 rfl rfl d_R_readOr_61 ?_
      obtain ⟨g4, h⟩ := h
      exact hR _ _ _ _ d_R_readOr_62 (sm_narZ g4) h
    · replace h := Eq.mp (if_neg c3) h
      refine sr_iload_n C 2 rfl rfl d_R_readOr_16 ?_
      refine sr_if_eq C (tgt := 61) d_R_readOr_17 (by decide) (fun c5 => ?_) (fun c5 => ?_)
      · replace h := Eq.mp (if_pos c5) h
        refine sr_iload_n C 2 rfl rfl d_R_readOr_61 ?_
        obtain ⟨g6, h⟩ := h
        exact hR _ _ _ _ d_R_readOr_62 (sm_narZ g6) h
      · replace h := Eq.mp (if_neg c5) h
        refine sr_aload_n C 0 rfl rfl d_R_readOr_20 ?_
        refine sr_callVI C [] (P_R_next l h) ok_30 sm_l43 rfl rfl rfl rfl ⟨by dsimp only; omega, by dsimp only; omega⟩ (Nat.le_of_ble_eq_true rfl) ⟨Nat.zero_le _, Nat.zero_le _⟩ d_R_readOr_21 (fun r8 μ7 h => ?_)
        refine sr_bipush C (v := 124) d_R_readOr_24 (by decide) ?_
        refine sr_icmp_ne C (tgt := 61) d_R_readOr_26 (by decide) (fun c9 => ?_) (fun c9 => ?_)
        · replace h := Eq.mp (if_neg c9) h
          refine sr_iload_n C 2 rfl rfl d_R_readOr_61 ?_
          obtain ⟨g10, h⟩ := h
          exact hR _ _ _ _ d_R_readOr_62 (sm_narZ g10) h
        · replace h := Eq.mp (if_pos c9) h
          refine sr_aload_n C 0 rfl rfl d_R_readOr_29 ?_
          refine sr_dup C rfl d_R_readOr_30 ?_
          refine sr_getI C sm_F2 3 q_139 sm_l43 rfl (by decide) d_R_readOr_31 ?_
          refine sr_iconst C (v := 1) d_R_readOr_34 (by decide) ?_
          refine sr_iadd C d_R_readOr_35 ?_
          refine sr_putI C sm_F2 3 q_139 sm_l43 rfl rfl (by decide) rfl d_R_readOr_36 ?_
          replace h := h _ rfl
          refine sr_aload_n C 0 rfl rfl d_R_readOr_39 ?_
          refine sr_iload_n C 1 rfl rfl d_R_readOr_40 ?_
          refine sr_callVI C [sm_I _] (hF1 h) ok_29 sm_l43 rfl rfl rfl rfl ⟨by dsimp only; omega, by dsimp only; omega⟩ (Nat.le_of_ble_eq_true rfl) ⟨Nat.zero_le _, Nat.zero_le _⟩ d_R_readOr_41 (fun r13 μ12 h => ?_)
          refine sr_istore_n C rfl (by decide) d_R_readOr_44 ?_
          refine sr_aload_n C 1 rfl rfl d_R_readOr_45 ?_
          refine sr_getR C sm_F2 0 q_140 sm_l43 (r := 44) rfl (by decide) d_R_readOr_46 ?_
          refine sr_bipush C (v := 124) d_R_readOr_49 (by decide) ?_
          refine sr_iconst C (v := 0) d_R_readOr_51 (by decide) ?_
          refine sr_callVV C [sm_I _, sm_I _] (P_T_add l h) ok_31 sm_l44 rfl rfl rfl rfl ⟨by dsimp only; omega, by dsimp only; omega⟩ (Nat.le_of_ble_eq_true rfl) ⟨Nat.zero_le _, Nat.zero_le _⟩ d_R_readOr_52 (fun μ14 h => ?_)
          refine sr_iinc C 3 rfl (by decide) d_R_readOr_55 rfl ?_
          refine sr_goto C (tgt := 8) (by decide) d_R_readOr_58 ?_
          refine sr_mask C [2, 3, 1, 0] rfl ?_
          exact hJ8 _ _ _ h
  refine sr_aload_n C 0 rfl rfl d_R_readOr_0 ?_
  refine sr_iload_n C 1 rfl rfl d_R_readOr_1 ?_
  refine sr_callVI C [sm_I _] (hF1 h) ok_29 sm_l43 rfl rfl rfl rfl ⟨by dsimp only; omega, by dsimp only; omega⟩ (Nat.le_of_ble_eq_true rfl) ⟨Nat.zero_le _, Nat.zero_le _⟩ d_R_readOr_2 (fun r2 μ1 h => ?_)
  refine sr_istore_n C rfl (by decide) d_R_readOr_5 ?_
  refine sr_iconst C (v := 0) d_R_readOr_6 (by decide) ?_
  refine sr_istore_n C rfl (by decide) d_R_readOr_7 ?_
  refine sr_mask C [2, 3, 1, 0] rfl ?_
  exact B8 _ _ _ h
theorem d_R_readAnd_0 : decode prog_5_method_5_code 0 = .ok (.aload_n 0, 1) := by decide +kernel
theorem d_R_readAnd_1 : decode prog_5_method_5_code 1 = .ok (.iload_n 1, 1) := by decide +kernel
theorem d_R_readAnd_2 : decode prog_5_method_5_code 2 = .ok (.invokevirtual 68, 3) := by decide +kernel
theorem d_R_readAnd_5 : decode prog_5_method_5_code 5 = .ok (.istore_n 2, 1) := by decide +kernel
theorem d_R_readAnd_6 : decode prog_5_method_5_code 6 = .ok (.iconst 0, 1) := by decide +kernel
theorem d_R_readAnd_7 : decode prog_5_method_5_code 7 = .ok (.istore_n 3, 1) := by decide +kernel
theorem d_R_readAnd_8 : decode prog_5_method_5_code 8 = .ok (.iload_n 3, 1) := by decide +kernel
theorem d_R_readAnd_9 : decode prog_5_method_5_code 9 = .ok (.aload_n 0, 1) := by decide +kernel
theorem d_R_readAnd_10 : decode prog_5_method_5_code 10 = .ok (.getfield 37, 3) := by decide +kernel
theorem d_R_readAnd_13 : decode prog_5_method_5_code 13 = .ok (.if_icmp .ge 48, 3) := by decide +kernel
theorem d_R_readAnd_16 : decode prog_5_method_5_code 16 = .ok (.iload_n 2, 1) := by decide +kernel
theorem d_R_readAnd_17 : decode prog_5_method_5_code 17 = .ok (.ifCond .eq 44, 3) := by decide +kernel
theorem d_R_readAnd_20 : decode prog_5_method_5_code 20 = .ok (.aload_n 0, 1) := by decide +kernel
theorem d_R_readAnd_21 : decode prog_5_method_5_code 21 = .ok (.invokevirtual 60, 3) := by decide +kernel
theorem d_R_readAnd_24 : decode prog_5_method_5_code 24 = .ok (.bipush 38, 2) := by decide +kernel
theorem d_R_readAnd_26 : decode prog_5_method_5_code 26 = .ok (.if_icmp .ne 35, 3) := by decide +kernel
theorem d_R_readAnd_29 : decode prog_5_method_5_code 29 = .ok (.aload_n 0, 1) := by decide +kernel
theorem d_R_readAnd_30 : decode prog_5_method_5_code 30 = .ok (.dup, 1) := by decide +kernel
theorem d_R_readAnd_31 : decode prog_5_method_5_code 31 = .ok (.getfield 47, 3) := by decide +kernel
theorem d_R_readAnd_34 : decode prog_5_method_5_code 34 = .ok (.iconst 1, 1) := by decide +kernel
theorem d_R_readAnd_35 : decode prog_5_method_5_code 35 = .ok (.iadd, 1) := by decide +kernel
theorem d_R_readAnd_36 : decode prog_5_method_5_code 36 = .ok (.putfield 47, 3) := by decide +kernel
theorem d_R_readAnd_39 : decode prog_5_method_5_code 39 = .ok (.aload_n 0, 1) := by decide +kernel
theorem d_R_readAnd_40 : decode prog_5_method_5_code 40 = .ok (.iload_n 1, 1) := by decide +kernel
theorem d_R_readAnd_41 : decode prog_5_method_5_code 41 = .ok (.invokevirtual 68, 3) := by decide +kernel
theorem d_R_readAnd_44 : decode prog_5_method_5_code 44 = .ok (.istore_n 2, 1) := by decide +kernel
theorem d_R_readAnd_45 : decode prog_5_method_5_code 45 = .ok (.aload_n 0, 1) := by decide +kernel
theorem d_R_readAnd_46 : decode prog_5_method_5_code 46 = .ok (.getfield 10, 3) := by decide +kernel
theorem d_R_readAnd_49 : decode prog_5_method_5_code 49 = .ok (.bipush 38, 2) := by decide +kernel
theorem d_R_readAnd_51 : decode prog_5_method_5_code 51 = .ok (.iconst 0, 1) := by decide +kernel
theorem d_R_readAnd_52 : decode prog_5_method_5_code 52 = .ok (.invokevirtual 64, 3) := by decide +kernel
theorem d_R_readAnd_55 : decode prog_5_method_5_code 55 = .ok (.iinc 3 1, 3) := by decide +kernel
theorem d_R_readAnd_58 : decode prog_5_method_5_code 58 = .ok (.goto (-50), 3) := by decide +kernel
theorem d_R_readAnd_61 : decode prog_5_method_5_code 61 = .ok (.iload_n 2, 1) := by decide +kernel
theorem d_R_readAnd_62 : decode prog_5_method_5_code 62 = .ok (.ireturn, 1) := by decide +kernel
def w_R_readAnd_8 (F : Nat → (Int32 → sm_Mem → Prop) → Int32 → sm_Mem → Prop) (K : Int32 → sm_Mem → Prop) (p0 : Int32) (x2 : Int32) (x3 : Int32) (μ : sm_Mem) : Prop := sm_lp2 (fun J8 x2 x3 μ => if (μ 43 2) ≤ x3 then ((x2 = 0 ∨ x2 = 1) ∧ K x2 μ) else (if x2 = 0 then ((x2 = 0 ∨ x2 = 1) ∧ K x2 μ) else (w_R_next (fun r8 μ7 => if r8 = 38 then (∀ μ11 : sm_Mem, μ11 = sm_st μ7 43 3 ((μ7 43 3) + 1) → F 2 (fun r13 μ12 => w_T_add (fun μ14 => J8 r13 (x3 + 1) μ14) 44 38 0 μ12) p0 μ11) else ((x2 = 0 ∨ x2 = 1) ∧ K x2 μ7)) μ))) x2 x3 μ
def w_R_readAnd (F : Nat → (Int32 → sm_Mem → Prop) → Int32 → sm_Mem → Prop) (K : Int32 → sm_Mem → Prop) (p0 : Int32) (μ : sm_Mem) : Prop := F 2 (fun r2 μ1 => w_R_readAnd_8 F K p0 r2 0 μ1) p0 μ
set_option maxHeartbeats 4000000 in
set_option maxRecDepth 100000 in
theorem P_R_readAnd (l : Launch) {F : Nat → (Int32 → sm_Mem → Prop) → Int32 → sm_Mem → Prop} {n : Nat} (hF2 : ∀ {K : Int32 → sm_Mem → Prop} {p0 : Int32} {μ : sm_Mem}, F 2 K p0 μ → sm_MI l ⟨"SnowMoney$Reader", "readComparison", "(I)Z"⟩ prog_5_method_6_code 4 (some .boolean) { frames := n + 12, cells := 0, slots := 0, locals := n * 40 + 800 } [sm_R 43, sm_I p0] μ K) {K : Int32 → sm_Mem → Prop} {p0 : Int32} {μ : sm_Mem} (h : w_R_readAnd F K p0 μ) : sm_MI l ⟨"SnowMoney$Reader", "readAnd", "(I)Z"⟩ prog_5_method_5_code 4 (some .boolean) { frames := n + 1 + 12, cells := 0, slots := 0, locals := (n + 1) * 40 + 800 } [sm_R 43, sm_I p0] μ K := by
  refine sm_ofI (by decide +kernel) (fun _ => Nat.le_of_ble_eq_true rfl) ?_
  intro p e s m args below meth c A Q G C hR
  have B8 : ∀ (x2 : Int32) (x3 : Int32) (μ : sm_Mem), w_R_readAnd_8 F K p0 x2 x3 μ → sm_W p l e { frames := n + 1 + 12, cells := 0, slots := 0, locals := (n + 1) * 40 + 800 } s m args below meth c A Q G 4 0 0 8 [] [(0, sm_R 43), (1, sm_I p0), (2, sm_I x2), (3, sm_I x3)] μ := by
    intro x2 x3 μ h
    refine sm_lp2_sound (P := fun x2 x3 μ => sm_W p l e { frames := n + 1 + 12, cells := 0, slots := 0, locals := (n + 1) * 40 + 800 } s m args below meth c A Q G 4 0 0 8 [] [(0, sm_R 43), (1, sm_I p0), (2, sm_I x2), (3, sm_I x3)] μ) (fun J8 x2 x3 μ hJ8 h => ?_) h
    refine sr_iload_n C 3 rfl rfl d_R_readAnd_8 ?_
    refine sr_aload_n C 0 rfl rfl d_R_readAnd_9 ?_
    refine sr_getI C sm_F2 2 q_136 sm_l43 rfl (by decide) d_R_readAnd_10 ?_
    refine sr_icmp_ge C (tgt := 61) d_R_readAnd_13 (by decide) (fun c3 => ?_) (fun c3 => ?_)
    · replace h := Eq.mp (if_pos c3) h
      refine sr_iload_n C 2 rfl rfl d_R_readAnd_61 ?_
      obtain ⟨g4, h⟩ := h
      exact hR _ _ _ _ d_R_readAnd_62 (sm_narZ g4) h
    · replace h := Eq.mp (if_neg c3) h
      refine sr_iload_n C 2 rfl rfl d_R_readAnd_16 ?_
      refine sr_if_eq C (tgt := 61) d_R_readAnd_17 (by decide) (fun c5 => ?_) (fun c5 => ?_)
      · replace h := Eq.mp (if_pos c5) h
        refine sr_iload_n C 2 rfl rfl d_R_readAnd_61 ?_
        obtain ⟨g6, h⟩ := h
        exact hR _ _ _ _ d_R_readAnd_62 (sm_narZ g6) h
      · replace h := Eq.mp (if_neg c5) h
        refine sr_aload_n C 0 rfl rfl d_R_readAnd_20 ?_
        refine sr_callVI C [] (P_R_next l h) ok_30 sm_l43 rfl rfl rfl rfl ⟨by dsimp only; omega, by dsimp only; omega⟩ (Nat.le_of_ble_eq_true rfl) ⟨Nat.zero_le _, Nat.zero_le _⟩ d_R_readAnd_21 (fun r8 μ7 h => ?_)
        refine sr_bipush C (v := 38) d_R_readAnd_24 (by decide) ?_
        refine sr_icmp_ne C (tgt := 61) d_R_readAnd_26 (by decide) (fun c9 => ?_) (fun c9 => ?_)
        · replace h := Eq.mp (if_neg c9) h
          refine sr_iload_n C 2 rfl rfl d_R_readAnd_61 ?_
          obtain ⟨g10, h⟩ := h
          exact hR _ _ _ _ d_R_readAnd_62 (sm_narZ g10) h
        · replace h := Eq.mp (if_pos c9) h
          refine sr_aload_n C 0 rfl rfl d_R_readAnd_29 ?_
          refine sr_dup C rfl d_R_readAnd_30 ?_
          refine sr_getI C sm_F2 3 q_139 sm_l43 rfl (by decide) d_R_readAnd_31 ?_
          refine sr_iconst C (v := 1) d_R_readAnd_34 (by decide) ?_
          refine sr_iadd C d_R_readAnd_35 ?_
          refine sr_putI C sm_F2 3 q_139 sm_l43 rfl rfl (by decide) rfl d_R_readAnd_36 ?_
          replace h := h _ rfl
          refine sr_aload_n C 0 rfl rfl d_R_readAnd_39 ?_
          refine sr_iload_n C 1 rfl rfl d_R_readAnd_40 ?_
          refine sr_callVI C [sm_I _] (hF2 h) ok_32 sm_l43 rfl rfl rfl rfl ⟨by dsimp only; omega, by dsimp only; omega⟩ (Nat.le_of_ble_eq_true rfl) ⟨Nat.zero_le _, Nat.zero_le _⟩ d_R_readAnd_41 (fun r13 μ12 h => ?_)
          refine sr_istore_n C rfl (by decide) d_R_readAnd_44 ?_
          refine sr_aload_n C 1 rfl rfl d_R_readAnd_45 ?_
          refine sr_getR C sm_F2 0 q_140 sm_l43 (r := 44) rfl (by decide) d_R_readAnd_46 ?_
          refine sr_bipush C (v := 38) d_R_readAnd_49 (by decide) ?_
          refine sr_iconst C (v := 0) d_R_readAnd_51 (by decide) ?_
          refine sr_callVV C [sm_I _, sm_I _] (P_T_add l h) ok_31 sm_l44 rfl rfl rfl rfl ⟨by dsimp only; omega, by dsimp only; omega⟩ (Nat.le_of_ble_eq_true rfl) ⟨Nat.zero_le _, Nat.zero_le _⟩ d_R_readAnd_52 (fun μ14 h => ?_)
          refine sr_iinc C 3 rfl (by decide) d_R_readAnd_55 rfl ?_
          refine sr_goto C (tgt := 8) (by decide) d_R_readAnd_58 ?_
          refine sr_mask C [2, 3, 1, 0] rfl ?_
          exact hJ8 _ _ _ h
  refine sr_aload_n C 0 rfl rfl d_R_readAnd_0 ?_
  refine sr_iload_n C 1 rfl rfl d_R_readAnd_1 ?_
  refine sr_callVI C [sm_I _] (hF2 h) ok_32 sm_l43 rfl rfl rfl rfl ⟨by dsimp only; omega, by dsimp only; omega⟩ (Nat.le_of_ble_eq_true rfl) ⟨Nat.zero_le _, Nat.zero_le _⟩ d_R_readAnd_2 (fun r2 μ1 h => ?_)
  refine sr_istore_n C rfl (by decide) d_R_readAnd_5 ?_
  refine sr_iconst C (v := 0) d_R_readAnd_6 (by decide) ?_
  refine sr_istore_n C rfl (by decide) d_R_readAnd_7 ?_
  refine sr_mask C [2, 3, 1, 0] rfl ?_
  exact B8 _ _ _ h
theorem d_R_readComparison_0 : decode prog_5_method_6_code 0 = .ok (.aload_n 0, 1) := by decide +kernel
theorem d_R_readComparison_1 : decode prog_5_method_6_code 1 = .ok (.iload_n 1, 1) := by decide +kernel
theorem d_R_readComparison_2 : decode prog_5_method_6_code 2 = .ok (.invokevirtual 71, 3) := by decide +kernel
theorem d_R_readComparison_5 : decode prog_5_method_6_code 5 = .ok (.ifCond .ne 5, 3) := by decide +kernel
theorem d_R_readComparison_8 : decode prog_5_method_6_code 8 = .ok (.iconst 0, 1) := by decide +kernel
theorem d_R_readComparison_9 : decode prog_5_method_6_code 9 = .ok (.ireturn, 1) := by decide +kernel
theorem d_R_readComparison_10 : decode prog_5_method_6_code 10 = .ok (.aload_n 0, 1) := by decide +kernel
theorem d_R_readComparison_11 : decode prog_5_method_6_code 11 = .ok (.invokevirtual 60, 3) := by decide +kernel
theorem d_R_readComparison_14 : decode prog_5_method_6_code 14 = .ok (.istore_n 2, 1) := by decide +kernel
theorem d_R_readComparison_15 : decode prog_5_method_6_code 15 = .ok (.iload_n 2, 1) := by decide +kernel
theorem d_R_readComparison_16 : decode prog_5_method_6_code 16 = .ok (.bipush 60, 2) := by decide +kernel
theorem d_R_readComparison_18 : decode prog_5_method_6_code 18 = .ok (.if_icmp .eq 17, 3) := by decide +kernel
theorem d_R_readComparison_21 : decode prog_5_method_6_code 21 = .ok (.iload_n 2, 1) := by decide +kernel
theorem d_R_readComparison_22 : decode prog_5_method_6_code 22 = .ok (.bipush 61, 2) := by decide +kernel
theorem d_R_readComparison_24 : decode prog_5_method_6_code 24 = .ok (.if_icmp .eq 11, 3) := by decide +kernel
theorem d_R_readComparison_27 : decode prog_5_method_6_code 27 = .ok (.iload_n 2, 1) := by decide +kernel
theorem d_R_readComparison_28 : decode prog_5_method_6_code 28 = .ok (.bipush 62, 2) := by decide +kernel
theorem d_R_readComparison_30 : decode prog_5_method_6_code 30 = .ok (.if_icmp .eq 5, 3) := by decide +kernel
theorem d_R_readComparison_33 : decode prog_5_method_6_code 33 = .ok (.iconst 1, 1) := by decide +kernel
theorem d_R_readComparison_34 : decode prog_5_method_6_code 34 = .ok (.ireturn, 1) := by decide +kernel
theorem d_R_readComparison_35 : decode prog_5_method_6_code 35 = .ok (.aload_n 0, 1) := by decide +kernel
theorem d_R_readComparison_36 : decode prog_5_method_6_code 36 = .ok (.dup, 1) := by decide +kernel
theorem d_R_readComparison_37 : decode prog_5_method_6_code 37 = .ok (.getfield 47, 3) := by decide +kernel
theorem d_R_readComparison_40 : decode prog_5_method_6_code 40 = .ok (.iconst 1, 1) := by decide +kernel
theorem d_R_readComparison_41 : decode prog_5_method_6_code 41 = .ok (.iadd, 1) := by decide +kernel
theorem d_R_readComparison_42 : decode prog_5_method_6_code 42 = .ok (.putfield 47, 3) := by decide +kernel
theorem d_R_readComparison_45 : decode prog_5_method_6_code 45 = .ok (.aload_n 0, 1) := by decide +kernel
theorem d_R_readComparison_46 : decode prog_5_method_6_code 46 = .ok (.iload_n 1, 1) := by decide +kernel
theorem d_R_readComparison_47 : decode prog_5_method_6_code 47 = .ok (.invokevirtual 71, 3) := by decide +kernel
theorem d_R_readComparison_50 : decode prog_5_method_6_code 50 = .ok (.istore_n 3, 1) := by decide +kernel
theorem d_R_readComparison_51 : decode prog_5_method_6_code 51 = .ok (.aload_n 0, 1) := by decide +kernel
theorem d_R_readComparison_52 : decode prog_5_method_6_code 52 = .ok (.getfield 10, 3) := by decide +kernel
theorem d_R_readComparison_55 : decode prog_5_method_6_code 55 = .ok (.iload_n 2, 1) := by decide +kernel
theorem d_R_readComparison_56 : decode prog_5_method_6_code 56 = .ok (.iconst 0, 1) := by decide +kernel
theorem d_R_readComparison_57 : decode prog_5_method_6_code 57 = .ok (.invokevirtual 64, 3) := by decide +kernel
theorem d_R_readComparison_60 : decode prog_5_method_6_code 60 = .ok (.iload_n 3, 1) := by decide +kernel
theorem d_R_readComparison_61 : decode prog_5_method_6_code 61 = .ok (.ireturn, 1) := by decide +kernel
def w_R_readComparison_35 (F : Nat → (Int32 → sm_Mem → Prop) → Int32 → sm_Mem → Prop) (K : Int32 → sm_Mem → Prop) (p0 : Int32) (x2 : Int32) (μ : sm_Mem) : Prop := ∀ μ7 : sm_Mem, μ7 = sm_st μ 43 3 ((μ 43 3) + 1) → F 3 (fun r9 μ8 => w_T_add (fun μ10 => (r9 = 0 ∨ r9 = 1) ∧ K r9 μ10) 44 x2 0 μ8) p0 μ7
def w_R_readComparison (F : Nat → (Int32 → sm_Mem → Prop) → Int32 → sm_Mem → Prop) (K : Int32 → sm_Mem → Prop) (p0 : Int32) (μ : sm_Mem) : Prop := F 3 (fun r2 μ1 => if r2 = 0 then K 0 μ1 else w_R_next (fun r5 μ4 => if r5 = 60 then w_R_readComparison_35 F K p0 r5 μ4 else (if r5 = 61 then w_R_readComparison_35 F K p0 r5 μ4 else (if r5 = 62 then w_R_readComparison_35 F K p0 r5 μ4 else K 1 μ4))) μ1) p0 μ
set_option maxHeartbeats 4000000 in
set_option maxRecDepth 100000 in
theorem P_R_readComparison (l : Launch) {F : Nat → (Int32 → sm_Mem → Prop) → Int32 → sm_Mem → Prop} {n : Nat} (hF3 : ∀ {K : Int32 → sm_Mem → Prop} {p0 : Int32} {μ : sm_Mem}, F 3 K p0 μ → sm_MI l ⟨"SnowMoney$Reader", "readSum", "(I)Z"⟩ prog_5_method_7_code 5 (some .boolean) { frames := n + 12, cells := 0, slots := 0, locals := n * 40 + 800 } [sm_R 43, sm_I p0] μ K) {K : Int32 → sm_Mem → Prop} {p0 : Int32} {μ : sm_Mem} (h : w_R_readComparison F K p0 μ) : sm_MI l ⟨"SnowMoney$Reader", "readComparison", "(I)Z"⟩ prog_5_method_6_code 4 (some .boolean) { frames := n + 1 + 12, cells := 0, slots := 0, locals := (n + 1) * 40 + 800 } [sm_R 43, sm_I p0] μ K := by
  refine sm_ofI (by decide +kernel) (fun _ => Nat.le_of_ble_eq_true rfl) ?_
  intro p e s m args below meth c A Q G C hR
  have B35 : ∀ (x2 : Int32) (μ : sm_Mem), w_R_readComparison_35 F K p0 x2 μ → sm_W p l e { frames := n + 1 + 12, cells := 0, slots := 0, locals := (n + 1) * 40 + 800 } s m args below meth c A Q G 4 0 0 35 [] [(0, sm_R 43), (1, sm_I p0), (2, sm_I x2)] μ := by
    intro x2 μ h
    refine sr_aload_n C 0 rfl rfl d_R_readComparison_35 ?_
    refine sr_dup C rfl d_R_readComparison_36 ?_
    refine sr_getI C sm_F2 3 q_139 sm_l43 rfl (by decide) d_R_readComparison_37 ?_
    refine sr_iconst C (v := 1) d_R_readComparison_40 (by decide) ?_
    refine sr_iadd C d_R_readComparison_41 ?_
    refine sr_putI C sm_F2 3 q_139 sm_l43 rfl rfl (by decide) rfl d_R_readComparison_42 ?_
    replace h := h _ rfl
    refine sr_aload_n C 0 rfl rfl d_R_readComparison_45 ?_
    refine sr_iload_n C 1 rfl rfl d_R_readComparison_46 ?_
    refine sr_callVI C [sm_I _] (hF3 h) ok_33 sm_l43 rfl rfl rfl rfl ⟨by dsimp only; omega, by dsimp only; omega⟩ (Nat.le_of_ble_eq_true rfl) ⟨Nat.zero_le _, Nat.zero_le _⟩ d_R_readComparison_47 (fun r9 μ8 h => ?_)
    refine sr_istore_n C rfl (by decide) d_R_readComparison_50 ?_
    refine sr_aload_n C 1 rfl rfl d_R_readComparison_51 ?_
    refine sr_getR C sm_F2 0 q_140 sm_l43 (r := 44) rfl (by decide) d_R_readComparison_52 ?_
    refine sr_iload_n C 3 rfl rfl d_R_readComparison_55 ?_
    refine sr_iconst C (v := 0) d_R_readComparison_56 (by decide) ?_
    refine sr_callVV C [sm_I _, sm_I _] (P_T_add l h) ok_31 sm_l44 rfl rfl rfl rfl ⟨by dsimp only; omega, by dsimp only; omega⟩ (Nat.le_of_ble_eq_true rfl) ⟨Nat.zero_le _, Nat.zero_le _⟩ d_R_readComparison_57 (fun μ10 h => ?_)
    refine sr_iload_n C 0 rfl rfl d_R_readComparison_60 ?_
    obtain ⟨g11, h⟩ := h
    exact hR _ _ _ _ d_R_readComparison_61 (sm_narZ g11) h
  refine sr_aload_n C 0 rfl rfl d_R_readComparison_0 ?_
  refine sr_iload_n C 1 rfl rfl d_R_readComparison_1 ?_
  refine sr_callVI C [sm_I _] (hF3 h) ok_33 sm_l43 rfl rfl rfl rfl ⟨by dsimp only; omega, by dsimp only; omega⟩ (Nat.le_of_ble_eq_true rfl) ⟨Nat.zero_le _, Nat.zero_le _⟩ d_R_readComparison_2 (fun r2 μ1 h => ?_)
  refine sr_if_ne C (tgt := 10) d_R_readComparison_5 (by decide) (fun c3 => ?_) (fun c3 => ?_)
  · replace h := Eq.mp (if_neg c3) h
    refine sr_aload_n C 0 rfl rfl d_R_readComparison_10 ?_
    refine sr_callVI C [] (P_R_next l h) ok_30 sm_l43 rfl rfl rfl rfl ⟨by dsimp only; omega, by dsimp only; omega⟩ (Nat.le_of_ble_eq_true rfl) ⟨Nat.zero_le _, Nat.zero_le _⟩ d_R_readComparison_11 (fun r5 μ4 h => ?_)
    refine sr_istore_n C rfl (by decide) d_R_readComparison_14 ?_
    refine sr_iload_n C 0 rfl rfl d_R_readComparison_15 ?_
    refine sr_bipush C (v := 60) d_R_readComparison_16 (by decide) ?_
    refine sr_icmp_eq C (tgt := 35) d_R_readComparison_18 (by decide) (fun c6 => ?_) (fun c6 => ?_)
    · replace h := Eq.mp (if_pos c6) h
      refine sr_mask C [1, 2, 0] rfl ?_
      exact B35 _ _ h
    · replace h := Eq.mp (if_neg c6) h
      refine sr_iload_n C 0 rfl rfl d_R_readComparison_21 ?_
      refine sr_bipush C (v := 61) d_R_readComparison_22 (by decide) ?_
      refine sr_icmp_eq C (tgt := 35) d_R_readComparison_24 (by decide) (fun c12 => ?_) (fun c12 => ?_)
      · replace h := Eq.mp (if_pos c12) h
        refine sr_mask C [1, 2, 0] rfl ?_
        exact B35 _ _ h
      · replace h := Eq.mp (if_neg c12) h
        refine sr_iload_n C 0 rfl rfl d_R_readComparison_27 ?_
        refine sr_bipush C (v := 62) d_R_readComparison_28 (by decide) ?_
        refine sr_icmp_eq C (tgt := 35) d_R_readComparison_30 (by decide) (fun c13 => ?_) (fun c13 => ?_)
        · replace h := Eq.mp (if_pos c13) h
          refine sr_mask C [1, 2, 0] rfl ?_
          exact B35 _ _ h
        · replace h := Eq.mp (if_neg c13) h
          refine sr_iconst C (v := 1) d_R_readComparison_33 (by decide) ?_
          exact hR _ _ _ _ d_R_readComparison_34 rfl h
  · replace h := Eq.mp (if_pos c3) h
    refine sr_iconst C (v := 0) d_R_readComparison_8 (by decide) ?_
    exact hR _ _ _ _ d_R_readComparison_9 rfl h
theorem d_R_readSum_0 : decode prog_5_method_7_code 0 = .ok (.aload_n 0, 1) := by decide +kernel
theorem d_R_readSum_1 : decode prog_5_method_7_code 1 = .ok (.iload_n 1, 1) := by decide +kernel
theorem d_R_readSum_2 : decode prog_5_method_7_code 2 = .ok (.invokevirtual 74, 3) := by decide +kernel
theorem d_R_readSum_5 : decode prog_5_method_7_code 5 = .ok (.istore_n 2, 1) := by decide +kernel
theorem d_R_readSum_6 : decode prog_5_method_7_code 6 = .ok (.iconst 0, 1) := by decide +kernel
theorem d_R_readSum_7 : decode prog_5_method_7_code 7 = .ok (.istore_n 3, 1) := by decide +kernel
theorem d_R_readSum_8 : decode prog_5_method_7_code 8 = .ok (.iload_n 3, 1) := by decide +kernel
theorem d_R_readSum_9 : decode prog_5_method_7_code 9 = .ok (.aload_n 0, 1) := by decide +kernel
theorem d_R_readSum_10 : decode prog_5_method_7_code 10 = .ok (.getfield 37, 3) := by decide +kernel
theorem d_R_readSum_13 : decode prog_5_method_7_code 13 = .ok (.if_icmp .ge 63, 3) := by decide +kernel
theorem d_R_readSum_16 : decode prog_5_method_7_code 16 = .ok (.iload_n 2, 1) := by decide +kernel
theorem d_R_readSum_17 : decode prog_5_method_7_code 17 = .ok (.ifCond .eq 59, 3) := by decide +kernel
theorem d_R_readSum_20 : decode prog_5_method_7_code 20 = .ok (.aload_n 0, 1) := by decide +kernel
theorem d_R_readSum_21 : decode prog_5_method_7_code 21 = .ok (.invokevirtual 60, 3) := by decide +kernel
theorem d_R_readSum_24 : decode prog_5_method_7_code 24 = .ok (.bipush 43, 2) := by decide +kernel
theorem d_R_readSum_26 : decode prog_5_method_7_code 26 = .ok (.if_icmp .eq 12, 3) := by decide +kernel
theorem d_R_readSum_29 : decode prog_5_method_7_code 29 = .ok (.aload_n 0, 1) := by decide +kernel
theorem d_R_readSum_30 : decode prog_5_method_7_code 30 = .ok (.invokevirtual 60, 3) := by decide +kernel
theorem d_R_readSum_33 : decode prog_5_method_7_code 33 = .ok (.bipush 45, 2) := by decide +kernel
theorem d_R_readSum_35 : decode prog_5_method_7_code 35 = .ok (.if_icmp .ne 41, 3) := by decide +kernel
theorem d_R_readSum_38 : decode prog_5_method_7_code 38 = .ok (.aload_n 0, 1) := by decide +kernel
theorem d_R_readSum_39 : decode prog_5_method_7_code 39 = .ok (.invokevirtual 60, 3) := by decide +kernel
theorem d_R_readSum_42 : decode prog_5_method_7_code 42 = .ok (.istore 4, 2) := by decide +kernel
theorem d_R_readSum_44 : decode prog_5_method_7_code 44 = .ok (.aload_n 0, 1) := by decide +kernel
theorem d_R_readSum_45 : decode prog_5_method_7_code 45 = .ok (.dup, 1) := by decide +kernel
theorem d_R_readSum_46 : decode prog_5_method_7_code 46 = .ok (.getfield 47, 3) := by decide +kernel
theorem d_R_readSum_49 : decode prog_5_method_7_code 49 = .ok (.iconst 1, 1) := by decide +kernel
theorem d_R_readSum_50 : decode prog_5_method_7_code 50 = .ok (.iadd, 1) := by decide +kernel
theorem d_R_readSum_51 : decode prog_5_method_7_code 51 = .ok (.putfield 47, 3) := by decide +kernel
theorem d_R_readSum_54 : decode prog_5_method_7_code 54 = .ok (.aload_n 0, 1) := by decide +kernel
theorem d_R_readSum_55 : decode prog_5_method_7_code 55 = .ok (.iload_n 1, 1) := by decide +kernel
theorem d_R_readSum_56 : decode prog_5_method_7_code 56 = .ok (.invokevirtual 74, 3) := by decide +kernel
theorem d_R_readSum_59 : decode prog_5_method_7_code 59 = .ok (.istore_n 2, 1) := by decide +kernel
theorem d_R_readSum_60 : decode prog_5_method_7_code 60 = .ok (.aload_n 0, 1) := by decide +kernel
theorem d_R_readSum_61 : decode prog_5_method_7_code 61 = .ok (.getfield 10, 3) := by decide +kernel
theorem d_R_readSum_64 : decode prog_5_method_7_code 64 = .ok (.iload 4, 2) := by decide +kernel
theorem d_R_readSum_66 : decode prog_5_method_7_code 66 = .ok (.iconst 0, 1) := by decide +kernel
theorem d_R_readSum_67 : decode prog_5_method_7_code 67 = .ok (.invokevirtual 64, 3) := by decide +kernel
theorem d_R_readSum_70 : decode prog_5_method_7_code 70 = .ok (.iinc 3 1, 3) := by decide +kernel
theorem d_R_readSum_73 : decode prog_5_method_7_code 73 = .ok (.goto (-65), 3) := by decide +kernel
theorem d_R_readSum_76 : decode prog_5_method_7_code 76 = .ok (.iload_n 2, 1) := by decide +kernel
theorem d_R_readSum_77 : decode prog_5_method_7_code 77 = .ok (.ireturn, 1) := by decide +kernel
def w_R_readSum_38 (F : Nat → (Int32 → sm_Mem → Prop) → Int32 → sm_Mem → Prop) (K : Int32 → sm_Mem → Prop) (J8 : Int32 → Int32 → sm_Mem → Prop) (p0 : Int32) (x3 : Int32) (μ : sm_Mem) : Prop := w_R_next (fun r11 μ10 => ∀ μ12 : sm_Mem, μ12 = sm_st μ10 43 3 ((μ10 43 3) + 1) → F 4 (fun r14 μ13 => w_T_add (fun μ15 => J8 r14 (x3 + 1) μ15) 44 r11 0 μ13) p0 μ12) μ
def w_R_readSum_8 (F : Nat → (Int32 → sm_Mem → Prop) → Int32 → sm_Mem → Prop) (K : Int32 → sm_Mem → Prop) (p0 : Int32) (x2 : Int32) (x3 : Int32) (μ : sm_Mem) : Prop := sm_lp2 (fun J8 x2 x3 μ => if (μ 43 2) ≤ x3 then ((x2 = 0 ∨ x2 = 1) ∧ K x2 μ) else (if x2 = 0 then ((x2 = 0 ∨ x2 = 1) ∧ K x2 μ) else (w_R_next (fun r8 μ7 => if r8 = 43 then w_R_readSum_38 F K J8 p0 x3 μ7 else (w_R_next (fun r17 μ16 => if r17 = 45 then w_R_readSum_38 F K J8 p0 x3 μ16 else ((x2 = 0 ∨ x2 = 1) ∧ K x2 μ16)) μ7)) μ))) x2 x3 μ
def w_R_readSum (F : Nat → (Int32 → sm_Mem → Prop) → Int32 → sm_Mem → Prop) (K : Int32 → sm_Mem → Prop) (p0 : Int32) (μ : sm_Mem) : Prop := F 4 (fun r2 μ1 => w_R_readSum_8 F K p0 r2 0 μ1) p0 μ
set_option maxHeartbeats 4000000 in
set_option maxRecDepth 100000 in
theorem P_R_readSum (l : Launch) {F : Nat → (Int32 → sm_Mem → Prop) → Int32 → sm_Mem → Prop} {n : Nat} (hF4 : ∀ {K : Int32 → sm_Mem → Prop} {p0 : Int32} {μ : sm_Mem}, F 4 K p0 μ → sm_MI l ⟨"SnowMoney$Reader", "readProduct", "(I)Z"⟩ prog_5_method_8_code 5 (some .boolean) { frames := n + 12, cells := 0, slots := 0, locals := n * 40 + 800 } [sm_R 43, sm_I p0] μ K) {K : Int32 → sm_Mem → Prop} {p0 : Int32} {μ : sm_Mem} (h : w_R_readSum F K p0 μ) : sm_MI l ⟨"SnowMoney$Reader", "readSum", "(I)Z"⟩ prog_5_method_7_code 5 (some .boolean) { frames := n + 1 + 12, cells := 0, slots := 0, locals := (n + 1) * 40 + 800 } [sm_R 43, sm_I p0] μ K := by
  refine sm_ofI (by decide +kernel) (fun _ => Nat.le_of_ble_eq_true rfl) ?_
  intro p e s m args below meth c A Q G C hR
  have B38 : ∀ (x3 : Int32) (J8 : Int32 → Int32 → sm_Mem → Prop) (hJ8 : ∀ (x2 : Int32) (x3 : Int32) (μ : sm_Mem), J8 x2 x3 μ → sm_W p l e { frames := n + 1 + 12, cells := 0, slots := 0, locals := (n + 1) * 40 + 800 } s m args below meth c A Q G 5 0 0 8 [] [(0, sm_R 43), (1, sm_I p0), (2, sm_I x2), (3, sm_I x3)] μ) (μ : sm_Mem), w_R_readSum_38 F K J8 p0 x3 μ → sm_W p l e { frames := n + 1 + 12, cells := 0, slots := 0, locals := (n + 1) * 40 + 800 } s m args below meth c A Q G 5 0 0 38 [] [(0, sm_R 43), (1, sm_I p0), (3, sm_I x3)] μ := by
    intro x3 J8 hJ8 μ h
    refine sr_aload_n C 0 rfl rfl d_R_readSum_38 ?_
    refine sr_callVI C [] (P_R_next l h) ok_30 sm_l43 rfl rfl rfl rfl ⟨by dsimp only; omega, by dsimp only; omega⟩ (Nat.le_of_ble_eq_true rfl) ⟨Nat.zero_le _, Nat.zero_le _⟩ d_R_readSum_39 (fun r11 μ10 h => ?_)
    refine sr_istore C (by decide) d_R_readSum_42 ?_
    refine sr_aload_n C 1 rfl rfl d_R_readSum_44 ?_
    refine sr_dup C rfl d_R_readSum_45 ?_
    refine sr_getI C sm_F2 3 q_139 sm_l43 rfl (by decide) d_R_readSum_46 ?_
    refine sr_iconst C (v := 1) d_R_readSum_49 (by decide) ?_
    refine sr_iadd C d_R_readSum_50 ?_
    refine sr_putI C sm_F2 3 q_139 sm_l43 rfl rfl (by decide) rfl d_R_readSum_51 ?_
    replace h := h _ rfl
    refine sr_aload_n C 1 rfl rfl d_R_readSum_54 ?_
    refine sr_iload_n C 2 rfl rfl d_R_readSum_55 ?_
    refine sr_callVI C [sm_I _] (hF4 h) ok_34 sm_l43 rfl rfl rfl rfl ⟨by dsimp only; omega, by dsimp only; omega⟩ (Nat.le_of_ble_eq_true rfl) ⟨Nat.zero_le _, Nat.zero_le _⟩ d_R_readSum_56 (fun r14 μ13 h => ?_)
    refine sr_istore_n C rfl (by decide) d_R_readSum_59 ?_
    refine sr_aload_n C 2 rfl rfl d_R_readSum_60 ?_
    refine sr_getR C sm_F2 0 q_140 sm_l43 (r := 44) rfl (by decide) d_R_readSum_61 ?_
    refine sr_iload C 1 rfl d_R_readSum_64 ?_
    refine sr_iconst C (v := 0) d_R_readSum_66 (by decide) ?_
    refine sr_callVV C [sm_I _, sm_I _] (P_T_add l h) ok_31 sm_l44 rfl rfl rfl rfl ⟨by dsimp only; omega, by dsimp only; omega⟩ (Nat.le_of_ble_eq_true rfl) ⟨Nat.zero_le _, Nat.zero_le _⟩ d_R_readSum_67 (fun μ15 h => ?_)
    refine sr_iinc C 4 rfl (by decide) d_R_readSum_70 rfl ?_
    refine sr_goto C (tgt := 8) (by decide) d_R_readSum_73 ?_
    refine sr_mask C [3, 4, 1, 0] rfl ?_
    exact hJ8 _ _ _ h
  have B8 : ∀ (x2 : Int32) (x3 : Int32) (μ : sm_Mem), w_R_readSum_8 F K p0 x2 x3 μ → sm_W p l e { frames := n + 1 + 12, cells := 0, slots := 0, locals := (n + 1) * 40 + 800 } s m args below meth c A Q G 5 0 0 8 [] [(0, sm_R 43), (1, sm_I p0), (2, sm_I x2), (3, sm_I x3)] μ := by
    intro x2 x3 μ h
    refine sm_lp2_sound (P := fun x2 x3 μ => sm_W p l e { frames := n + 1 + 12, cells := 0, slots := 0, locals := (n + 1) * 40 + 800 } s m args below meth c A Q G 5 0 0 8 [] [(0, sm_R 43), (1, sm_I p0), (2, sm_I x2), (3, sm_I x3)] μ) (fun J8 x2 x3 μ hJ8 h => ?_) h
    refine sr_iload_n C 3 rfl rfl d_R_readSum_8 ?_
    refine sr_aload_n C 0 rfl rfl d_R_readSum_9 ?_
    refine sr_getI C sm_F2 2 q_136 sm_l43 rfl (by decide) d_R_readSum_10 ?_
    refine sr_icmp_ge C (tgt := 76) d_R_readSum_13 (by decide) (fun c3 => ?_) (fun c3 => ?_)
    · replace h := Eq.mp (if_pos c3) h
      refine sr_iload_n C 2 rfl rfl d_R_readSum_76 ?_
      obtain ⟨g4, h⟩ := h
      exact hR _ _ _ _ d_R_readSum_77 (sm_narZ g4) h
    · replace h := Eq.mp (if_neg c3) h
      refine sr_iload_n C 2 rfl rfl d_R_readSum_16 ?_
      refine sr_if_eq C (tgt := 76) d_R_readSum_17 (by decide) (fun c5 => ?_) (fun c5 => ?_)
      · replace h := Eq.mp (if_pos c5) h
        refine sr_iload_n C 2 rfl rfl d_R_readSum_76 ?_
        obtain ⟨g6, h⟩ := h
        exact hR _ _ _ _ d_R_readSum_77 (sm_narZ g6) h
      · replace h := Eq.mp (if_neg c5) h
        refine sr_aload_n C 0 rfl rfl d_R_readSum_20 ?_
        refine sr_callVI C [] (P_R_next l h) ok_30 sm_l43 rfl rfl rfl rfl ⟨by dsimp only; omega, by dsimp only; omega⟩ (Nat.le_of_ble_eq_true rfl) ⟨Nat.zero_le _, Nat.zero_le _⟩ d_R_readSum_21 (fun r8 μ7 h => ?_)
        refine sr_bipush C (v := 43) d_R_readSum_24 (by decide) ?_
        refine sr_icmp_eq C (tgt := 38) d_R_readSum_26 (by decide) (fun c9 => ?_) (fun c9 => ?_)
        · replace h := Eq.mp (if_pos c9) h
          refine sr_mask C [0, 1, 3] rfl ?_
          exact B38 _ _ hJ8 _ h
        · replace h := Eq.mp (if_neg c9) h
          refine sr_aload_n C 0 rfl rfl d_R_readSum_29 ?_
          refine sr_callVI C [] (P_R_next l h) ok_30 sm_l43 rfl rfl rfl rfl ⟨by dsimp only; omega, by dsimp only; omega⟩ (Nat.le_of_ble_eq_true rfl) ⟨Nat.zero_le _, Nat.zero_le _⟩ d_R_readSum_30 (fun r17 μ16 h => ?_)
          refine sr_bipush C (v := 45) d_R_readSum_33 (by decide) ?_
          refine sr_icmp_ne C (tgt := 76) d_R_readSum_35 (by decide) (fun c18 => ?_) (fun c18 => ?_)
          · replace h := Eq.mp (if_neg c18) h
            refine sr_iload_n C 2 rfl rfl d_R_readSum_76 ?_
            obtain ⟨g19, h⟩ := h
            exact hR _ _ _ _ d_R_readSum_77 (sm_narZ g19) h
          · replace h := Eq.mp (if_pos c18) h
            refine sr_mask C [0, 1, 3] rfl ?_
            exact B38 _ _ hJ8 _ h
  refine sr_aload_n C 0 rfl rfl d_R_readSum_0 ?_
  refine sr_iload_n C 1 rfl rfl d_R_readSum_1 ?_
  refine sr_callVI C [sm_I _] (hF4 h) ok_34 sm_l43 rfl rfl rfl rfl ⟨by dsimp only; omega, by dsimp only; omega⟩ (Nat.le_of_ble_eq_true rfl) ⟨Nat.zero_le _, Nat.zero_le _⟩ d_R_readSum_2 (fun r2 μ1 h => ?_)
  refine sr_istore_n C rfl (by decide) d_R_readSum_5 ?_
  refine sr_iconst C (v := 0) d_R_readSum_6 (by decide) ?_
  refine sr_istore_n C rfl (by decide) d_R_readSum_7 ?_
  refine sr_mask C [2, 3, 1, 0] rfl ?_
  exact B8 _ _ _ h
theorem d_R_readProduct_0 : decode prog_5_method_8_code 0 = .ok (.aload_n 0, 1) := by decide +kernel
theorem d_R_readProduct_1 : decode prog_5_method_8_code 1 = .ok (.iload_n 1, 1) := by decide +kernel
theorem d_R_readProduct_2 : decode prog_5_method_8_code 2 = .ok (.invokevirtual 77, 3) := by decide +kernel
theorem d_R_readProduct_5 : decode prog_5_method_8_code 5 = .ok (.istore_n 2, 1) := by decide +kernel
theorem d_R_readProduct_6 : decode prog_5_method_8_code 6 = .ok (.iconst 0, 1) := by decide +kernel
theorem d_R_readProduct_7 : decode prog_5_method_8_code 7 = .ok (.istore_n 3, 1) := by decide +kernel
theorem d_R_readProduct_8 : decode prog_5_method_8_code 8 = .ok (.iload_n 3, 1) := by decide +kernel
theorem d_R_readProduct_9 : decode prog_5_method_8_code 9 = .ok (.aload_n 0, 1) := by decide +kernel
theorem d_R_readProduct_10 : decode prog_5_method_8_code 10 = .ok (.getfield 37, 3) := by decide +kernel
theorem d_R_readProduct_13 : decode prog_5_method_8_code 13 = .ok (.if_icmp .ge 72, 3) := by decide +kernel
theorem d_R_readProduct_16 : decode prog_5_method_8_code 16 = .ok (.iload_n 2, 1) := by decide +kernel
theorem d_R_readProduct_17 : decode prog_5_method_8_code 17 = .ok (.ifCond .eq 68, 3) := by decide +kernel
theorem d_R_readProduct_20 : decode prog_5_method_8_code 20 = .ok (.aload_n 0, 1) := by decide +kernel
theorem d_R_readProduct_21 : decode prog_5_method_8_code 21 = .ok (.invokevirtual 60, 3) := by decide +kernel
theorem d_R_readProduct_24 : decode prog_5_method_8_code 24 = .ok (.bipush 42, 2) := by decide +kernel
theorem d_R_readProduct_26 : decode prog_5_method_8_code 26 = .ok (.if_icmp .eq 21, 3) := by decide +kernel
theorem d_R_readProduct_29 : decode prog_5_method_8_code 29 = .ok (.aload_n 0, 1) := by decide +kernel
theorem d_R_readProduct_30 : decode prog_5_method_8_code 30 = .ok (.invokevirtual 60, 3) := by decide +kernel
theorem d_R_readProduct_33 : decode prog_5_method_8_code 33 = .ok (.bipush 47, 2) := by decide +kernel
theorem d_R_readProduct_35 : decode prog_5_method_8_code 35 = .ok (.if_icmp .eq 12, 3) := by decide +kernel
theorem d_R_readProduct_38 : decode prog_5_method_8_code 38 = .ok (.aload_n 0, 1) := by decide +kernel
theorem d_R_readProduct_39 : decode prog_5_method_8_code 39 = .ok (.invokevirtual 60, 3) := by decide +kernel
theorem d_R_readProduct_42 : decode prog_5_method_8_code 42 = .ok (.bipush 37, 2) := by decide +kernel
theorem d_R_readProduct_44 : decode prog_5_method_8_code 44 = .ok (.if_icmp .ne 41, 3) := by decide +kernel
theorem d_R_readProduct_47 : decode prog_5_method_8_code 47 = .ok (.aload_n 0, 1) := by decide +kernel
theorem d_R_readProduct_48 : decode prog_5_method_8_code 48 = .ok (.invokevirtual 60, 3) := by decide +kernel
theorem d_R_readProduct_51 : decode prog_5_method_8_code 51 = .ok (.istore 4, 2) := by decide +kernel
theorem d_R_readProduct_53 : decode prog_5_method_8_code 53 = .ok (.aload_n 0, 1) := by decide +kernel
theorem d_R_readProduct_54 : decode prog_5_method_8_code 54 = .ok (.dup, 1) := by decide +kernel
theorem d_R_readProduct_55 : decode prog_5_method_8_code 55 = .ok (.getfield 47, 3) := by decide +kernel
theorem d_R_readProduct_58 : decode prog_5_method_8_code 58 = .ok (.iconst 1, 1) := by decide +kernel
theorem d_R_readProduct_59 : decode prog_5_method_8_code 59 = .ok (.iadd, 1) := by decide +kernel
theorem d_R_readProduct_60 : decode prog_5_method_8_code 60 = .ok (.putfield 47, 3) := by decide +kernel
theorem d_R_readProduct_63 : decode prog_5_method_8_code 63 = .ok (.aload_n 0, 1) := by decide +kernel
theorem d_R_readProduct_64 : decode prog_5_method_8_code 64 = .ok (.iload_n 1, 1) := by decide +kernel
theorem d_R_readProduct_65 : decode prog_5_method_8_code 65 = .ok (.invokevirtual 77, 3) := by decide +kernel
theorem d_R_readProduct_68 : decode prog_5_method_8_code 68 = .ok (.istore_n 2, 1) := by decide +kernel
theorem d_R_readProduct_69 : decode prog_5_method_8_code 69 = .ok (.aload_n 0, 1) := by decide +kernel
theorem d_R_readProduct_70 : decode prog_5_method_8_code 70 = .ok (.getfield 10, 3) := by decide +kernel
theorem d_R_readProduct_73 : decode prog_5_method_8_code 73 = .ok (.iload 4, 2) := by decide +kernel
theorem d_R_readProduct_75 : decode prog_5_method_8_code 75 = .ok (.iconst 0, 1) := by decide +kernel
theorem d_R_readProduct_76 : decode prog_5_method_8_code 76 = .ok (.invokevirtual 64, 3) := by decide +kernel
theorem d_R_readProduct_79 : decode prog_5_method_8_code 79 = .ok (.iinc 3 1, 3) := by decide +kernel
theorem d_R_readProduct_82 : decode prog_5_method_8_code 82 = .ok (.goto (-74), 3) := by decide +kernel
theorem d_R_readProduct_85 : decode prog_5_method_8_code 85 = .ok (.iload_n 2, 1) := by decide +kernel
theorem d_R_readProduct_86 : decode prog_5_method_8_code 86 = .ok (.ireturn, 1) := by decide +kernel
def w_R_readProduct_47 (F : Nat → (Int32 → sm_Mem → Prop) → Int32 → sm_Mem → Prop) (K : Int32 → sm_Mem → Prop) (J8 : Int32 → Int32 → sm_Mem → Prop) (p0 : Int32) (x3 : Int32) (μ : sm_Mem) : Prop := w_R_next (fun r11 μ10 => ∀ μ12 : sm_Mem, μ12 = sm_st μ10 43 3 ((μ10 43 3) + 1) → F 5 (fun r14 μ13 => w_T_add (fun μ15 => J8 r14 (x3 + 1) μ15) 44 r11 0 μ13) p0 μ12) μ
def w_R_readProduct_8 (F : Nat → (Int32 → sm_Mem → Prop) → Int32 → sm_Mem → Prop) (K : Int32 → sm_Mem → Prop) (p0 : Int32) (x2 : Int32) (x3 : Int32) (μ : sm_Mem) : Prop := sm_lp2 (fun J8 x2 x3 μ => if (μ 43 2) ≤ x3 then ((x2 = 0 ∨ x2 = 1) ∧ K x2 μ) else (if x2 = 0 then ((x2 = 0 ∨ x2 = 1) ∧ K x2 μ) else (w_R_next (fun r8 μ7 => if r8 = 42 then w_R_readProduct_47 F K J8 p0 x3 μ7 else (w_R_next (fun r17 μ16 => if r17 = 47 then w_R_readProduct_47 F K J8 p0 x3 μ16 else (w_R_next (fun r20 μ19 => if r20 = 37 then w_R_readProduct_47 F K J8 p0 x3 μ19 else ((x2 = 0 ∨ x2 = 1) ∧ K x2 μ19)) μ16)) μ7)) μ))) x2 x3 μ
def w_R_readProduct (F : Nat → (Int32 → sm_Mem → Prop) → Int32 → sm_Mem → Prop) (K : Int32 → sm_Mem → Prop) (p0 : Int32) (μ : sm_Mem) : Prop := F 5 (fun r2 μ1 => w_R_readProduct_8 F K p0 r2 0 μ1) p0 μ
set_option maxHeartbeats 4000000 in
set_option maxRecDepth 100000 in
theorem P_R_readProduct (l : Launch) {F : Nat → (Int32 → sm_Mem → Prop) → Int32 → sm_Mem → Prop} {n : Nat} (hF5 : ∀ {K : Int32 → sm_Mem → Prop} {p0 : Int32} {μ : sm_Mem}, F 5 K p0 μ → sm_MI l ⟨"SnowMoney$Reader", "readPart", "(I)Z"⟩ prog_5_method_9_code 4 (some .boolean) { frames := n + 12, cells := 0, slots := 0, locals := n * 40 + 800 } [sm_R 43, sm_I p0] μ K) {K : Int32 → sm_Mem → Prop} {p0 : Int32} {μ : sm_Mem} (h : w_R_readProduct F K p0 μ) : sm_MI l ⟨"SnowMoney$Reader", "readProduct", "(I)Z"⟩ prog_5_method_8_code 5 (some .boolean) { frames := n + 1 + 12, cells := 0, slots := 0, locals := (n + 1) * 40 + 800 } [sm_R 43, sm_I p0] μ K := by
  refine sm_ofI (by decide +kernel) (fun _ => Nat.le_of_ble_eq_true rfl) ?_
  intro p e s m args below meth c A Q G C hR
  have B47 : ∀ (x3 : Int32) (J8 : Int32 → Int32 → sm_Mem → Prop) (hJ8 : ∀ (x2 : Int32) (x3 : Int32) (μ : sm_Mem), J8 x2 x3 μ → sm_W p l e { frames := n + 1 + 12, cells := 0, slots := 0, locals := (n + 1) * 40 + 800 } s m args below meth c A Q G 5 0 0 8 [] [(0, sm_R 43), (1, sm_I p0), (2, sm_I x2), (3, sm_I x3)] μ) (μ : sm_Mem), w_R_readProduct_47 F K J8 p0 x3 μ → sm_W p l e { frames := n + 1 + 12, cells := 0, slots := 0, locals := (n + 1) * 40 + 800 } s m args below meth c A Q G 5 0 0 47 [] [(0, sm_R 43), (1, sm_I p0), (3, sm_I x3)] μ := by
    intro x3 J8 hJ8 μ h
    refine sr_aload_n C 0 rfl rfl d_R_readProduct_47 ?_
    refine sr_callVI C [] (P_R_next l h) ok_30 sm_l43 rfl rfl rfl rfl ⟨by dsimp only; omega, by dsimp only; omega⟩ (Nat.le_of_ble_eq_true rfl) ⟨Nat.zero_le _, Nat.zero_le _⟩ d_R_readProduct_48 (fun r11 μ10 h => ?_)
    refine sr_istore C (by decide) d_R_readProduct_51 ?_
    refine sr_aload_n C 1 rfl rfl d_R_readProduct_53 ?_
    refine sr_dup C rfl d_R_readProduct_54 ?_
    refine sr_getI C sm_F2 3 q_139 sm_l43 rfl (by decide) d_R_readProduct_55 ?_
    refine sr_iconst C (v := 1) d_R_readProduct_58 (by decide) ?_
    refine sr_iadd C d_R_readProduct_59 ?_
    refine sr_putI C sm_F2 3 q_139 sm_l43 rfl rfl (by decide) rfl d_R_readProduct_60 ?_
    replace h := h _ rfl
    refine sr_aload_n C 1 rfl rfl d_R_readProduct_63 ?_
    refine sr_iload_n C 2 rfl rfl d_R_readProduct_64 ?_
    refine sr_callVI C [sm_I _] (hF5 h) ok_35 sm_l43 rfl rfl rfl rfl ⟨by dsimp only; omega, by dsimp only; omega⟩ (Nat.le_of_ble_eq_true rfl) ⟨Nat.zero_le _, Nat.zero_le _⟩ d_R_readProduct_65 (fun r14 μ13 h => ?_)
    refine sr_istore_n C rfl (by decide) d_R_readProduct_68 ?_
    refine sr_aload_n C 2 rfl rfl d_R_readProduct_69 ?_
    refine sr_getR C sm_F2 0 q_140 sm_l43 (r := 44) rfl (by decide) d_R_readProduct_70 ?_
    refine sr_iload C 1 rfl d_R_readProduct_73 ?_
    refine sr_iconst C (v := 0) d_R_readProduct_75 (by decide) ?_
    refine sr_callVV C [sm_I _, sm_I _] (P_T_add l h) ok_31 sm_l44 rfl rfl rfl rfl ⟨by dsimp only; omega, by dsimp only; omega⟩ (Nat.le_of_ble_eq_true rfl) ⟨Nat.zero_le _, Nat.zero_le _⟩ d_R_readProduct_76 (fun μ15 h => ?_)
    refine sr_iinc C 4 rfl (by decide) d_R_readProduct_79 rfl ?_
    refine sr_goto C (tgt := 8) (by decide) d_R_readProduct_82 ?_
    refine sr_mask C [3, 4, 1, 0] rfl ?_
    exact hJ8 _ _ _ h
  have B8 : ∀ (x2 : Int32) (x3 : Int32) (μ : sm_Mem), w_R_readProduct_8 F K p0 x2 x3 μ → sm_W p l e { frames := n + 1 + 12, cells := 0, slots := 0, locals := (n + 1) * 40 + 800 } s m args below meth c A Q G 5 0 0 8 [] [(0, sm_R 43), (1, sm_I p0), (2, sm_I x2), (3, sm_I x3)] μ := by
    intro x2 x3 μ h
    refine sm_lp2_sound (P := fun x2 x3 μ => sm_W p l e { frames := n + 1 + 12, cells := 0, slots := 0, locals := (n + 1) * 40 + 800 } s m args below meth c A Q G 5 0 0 8 [] [(0, sm_R 43), (1, sm_I p0), (2, sm_I x2), (3, sm_I x3)] μ) (fun J8 x2 x3 μ hJ8 h => ?_) h
    refine sr_iload_n C 3 rfl rfl d_R_readProduct_8 ?_
    refine sr_aload_n C 0 rfl rfl d_R_readProduct_9 ?_
    refine sr_getI C sm_F2 2 q_136 sm_l43 rfl (by decide) d_R_readProduct_10 ?_
    refine sr_icmp_ge C (tgt := 85) d_R_readProduct_13 (by decide) (fun c3 => ?_) (fun c3 => ?_)
    · replace h := Eq.mp (if_pos c3) h
      refine sr_iload_n C 2 rfl rfl d_R_readProduct_85 ?_
      obtain ⟨g4, h⟩ := h
      exact hR _ _ _ _ d_R_readProduct_86 (sm_narZ g4) h
    · replace h := Eq.mp (if_neg c3) h
      refine sr_iload_n C 2 rfl rfl d_R_readProduct_16 ?_
      refine sr_if_eq C (tgt := 85) d_R_readProduct_17 (by decide) (fun c5 => ?_) (fun c5 => ?_)
      · replace h := Eq.mp (if_pos c5) h
        refine sr_iload_n C 2 rfl rfl d_R_readProduct_85 ?_
        obtain ⟨g6, h⟩ := h
        exact hR _ _ _ _ d_R_readProduct_86 (sm_narZ g6) h
      · replace h := Eq.mp (if_neg c5) h
        refine sr_aload_n C 0 rfl rfl d_R_readProduct_20 ?_
        refine sr_callVI C [] (P_R_next l h) ok_30 sm_l43 rfl rfl rfl rfl ⟨by dsimp only; omega, by dsimp only; omega⟩ (Nat.le_of_ble_eq_true rfl) ⟨Nat.zero_le _, Nat.zero_le _⟩ d_R_readProduct_21 (fun r8 μ7 h => ?_)
        refine sr_bipush C (v := 42) d_R_readProduct_24 (by decide) ?_
        refine sr_icmp_eq C (tgt := 47) d_R_readProduct_26 (by decide) (fun c9 => ?_) (fun c9 => ?_)
        · replace h := Eq.mp (if_pos c9) h
          refine sr_mask C [0, 1, 3] rfl ?_
          exact B47 _ _ hJ8 _ h
        · replace h := Eq.mp (if_neg c9) h
          refine sr_aload_n C 0 rfl rfl d_R_readProduct_29 ?_
          refine sr_callVI C [] (P_R_next l h) ok_30 sm_l43 rfl rfl rfl rfl ⟨by dsimp only; omega, by dsimp only; omega⟩ (Nat.le_of_ble_eq_true rfl) ⟨Nat.zero_le _, Nat.zero_le _⟩ d_R_readProduct_30 (fun r17 μ16 h => ?_)
          refine sr_bipush C (v := 47) d_R_readProduct_33 (by decide) ?_
          refine sr_icmp_eq C (tgt := 47) d_R_readProduct_35 (by decide) (fun c18 => ?_) (fun c18 => ?_)
          · replace h := Eq.mp (if_pos c18) h
            refine sr_mask C [0, 1, 3] rfl ?_
            exact B47 _ _ hJ8 _ h
          · replace h := Eq.mp (if_neg c18) h
            refine sr_aload_n C 0 rfl rfl d_R_readProduct_38 ?_
            refine sr_callVI C [] (P_R_next l h) ok_30 sm_l43 rfl rfl rfl rfl ⟨by dsimp only; omega, by dsimp only; omega⟩ (Nat.le_of_ble_eq_true rfl) ⟨Nat.zero_le _, Nat.zero_le _⟩ d_R_readProduct_39 (fun r20 μ19 h => ?_)
            refine sr_bipush C (v := 37) d_R_readProduct_42 (by decide) ?_
            refine sr_icmp_ne C (tgt := 85) d_R_readProduct_44 (by decide) (fun c21 => ?_) (fun c21 => ?_)
            · replace h := Eq.mp (if_neg c21) h
              refine sr_iload_n C 2 rfl rfl d_R_readProduct_85 ?_
              obtain ⟨g22, h⟩ := h
              exact hR _ _ _ _ d_R_readProduct_86 (sm_narZ g22) h
            · replace h := Eq.mp (if_pos c21) h
              refine sr_mask C [0, 1, 3] rfl ?_
              exact B47 _ _ hJ8 _ h
  refine sr_aload_n C 0 rfl rfl d_R_readProduct_0 ?_
  refine sr_iload_n C 1 rfl rfl d_R_readProduct_1 ?_
  refine sr_callVI C [sm_I _] (hF5 h) ok_35 sm_l43 rfl rfl rfl rfl ⟨by dsimp only; omega, by dsimp only; omega⟩ (Nat.le_of_ble_eq_true rfl) ⟨Nat.zero_le _, Nat.zero_le _⟩ d_R_readProduct_2 (fun r2 μ1 h => ?_)
  refine sr_istore_n C rfl (by decide) d_R_readProduct_5 ?_
  refine sr_iconst C (v := 0) d_R_readProduct_6 (by decide) ?_
  refine sr_istore_n C rfl (by decide) d_R_readProduct_7 ?_
  refine sr_mask C [2, 3, 1, 0] rfl ?_
  exact B8 _ _ _ h
theorem d_R_isDigit_0 : decode prog_5_method_13_code 0 = .ok (.iload_n 0, 1) := by decide +kernel
theorem d_R_isDigit_1 : decode prog_5_method_13_code 1 = .ok (.bipush 48, 2) := by decide +kernel
theorem d_R_isDigit_3 : decode prog_5_method_13_code 3 = .ok (.if_icmp .lt 13, 3) := by decide +kernel
theorem d_R_isDigit_6 : decode prog_5_method_13_code 6 = .ok (.iload_n 0, 1) := by decide +kernel
theorem d_R_isDigit_7 : decode prog_5_method_13_code 7 = .ok (.bipush 57, 2) := by decide +kernel
theorem d_R_isDigit_9 : decode prog_5_method_13_code 9 = .ok (.if_icmp .gt 7, 3) := by decide +kernel
theorem d_R_isDigit_12 : decode prog_5_method_13_code 12 = .ok (.iconst 1, 1) := by decide +kernel
theorem d_R_isDigit_13 : decode prog_5_method_13_code 13 = .ok (.goto 4, 3) := by decide +kernel
theorem d_R_isDigit_16 : decode prog_5_method_13_code 16 = .ok (.iconst 0, 1) := by decide +kernel
theorem d_R_isDigit_17 : decode prog_5_method_13_code 17 = .ok (.ireturn, 1) := by decide +kernel
def w_R_isDigit (K : Int32 → sm_Mem → Prop) (p0 : Int32) (μ : sm_Mem) : Prop := if p0 < 48 then K 0 μ else (if 57 < p0 then K 0 μ else K 1 μ)
set_option maxHeartbeats 4000000 in
set_option maxRecDepth 100000 in
theorem P_R_isDigit (l : Launch) {K : Int32 → sm_Mem → Prop} {p0 : Int32} {μ : sm_Mem} (h : w_R_isDigit K p0 μ) : sm_MI l ⟨"SnowMoney$Reader", "isDigit", "(I)Z"⟩ prog_5_method_13_code 1 (some .boolean) { frames := 0, cells := 0, slots := 0, locals := 0 } [sm_I p0] μ K := by
  refine sm_ofI (by decide +kernel) (fun _ => Nat.le_of_ble_eq_true rfl) ?_
  intro p e s m args below meth c A Q G C hR
  refine sr_iload_n C 0 rfl rfl d_R_isDigit_0 ?_
  refine sr_bipush C (v := 48) d_R_isDigit_1 (by decide) ?_
  refine sr_icmp_lt C (tgt := 16) d_R_isDigit_3 (by decide) (fun c1 => ?_) (fun c1 => ?_)
  · replace h := Eq.mp (if_pos c1) h
    refine sr_iconst C (v := 0) d_R_isDigit_16 (by decide) ?_
    exact hR _ _ _ _ d_R_isDigit_17 rfl h
  · replace h := Eq.mp (if_neg c1) h
    refine sr_iload_n C 0 rfl rfl d_R_isDigit_6 ?_
    refine sr_bipush C (v := 57) d_R_isDigit_7 (by decide) ?_
    refine sr_icmp_gt C (tgt := 16) d_R_isDigit_9 (by decide) (fun c2 => ?_) (fun c2 => ?_)
    · replace h := Eq.mp (if_pos c2) h
      refine sr_iconst C (v := 0) d_R_isDigit_16 (by decide) ?_
      exact hR _ _ _ _ d_R_isDigit_17 rfl h
    · replace h := Eq.mp (if_neg c2) h
      refine sr_iconst C (v := 1) d_R_isDigit_12 (by decide) ?_
      refine sr_goto C (tgt := 17) (by decide) d_R_isDigit_13 ?_
      exact hR _ _ _ _ d_R_isDigit_17 rfl h
theorem d_R_readNumber_0 : decode prog_5_method_12_code 0 = .ok (.iconst 0, 1) := by decide +kernel
theorem d_R_readNumber_1 : decode prog_5_method_12_code 1 = .ok (.istore_n 1, 1) := by decide +kernel
theorem d_R_readNumber_2 : decode prog_5_method_12_code 2 = .ok (.iconst 0, 1) := by decide +kernel
theorem d_R_readNumber_3 : decode prog_5_method_12_code 3 = .ok (.istore_n 2, 1) := by decide +kernel
theorem d_R_readNumber_4 : decode prog_5_method_12_code 4 = .ok (.iload_n 2, 1) := by decide +kernel
theorem d_R_readNumber_5 : decode prog_5_method_12_code 5 = .ok (.iconst 4, 1) := by decide +kernel
theorem d_R_readNumber_6 : decode prog_5_method_12_code 6 = .ok (.if_icmp .ge 42, 3) := by decide +kernel
theorem d_R_readNumber_9 : decode prog_5_method_12_code 9 = .ok (.aload_n 0, 1) := by decide +kernel
theorem d_R_readNumber_10 : decode prog_5_method_12_code 10 = .ok (.invokevirtual 60, 3) := by decide +kernel
theorem d_R_readNumber_13 : decode prog_5_method_12_code 13 = .ok (.invokestatic 80, 3) := by decide +kernel
theorem d_R_readNumber_16 : decode prog_5_method_12_code 16 = .ok (.ifCond .eq 32, 3) := by decide +kernel
theorem d_R_readNumber_19 : decode prog_5_method_12_code 19 = .ok (.iload_n 1, 1) := by decide +kernel
theorem d_R_readNumber_20 : decode prog_5_method_12_code 20 = .ok (.bipush 10, 2) := by decide +kernel
theorem d_R_readNumber_22 : decode prog_5_method_12_code 22 = .ok (.imul, 1) := by decide +kernel
theorem d_R_readNumber_23 : decode prog_5_method_12_code 23 = .ok (.aload_n 0, 1) := by decide +kernel
theorem d_R_readNumber_24 : decode prog_5_method_12_code 24 = .ok (.invokevirtual 60, 3) := by decide +kernel
theorem d_R_readNumber_27 : decode prog_5_method_12_code 27 = .ok (.iadd, 1) := by decide +kernel
theorem d_R_readNumber_28 : decode prog_5_method_12_code 28 = .ok (.bipush 48, 2) := by decide +kernel
theorem d_R_readNumber_30 : decode prog_5_method_12_code 30 = .ok (.isub, 1) := by decide +kernel
theorem d_R_readNumber_31 : decode prog_5_method_12_code 31 = .ok (.istore_n 1, 1) := by decide +kernel
theorem d_R_readNumber_32 : decode prog_5_method_12_code 32 = .ok (.aload_n 0, 1) := by decide +kernel
theorem d_R_readNumber_33 : decode prog_5_method_12_code 33 = .ok (.dup, 1) := by decide +kernel
theorem d_R_readNumber_34 : decode prog_5_method_12_code 34 = .ok (.getfield 47, 3) := by decide +kernel
theorem d_R_readNumber_37 : decode prog_5_method_12_code 37 = .ok (.iconst 1, 1) := by decide +kernel
theorem d_R_readNumber_38 : decode prog_5_method_12_code 38 = .ok (.iadd, 1) := by decide +kernel
theorem d_R_readNumber_39 : decode prog_5_method_12_code 39 = .ok (.putfield 47, 3) := by decide +kernel
theorem d_R_readNumber_42 : decode prog_5_method_12_code 42 = .ok (.iinc 2 1, 3) := by decide +kernel
theorem d_R_readNumber_45 : decode prog_5_method_12_code 45 = .ok (.goto (-41), 3) := by decide +kernel
theorem d_R_readNumber_48 : decode prog_5_method_12_code 48 = .ok (.aload_n 0, 1) := by decide +kernel
theorem d_R_readNumber_49 : decode prog_5_method_12_code 49 = .ok (.getfield 10, 3) := by decide +kernel
theorem d_R_readNumber_52 : decode prog_5_method_12_code 52 = .ok (.bipush 110, 2) := by decide +kernel
theorem d_R_readNumber_54 : decode prog_5_method_12_code 54 = .ok (.iload_n 1, 1) := by decide +kernel
theorem d_R_readNumber_55 : decode prog_5_method_12_code 55 = .ok (.invokevirtual 64, 3) := by decide +kernel
theorem d_R_readNumber_58 : decode prog_5_method_12_code 58 = .ok (.return_, 1) := by decide +kernel
def w_R_readNumber_48 (K : sm_Mem → Prop) (x1 : Int32) (μ : sm_Mem) : Prop := w_T_add (fun μ2 => K μ2) 44 110 x1 μ
def w_R_readNumber_4 (K : sm_Mem → Prop) (x1 : Int32) (x2 : Int32) (μ : sm_Mem) : Prop := sm_lp2 (fun J4 x1 x2 μ => if 4 ≤ x2 then w_R_readNumber_48 K x1 μ else (w_R_next (fun r4 μ3 => w_R_isDigit (fun r6 μ5 => if r6 = 0 then w_R_readNumber_48 K x1 μ5 else (w_R_next (fun r9 μ8 => ∀ v10 : Int32, v10 = (((x1 * 10) + r9) - 48) → ∀ μ11 : sm_Mem, μ11 = sm_st μ8 43 3 ((μ8 43 3) + 1) → J4 v10 (x2 + 1) μ11) μ5)) r4 μ3) μ)) x1 x2 μ
def w_R_readNumber (K : sm_Mem → Prop) (μ : sm_Mem) : Prop := w_R_readNumber_4 K 0 0 μ
set_option maxHeartbeats 4000000 in
set_option maxRecDepth 100000 in
theorem P_R_readNumber (l : Launch) {K : sm_Mem → Prop} {μ : sm_Mem} (h : w_R_readNumber K μ) : sm_MV l ⟨"SnowMoney$Reader", "readNumber", "()V"⟩ prog_5_method_12_code 3 { frames := 1, cells := 0, slots := 0, locals := 22 } [sm_R 43] μ K := by
  refine sm_ofV (by decide +kernel) (fun _ => Nat.le_of_ble_eq_true rfl) ?_
  intro p e s m args below meth c A Q G C hR
  have B48 : ∀ (x1 : Int32) (μ : sm_Mem), w_R_readNumber_48 K x1 μ → sm_W p l e { frames := 1, cells := 0, slots := 0, locals := 22 } s m args below meth c A Q G 3 0 0 48 [] [(0, sm_R 43), (1, sm_I x1)] μ := by
    intro x1 μ h
    refine sr_aload_n C 0 rfl rfl d_R_readNumber_48 ?_
    refine sr_getR C sm_F2 0 q_140 sm_l43 (r := 44) rfl (by decide) d_R_readNumber_49 ?_
    refine sr_bipush C (v := 110) d_R_readNumber_52 (by decide) ?_
    refine sr_iload_n C 1 rfl rfl d_R_readNumber_54 ?_
    refine sr_callVV C [sm_I _, sm_I _] (P_T_add l h) ok_31 sm_l44 rfl rfl rfl rfl ⟨Nat.le_of_ble_eq_true rfl, Nat.le_of_ble_eq_true rfl⟩ (Nat.le_of_ble_eq_true rfl) ⟨Nat.zero_le _, Nat.zero_le _⟩ d_R_readNumber_55 (fun μ2 h => ?_)
    exact hR _ _ _ d_R_readNumber_58 h
  have B4 : ∀ (x1 : Int32) (x2 : Int32) (μ : sm_Mem), w_R_readNumber_4 K x1 x2 μ → sm_W p l e { frames := 1, cells := 0, slots := 0, locals := 22 } s m args below meth c A Q G 3 0 0 4 [] [(0, sm_R 43), (1, sm_I x1), (2, sm_I x2)] μ := by
    intro x1 x2 μ h
    refine sm_lp2_sound (P := fun x1 x2 μ => sm_W p l e { frames := 1, cells := 0, slots := 0, locals := 22 } s m args below meth c A Q G 3 0 0 4 [] [(0, sm_R 43), (1, sm_I x1), (2, sm_I x2)] μ) (fun J4 x1 x2 μ hJ4 h => ?_) h
    refine sr_iload_n C 2 rfl rfl d_R_readNumber_4 ?_
    refine sr_iconst C (v := 4) d_R_readNumber_5 (by decide) ?_
    refine sr_icmp_ge C (tgt := 48) d_R_readNumber_6 (by decide) (fun c1 => ?_) (fun c1 => ?_)
    · replace h := Eq.mp (if_pos c1) h
      refine sr_mask C [0, 1] rfl ?_
      exact B48 _ _ h
    · replace h := Eq.mp (if_neg c1) h
      refine sr_aload_n C 0 rfl rfl d_R_readNumber_9 ?_
      refine sr_callVI C [] (P_R_next l h) ok_30 sm_l43 rfl rfl rfl rfl ⟨Nat.le_of_ble_eq_true rfl, Nat.le_of_ble_eq_true rfl⟩ (Nat.le_of_ble_eq_true rfl) ⟨Nat.zero_le _, Nat.zero_le _⟩ d_R_readNumber_10 (fun r4 μ3 h => ?_)
      refine sr_callSI C [sm_I _] (P_R_isDigit l h) ok_36 rfl rfl rfl ⟨Nat.le_of_ble_eq_true rfl, Nat.le_of_ble_eq_true rfl⟩ (Nat.le_of_ble_eq_true rfl) ⟨Nat.zero_le _, Nat.zero_le _⟩ d_R_readNumber_13 (fun r6 μ5 h => ?_)
      refine sr_if_eq C (tgt := 48) d_R_readNumber_16 (by decide) (fun c7 => ?_) (fun c7 => ?_)
      · replace h := Eq.mp (if_pos c7) h
        refine sr_mask C [0, 1] rfl ?_
        exact B48 _ _ h
      · replace h := Eq.mp (if_neg c7) h
        refine sr_iload_n C 1 rfl rfl d_R_readNumber_19 ?_
        refine sr_bipush C (v := 10) d_R_readNumber_20 (by decide) ?_
        refine sr_imul C d_R_readNumber_22 ?_
        refine sr_aload_n C 0 rfl rfl d_R_readNumber_23 ?_
        refine sr_callVI C [] (P_R_next l h) ok_30 sm_l43 rfl rfl rfl rfl ⟨Nat.le_of_ble_eq_true rfl, Nat.le_of_ble_eq_true rfl⟩ (Nat.le_of_ble_eq_true rfl) ⟨Nat.zero_le _, Nat.zero_le _⟩ d_R_readNumber_24 (fun r9 μ8 h => ?_)
        refine sr_iadd C d_R_readNumber_27 ?_
        refine sr_bipush C (v := 48) d_R_readNumber_28 (by decide) ?_
        refine sr_isub C d_R_readNumber_30 ?_
        replace h := h _ rfl
        refine sr_istore_n C rfl (by decide) d_R_readNumber_31 ?_
        refine sr_aload_n C 1 rfl rfl d_R_readNumber_32 ?_
        refine sr_dup C rfl d_R_readNumber_33 ?_
        refine sr_getI C sm_F2 3 q_139 sm_l43 rfl (by decide) d_R_readNumber_34 ?_
        refine sr_iconst C (v := 1) d_R_readNumber_37 (by decide) ?_
        refine sr_iadd C d_R_readNumber_38 ?_
        refine sr_putI C sm_F2 3 q_139 sm_l43 rfl rfl (by decide) rfl d_R_readNumber_39 ?_
        replace h := h _ rfl
        refine sr_iinc C 2 rfl (by decide) d_R_readNumber_42 rfl ?_
        refine sr_goto C (tgt := 4) (by decide) d_R_readNumber_45 ?_
        refine sr_mask C [2, 1, 0] rfl ?_
        exact hJ4 _ _ _ h
  refine sr_iconst C (v := 0) d_R_readNumber_0 (by decide) ?_
  refine sr_istore_n C rfl (by decide) d_R_readNumber_1 ?_
  refine sr_iconst C (v := 0) d_R_readNumber_2 (by decide) ?_
  refine sr_istore_n C rfl (by decide) d_R_readNumber_3 ?_
  refine sr_mask C [2, 1, 0] rfl ?_
  exact B4 _ _ _ h
theorem d_R_readPart_0 : decode prog_5_method_9_code 0 = .ok (.aload_n 0, 1) := by decide +kernel
theorem d_R_readPart_1 : decode prog_5_method_9_code 1 = .ok (.invokevirtual 60, 3) := by decide +kernel
theorem d_R_readPart_4 : decode prog_5_method_9_code 4 = .ok (.istore_n 2, 1) := by decide +kernel
theorem d_R_readPart_5 : decode prog_5_method_9_code 5 = .ok (.iload_n 2, 1) := by decide +kernel
theorem d_R_readPart_6 : decode prog_5_method_9_code 6 = .ok (.invokestatic 80, 3) := by decide +kernel
theorem d_R_readPart_9 : decode prog_5_method_9_code 9 = .ok (.ifCond .eq 9, 3) := by decide +kernel
theorem d_R_readPart_12 : decode prog_5_method_9_code 12 = .ok (.aload_n 0, 1) := by decide +kernel
theorem d_R_readPart_13 : decode prog_5_method_9_code 13 = .ok (.invokevirtual 83, 3) := by decide +kernel
theorem d_R_readPart_16 : decode prog_5_method_9_code 16 = .ok (.iconst 1, 1) := by decide +kernel
theorem d_R_readPart_17 : decode prog_5_method_9_code 17 = .ok (.ireturn, 1) := by decide +kernel
theorem d_R_readPart_18 : decode prog_5_method_9_code 18 = .ok (.iload_n 2, 1) := by decide +kernel
theorem d_R_readPart_19 : decode prog_5_method_9_code 19 = .ok (.ifCond .ge 7, 3) := by decide +kernel
theorem d_R_readPart_22 : decode prog_5_method_9_code 22 = .ok (.iconst (-1), 1) := by decide +kernel
theorem d_R_readPart_23 : decode prog_5_method_9_code 23 = .ok (.goto 12, 3) := by decide +kernel
theorem d_R_readPart_26 : decode prog_5_method_9_code 26 = .ok (.aload_n 0, 1) := by decide +kernel
theorem d_R_readPart_27 : decode prog_5_method_9_code 27 = .ok (.getfield 24, 3) := by decide +kernel
theorem d_R_readPart_30 : decode prog_5_method_9_code 30 = .ok (.iload_n 2, 1) := by decide +kernel
theorem d_R_readPart_31 : decode prog_5_method_9_code 31 = .ok (.i2c, 1) := by decide +kernel
theorem d_R_readPart_32 : decode prog_5_method_9_code 32 = .ok (.invokevirtual 86, 3) := by decide +kernel
theorem d_R_readPart_35 : decode prog_5_method_9_code 35 = .ok (.istore_n 3, 1) := by decide +kernel
theorem d_R_readPart_36 : decode prog_5_method_9_code 36 = .ok (.iload_n 3, 1) := by decide +kernel
theorem d_R_readPart_37 : decode prog_5_method_9_code 37 = .ok (.ifCond .lt 25, 3) := by decide +kernel
theorem d_R_readPart_40 : decode prog_5_method_9_code 40 = .ok (.aload_n 0, 1) := by decide +kernel
theorem d_R_readPart_41 : decode prog_5_method_9_code 41 = .ok (.dup, 1) := by decide +kernel
theorem d_R_readPart_42 : decode prog_5_method_9_code 42 = .ok (.getfield 47, 3) := by decide +kernel
theorem d_R_readPart_45 : decode prog_5_method_9_code 45 = .ok (.iconst 1, 1) := by decide +kernel
theorem d_R_readPart_46 : decode prog_5_method_9_code 46 = .ok (.iadd, 1) := by decide +kernel
theorem d_R_readPart_47 : decode prog_5_method_9_code 47 = .ok (.putfield 47, 3) := by decide +kernel
theorem d_R_readPart_50 : decode prog_5_method_9_code 50 = .ok (.aload_n 0, 1) := by decide +kernel
theorem d_R_readPart_51 : decode prog_5_method_9_code 51 = .ok (.getfield 10, 3) := by decide +kernel
theorem d_R_readPart_54 : decode prog_5_method_9_code 54 = .ok (.bipush 97, 2) := by decide +kernel
theorem d_R_readPart_56 : decode prog_5_method_9_code 56 = .ok (.iload_n 3, 1) := by decide +kernel
theorem d_R_readPart_57 : decode prog_5_method_9_code 57 = .ok (.invokevirtual 64, 3) := by decide +kernel
theorem d_R_readPart_60 : decode prog_5_method_9_code 60 = .ok (.iconst 1, 1) := by decide +kernel
theorem d_R_readPart_61 : decode prog_5_method_9_code 61 = .ok (.ireturn, 1) := by decide +kernel
theorem d_R_readPart_62 : decode prog_5_method_9_code 62 = .ok (.iload_n 2, 1) := by decide +kernel
theorem d_R_readPart_63 : decode prog_5_method_9_code 63 = .ok (.bipush 33, 2) := by decide +kernel
theorem d_R_readPart_65 : decode prog_5_method_9_code 65 = .ok (.if_icmp .eq 9, 3) := by decide +kernel
theorem d_R_readPart_68 : decode prog_5_method_9_code 68 = .ok (.iload_n 2, 1) := by decide +kernel
theorem d_R_readPart_69 : decode prog_5_method_9_code 69 = .ok (.bipush 40, 2) := by decide +kernel
theorem d_R_readPart_71 : decode prog_5_method_9_code 71 = .ok (.if_icmp .ne 8, 3) := by decide +kernel
theorem d_R_readPart_74 : decode prog_5_method_9_code 74 = .ok (.iload_n 1, 1) := by decide +kernel
theorem d_R_readPart_75 : decode prog_5_method_9_code 75 = .ok (.iconst 5, 1) := by decide +kernel
theorem d_R_readPart_76 : decode prog_5_method_9_code 76 = .ok (.if_icmp .lt 5, 3) := by decide +kernel
theorem d_R_readPart_79 : decode prog_5_method_9_code 79 = .ok (.iconst 0, 1) := by decide +kernel
theorem d_R_readPart_80 : decode prog_5_method_9_code 80 = .ok (.ireturn, 1) := by decide +kernel
theorem d_R_readPart_81 : decode prog_5_method_9_code 81 = .ok (.aload_n 0, 1) := by decide +kernel
theorem d_R_readPart_82 : decode prog_5_method_9_code 82 = .ok (.dup, 1) := by decide +kernel
theorem d_R_readPart_83 : decode prog_5_method_9_code 83 = .ok (.getfield 47, 3) := by decide +kernel
theorem d_R_readPart_86 : decode prog_5_method_9_code 86 = .ok (.iconst 1, 1) := by decide +kernel
theorem d_R_readPart_87 : decode prog_5_method_9_code 87 = .ok (.iadd, 1) := by decide +kernel
theorem d_R_readPart_88 : decode prog_5_method_9_code 88 = .ok (.putfield 47, 3) := by decide +kernel
theorem d_R_readPart_91 : decode prog_5_method_9_code 91 = .ok (.iload_n 2, 1) := by decide +kernel
theorem d_R_readPart_92 : decode prog_5_method_9_code 92 = .ok (.bipush 33, 2) := by decide +kernel
theorem d_R_readPart_94 : decode prog_5_method_9_code 94 = .ok (.if_icmp .ne 13, 3) := by decide +kernel
theorem d_R_readPart_97 : decode prog_5_method_9_code 97 = .ok (.aload_n 0, 1) := by decide +kernel
theorem d_R_readPart_98 : decode prog_5_method_9_code 98 = .ok (.iload_n 1, 1) := by decide +kernel
theorem d_R_readPart_99 : decode prog_5_method_9_code 99 = .ok (.iconst 1, 1) := by decide +kernel
theorem d_R_readPart_100 : decode prog_5_method_9_code 100 = .ok (.iadd, 1) := by decide +kernel
theorem d_R_readPart_101 : decode prog_5_method_9_code 101 = .ok (.invokevirtual 92, 3) := by decide +kernel
theorem d_R_readPart_104 : decode prog_5_method_9_code 104 = .ok (.goto 10, 3) := by decide +kernel
theorem d_R_readPart_107 : decode prog_5_method_9_code 107 = .ok (.aload_n 0, 1) := by decide +kernel
theorem d_R_readPart_108 : decode prog_5_method_9_code 108 = .ok (.iload_n 1, 1) := by decide +kernel
theorem d_R_readPart_109 : decode prog_5_method_9_code 109 = .ok (.iconst 1, 1) := by decide +kernel
theorem d_R_readPart_110 : decode prog_5_method_9_code 110 = .ok (.iadd, 1) := by decide +kernel
theorem d_R_readPart_111 : decode prog_5_method_9_code 111 = .ok (.invokevirtual 95, 3) := by decide +kernel
theorem d_R_readPart_114 : decode prog_5_method_9_code 114 = .ok (.ireturn, 1) := by decide +kernel
def w_R_readPart_74 (F : Nat → (Int32 → sm_Mem → Prop) → Int32 → sm_Mem → Prop) (K : Int32 → sm_Mem → Prop) (p0 : Int32) (x2 : Int32) (μ : sm_Mem) : Prop := if p0 < 5 then (∀ μ12 : sm_Mem, μ12 = sm_st μ 43 3 ((μ 43 3) + 1) → if x2 = 33 then (F 6 (fun r18 μ17 => (r18 = 0 ∨ r18 = 1) ∧ K r18 μ17) (p0 + 1) μ12) else (F 7 (fun r15 μ14 => (r15 = 0 ∨ r15 = 1) ∧ K r15 μ14) (p0 + 1) μ12)) else K 0 μ
def w_R_readPart_35 (F : Nat → (Int32 → sm_Mem → Prop) → Int32 → sm_Mem → Prop) (K : Int32 → sm_Mem → Prop) (p0 : Int32) (x2 : Int32) (s0 : Int32) (μ : sm_Mem) : Prop := if s0 < 0 then (if x2 = 33 then w_R_readPart_74 F K p0 x2 μ else (if x2 = 40 then w_R_readPart_74 F K p0 x2 μ else K 0 μ)) else (∀ μ21 : sm_Mem, μ21 = sm_st μ 43 3 ((μ 43 3) + 1) → w_T_add (fun μ22 => K 1 μ22) 44 97 s0 μ21)
def w_R_readPart (F : Nat → (Int32 → sm_Mem → Prop) → Int32 → sm_Mem → Prop) (K : Int32 → sm_Mem → Prop) (p0 : Int32) (μ : sm_Mem) : Prop := w_R_next (fun r2 μ1 => w_R_isDigit (fun r4 μ3 => if r4 = 0 then (if 0 ≤ r2 then (((μ3 43 4).toNatClampNeg < 3) ∧ (0 ≤ (r2.toUInt32 % 65536).toInt32 ∧ (r2.toUInt32 % 65536).toInt32 < 65536) ∧ w_R_readPart_35 F K p0 r2 (sm_idx (μ3 43 4).toNatClampNeg (r2.toUInt32 % 65536).toInt32) μ3) else w_R_readPart_35 F K p0 r2 (-1) μ3) else w_R_readNumber (fun μ23 => K 1 μ23) μ3) r2 μ1) μ
set_option maxHeartbeats 4000000 in
set_option maxRecDepth 100000 in
theorem P_R_readPart (l : Launch) {F : Nat → (Int32 → sm_Mem → Prop) → Int32 → sm_Mem → Prop} {n : Nat} (hF6 : ∀ {K : Int32 → sm_Mem → Prop} {p0 : Int32} {μ : sm_Mem}, F 6 K p0 μ → sm_MI l ⟨"SnowMoney$Reader", "readDenied", "(I)Z"⟩ prog_5_method_10_code 3 (some .boolean) { frames := n + 12, cells := 0, slots := 0, locals := n * 40 + 800 } [sm_R 43, sm_I p0] μ K) (hF7 : ∀ {K : Int32 → sm_Mem → Prop} {p0 : Int32} {μ : sm_Mem}, F 7 K p0 μ → sm_MI l ⟨"SnowMoney$Reader", "readClosed", "(I)Z"⟩ prog_5_method_11_code 2 (some .boolean) { frames := n + 12, cells := 0, slots := 0, locals := n * 40 + 800 } [sm_R 43, sm_I p0] μ K) {K : Int32 → sm_Mem → Prop} {p0 : Int32} {μ : sm_Mem} (h : w_R_readPart F K p0 μ) : sm_MI l ⟨"SnowMoney$Reader", "readPart", "(I)Z"⟩ prog_5_method_9_code 4 (some .boolean) { frames := n + 1 + 12, cells := 0, slots := 0, locals := (n + 1) * 40 + 800 } [sm_R 43, sm_I p0] μ K := by
  refine sm_ofI (by decide +kernel) (fun _ => Nat.le_of_ble_eq_true rfl) ?_
  intro p e s m args below meth c A Q G C hR
  have B74 : ∀ (x2 : Int32) (μ : sm_Mem), w_R_readPart_74 F K p0 x2 μ → sm_W p l e { frames := n + 1 + 12, cells := 0, slots := 0, locals := (n + 1) * 40 + 800 } s m args below meth c A Q G 4 0 0 74 [] [(0, sm_R 43), (1, sm_I p0), (2, sm_I x2)] μ := by
    intro x2 μ h
    refine sr_iload_n C 1 rfl rfl d_R_readPart_74 ?_
    refine sr_iconst C (v := 5) d_R_readPart_75 (by decide) ?_
    refine sr_icmp_lt C (tgt := 81) d_R_readPart_76 (by decide) (fun c11 => ?_) (fun c11 => ?_)
    · replace h := Eq.mp (if_pos c11) h
      refine sr_aload_n C 0 rfl rfl d_R_readPart_81 ?_
      refine sr_dup C rfl d_R_readPart_82 ?_
      refine sr_getI C sm_F2 3 q_139 sm_l43 rfl (by decide) d_R_readPart_83 ?_
      refine sr_iconst C (v := 1) d_R_readPart_86 (by decide) ?_
      refine sr_iadd C d_R_readPart_87 ?_
      refine sr_putI C sm_F2 3 q_139 sm_l43 rfl rfl (by decide) rfl d_R_readPart_88 ?_
      replace h := h _ rfl
      refine sr_iload_n C 2 rfl rfl d_R_readPart_91 ?_
      refine sr_bipush C (v := 33) d_R_readPart_92 (by decide) ?_
      refine sr_icmp_ne C (tgt := 107) d_R_readPart_94 (by decide) (fun c13 => ?_) (fun c13 => ?_)
      · replace h := Eq.mp (if_neg c13) h
        refine sr_aload_n C 0 rfl rfl d_R_readPart_107 ?_
        refine sr_iload_n C 1 rfl rfl d_R_readPart_108 ?_
        refine sr_iconst C (v := 1) d_R_readPart_109 (by decide) ?_
        refine sr_iadd C d_R_readPart_110 ?_
        refine sr_callVI C [sm_I _] (hF7 h) ok_38 sm_l43 rfl rfl rfl rfl ⟨by dsimp only; omega, by dsimp only; omega⟩ (Nat.le_of_ble_eq_true rfl) ⟨Nat.zero_le _, Nat.zero_le _⟩ d_R_readPart_111 (fun r15 μ14 h => ?_)
        obtain ⟨g16, h⟩ := h
        exact hR _ _ _ _ d_R_readPart_114 (sm_narZ g16) h
      · replace h := Eq.mp (if_pos c13) h
        refine sr_aload_n C 0 rfl rfl d_R_readPart_97 ?_
        refine sr_iload_n C 1 rfl rfl d_R_readPart_98 ?_
        refine sr_iconst C (v := 1) d_R_readPart_99 (by decide) ?_
        refine sr_iadd C d_R_readPart_100 ?_
        refine sr_callVI C [sm_I _] (hF6 h) ok_39 sm_l43 rfl rfl rfl rfl ⟨by dsimp only; omega, by dsimp only; omega⟩ (Nat.le_of_ble_eq_true rfl) ⟨Nat.zero_le _, Nat.zero_le _⟩ d_R_readPart_101 (fun r18 μ17 h => ?_)
        refine sr_goto C (tgt := 114) (by decide) d_R_readPart_104 ?_
        obtain ⟨g19, h⟩ := h
        exact hR _ _ _ _ d_R_readPart_114 (sm_narZ g19) h
    · replace h := Eq.mp (if_neg c11) h
      refine sr_iconst C (v := 0) d_R_readPart_79 (by decide) ?_
      exact hR _ _ _ _ d_R_readPart_80 rfl h
  have B35 : ∀ (x2 : Int32) (s0 : Int32) (μ : sm_Mem), w_R_readPart_35 F K p0 x2 s0 μ → sm_W p l e { frames := n + 1 + 12, cells := 0, slots := 0, locals := (n + 1) * 40 + 800 } s m args below meth c A Q G 4 0 0 35 [sm_I s0] [(0, sm_R 43), (1, sm_I p0), (2, sm_I x2)] μ := by
    intro x2 s0 μ h
    refine sr_istore_n C rfl (by decide) d_R_readPart_35 ?_
    refine sr_iload_n C 0 rfl rfl d_R_readPart_36 ?_
    refine sr_if_lt C (tgt := 62) d_R_readPart_37 (by decide) (fun c9 => ?_) (fun c9 => ?_)
    · replace h := Eq.mp (if_pos c9) h
      refine sr_iload_n C 3 rfl rfl d_R_readPart_62 ?_
      refine sr_bipush C (v := 33) d_R_readPart_63 (by decide) ?_
      refine sr_icmp_eq C (tgt := 74) d_R_readPart_65 (by decide) (fun c10 => ?_) (fun c10 => ?_)
      · replace h := Eq.mp (if_pos c10) h
        refine sr_mask C [1, 2, 3] rfl ?_
        exact B74 _ _ h
      · replace h := Eq.mp (if_neg c10) h
        refine sr_iload_n C 3 rfl rfl d_R_readPart_68 ?_
        refine sr_bipush C (v := 40) d_R_readPart_69 (by decide) ?_
        refine sr_icmp_ne C (tgt := 79) d_R_readPart_71 (by decide) (fun c20 => ?_) (fun c20 => ?_)
        · replace h := Eq.mp (if_neg c20) h
          refine sr_iconst C (v := 0) d_R_readPart_79 (by decide) ?_
          exact hR _ _ _ _ d_R_readPart_80 rfl h
        · replace h := Eq.mp (if_pos c20) h
          refine sr_mask C [1, 2, 3] rfl ?_
          exact B74 _ _ h
    · replace h := Eq.mp (if_neg c9) h
      refine sr_aload_n C 1 rfl rfl d_R_readPart_40 ?_
      refine sr_dup C rfl d_R_readPart_41 ?_
      refine sr_getI C sm_F2 3 q_139 sm_l43 rfl (by decide) d_R_readPart_42 ?_
      refine sr_iconst C (v := 1) d_R_readPart_45 (by decide) ?_
      refine sr_iadd C d_R_readPart_46 ?_
      refine sr_putI C sm_F2 3 q_139 sm_l43 rfl rfl (by decide) rfl d_R_readPart_47 ?_
      replace h := h _ rfl
      refine sr_aload_n C 1 rfl rfl d_R_readPart_50 ?_
      refine sr_getR C sm_F2 0 q_140 sm_l43 (r := 44) rfl (by decide) d_R_readPart_51 ?_
      refine sr_bipush C (v := 97) d_R_readPart_54 (by decide) ?_
      refine sr_iload_n C 0 rfl rfl d_R_readPart_56 ?_
      refine sr_callVV C [sm_I _, sm_I _] (P_T_add l h) ok_31 sm_l44 rfl rfl rfl rfl ⟨by dsimp only; omega, by dsimp only; omega⟩ (Nat.le_of_ble_eq_true rfl) ⟨Nat.zero_le _, Nat.zero_le _⟩ d_R_readPart_57 (fun μ22 h => ?_)
      refine sr_iconst C (v := 1) d_R_readPart_60 (by decide) ?_
      exact hR _ _ _ _ d_R_readPart_61 rfl h
  refine sr_aload_n C 0 rfl rfl d_R_readPart_0 ?_
  refine sr_callVI C [] (P_R_next l h) ok_30 sm_l43 rfl rfl rfl rfl ⟨by dsimp only; omega, by dsimp only; omega⟩ (Nat.le_of_ble_eq_true rfl) ⟨Nat.zero_le _, Nat.zero_le _⟩ d_R_readPart_1 (fun r2 μ1 h => ?_)
  refine sr_istore_n C rfl (by decide) d_R_readPart_4 ?_
  refine sr_iload_n C 0 rfl rfl d_R_readPart_5 ?_
  refine sr_callSI C [sm_I _] (P_R_isDigit l h) ok_36 rfl rfl rfl ⟨by dsimp only; omega, by dsimp only; omega⟩ (Nat.le_of_ble_eq_true rfl) ⟨Nat.zero_le _, Nat.zero_le _⟩ d_R_readPart_6 (fun r4 μ3 h => ?_)
  refine sr_if_eq C (tgt := 18) d_R_readPart_9 (by decide) (fun c5 => ?_) (fun c5 => ?_)
  · replace h := Eq.mp (if_pos c5) h
    refine sr_iload_n C 0 rfl rfl d_R_readPart_18 ?_
    refine sr_if_ge C (tgt := 26) d_R_readPart_19 (by decide) (fun c6 => ?_) (fun c6 => ?_)
    · replace h := Eq.mp (if_pos c6) h
      refine sr_aload_n C 1 rfl rfl d_R_readPart_26 ?_
      refine sr_getS C sm_F2 4 q_138 sm_l43 rfl (by decide) d_R_readPart_27 ?_
      refine sr_iload_n C 0 rfl rfl d_R_readPart_30 ?_
      refine sr_i2c C d_R_readPart_31 ?_
      obtain ⟨g7, h⟩ := h
      obtain ⟨g8, h⟩ := h
      refine sr_indexOf C ok_37 g7 g8 (by dsimp only; omega) (by dsimp only; omega) (Nat.le_of_ble_eq_true rfl) ⟨Nat.zero_le _, Nat.zero_le _⟩ d_R_readPart_32 ?_
      refine sr_mask C [1, 2, 0] rfl ?_
      exact B35 _ _ _ h
    · replace h := Eq.mp (if_neg c6) h
      refine sr_iconst C (v := (-1)) d_R_readPart_22 (by decide) ?_
      refine sr_goto C (tgt := 35) (by decide) d_R_readPart_23 ?_
      refine sr_mask C [1, 2, 0] rfl ?_
      exact B35 _ _ _ h
  · replace h := Eq.mp (if_neg c5) h
    refine sr_aload_n C 1 rfl rfl d_R_readPart_12 ?_
    refine sr_callVV C [] (P_R_readNumber l h) ok_40 sm_l43 rfl rfl rfl rfl ⟨by dsimp only; omega, by dsimp only; omega⟩ (Nat.le_of_ble_eq_true rfl) ⟨Nat.zero_le _, Nat.zero_le _⟩ d_R_readPart_13 (fun μ23 h => ?_)
    refine sr_iconst C (v := 1) d_R_readPart_16 (by decide) ?_
    exact hR _ _ _ _ d_R_readPart_17 rfl h
theorem d_R_readDenied_0 : decode prog_5_method_10_code 0 = .ok (.aload_n 0, 1) := by decide +kernel
theorem d_R_readDenied_1 : decode prog_5_method_10_code 1 = .ok (.iload_n 1, 1) := by decide +kernel
theorem d_R_readDenied_2 : decode prog_5_method_10_code 2 = .ok (.invokevirtual 77, 3) := by decide +kernel
theorem d_R_readDenied_5 : decode prog_5_method_10_code 5 = .ok (.istore_n 2, 1) := by decide +kernel
theorem d_R_readDenied_6 : decode prog_5_method_10_code 6 = .ok (.aload_n 0, 1) := by decide +kernel
theorem d_R_readDenied_7 : decode prog_5_method_10_code 7 = .ok (.getfield 10, 3) := by decide +kernel
theorem d_R_readDenied_10 : decode prog_5_method_10_code 10 = .ok (.bipush 33, 2) := by decide +kernel
theorem d_R_readDenied_12 : decode prog_5_method_10_code 12 = .ok (.iconst 0, 1) := by decide +kernel
theorem d_R_readDenied_13 : decode prog_5_method_10_code 13 = .ok (.invokevirtual 64, 3) := by decide +kernel
theorem d_R_readDenied_16 : decode prog_5_method_10_code 16 = .ok (.iload_n 2, 1) := by decide +kernel
theorem d_R_readDenied_17 : decode prog_5_method_10_code 17 = .ok (.ireturn, 1) := by decide +kernel
def w_R_readDenied (F : Nat → (Int32 → sm_Mem → Prop) → Int32 → sm_Mem → Prop) (K : Int32 → sm_Mem → Prop) (p0 : Int32) (μ : sm_Mem) : Prop := F 5 (fun r2 μ1 => w_T_add (fun μ3 => (r2 = 0 ∨ r2 = 1) ∧ K r2 μ3) 44 33 0 μ1) p0 μ
set_option maxHeartbeats 4000000 in
set_option maxRecDepth 100000 in
theorem P_R_readDenied (l : Launch) {F : Nat → (Int32 → sm_Mem → Prop) → Int32 → sm_Mem → Prop} {n : Nat} (hF5 : ∀ {K : Int32 → sm_Mem → Prop} {p0 : Int32} {μ : sm_Mem}, F 5 K p0 μ → sm_MI l ⟨"SnowMoney$Reader", "readPart", "(I)Z"⟩ prog_5_method_9_code 4 (some .boolean) { frames := n + 12, cells := 0, slots := 0, locals := n * 40 + 800 } [sm_R 43, sm_I p0] μ K) {K : Int32 → sm_Mem → Prop} {p0 : Int32} {μ : sm_Mem} (h : w_R_readDenied F K p0 μ) : sm_MI l ⟨"SnowMoney$Reader", "readDenied", "(I)Z"⟩ prog_5_method_10_code 3 (some .boolean) { frames := n + 1 + 12, cells := 0, slots := 0, locals := (n + 1) * 40 + 800 } [sm_R 43, sm_I p0] μ K := by
  refine sm_ofI (by decide +kernel) (fun _ => Nat.le_of_ble_eq_true rfl) ?_
  intro p e s m args below meth c A Q G C hR
  refine sr_aload_n C 0 rfl rfl d_R_readDenied_0 ?_
  refine sr_iload_n C 1 rfl rfl d_R_readDenied_1 ?_
  refine sr_callVI C [sm_I _] (hF5 h) ok_35 sm_l43 rfl rfl rfl rfl ⟨by dsimp only; omega, by dsimp only; omega⟩ (Nat.le_of_ble_eq_true rfl) ⟨Nat.zero_le _, Nat.zero_le _⟩ d_R_readDenied_2 (fun r2 μ1 h => ?_)
  refine sr_istore_n C rfl (by decide) d_R_readDenied_5 ?_
  refine sr_aload_n C 1 rfl rfl d_R_readDenied_6 ?_
  refine sr_getR C sm_F2 0 q_140 sm_l43 (r := 44) rfl (by decide) d_R_readDenied_7 ?_
  refine sr_bipush C (v := 33) d_R_readDenied_10 (by decide) ?_
  refine sr_iconst C (v := 0) d_R_readDenied_12 (by decide) ?_
  refine sr_callVV C [sm_I _, sm_I _] (P_T_add l h) ok_31 sm_l44 rfl rfl rfl rfl ⟨by dsimp only; omega, by dsimp only; omega⟩ (Nat.le_of_ble_eq_true rfl) ⟨Nat.zero_le _, Nat.zero_le _⟩ d_R_readDenied_13 (fun μ3 h => ?_)
  refine sr_iload_n C 0 rfl rfl d_R_readDenied_16 ?_
  obtain ⟨g4, h⟩ := h
  exact hR _ _ _ _ d_R_readDenied_17 (sm_narZ g4) h
theorem d_R_readClosed_0 : decode prog_5_method_11_code 0 = .ok (.aload_n 0, 1) := by decide +kernel
theorem d_R_readClosed_1 : decode prog_5_method_11_code 1 = .ok (.iload_n 1, 1) := by decide +kernel
theorem d_R_readClosed_2 : decode prog_5_method_11_code 2 = .ok (.invokevirtual 53, 3) := by decide +kernel
theorem d_R_readClosed_5 : decode prog_5_method_11_code 5 = .ok (.ifCond .eq 12, 3) := by decide +kernel
theorem d_R_readClosed_8 : decode prog_5_method_11_code 8 = .ok (.aload_n 0, 1) := by decide +kernel
theorem d_R_readClosed_9 : decode prog_5_method_11_code 9 = .ok (.invokevirtual 60, 3) := by decide +kernel
theorem d_R_readClosed_12 : decode prog_5_method_11_code 12 = .ok (.bipush 41, 2) := by decide +kernel
theorem d_R_readClosed_14 : decode prog_5_method_11_code 14 = .ok (.if_icmp .eq 5, 3) := by decide +kernel
theorem d_R_readClosed_17 : decode prog_5_method_11_code 17 = .ok (.iconst 0, 1) := by decide +kernel
theorem d_R_readClosed_18 : decode prog_5_method_11_code 18 = .ok (.ireturn, 1) := by decide +kernel
theorem d_R_readClosed_19 : decode prog_5_method_11_code 19 = .ok (.aload_n 0, 1) := by decide +kernel
theorem d_R_readClosed_20 : decode prog_5_method_11_code 20 = .ok (.dup, 1) := by decide +kernel
theorem d_R_readClosed_21 : decode prog_5_method_11_code 21 = .ok (.getfield 47, 3) := by decide +kernel
theorem d_R_readClosed_24 : decode prog_5_method_11_code 24 = .ok (.iconst 1, 1) := by decide +kernel
theorem d_R_readClosed_25 : decode prog_5_method_11_code 25 = .ok (.iadd, 1) := by decide +kernel
theorem d_R_readClosed_26 : decode prog_5_method_11_code 26 = .ok (.putfield 47, 3) := by decide +kernel
theorem d_R_readClosed_29 : decode prog_5_method_11_code 29 = .ok (.iconst 1, 1) := by decide +kernel
theorem d_R_readClosed_30 : decode prog_5_method_11_code 30 = .ok (.ireturn, 1) := by decide +kernel
def w_R_readClosed (F : Nat → (Int32 → sm_Mem → Prop) → Int32 → sm_Mem → Prop) (K : Int32 → sm_Mem → Prop) (p0 : Int32) (μ : sm_Mem) : Prop := F 0 (fun r2 μ1 => if r2 = 0 then K 0 μ1 else (w_R_next (fun r5 μ4 => if r5 = 41 then (∀ μ7 : sm_Mem, μ7 = sm_st μ4 43 3 ((μ4 43 3) + 1) → K 1 μ7) else K 0 μ4) μ1)) p0 μ
set_option maxHeartbeats 4000000 in
set_option maxRecDepth 100000 in
theorem P_R_readClosed (l : Launch) {F : Nat → (Int32 → sm_Mem → Prop) → Int32 → sm_Mem → Prop} {n : Nat} (hF0 : ∀ {K : Int32 → sm_Mem → Prop} {p0 : Int32} {μ : sm_Mem}, F 0 K p0 μ → sm_MI l ⟨"SnowMoney$Reader", "readOr", "(I)Z"⟩ prog_5_method_4_code 4 (some .boolean) { frames := n + 12, cells := 0, slots := 0, locals := n * 40 + 800 } [sm_R 43, sm_I p0] μ K) {K : Int32 → sm_Mem → Prop} {p0 : Int32} {μ : sm_Mem} (h : w_R_readClosed F K p0 μ) : sm_MI l ⟨"SnowMoney$Reader", "readClosed", "(I)Z"⟩ prog_5_method_11_code 2 (some .boolean) { frames := n + 1 + 12, cells := 0, slots := 0, locals := (n + 1) * 40 + 800 } [sm_R 43, sm_I p0] μ K := by
  refine sm_ofI (by decide +kernel) (fun _ => Nat.le_of_ble_eq_true rfl) ?_
  intro p e s m args below meth c A Q G C hR
  refine sr_aload_n C 0 rfl rfl d_R_readClosed_0 ?_
  refine sr_iload_n C 1 rfl rfl d_R_readClosed_1 ?_
  refine sr_callVI C [sm_I _] (hF0 h) ok_28 sm_l43 rfl rfl rfl rfl ⟨by dsimp only; omega, by dsimp only; omega⟩ (Nat.le_of_ble_eq_true rfl) ⟨Nat.zero_le _, Nat.zero_le _⟩ d_R_readClosed_2 (fun r2 μ1 h => ?_)
  refine sr_if_eq C (tgt := 17) d_R_readClosed_5 (by decide) (fun c3 => ?_) (fun c3 => ?_)
  · replace h := Eq.mp (if_pos c3) h
    refine sr_iconst C (v := 0) d_R_readClosed_17 (by decide) ?_
    exact hR _ _ _ _ d_R_readClosed_18 rfl h
  · replace h := Eq.mp (if_neg c3) h
    refine sr_aload_n C 0 rfl rfl d_R_readClosed_8 ?_
    refine sr_callVI C [] (P_R_next l h) ok_30 sm_l43 rfl rfl rfl rfl ⟨by dsimp only; omega, by dsimp only; omega⟩ (Nat.le_of_ble_eq_true rfl) ⟨Nat.zero_le _, Nat.zero_le _⟩ d_R_readClosed_9 (fun r5 μ4 h => ?_)
    refine sr_bipush C (v := 41) d_R_readClosed_12 (by decide) ?_
    refine sr_icmp_eq C (tgt := 19) d_R_readClosed_14 (by decide) (fun c6 => ?_) (fun c6 => ?_)
    · replace h := Eq.mp (if_pos c6) h
      refine sr_aload_n C 0 rfl rfl d_R_readClosed_19 ?_
      refine sr_dup C rfl d_R_readClosed_20 ?_
      refine sr_getI C sm_F2 3 q_139 sm_l43 rfl (by decide) d_R_readClosed_21 ?_
      refine sr_iconst C (v := 1) d_R_readClosed_24 (by decide) ?_
      refine sr_iadd C d_R_readClosed_25 ?_
      refine sr_putI C sm_F2 3 q_139 sm_l43 rfl rfl (by decide) rfl d_R_readClosed_26 ?_
      replace h := h _ rfl
      refine sr_iconst C (v := 1) d_R_readClosed_29 (by decide) ?_
      exact hR _ _ _ _ d_R_readClosed_30 rfl h
    · replace h := Eq.mp (if_neg c6) h
      refine sr_iconst C (v := 0) d_R_readClosed_17 (by decide) ?_
      exact hR _ _ _ _ d_R_readClosed_18 rfl h
def wg_R : Nat → Nat → (Int32 → sm_Mem → Prop) → Int32 → sm_Mem → Prop
  | 0, _ => fun _ _ _ => False
  | n + 1, 0 => w_R_readOr (wg_R n)
  | n + 1, 1 => w_R_readAnd (wg_R n)
  | n + 1, 2 => w_R_readComparison (wg_R n)
  | n + 1, 3 => w_R_readSum (wg_R n)
  | n + 1, 4 => w_R_readProduct (wg_R n)
  | n + 1, 5 => w_R_readPart (wg_R n)
  | n + 1, 6 => w_R_readDenied (wg_R n)
  | n + 1, 7 => w_R_readClosed (wg_R n)
  | _ + 1, _ => fun _ _ _ => False
theorem PG_R (l : Launch) : ∀ n : Nat, (∀ {K : Int32 → sm_Mem → Prop} {p0 : Int32} {μ : sm_Mem}, wg_R n 0 K p0 μ → sm_MI l ⟨"SnowMoney$Reader", "readOr", "(I)Z"⟩ prog_5_method_4_code 4 (some .boolean) { frames := n + 12, cells := 0, slots := 0, locals := n * 40 + 800 } [sm_R 43, sm_I p0] μ K) ∧ (∀ {K : Int32 → sm_Mem → Prop} {p0 : Int32} {μ : sm_Mem}, wg_R n 1 K p0 μ → sm_MI l ⟨"SnowMoney$Reader", "readAnd", "(I)Z"⟩ prog_5_method_5_code 4 (some .boolean) { frames := n + 12, cells := 0, slots := 0, locals := n * 40 + 800 } [sm_R 43, sm_I p0] μ K) ∧ (∀ {K : Int32 → sm_Mem → Prop} {p0 : Int32} {μ : sm_Mem}, wg_R n 2 K p0 μ → sm_MI l ⟨"SnowMoney$Reader", "readComparison", "(I)Z"⟩ prog_5_method_6_code 4 (some .boolean) { frames := n + 12, cells := 0, slots := 0, locals := n * 40 + 800 } [sm_R 43, sm_I p0] μ K) ∧ (∀ {K : Int32 → sm_Mem → Prop} {p0 : Int32} {μ : sm_Mem}, wg_R n 3 K p0 μ → sm_MI l ⟨"SnowMoney$Reader", "readSum", "(I)Z"⟩ prog_5_method_7_code 5 (some .boolean) { frames := n + 12, cells := 0, slots := 0, locals := n * 40 + 800 } [sm_R 43, sm_I p0] μ K) ∧ (∀ {K : Int32 → sm_Mem → Prop} {p0 : Int32} {μ : sm_Mem}, wg_R n 4 K p0 μ → sm_MI l ⟨"SnowMoney$Reader", "readProduct", "(I)Z"⟩ prog_5_method_8_code 5 (some .boolean) { frames := n + 12, cells := 0, slots := 0, locals := n * 40 + 800 } [sm_R 43, sm_I p0] μ K) ∧ (∀ {K : Int32 → sm_Mem → Prop} {p0 : Int32} {μ : sm_Mem}, wg_R n 5 K p0 μ → sm_MI l ⟨"SnowMoney$Reader", "readPart", "(I)Z"⟩ prog_5_method_9_code 4 (some .boolean) { frames := n + 12, cells := 0, slots := 0, locals := n * 40 + 800 } [sm_R 43, sm_I p0] μ K) ∧ (∀ {K : Int32 → sm_Mem → Prop} {p0 : Int32} {μ : sm_Mem}, wg_R n 6 K p0 μ → sm_MI l ⟨"SnowMoney$Reader", "readDenied", "(I)Z"⟩ prog_5_method_10_code 3 (some .boolean) { frames := n + 12, cells := 0, slots := 0, locals := n * 40 + 800 } [sm_R 43, sm_I p0] μ K) ∧ (∀ {K : Int32 → sm_Mem → Prop} {p0 : Int32} {μ : sm_Mem}, wg_R n 7 K p0 μ → sm_MI l ⟨"SnowMoney$Reader", "readClosed", "(I)Z"⟩ prog_5_method_11_code 2 (some .boolean) { frames := n + 12, cells := 0, slots := 0, locals := n * 40 + 800 } [sm_R 43, sm_I p0] μ K)
  | 0 => ⟨fun h => h.elim, fun h => h.elim, fun h => h.elim, fun h => h.elim, fun h => h.elim, fun h => h.elim, fun h => h.elim, fun h => h.elim⟩
  | n + 1 => ⟨fun h => P_R_readOr l (F := wg_R n) (n := n) (PG_R l n).2.1 h, fun h => P_R_readAnd l (F := wg_R n) (n := n) (PG_R l n).2.2.1 h, fun h => P_R_readComparison l (F := wg_R n) (n := n) (PG_R l n).2.2.2.1 h, fun h => P_R_readSum l (F := wg_R n) (n := n) (PG_R l n).2.2.2.2.1 h, fun h => P_R_readProduct l (F := wg_R n) (n := n) (PG_R l n).2.2.2.2.2.1 h, fun h => P_R_readPart l (F := wg_R n) (n := n) (PG_R l n).2.2.2.2.2.2.1 (PG_R l n).2.2.2.2.2.2.2 h, fun h => P_R_readDenied l (F := wg_R n) (n := n) (PG_R l n).2.2.2.2.2.1 h, fun h => P_R_readClosed l (F := wg_R n) (n := n) (PG_R l n).1 h⟩
theorem PG_R_0 (l : Launch) (n : Nat) {K : Int32 → sm_Mem → Prop} {p0 : Int32} {μ : sm_Mem} (h : wg_R n 0 K p0 μ) : sm_MI l ⟨"SnowMoney$Reader", "readOr", "(I)Z"⟩ prog_5_method_4_code 4 (some .boolean) { frames := n + 12, cells := 0, slots := 0, locals := n * 40 + 800 } [sm_R 43, sm_I p0] μ K := (PG_R l n).1 h
theorem PG_R_1 (l : Launch) (n : Nat) {K : Int32 → sm_Mem → Prop} {p0 : Int32} {μ : sm_Mem} (h : wg_R n 1 K p0 μ) : sm_MI l ⟨"SnowMoney$Reader", "readAnd", "(I)Z"⟩ prog_5_method_5_code 4 (some .boolean) { frames := n + 12, cells := 0, slots := 0, locals := n * 40 + 800 } [sm_R 43, sm_I p0] μ K := (PG_R l n).2.1 h
theorem PG_R_2 (l : Launch) (n : Nat) {K : Int32 → sm_Mem → Prop} {p0 : Int32} {μ : sm_Mem} (h : wg_R n 2 K p0 μ) : sm_MI l ⟨"SnowMoney$Reader", "readComparison", "(I)Z"⟩ prog_5_method_6_code 4 (some .boolean) { frames := n + 12, cells := 0, slots := 0, locals := n * 40 + 800 } [sm_R 43, sm_I p0] μ K := (PG_R l n).2.2.1 h
theorem PG_R_3 (l : Launch) (n : Nat) {K : Int32 → sm_Mem → Prop} {p0 : Int32} {μ : sm_Mem} (h : wg_R n 3 K p0 μ) : sm_MI l ⟨"SnowMoney$Reader", "readSum", "(I)Z"⟩ prog_5_method_7_code 5 (some .boolean) { frames := n + 12, cells := 0, slots := 0, locals := n * 40 + 800 } [sm_R 43, sm_I p0] μ K := (PG_R l n).2.2.2.1 h
theorem PG_R_4 (l : Launch) (n : Nat) {K : Int32 → sm_Mem → Prop} {p0 : Int32} {μ : sm_Mem} (h : wg_R n 4 K p0 μ) : sm_MI l ⟨"SnowMoney$Reader", "readProduct", "(I)Z"⟩ prog_5_method_8_code 5 (some .boolean) { frames := n + 12, cells := 0, slots := 0, locals := n * 40 + 800 } [sm_R 43, sm_I p0] μ K := (PG_R l n).2.2.2.2.1 h
theorem PG_R_5 (l : Launch) (n : Nat) {K : Int32 → sm_Mem → Prop} {p0 : Int32} {μ : sm_Mem} (h : wg_R n 5 K p0 μ) : sm_MI l ⟨"SnowMoney$Reader", "readPart", "(I)Z"⟩ prog_5_method_9_code 4 (some .boolean) { frames := n + 12, cells := 0, slots := 0, locals := n * 40 + 800 } [sm_R 43, sm_I p0] μ K := (PG_R l n).2.2.2.2.2.1 h
theorem PG_R_6 (l : Launch) (n : Nat) {K : Int32 → sm_Mem → Prop} {p0 : Int32} {μ : sm_Mem} (h : wg_R n 6 K p0 μ) : sm_MI l ⟨"SnowMoney$Reader", "readDenied", "(I)Z"⟩ prog_5_method_10_code 3 (some .boolean) { frames := n + 12, cells := 0, slots := 0, locals := n * 40 + 800 } [sm_R 43, sm_I p0] μ K := (PG_R l n).2.2.2.2.2.2.1 h
theorem PG_R_7 (l : Launch) (n : Nat) {K : Int32 → sm_Mem → Prop} {p0 : Int32} {μ : sm_Mem} (h : wg_R n 7 K p0 μ) : sm_MI l ⟨"SnowMoney$Reader", "readClosed", "(I)Z"⟩ prog_5_method_11_code 2 (some .boolean) { frames := n + 12, cells := 0, slots := 0, locals := n * 40 + 800 } [sm_R 43, sm_I p0] μ K := (PG_R l n).2.2.2.2.2.2.2 h
theorem d_R_read_0 : decode prog_5_method_2_code 0 = .ok (.aload_n 0, 1) := by decide +kernel
theorem d_R_read_1 : decode prog_5_method_2_code 1 = .ok (.iconst 0, 1) := by decide +kernel
theorem d_R_read_2 : decode prog_5_method_2_code 2 = .ok (.iload_n 2, 1) := by decide +kernel
theorem d_R_read_3 : decode prog_5_method_2_code 3 = .ok (.aload_n 1, 1) := by decide +kernel
theorem d_R_read_4 : decode prog_5_method_2_code 4 = .ok (.arraylength, 1) := by decide +kernel
theorem d_R_read_5 : decode prog_5_method_2_code 5 = .ok (.aload_n 0, 1) := by decide +kernel
theorem d_R_read_6 : decode prog_5_method_2_code 6 = .ok (.getfield 18, 3) := by decide +kernel
theorem d_R_read_9 : decode prog_5_method_2_code 9 = .ok (.arraylength, 1) := by decide +kernel
theorem d_R_read_10 : decode prog_5_method_2_code 10 = .ok (.invokestatic 28, 3) := by decide +kernel
theorem d_R_read_13 : decode prog_5_method_2_code 13 = .ok (.invokestatic 28, 3) := by decide +kernel
theorem d_R_read_16 : decode prog_5_method_2_code 16 = .ok (.invokestatic 34, 3) := by decide +kernel
theorem d_R_read_19 : decode prog_5_method_2_code 19 = .ok (.putfield 37, 3) := by decide +kernel
theorem d_R_read_22 : decode prog_5_method_2_code 22 = .ok (.aload_n 1, 1) := by decide +kernel
theorem d_R_read_23 : decode prog_5_method_2_code 23 = .ok (.iconst 0, 1) := by decide +kernel
theorem d_R_read_24 : decode prog_5_method_2_code 24 = .ok (.aload_n 0, 1) := by decide +kernel
theorem d_R_read_25 : decode prog_5_method_2_code 25 = .ok (.getfield 18, 3) := by decide +kernel
theorem d_R_read_28 : decode prog_5_method_2_code 28 = .ok (.iconst 0, 1) := by decide +kernel
theorem d_R_read_29 : decode prog_5_method_2_code 29 = .ok (.aload_n 0, 1) := by decide +kernel
theorem d_R_read_30 : decode prog_5_method_2_code 30 = .ok (.getfield 37, 3) := by decide +kernel
theorem d_R_read_33 : decode prog_5_method_2_code 33 = .ok (.invokestatic 41, 3) := by decide +kernel
theorem d_R_read_36 : decode prog_5_method_2_code 36 = .ok (.aload_n 0, 1) := by decide +kernel
theorem d_R_read_37 : decode prog_5_method_2_code 37 = .ok (.aload_n 3, 1) := by decide +kernel
theorem d_R_read_38 : decode prog_5_method_2_code 38 = .ok (.putfield 24, 3) := by decide +kernel
theorem d_R_read_41 : decode prog_5_method_2_code 41 = .ok (.aload_n 0, 1) := by decide +kernel
theorem d_R_read_42 : decode prog_5_method_2_code 42 = .ok (.iconst 0, 1) := by decide +kernel
theorem d_R_read_43 : decode prog_5_method_2_code 43 = .ok (.putfield 47, 3) := by decide +kernel
theorem d_R_read_46 : decode prog_5_method_2_code 46 = .ok (.aload_n 0, 1) := by decide +kernel
theorem d_R_read_47 : decode prog_5_method_2_code 47 = .ok (.getfield 10, 3) := by decide +kernel
theorem d_R_read_50 : decode prog_5_method_2_code 50 = .ok (.invokevirtual 50, 3) := by decide +kernel
theorem d_R_read_53 : decode prog_5_method_2_code 53 = .ok (.aload_n 0, 1) := by decide +kernel
theorem d_R_read_54 : decode prog_5_method_2_code 54 = .ok (.iconst 0, 1) := by decide +kernel
theorem d_R_read_55 : decode prog_5_method_2_code 55 = .ok (.invokevirtual 53, 3) := by decide +kernel
theorem d_R_read_58 : decode prog_5_method_2_code 58 = .ok (.ifCond .eq 18, 3) := by decide +kernel
theorem d_R_read_61 : decode prog_5_method_2_code 61 = .ok (.aload_n 0, 1) := by decide +kernel
theorem d_R_read_62 : decode prog_5_method_2_code 62 = .ok (.getfield 47, 3) := by decide +kernel
theorem d_R_read_65 : decode prog_5_method_2_code 65 = .ok (.aload_n 0, 1) := by decide +kernel
theorem d_R_read_66 : decode prog_5_method_2_code 66 = .ok (.getfield 37, 3) := by decide +kernel
theorem d_R_read_69 : decode prog_5_method_2_code 69 = .ok (.if_icmp .ne 7, 3) := by decide +kernel
theorem d_R_read_72 : decode prog_5_method_2_code 72 = .ok (.iconst (-1), 1) := by decide +kernel
theorem d_R_read_73 : decode prog_5_method_2_code 73 = .ok (.goto 7, 3) := by decide +kernel
theorem d_R_read_76 : decode prog_5_method_2_code 76 = .ok (.aload_n 0, 1) := by decide +kernel
theorem d_R_read_77 : decode prog_5_method_2_code 77 = .ok (.getfield 47, 3) := by decide +kernel
theorem d_R_read_80 : decode prog_5_method_2_code 80 = .ok (.ireturn, 1) := by decide +kernel
def w_R_read (K : Int32 → sm_Mem → Prop) (a0 : Nat) (p1 : Int32) (p2 : Int32) (μ : sm_Mem) : Prop := isArr a0 50 ∧ ∀ μ1 : sm_Mem, μ1 = sm_st μ 43 2 (if 0 < (if (if 50 < 50 then 50 else 50) < p1 then (if 50 < 50 then 50 else 50) else p1) then (if (if 50 < 50 then 50 else 50) < p1 then (if 50 < 50 then 50 else 50) else p1) else 0) → (¬ (0 : Int32) < 0) ∧ (¬ (0 : Int32) < 0) ∧ (¬ (μ1 43 2) < 0) ∧ ((0 : Int32).toNatClampNeg + (μ1 43 2).toNatClampNeg ≤ 50) ∧ ((0 : Int32).toNatClampNeg + (μ1 43 2).toNatClampNeg ≤ 50) ∧ ∀ μ7 : sm_Mem, μ7 = sm_cpy μ1 a0 48 ((0 : Int32).toNatClampNeg) ((0 : Int32).toNatClampNeg) ((μ1 43 2).toNatClampNeg) → ∀ μ8 : sm_Mem, μ8 = sm_st μ7 43 4 p2 → ∀ μ9 : sm_Mem, μ9 = sm_st μ8 43 3 0 → w_T_clear (fun μ10 => wg_R 50 0 (fun r12 μ11 => if r12 = 0 then K (μ11 43 3) μ11 else (if (μ11 43 3) = (μ11 43 2) then K (-1) μ11 else K (μ11 43 3) μ11)) 0 μ10) 44 μ9
set_option maxHeartbeats 4000000 in
set_option maxRecDepth 100000 in
theorem P_R_read (l : Launch) {K : Int32 → sm_Mem → Prop} {a0 : Nat} {p1 : Int32} {p2 : Int32} {μ : sm_Mem} (h : w_R_read K a0 p1 p2 μ) : sm_MI l ⟨"SnowMoney$Reader", "read", "([IILjava/lang/String;)I"⟩ prog_5_method_2_code 4 (some .int) { frames := 63, cells := 0, slots := 0, locals := 2823 } [sm_R 43, sm_R a0, sm_I p1, sm_R (100 + p2.toNatClampNeg)] μ K := by
  refine sm_ofI (by decide +kernel) (fun _ => Nat.le_of_ble_eq_true rfl) ?_
  intro p e s m args below meth c A Q G C hR
  obtain ⟨t_a0, h⟩ := h
  refine sr_aload_n C 0 rfl rfl d_R_read_0 ?_
  refine sr_iconst C (v := 0) d_R_read_1 (by decide) ?_
  refine sr_iload_n C 2 rfl rfl d_R_read_2 ?_
  refine sr_aload_n C 1 rfl rfl d_R_read_3 ?_
  refine sr_alen C t_a0 (v := 50) (by decide) d_R_read_4 ?_
  refine sr_aload_n C 0 rfl rfl d_R_read_5 ?_
  refine sr_getR C sm_F2 1 q_133 sm_l43 (r := 48) rfl (by decide) d_R_read_6 ?_
  refine sr_alen C sm_l48 (v := 50) (by decide) d_R_read_9 ?_
  refine sr_mmin C q_134 q_mmin1 q_mini q_mmin2 (Nat.le_of_ble_eq_true rfl) (Nat.le_of_ble_eq_true rfl) ⟨Nat.zero_le _, Nat.zero_le _⟩ d_R_read_10 ?_
  refine sr_mmin C q_134 q_mmin1 q_mini q_mmin2 (Nat.le_of_ble_eq_true rfl) (Nat.le_of_ble_eq_true rfl) ⟨Nat.zero_le _, Nat.zero_le _⟩ d_R_read_13 ?_
  refine sr_mmax C q_135 q_mmax1 q_mini q_mmax2 (Nat.le_of_ble_eq_true rfl) (Nat.le_of_ble_eq_true rfl) ⟨Nat.zero_le _, Nat.zero_le _⟩ d_R_read_16 ?_
  refine sr_putI C sm_F2 2 q_136 sm_l43 rfl rfl (by decide) rfl d_R_read_19 ?_
  replace h := h _ rfl
  refine sr_aload_n C 1 rfl rfl d_R_read_22 ?_
  refine sr_iconst C (v := 0) d_R_read_23 (by decide) ?_
  refine sr_aload_n C 0 rfl rfl d_R_read_24 ?_
  refine sr_getR C sm_F2 1 q_133 sm_l43 (r := 48) rfl (by decide) d_R_read_25 ?_
  refine sr_iconst C (v := 0) d_R_read_28 (by decide) ?_
  refine sr_aload_n C 0 rfl rfl d_R_read_29 ?_
  refine sr_getI C sm_F2 2 q_136 sm_l43 rfl (by decide) d_R_read_30 ?_
  obtain ⟨g2, h⟩ := h
  obtain ⟨g3, h⟩ := h
  obtain ⟨g4, h⟩ := h
  obtain ⟨g5, h⟩ := h
  obtain ⟨g6, h⟩ := h
  refine sr_copy C t_a0 sm_l48 g2 g3 g4 g5 g6 q_137 q_sysn q_syss q_sysi (Nat.le_of_ble_eq_true rfl) (Nat.le_of_ble_eq_true rfl) d_R_read_33 ?_
  replace h := h _ rfl
  refine sr_aload_n C 0 rfl rfl d_R_read_36 ?_
  refine sr_aload_n C 3 rfl rfl d_R_read_37 ?_
  refine sr_putS C sm_F2 4 q_138 sm_l43 (x := p2) rfl rfl (by decide) rfl d_R_read_38 ?_
  replace h := h _ rfl
  refine sr_aload_n C 0 rfl rfl d_R_read_41 ?_
  refine sr_iconst C (v := 0) d_R_read_42 (by decide) ?_
  refine sr_putI C sm_F2 3 q_139 sm_l43 rfl rfl (by decide) rfl d_R_read_43 ?_
  replace h := h _ rfl
  refine sr_aload_n C 0 rfl rfl d_R_read_46 ?_
  refine sr_getR C sm_F2 0 q_140 sm_l43 (r := 44) rfl (by decide) d_R_read_47 ?_
  refine sr_callVV C [] (P_T_clear l h) ok_27 sm_l44 rfl rfl rfl rfl ⟨Nat.le_of_ble_eq_true rfl, Nat.le_of_ble_eq_true rfl⟩ (Nat.le_of_ble_eq_true rfl) ⟨Nat.zero_le _, Nat.zero_le _⟩ d_R_read_50 (fun μ10 h => ?_)
  refine sr_aload_n C 0 rfl rfl d_R_read_53 ?_
  refine sr_iconst C (v := 0) d_R_read_54 (by decide) ?_
  refine sr_callVI C [sm_I _] (PG_R_0 l 50 h) ok_28 sm_l43 rfl rfl rfl rfl ⟨Nat.le_of_ble_eq_true rfl, Nat.le_of_ble_eq_true rfl⟩ (Nat.le_of_ble_eq_true rfl) ⟨Nat.zero_le _, Nat.zero_le _⟩ d_R_read_55 (fun r12 μ11 h => ?_)
  refine sr_if_eq C (tgt := 76) d_R_read_58 (by decide) (fun c13 => ?_) (fun c13 => ?_)
  · replace h := Eq.mp (if_pos c13) h
    refine sr_aload_n C 0 rfl rfl d_R_read_76 ?_
    refine sr_getI C sm_F2 3 q_139 sm_l43 rfl (by decide) d_R_read_77 ?_
    exact hR _ _ _ _ d_R_read_80 rfl h
  · replace h := Eq.mp (if_neg c13) h
    refine sr_aload_n C 0 rfl rfl d_R_read_61 ?_
    refine sr_getI C sm_F2 3 q_139 sm_l43 rfl (by decide) d_R_read_62 ?_
    refine sr_aload_n C 0 rfl rfl d_R_read_65 ?_
    refine sr_getI C sm_F2 2 q_136 sm_l43 rfl (by decide) d_R_read_66 ?_
    refine sr_icmp_ne C (tgt := 76) d_R_read_69 (by decide) (fun c14 => ?_) (fun c14 => ?_)
    · replace h := Eq.mp (if_neg c14) h
      refine sr_aload_n C 0 rfl rfl d_R_read_76 ?_
      refine sr_getI C sm_F2 3 q_139 sm_l43 rfl (by decide) d_R_read_77 ?_
      exact hR _ _ _ _ d_R_read_80 rfl h
    · replace h := Eq.mp (if_pos c14) h
      refine sr_iconst C (v := (-1)) d_R_read_72 (by decide) ?_
      refine sr_goto C (tgt := 80) (by decide) d_R_read_73 ?_
      exact hR _ _ _ _ d_R_read_80 rfl h

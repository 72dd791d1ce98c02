theorem d_D_hasPlace_0 : decode prog_2_method_3_code 0 = .ok (.iload_n 1, 1) := by decide +kernel
theorem d_D_hasPlace_1 : decode prog_2_method_3_code 1 = .ok (.ifCond .lt 15, 3) := by decide +kernel
theorem d_D_hasPlace_4 : decode prog_2_method_3_code 4 = .ok (.iload_n 1, 1) := by decide +kernel
theorem d_D_hasPlace_5 : decode prog_2_method_3_code 5 = .ok (.aload_n 0, 1) := by decide +kernel
theorem d_D_hasPlace_6 : decode prog_2_method_3_code 6 = .ok (.getfield 64, 3) := by decide +kernel
theorem d_D_hasPlace_9 : decode prog_2_method_3_code 9 = .ok (.if_icmp .ge 7, 3) := by decide +kernel
theorem d_D_hasPlace_12 : decode prog_2_method_3_code 12 = .ok (.iconst 1, 1) := by decide +kernel
theorem d_D_hasPlace_13 : decode prog_2_method_3_code 13 = .ok (.goto 4, 3) := by decide +kernel
theorem d_D_hasPlace_16 : decode prog_2_method_3_code 16 = .ok (.iconst 0, 1) := by decide +kernel
theorem d_D_hasPlace_17 : decode prog_2_method_3_code 17 = .ok (.ireturn, 1) := by decide +kernel
def w_D_hasPlace (K : Int32 → sm_Mem → Prop) (p0 : Int32) (μ : sm_Mem) : Prop := if p0 < 0 then K 0 μ else (if (μ 1 11) ≤ p0 then K 0 μ else K 1 μ)
set_option maxHeartbeats 4000000 in
set_option maxRecDepth 100000 in
theorem P_D_hasPlace (l : Launch) {K : Int32 → sm_Mem → Prop} {p0 : Int32} {μ : sm_Mem} (h : w_D_hasPlace K p0 μ) : sm_MI l ⟨"SnowMoney$Duchy", "hasPlace", "(I)Z"⟩ prog_2_method_3_code 2 (some .boolean) { frames := 0, cells := 0, slots := 0, locals := 0 } [sm_R 1, sm_I p0] μ K := by
  refine sm_ofI (by decide +kernel) (fun _ => Nat.le_of_ble_eq_true rfl) ?_
  intro p e s m args below meth c A Q G C hR
  refine sr_iload_n C 1 rfl rfl d_D_hasPlace_0 ?_
  refine sr_if_lt C (tgt := 16) d_D_hasPlace_1 (by decide) (fun c1 => ?_) (fun c1 => ?_)
  · replace h := Eq.mp (if_pos c1) h
    refine sr_iconst C (v := 0) d_D_hasPlace_16 (by decide) ?_
    exact hR _ _ _ _ d_D_hasPlace_17 rfl h
  · replace h := Eq.mp (if_neg c1) h
    refine sr_iload_n C 1 rfl rfl d_D_hasPlace_4 ?_
    refine sr_aload_n C 0 rfl rfl d_D_hasPlace_5 ?_
    refine sr_getI C sm_F0 11 q_18 sm_l1 rfl (by decide) d_D_hasPlace_6 ?_
    refine sr_icmp_ge C (tgt := 16) d_D_hasPlace_9 (by decide) (fun c2 => ?_) (fun c2 => ?_)
    · replace h := Eq.mp (if_pos c2) h
      refine sr_iconst C (v := 0) d_D_hasPlace_16 (by decide) ?_
      exact hR _ _ _ _ d_D_hasPlace_17 rfl h
    · replace h := Eq.mp (if_neg c2) h
      refine sr_iconst C (v := 1) d_D_hasPlace_12 (by decide) ?_
      refine sr_goto C (tgt := 17) (by decide) d_D_hasPlace_13 ?_
      exact hR _ _ _ _ d_D_hasPlace_17 rfl h
theorem d_D_notesAt_0 : decode prog_2_method_7_code 0 = .ok (.iconst 0, 1) := by decide +kernel
theorem d_D_notesAt_1 : decode prog_2_method_7_code 1 = .ok (.istore_n 2, 1) := by decide +kernel
theorem d_D_notesAt_2 : decode prog_2_method_7_code 2 = .ok (.iconst 0, 1) := by decide +kernel
theorem d_D_notesAt_3 : decode prog_2_method_7_code 3 = .ok (.istore_n 3, 1) := by decide +kernel
theorem d_D_notesAt_4 : decode prog_2_method_7_code 4 = .ok (.iload_n 3, 1) := by decide +kernel
theorem d_D_notesAt_5 : decode prog_2_method_7_code 5 = .ok (.aload_n 0, 1) := by decide +kernel
theorem d_D_notesAt_6 : decode prog_2_method_7_code 6 = .ok (.getfield 67, 3) := by decide +kernel
theorem d_D_notesAt_9 : decode prog_2_method_7_code 9 = .ok (.if_icmp .ge 25, 3) := by decide +kernel
theorem d_D_notesAt_12 : decode prog_2_method_7_code 12 = .ok (.aload_n 0, 1) := by decide +kernel
theorem d_D_notesAt_13 : decode prog_2_method_7_code 13 = .ok (.getfield 25, 3) := by decide +kernel
theorem d_D_notesAt_16 : decode prog_2_method_7_code 16 = .ok (.iload_n 3, 1) := by decide +kernel
theorem d_D_notesAt_17 : decode prog_2_method_7_code 17 = .ok (.iaload, 1) := by decide +kernel
theorem d_D_notesAt_18 : decode prog_2_method_7_code 18 = .ok (.iload_n 1, 1) := by decide +kernel
theorem d_D_notesAt_19 : decode prog_2_method_7_code 19 = .ok (.if_icmp .ne 9, 3) := by decide +kernel
theorem d_D_notesAt_22 : decode prog_2_method_7_code 22 = .ok (.iload_n 2, 1) := by decide +kernel
theorem d_D_notesAt_23 : decode prog_2_method_7_code 23 = .ok (.iconst 1, 1) := by decide +kernel
theorem d_D_notesAt_24 : decode prog_2_method_7_code 24 = .ok (.iload_n 3, 1) := by decide +kernel
theorem d_D_notesAt_25 : decode prog_2_method_7_code 25 = .ok (.ishl, 1) := by decide +kernel
theorem d_D_notesAt_26 : decode prog_2_method_7_code 26 = .ok (.ior, 1) := by decide +kernel
theorem d_D_notesAt_27 : decode prog_2_method_7_code 27 = .ok (.istore_n 2, 1) := by decide +kernel
theorem d_D_notesAt_28 : decode prog_2_method_7_code 28 = .ok (.iinc 3 1, 3) := by decide +kernel
theorem d_D_notesAt_31 : decode prog_2_method_7_code 31 = .ok (.goto (-27), 3) := by decide +kernel
theorem d_D_notesAt_34 : decode prog_2_method_7_code 34 = .ok (.iload_n 2, 1) := by decide +kernel
theorem d_D_notesAt_35 : decode prog_2_method_7_code 35 = .ok (.ireturn, 1) := by decide +kernel
def w_D_notesAt_28 (K : Int32 → sm_Mem → Prop) (J4 : Int32 → Int32 → sm_Mem → Prop) (p0 : Int32) (x2 : Int32) (x3 : Int32) (μ : sm_Mem) : Prop := J4 x2 (x3 + 1) μ
def w_D_notesAt_4 (K : Int32 → sm_Mem → Prop) (p0 : Int32) (x2 : Int32) (x3 : Int32) (μ : sm_Mem) : Prop := sm_lp2 (fun J4 x2 x3 μ => if (μ 1 12) ≤ x3 then K x2 μ else (vp_in x3 10 ∧ if (μ 7 x3.toNatClampNeg) = p0 then (∀ v4 : Int32, v4 = (x2 ||| (1 <<< (x3 &&& 31))) → w_D_notesAt_28 K J4 p0 v4 x3 μ) else w_D_notesAt_28 K J4 p0 x2 x3 μ)) x2 x3 μ
def w_D_notesAt (K : Int32 → sm_Mem → Prop) (p0 : Int32) (μ : sm_Mem) : Prop := w_D_notesAt_4 K p0 0 0 μ
set_option maxHeartbeats 4000000 in
set_option maxRecDepth 100000 in
theorem P_D_notesAt (l : Launch) {K : Int32 → sm_Mem → Prop} {p0 : Int32} {μ : sm_Mem} (h : w_D_notesAt K p0 μ) : sm_MI l ⟨"SnowMoney$Duchy", "notesAt", "(I)I"⟩ prog_2_method_7_code 4 (some .int) { frames := 0, cells := 0, slots := 0, locals := 0 } [sm_R 1, sm_I p0] μ K := by
  refine sm_ofI (by decide +kernel) (fun _ => Nat.le_of_ble_eq_true rfl) ?_
  intro p e s m args below meth c A Q G C hR
  have B28 : ∀ (x2 : Int32) (x3 : Int32) (J4 : Int32 → Int32 → sm_Mem → Prop) (hJ4 : ∀ (x2 : Int32) (x3 : Int32) (μ : sm_Mem), J4 x2 x3 μ → sm_W p l e { frames := 0, cells := 0, slots := 0, locals := 0 } s m args below meth c A Q G 4 0 0 4 [] [(0, sm_R 1), (1, sm_I p0), (2, sm_I x2), (3, sm_I x3)] μ) (μ : sm_Mem), w_D_notesAt_28 K J4 p0 x2 x3 μ → sm_W p l e { frames := 0, cells := 0, slots := 0, locals := 0 } s m args below meth c A Q G 4 0 0 28 [] [(0, sm_R 1), (1, sm_I p0), (2, sm_I x2), (3, sm_I x3)] μ := by
    intro x2 x3 J4 hJ4 μ h
    refine sr_iinc C 3 rfl (by decide) d_D_notesAt_28 rfl ?_
    refine sr_goto C (tgt := 4) (by decide) d_D_notesAt_31 ?_
    refine sr_mask C [1, 2, 3, 0] rfl ?_
    exact hJ4 _ _ _ h
  have B4 : ∀ (x2 : Int32) (x3 : Int32) (μ : sm_Mem), w_D_notesAt_4 K p0 x2 x3 μ → sm_W p l e { frames := 0, cells := 0, slots := 0, locals := 0 } s m args below meth c A Q G 4 0 0 4 [] [(0, sm_R 1), (1, sm_I p0), (2, sm_I x2), (3, sm_I x3)] μ := by
    intro x2 x3 μ h
    refine sm_lp2_sound (P := fun x2 x3 μ => sm_W p l e { frames := 0, cells := 0, slots := 0, locals := 0 } s m args below meth c A Q G 4 0 0 4 [] [(0, sm_R 1), (1, sm_I p0), (2, sm_I x2), (3, sm_I x3)] μ) (fun J4 x2 x3 μ hJ4 h => ?_) h
    refine sr_iload_n C 3 rfl rfl d_D_notesAt_4 ?_
    refine sr_aload_n C 0 rfl rfl d_D_notesAt_5 ?_
    refine sr_getI C sm_F0 12 q_23 sm_l1 rfl (by decide) d_D_notesAt_6 ?_
    refine sr_icmp_ge C (tgt := 34) d_D_notesAt_9 (by decide) (fun c1 => ?_) (fun c1 => ?_)
    · replace h := Eq.mp (if_pos c1) h
      refine sr_iload_n C 2 rfl rfl d_D_notesAt_34 ?_
      exact hR _ _ _ _ d_D_notesAt_35 rfl h
    · replace h := Eq.mp (if_neg c1) h
      refine sr_aload_n C 0 rfl rfl d_D_notesAt_12 ?_
      refine sr_getR C sm_F0 5 q_24 sm_l1 (r := 7) rfl (by decide) d_D_notesAt_13 ?_
      refine sr_iload_n C 3 rfl rfl d_D_notesAt_16 ?_
      obtain ⟨g2, h⟩ := h
      refine sr_iald C sm_l7 g2 d_D_notesAt_17 ?_
      refine sr_iload_n C 1 rfl rfl d_D_notesAt_18 ?_
      refine sr_icmp_ne C (tgt := 28) d_D_notesAt_19 (by decide) (fun c3 => ?_) (fun c3 => ?_)
      · replace h := Eq.mp (if_neg c3) h
        exact B28 _ _ _ hJ4 _ h
      · replace h := Eq.mp (if_pos c3) h
        refine sr_iload_n C 2 rfl rfl d_D_notesAt_22 ?_
        refine sr_iconst C (v := 1) d_D_notesAt_23 (by decide) ?_
        refine sr_iload_n C 3 rfl rfl d_D_notesAt_24 ?_
        refine sr_ishl C d_D_notesAt_25 ?_
        refine sr_ior C d_D_notesAt_26 ?_
        replace h := h _ rfl
        refine sr_istore_n C rfl (by decide) d_D_notesAt_27 ?_
        refine sr_mask C [1, 2, 0, 3] rfl ?_
        exact B28 _ _ _ hJ4 _ h
  refine sr_iconst C (v := 0) d_D_notesAt_0 (by decide) ?_
  refine sr_istore_n C rfl (by decide) d_D_notesAt_1 ?_
  refine sr_iconst C (v := 0) d_D_notesAt_2 (by decide) ?_
  refine sr_istore_n C rfl (by decide) d_D_notesAt_3 ?_
  refine sr_mask C [2, 3, 1, 0] rfl ?_
  exact B4 _ _ _ h
theorem d_D_roadBetween_0 : decode prog_2_method_8_code 0 = .ok (.aload_n 0, 1) := by decide +kernel
theorem d_D_roadBetween_1 : decode prog_2_method_8_code 1 = .ok (.iload_n 1, 1) := by decide +kernel
theorem d_D_roadBetween_2 : decode prog_2_method_8_code 2 = .ok (.invokevirtual 79, 3) := by decide +kernel
theorem d_D_roadBetween_5 : decode prog_2_method_8_code 5 = .ok (.ifCond .eq 25, 3) := by decide +kernel
theorem d_D_roadBetween_8 : decode prog_2_method_8_code 8 = .ok (.aload_n 0, 1) := by decide +kernel
theorem d_D_roadBetween_9 : decode prog_2_method_8_code 9 = .ok (.iload_n 2, 1) := by decide +kernel
theorem d_D_roadBetween_10 : decode prog_2_method_8_code 10 = .ok (.invokevirtual 79, 3) := by decide +kernel
theorem d_D_roadBetween_13 : decode prog_2_method_8_code 13 = .ok (.ifCond .eq 17, 3) := by decide +kernel
theorem d_D_roadBetween_16 : decode prog_2_method_8_code 16 = .ok (.aload_n 0, 1) := by decide +kernel
theorem d_D_roadBetween_17 : decode prog_2_method_8_code 17 = .ok (.getfield 13, 3) := by decide +kernel
theorem d_D_roadBetween_20 : decode prog_2_method_8_code 20 = .ok (.iload_n 1, 1) := by decide +kernel
theorem d_D_roadBetween_21 : decode prog_2_method_8_code 21 = .ok (.bipush 6, 2) := by decide +kernel
theorem d_D_roadBetween_23 : decode prog_2_method_8_code 23 = .ok (.imul, 1) := by decide +kernel
theorem d_D_roadBetween_24 : decode prog_2_method_8_code 24 = .ok (.iload_n 2, 1) := by decide +kernel
theorem d_D_roadBetween_25 : decode prog_2_method_8_code 25 = .ok (.iadd, 1) := by decide +kernel
theorem d_D_roadBetween_26 : decode prog_2_method_8_code 26 = .ok (.iaload, 1) := by decide +kernel
theorem d_D_roadBetween_27 : decode prog_2_method_8_code 27 = .ok (.goto 4, 3) := by decide +kernel
theorem d_D_roadBetween_30 : decode prog_2_method_8_code 30 = .ok (.iconst 0, 1) := by decide +kernel
theorem d_D_roadBetween_31 : decode prog_2_method_8_code 31 = .ok (.ireturn, 1) := by decide +kernel
def w_D_roadBetween (K : Int32 → sm_Mem → Prop) (p0 : Int32) (p1 : Int32) (μ : sm_Mem) : Prop := w_D_hasPlace (fun r2 μ1 => if r2 = 0 then K 0 μ1 else (w_D_hasPlace (fun r5 μ4 => if r5 = 0 then K 0 μ4 else (vp_in ((p0 * 6) + p1) 36 ∧ K (μ4 3 ((p0 * 6) + p1).toNatClampNeg) μ4)) p1 μ1)) p0 μ
set_option maxHeartbeats 4000000 in
set_option maxRecDepth 100000 in
theorem P_D_roadBetween (l : Launch) {K : Int32 → sm_Mem → Prop} {p0 : Int32} {p1 : Int32} {μ : sm_Mem} (h : w_D_roadBetween K p0 p1 μ) : sm_MI l ⟨"SnowMoney$Duchy", "roadBetween", "(II)I"⟩ prog_2_method_8_code 3 (some .int) { frames := 1, cells := 0, slots := 0, locals := 21 } [sm_R 1, sm_I p0, sm_I p1] μ K := by
  refine sm_ofI (by decide +kernel) (fun _ => Nat.le_of_ble_eq_true rfl) ?_
  intro p e s m args below meth c A Q G C hR
  refine sr_aload_n C 0 rfl rfl d_D_roadBetween_0 ?_
  refine sr_iload_n C 1 rfl rfl d_D_roadBetween_1 ?_
  refine sr_callVI C [sm_I _] (P_D_hasPlace l h) ok_6 sm_l1 rfl rfl rfl rfl ⟨Nat.le_of_ble_eq_true rfl, Nat.le_of_ble_eq_true rfl⟩ (Nat.le_of_ble_eq_true rfl) ⟨Nat.zero_le _, Nat.zero_le _⟩ d_D_roadBetween_2 (fun r2 μ1 h => ?_)
  refine sr_if_eq C (tgt := 30) d_D_roadBetween_5 (by decide) (fun c3 => ?_) (fun c3 => ?_)
  · replace h := Eq.mp (if_pos c3) h
    refine sr_iconst C (v := 0) d_D_roadBetween_30 (by decide) ?_
    exact hR _ _ _ _ d_D_roadBetween_31 rfl h
  · replace h := Eq.mp (if_neg c3) h
    refine sr_aload_n C 0 rfl rfl d_D_roadBetween_8 ?_
    refine sr_iload_n C 2 rfl rfl d_D_roadBetween_9 ?_
    refine sr_callVI C [sm_I _] (P_D_hasPlace l h) ok_6 sm_l1 rfl rfl rfl rfl ⟨Nat.le_of_ble_eq_true rfl, Nat.le_of_ble_eq_true rfl⟩ (Nat.le_of_ble_eq_true rfl) ⟨Nat.zero_le _, Nat.zero_le _⟩ d_D_roadBetween_10 (fun r5 μ4 h => ?_)
    refine sr_if_eq C (tgt := 30) d_D_roadBetween_13 (by decide) (fun c6 => ?_) (fun c6 => ?_)
    · replace h := Eq.mp (if_pos c6) h
      refine sr_iconst C (v := 0) d_D_roadBetween_30 (by decide) ?_
      exact hR _ _ _ _ d_D_roadBetween_31 rfl h
    · replace h := Eq.mp (if_neg c6) h
      refine sr_aload_n C 0 rfl rfl d_D_roadBetween_16 ?_
      refine sr_getR C sm_F0 1 q_34 sm_l1 (r := 3) rfl (by decide) d_D_roadBetween_17 ?_
      refine sr_iload_n C 1 rfl rfl d_D_roadBetween_20 ?_
      refine sr_bipush C (v := 6) d_D_roadBetween_21 (by decide) ?_
      refine sr_imul C d_D_roadBetween_23 ?_
      refine sr_iload_n C 2 rfl rfl d_D_roadBetween_24 ?_
      refine sr_iadd C d_D_roadBetween_25 ?_
      obtain ⟨g7, h⟩ := h
      refine sr_iald C sm_l3 g7 d_D_roadBetween_26 ?_
      refine sr_goto C (tgt := 31) (by decide) d_D_roadBetween_27 ?_
      exact hR _ _ _ _ d_D_roadBetween_31 rfl h
theorem d_D_setRoad_0 : decode prog_2_method_9_code 0 = .ok (.aload_n 0, 1) := by decide +kernel
theorem d_D_setRoad_1 : decode prog_2_method_9_code 1 = .ok (.iload_n 1, 1) := by decide +kernel
theorem d_D_setRoad_2 : decode prog_2_method_9_code 2 = .ok (.invokevirtual 79, 3) := by decide +kernel
theorem d_D_setRoad_5 : decode prog_2_method_9_code 5 = .ok (.ifCond .eq 35, 3) := by decide +kernel
theorem d_D_setRoad_8 : decode prog_2_method_9_code 8 = .ok (.aload_n 0, 1) := by decide +kernel
theorem d_D_setRoad_9 : decode prog_2_method_9_code 9 = .ok (.iload_n 2, 1) := by decide +kernel
theorem d_D_setRoad_10 : decode prog_2_method_9_code 10 = .ok (.invokevirtual 79, 3) := by decide +kernel
theorem d_D_setRoad_13 : decode prog_2_method_9_code 13 = .ok (.ifCond .eq 27, 3) := by decide +kernel
theorem d_D_setRoad_16 : decode prog_2_method_9_code 16 = .ok (.aload_n 0, 1) := by decide +kernel
theorem d_D_setRoad_17 : decode prog_2_method_9_code 17 = .ok (.getfield 13, 3) := by decide +kernel
theorem d_D_setRoad_20 : decode prog_2_method_9_code 20 = .ok (.iload_n 1, 1) := by decide +kernel
theorem d_D_setRoad_21 : decode prog_2_method_9_code 21 = .ok (.bipush 6, 2) := by decide +kernel
theorem d_D_setRoad_23 : decode prog_2_method_9_code 23 = .ok (.imul, 1) := by decide +kernel
theorem d_D_setRoad_24 : decode prog_2_method_9_code 24 = .ok (.iload_n 2, 1) := by decide +kernel
theorem d_D_setRoad_25 : decode prog_2_method_9_code 25 = .ok (.iadd, 1) := by decide +kernel
theorem d_D_setRoad_26 : decode prog_2_method_9_code 26 = .ok (.iload_n 3, 1) := by decide +kernel
theorem d_D_setRoad_27 : decode prog_2_method_9_code 27 = .ok (.iastore, 1) := by decide +kernel
theorem d_D_setRoad_28 : decode prog_2_method_9_code 28 = .ok (.aload_n 0, 1) := by decide +kernel
theorem d_D_setRoad_29 : decode prog_2_method_9_code 29 = .ok (.getfield 13, 3) := by decide +kernel
theorem d_D_setRoad_32 : decode prog_2_method_9_code 32 = .ok (.iload_n 2, 1) := by decide +kernel
theorem d_D_setRoad_33 : decode prog_2_method_9_code 33 = .ok (.bipush 6, 2) := by decide +kernel
theorem d_D_setRoad_35 : decode prog_2_method_9_code 35 = .ok (.imul, 1) := by decide +kernel
theorem d_D_setRoad_36 : decode prog_2_method_9_code 36 = .ok (.iload_n 1, 1) := by decide +kernel
theorem d_D_setRoad_37 : decode prog_2_method_9_code 37 = .ok (.iadd, 1) := by decide +kernel
theorem d_D_setRoad_38 : decode prog_2_method_9_code 38 = .ok (.iload_n 3, 1) := by decide +kernel
theorem d_D_setRoad_39 : decode prog_2_method_9_code 39 = .ok (.iastore, 1) := by decide +kernel
theorem d_D_setRoad_40 : decode prog_2_method_9_code 40 = .ok (.return_, 1) := by decide +kernel
def w_D_setRoad (K : sm_Mem → Prop) (p0 : Int32) (p1 : Int32) (p2 : Int32) (μ : sm_Mem) : Prop := w_D_hasPlace (fun r2 μ1 => if r2 = 0 then K μ1 else (w_D_hasPlace (fun r5 μ4 => if r5 = 0 then K μ4 else (vp_in ((p0 * 6) + p1) 36 ∧ ∀ μ8 : sm_Mem, μ8 = sm_st μ4 3 (((p0 * 6) + p1).toNatClampNeg) p2 → vp_in ((p1 * 6) + p0) 36 ∧ ∀ μ10 : sm_Mem, μ10 = sm_st μ8 3 (((p1 * 6) + p0).toNatClampNeg) p2 → K μ10)) p1 μ1)) p0 μ
set_option maxHeartbeats 4000000 in
set_option maxRecDepth 100000 in
theorem P_D_setRoad (l : Launch) {K : sm_Mem → Prop} {p0 : Int32} {p1 : Int32} {p2 : Int32} {μ : sm_Mem} (h : w_D_setRoad K p0 p1 p2 μ) : sm_MV l ⟨"SnowMoney$Duchy", "setRoad", "(III)V"⟩ prog_2_method_9_code 4 { frames := 1, cells := 0, slots := 0, locals := 21 } [sm_R 1, sm_I p0, sm_I p1, sm_I p2] μ K := by
  refine sm_ofV (by decide +kernel) (fun _ => Nat.le_of_ble_eq_true rfl) ?_
  intro p e s m args below meth c A Q G C hR
  refine sr_aload_n C 0 rfl rfl d_D_setRoad_0 ?_
  refine sr_iload_n C 1 rfl rfl d_D_setRoad_1 ?_
  refine sr_callVI C [sm_I _] (P_D_hasPlace l h) ok_6 sm_l1 rfl rfl rfl rfl ⟨Nat.le_of_ble_eq_true rfl, Nat.le_of_ble_eq_true rfl⟩ (Nat.le_of_ble_eq_true rfl) ⟨Nat.zero_le _, Nat.zero_le _⟩ d_D_setRoad_2 (fun r2 μ1 h => ?_)
  refine sr_if_eq C (tgt := 40) d_D_setRoad_5 (by decide) (fun c3 => ?_) (fun c3 => ?_)
  · replace h := Eq.mp (if_pos c3) h
    exact hR _ _ _ d_D_setRoad_40 h
  · replace h := Eq.mp (if_neg c3) h
    refine sr_aload_n C 0 rfl rfl d_D_setRoad_8 ?_
    refine sr_iload_n C 2 rfl rfl d_D_setRoad_9 ?_
    refine sr_callVI C [sm_I _] (P_D_hasPlace l h) ok_6 sm_l1 rfl rfl rfl rfl ⟨Nat.le_of_ble_eq_true rfl, Nat.le_of_ble_eq_true rfl⟩ (Nat.le_of_ble_eq_true rfl) ⟨Nat.zero_le _, Nat.zero_le _⟩ d_D_setRoad_10 (fun r5 μ4 h => ?_)
    refine sr_if_eq C (tgt := 40) d_D_setRoad_13 (by decide) (fun c6 => ?_) (fun c6 => ?_)
    · replace h := Eq.mp (if_pos c6) h
      exact hR _ _ _ d_D_setRoad_40 h
    · replace h := Eq.mp (if_neg c6) h
      refine sr_aload_n C 0 rfl rfl d_D_setRoad_16 ?_
      refine sr_getR C sm_F0 1 q_34 sm_l1 (r := 3) rfl (by decide) d_D_setRoad_17 ?_
      refine sr_iload_n C 1 rfl rfl d_D_setRoad_20 ?_
      refine sr_bipush C (v := 6) d_D_setRoad_21 (by decide) ?_
      refine sr_imul C d_D_setRoad_23 ?_
      refine sr_iload_n C 2 rfl rfl d_D_setRoad_24 ?_
      refine sr_iadd C d_D_setRoad_25 ?_
      refine sr_iload_n C 3 rfl rfl d_D_setRoad_26 ?_
      obtain ⟨g7, h⟩ := h
      refine sr_iast C sm_l3 g7 d_D_setRoad_27 ?_
      replace h := h _ rfl
      refine sr_aload_n C 0 rfl rfl d_D_setRoad_28 ?_
      refine sr_getR C sm_F0 1 q_34 sm_l1 (r := 3) rfl (by decide) d_D_setRoad_29 ?_
      refine sr_iload_n C 2 rfl rfl d_D_setRoad_32 ?_
      refine sr_bipush C (v := 6) d_D_setRoad_33 (by decide) ?_
      refine sr_imul C d_D_setRoad_35 ?_
      refine sr_iload_n C 1 rfl rfl d_D_setRoad_36 ?_
      refine sr_iadd C d_D_setRoad_37 ?_
      refine sr_iload_n C 3 rfl rfl d_D_setRoad_38 ?_
      obtain ⟨g9, h⟩ := h
      refine sr_iast C sm_l3 g9 d_D_setRoad_39 ?_
      replace h := h _ rfl
      exact hR _ _ _ d_D_setRoad_40 h
theorem d_D_hasNote_0 : decode prog_2_method_4_code 0 = .ok (.iload_n 1, 1) := by decide +kernel
theorem d_D_hasNote_1 : decode prog_2_method_4_code 1 = .ok (.ifCond .lt 15, 3) := by decide +kernel
theorem d_D_hasNote_4 : decode prog_2_method_4_code 4 = .ok (.iload_n 1, 1) := by decide +kernel
theorem d_D_hasNote_5 : decode prog_2_method_4_code 5 = .ok (.aload_n 0, 1) := by decide +kernel
theorem d_D_hasNote_6 : decode prog_2_method_4_code 6 = .ok (.getfield 67, 3) := by decide +kernel
theorem d_D_hasNote_9 : decode prog_2_method_4_code 9 = .ok (.if_icmp .ge 7, 3) := by decide +kernel
theorem d_D_hasNote_12 : decode prog_2_method_4_code 12 = .ok (.iconst 1, 1) := by decide +kernel
theorem d_D_hasNote_13 : decode prog_2_method_4_code 13 = .ok (.goto 4, 3) := by decide +kernel
theorem d_D_hasNote_16 : decode prog_2_method_4_code 16 = .ok (.iconst 0, 1) := by decide +kernel
theorem d_D_hasNote_17 : decode prog_2_method_4_code 17 = .ok (.ireturn, 1) := by decide +kernel
def w_D_hasNote (K : Int32 → sm_Mem → Prop) (p0 : Int32) (μ : sm_Mem) : Prop := if p0 < 0 then K 0 μ else (if (μ 1 12) ≤ p0 then K 0 μ else K 1 μ)
set_option maxHeartbeats 4000000 in
set_option maxRecDepth 100000 in
theorem P_D_hasNote (l : Launch) {K : Int32 → sm_Mem → Prop} {p0 : Int32} {μ : sm_Mem} (h : w_D_hasNote K p0 μ) : sm_MI l ⟨"SnowMoney$Duchy", "hasNote", "(I)Z"⟩ prog_2_method_4_code 2 (some .boolean) { frames := 0, cells := 0, slots := 0, locals := 0 } [sm_R 1, sm_I p0] μ K := by
  refine sm_ofI (by decide +kernel) (fun _ => Nat.le_of_ble_eq_true rfl) ?_
  intro p e s m args below meth c A Q G C hR
  refine sr_iload_n C 1 rfl rfl d_D_hasNote_0 ?_
  refine sr_if_lt C (tgt := 16) d_D_hasNote_1 (by decide) (fun c1 => ?_) (fun c1 => ?_)
  · replace h := Eq.mp (if_pos c1) h
    refine sr_iconst C (v := 0) d_D_hasNote_16 (by decide) ?_
    exact hR _ _ _ _ d_D_hasNote_17 rfl h
  · replace h := Eq.mp (if_neg c1) h
    refine sr_iload_n C 1 rfl rfl d_D_hasNote_4 ?_
    refine sr_aload_n C 0 rfl rfl d_D_hasNote_5 ?_
    refine sr_getI C sm_F0 12 q_23 sm_l1 rfl (by decide) d_D_hasNote_6 ?_
    refine sr_icmp_ge C (tgt := 16) d_D_hasNote_9 (by decide) (fun c2 => ?_) (fun c2 => ?_)
    · replace h := Eq.mp (if_pos c2) h
      refine sr_iconst C (v := 0) d_D_hasNote_16 (by decide) ?_
      exact hR _ _ _ _ d_D_hasNote_17 rfl h
    · replace h := Eq.mp (if_neg c2) h
      refine sr_iconst C (v := 1) d_D_hasNote_12 (by decide) ?_
      refine sr_goto C (tgt := 17) (by decide) d_D_hasNote_13 ?_
      exact hR _ _ _ _ d_D_hasNote_17 rfl h
theorem d_D_heatBy_0 : decode prog_2_method_10_code 0 = .ok (.aload_n 0, 1) := by decide +kernel
theorem d_D_heatBy_1 : decode prog_2_method_10_code 1 = .ok (.getfield 40, 3) := by decide +kernel
theorem d_D_heatBy_4 : decode prog_2_method_10_code 4 = .ok (.invokevirtual 90, 3) := by decide +kernel
theorem d_D_heatBy_7 : decode prog_2_method_10_code 7 = .ok (.ifCond .eq 11, 3) := by decide +kernel
theorem d_D_heatBy_10 : decode prog_2_method_10_code 10 = .ok (.iload_n 1, 1) := by decide +kernel
theorem d_D_heatBy_11 : decode prog_2_method_10_code 11 = .ok (.iload_n 2, 1) := by decide +kernel
theorem d_D_heatBy_12 : decode prog_2_method_10_code 12 = .ok (.iadd, 1) := by decide +kernel
theorem d_D_heatBy_13 : decode prog_2_method_10_code 13 = .ok (.iconst 3, 1) := by decide +kernel
theorem d_D_heatBy_14 : decode prog_2_method_10_code 14 = .ok (.isub, 1) := by decide +kernel
theorem d_D_heatBy_15 : decode prog_2_method_10_code 15 = .ok (.goto 13, 3) := by decide +kernel
theorem d_D_heatBy_18 : decode prog_2_method_10_code 18 = .ok (.aload_n 0, 1) := by decide +kernel
theorem d_D_heatBy_19 : decode prog_2_method_10_code 19 = .ok (.getfield 40, 3) := by decide +kernel
theorem d_D_heatBy_22 : decode prog_2_method_10_code 22 = .ok (.iload_n 1, 1) := by decide +kernel
theorem d_D_heatBy_23 : decode prog_2_method_10_code 23 = .ok (.iload_n 2, 1) := by decide +kernel
theorem d_D_heatBy_24 : decode prog_2_method_10_code 24 = .ok (.iload_n 3, 1) := by decide +kernel
theorem d_D_heatBy_25 : decode prog_2_method_10_code 25 = .ok (.invokevirtual 94, 3) := by decide +kernel
theorem d_D_heatBy_28 : decode prog_2_method_10_code 28 = .ok (.istore 4, 2) := by decide +kernel
theorem d_D_heatBy_30 : decode prog_2_method_10_code 30 = .ok (.bipush 99, 2) := by decide +kernel
theorem d_D_heatBy_32 : decode prog_2_method_10_code 32 = .ok (.iconst 0, 1) := by decide +kernel
theorem d_D_heatBy_33 : decode prog_2_method_10_code 33 = .ok (.iload 4, 2) := by decide +kernel
theorem d_D_heatBy_35 : decode prog_2_method_10_code 35 = .ok (.invokestatic 98, 3) := by decide +kernel
theorem d_D_heatBy_38 : decode prog_2_method_10_code 38 = .ok (.invokestatic 104, 3) := by decide +kernel
theorem d_D_heatBy_41 : decode prog_2_method_10_code 41 = .ok (.ireturn, 1) := by decide +kernel
def w_D_heatBy_28 (K : Int32 → sm_Mem → Prop) (p0 : Int32) (p1 : Int32) (p2 : Int32) (s0 : Int32) (μ : sm_Mem) : Prop := K (if (if 0 < s0 then s0 else 0) < 99 then (if 0 < s0 then s0 else 0) else 99) μ
def w_D_heatBy (K : Int32 → sm_Mem → Prop) (p0 : Int32) (p1 : Int32) (p2 : Int32) (μ : sm_Mem) : Prop := w_T_isMissing (fun r2 μ1 => if r2 = 0 then w_T_valueWith (fun r5 μ4 => w_D_heatBy_28 K p0 p1 p2 r5 μ4) 11 p0 p1 p2 μ1 else w_D_heatBy_28 K p0 p1 p2 ((p0 + p1) - 3) μ1) 11 μ
set_option maxHeartbeats 4000000 in
set_option maxRecDepth 100000 in
theorem P_D_heatBy (l : Launch) {K : Int32 → sm_Mem → Prop} {p0 : Int32} {p1 : Int32} {p2 : Int32} {μ : sm_Mem} (h : w_D_heatBy K p0 p1 p2 μ) : sm_MI l ⟨"SnowMoney$Duchy", "heatBy", "(III)I"⟩ prog_2_method_10_code 5 (some .int) { frames := 2, cells := 0, slots := 0, locals := 49 } [sm_R 1, sm_I p0, sm_I p1, sm_I p2] μ K := by
  refine sm_ofI (by decide +kernel) (fun _ => Nat.le_of_ble_eq_true rfl) ?_
  intro p e s m args below meth c A Q G C hR
  have B28 : ∀ (s0 : Int32) (μ : sm_Mem), w_D_heatBy_28 K p0 p1 p2 s0 μ → sm_W p l e { frames := 2, cells := 0, slots := 0, locals := 49 } s m args below meth c A Q G 5 0 0 28 [sm_I s0] [] μ := by
    intro s0 μ h
    refine sr_istore C (by decide) d_D_heatBy_28 ?_
    refine sr_bipush C (v := 99) d_D_heatBy_30 (by decide) ?_
    refine sr_iconst C (v := 0) d_D_heatBy_32 (by decide) ?_
    refine sr_iload C 0 rfl d_D_heatBy_33 ?_
    refine sr_mmax C q_80 q_mmax1 q_mini q_mmax2 (Nat.le_of_ble_eq_true rfl) (Nat.le_of_ble_eq_true rfl) ⟨Nat.zero_le _, Nat.zero_le _⟩ d_D_heatBy_35 ?_
    refine sr_mmin C q_81 q_mmin1 q_mini q_mmin2 (Nat.le_of_ble_eq_true rfl) (Nat.le_of_ble_eq_true rfl) ⟨Nat.zero_le _, Nat.zero_le _⟩ d_D_heatBy_38 ?_
    exact hR _ _ _ _ d_D_heatBy_41 rfl h
  refine sr_aload_n C 0 rfl rfl d_D_heatBy_0 ?_
  refine sr_getR C sm_F0 9 q_70 sm_l1 (r := 11) rfl (by decide) d_D_heatBy_1 ?_
  refine sr_callVI C [] (P_T_isMissing l h) ok_14 sm_l11 rfl rfl rfl rfl ⟨Nat.le_of_ble_eq_true rfl, Nat.le_of_ble_eq_true rfl⟩ (Nat.le_of_ble_eq_true rfl) ⟨Nat.zero_le _, Nat.zero_le _⟩ d_D_heatBy_4 (fun r2 μ1 h => ?_)
  refine sr_if_eq C (tgt := 18) d_D_heatBy_7 (by decide) (fun c3 => ?_) (fun c3 => ?_)
  · replace h := Eq.mp (if_pos c3) h
    refine sr_aload_n C 0 rfl rfl d_D_heatBy_18 ?_
    refine sr_getR C sm_F0 9 q_70 sm_l1 (r := 11) rfl (by decide) d_D_heatBy_19 ?_
    refine sr_iload_n C 1 rfl rfl d_D_heatBy_22 ?_
    refine sr_iload_n C 2 rfl rfl d_D_heatBy_23 ?_
    refine sr_iload_n C 3 rfl rfl d_D_heatBy_24 ?_
    refine sr_callVI C [sm_I _, sm_I _, sm_I _] (P_T_valueWith l h) ok_15 sm_l11 rfl rfl rfl rfl ⟨Nat.le_of_ble_eq_true rfl, Nat.le_of_ble_eq_true rfl⟩ (Nat.le_of_ble_eq_true rfl) ⟨Nat.zero_le _, Nat.zero_le _⟩ d_D_heatBy_25 (fun r5 μ4 h => ?_)
    refine sr_mask C [] rfl ?_
    exact B28 _ _ h
  · replace h := Eq.mp (if_neg c3) h
    refine sr_iload_n C 1 rfl rfl d_D_heatBy_10 ?_
    refine sr_iload_n C 2 rfl rfl d_D_heatBy_11 ?_
    refine sr_iadd C d_D_heatBy_12 ?_
    refine sr_iconst C (v := 3) d_D_heatBy_13 (by decide) ?_
    refine sr_isub C d_D_heatBy_14 ?_
    refine sr_goto C (tgt := 28) (by decide) d_D_heatBy_15 ?_
    refine sr_mask C [] rfl ?_
    exact B28 _ _ h
theorem d_D_warmthOf_0 : decode prog_2_method_5_code 0 = .ok (.aload_n 0, 1) := by decide +kernel
theorem d_D_warmthOf_1 : decode prog_2_method_5_code 1 = .ok (.iload_n 1, 1) := by decide +kernel
theorem d_D_warmthOf_2 : decode prog_2_method_5_code 2 = .ok (.invokevirtual 79, 3) := by decide +kernel
theorem d_D_warmthOf_5 : decode prog_2_method_5_code 5 = .ok (.ifCond .eq 12, 3) := by decide +kernel
theorem d_D_warmthOf_8 : decode prog_2_method_5_code 8 = .ok (.aload_n 0, 1) := by decide +kernel
theorem d_D_warmthOf_9 : decode prog_2_method_5_code 9 = .ok (.getfield 9, 3) := by decide +kernel
theorem d_D_warmthOf_12 : decode prog_2_method_5_code 12 = .ok (.iload_n 1, 1) := by decide +kernel
theorem d_D_warmthOf_13 : decode prog_2_method_5_code 13 = .ok (.iaload, 1) := by decide +kernel
theorem d_D_warmthOf_14 : decode prog_2_method_5_code 14 = .ok (.goto 4, 3) := by decide +kernel
theorem d_D_warmthOf_17 : decode prog_2_method_5_code 17 = .ok (.iconst 0, 1) := by decide +kernel
theorem d_D_warmthOf_18 : decode prog_2_method_5_code 18 = .ok (.ireturn, 1) := by decide +kernel
def w_D_warmthOf (K : Int32 → sm_Mem → Prop) (p0 : Int32) (μ : sm_Mem) : Prop := w_D_hasPlace (fun r2 μ1 => if r2 = 0 then K 0 μ1 else (vp_in p0 6 ∧ K (μ1 2 p0.toNatClampNeg) μ1)) p0 μ
set_option maxHeartbeats 4000000 in
set_option maxRecDepth 100000 in
theorem P_D_warmthOf (l : Launch) {K : Int32 → sm_Mem → Prop} {p0 : Int32} {μ : sm_Mem} (h : w_D_warmthOf K p0 μ) : sm_MI l ⟨"SnowMoney$Duchy", "warmthOf", "(I)I"⟩ prog_2_method_5_code 2 (some .int) { frames := 1, cells := 0, slots := 0, locals := 21 } [sm_R 1, sm_I p0] μ K := by
  refine sm_ofI (by decide +kernel) (fun _ => Nat.le_of_ble_eq_true rfl) ?_
  intro p e s m args below meth c A Q G C hR
  refine sr_aload_n C 0 rfl rfl d_D_warmthOf_0 ?_
  refine sr_iload_n C 1 rfl rfl d_D_warmthOf_1 ?_
  refine sr_callVI C [sm_I _] (P_D_hasPlace l h) ok_6 sm_l1 rfl rfl rfl rfl ⟨Nat.le_of_ble_eq_true rfl, Nat.le_of_ble_eq_true rfl⟩ (Nat.le_of_ble_eq_true rfl) ⟨Nat.zero_le _, Nat.zero_le _⟩ d_D_warmthOf_2 (fun r2 μ1 h => ?_)
  refine sr_if_eq C (tgt := 17) d_D_warmthOf_5 (by decide) (fun c3 => ?_) (fun c3 => ?_)
  · replace h := Eq.mp (if_pos c3) h
    refine sr_iconst C (v := 0) d_D_warmthOf_17 (by decide) ?_
    exact hR _ _ _ _ d_D_warmthOf_18 rfl h
  · replace h := Eq.mp (if_neg c3) h
    refine sr_aload_n C 0 rfl rfl d_D_warmthOf_8 ?_
    refine sr_getR C sm_F0 0 q_92 sm_l1 (r := 2) rfl (by decide) d_D_warmthOf_9 ?_
    refine sr_iload_n C 1 rfl rfl d_D_warmthOf_12 ?_
    obtain ⟨g4, h⟩ := h
    refine sr_iald C sm_l2 g4 d_D_warmthOf_13 ?_
    refine sr_goto C (tgt := 18) (by decide) d_D_warmthOf_14 ?_
    exact hR _ _ _ _ d_D_warmthOf_18 rfl h
theorem d_D_meltsNow_0 : decode prog_2_method_12_code 0 = .ok (.aload_n 0, 1) := by decide +kernel
theorem d_D_meltsNow_1 : decode prog_2_method_12_code 1 = .ok (.iload_n 1, 1) := by decide +kernel
theorem d_D_meltsNow_2 : decode prog_2_method_12_code 2 = .ok (.invokevirtual 83, 3) := by decide +kernel
theorem d_D_meltsNow_5 : decode prog_2_method_12_code 5 = .ok (.ifCond .ne 5, 3) := by decide +kernel
theorem d_D_meltsNow_8 : decode prog_2_method_12_code 8 = .ok (.iconst 0, 1) := by decide +kernel
theorem d_D_meltsNow_9 : decode prog_2_method_12_code 9 = .ok (.ireturn, 1) := by decide +kernel
theorem d_D_meltsNow_10 : decode prog_2_method_12_code 10 = .ok (.aload_n 0, 1) := by decide +kernel
theorem d_D_meltsNow_11 : decode prog_2_method_12_code 11 = .ok (.getfield 16, 3) := by decide +kernel
theorem d_D_meltsNow_14 : decode prog_2_method_12_code 14 = .ok (.iload_n 1, 1) := by decide +kernel
theorem d_D_meltsNow_15 : decode prog_2_method_12_code 15 = .ok (.iaload, 1) := by decide +kernel
theorem d_D_meltsNow_16 : decode prog_2_method_12_code 16 = .ok (.aload_n 0, 1) := by decide +kernel
theorem d_D_meltsNow_17 : decode prog_2_method_12_code 17 = .ok (.getfield 19, 3) := by decide +kernel
theorem d_D_meltsNow_20 : decode prog_2_method_12_code 20 = .ok (.iload_n 1, 1) := by decide +kernel
theorem d_D_meltsNow_21 : decode prog_2_method_12_code 21 = .ok (.iaload, 1) := by decide +kernel
theorem d_D_meltsNow_22 : decode prog_2_method_12_code 22 = .ok (.aload_n 0, 1) := by decide +kernel
theorem d_D_meltsNow_23 : decode prog_2_method_12_code 23 = .ok (.aload_n 0, 1) := by decide +kernel
theorem d_D_meltsNow_24 : decode prog_2_method_12_code 24 = .ok (.iload_n 2, 1) := by decide +kernel
theorem d_D_meltsNow_25 : decode prog_2_method_12_code 25 = .ok (.invokevirtual 86, 3) := by decide +kernel
theorem d_D_meltsNow_28 : decode prog_2_method_12_code 28 = .ok (.aload_n 0, 1) := by decide +kernel
theorem d_D_meltsNow_29 : decode prog_2_method_12_code 29 = .ok (.getfield 47, 3) := by decide +kernel
theorem d_D_meltsNow_32 : decode prog_2_method_12_code 32 = .ok (.aload_n 0, 1) := by decide +kernel
theorem d_D_meltsNow_33 : decode prog_2_method_12_code 33 = .ok (.getfield 70, 3) := by decide +kernel
theorem d_D_meltsNow_36 : decode prog_2_method_12_code 36 = .ok (.bipush 24, 2) := by decide +kernel
theorem d_D_meltsNow_38 : decode prog_2_method_12_code 38 = .ok (.irem, 1) := by decide +kernel
theorem d_D_meltsNow_39 : decode prog_2_method_12_code 39 = .ok (.invokevirtual 107, 3) := by decide +kernel
theorem d_D_meltsNow_42 : decode prog_2_method_12_code 42 = .ok (.invokestatic 110, 3) := by decide +kernel
theorem d_D_meltsNow_45 : decode prog_2_method_12_code 45 = .ok (.ireturn, 1) := by decide +kernel
def w_D_meltsNow (K : Int32 → sm_Mem → Prop) (p0 : Int32) (p1 : Int32) (μ : sm_Mem) : Prop := w_D_hasNote (fun r2 μ1 => if r2 = 0 then K 0 μ1 else (vp_in p0 10 ∧ vp_in p0 10 ∧ w_D_warmthOf (fun r7 μ6 => w_D_heatBy (fun r9 μ8 => w_K_melts (fun r11 μ10 => K r11 μ10) (μ1 4 p0.toNatClampNeg) (μ1 5 p0.toNatClampNeg) r9 μ8) r7 (μ6 1 13) ((μ6 1 14) % 24) μ6) p1 μ1)) p0 μ
set_option maxHeartbeats 4000000 in
set_option maxRecDepth 100000 in
theorem P_D_meltsNow (l : Launch) {K : Int32 → sm_Mem → Prop} {p0 : Int32} {p1 : Int32} {μ : sm_Mem} (h : w_D_meltsNow K p0 p1 μ) : sm_MI l ⟨"SnowMoney$Duchy", "meltsNow", "(II)I"⟩ prog_2_method_12_code 3 (some .int) { frames := 3, cells := 0, slots := 0, locals := 73 } [sm_R 1, sm_I p0, sm_I p1] μ K := by
  refine sm_ofI (by decide +kernel) (fun _ => Nat.le_of_ble_eq_true rfl) ?_
  intro p e s m args below meth c A Q G C hR
  refine sr_aload_n C 0 rfl rfl d_D_meltsNow_0 ?_
  refine sr_iload_n C 1 rfl rfl d_D_meltsNow_1 ?_
  refine sr_callVI C [sm_I _] (P_D_hasNote l h) ok_10 sm_l1 rfl rfl rfl rfl ⟨Nat.le_of_ble_eq_true rfl, Nat.le_of_ble_eq_true rfl⟩ (Nat.le_of_ble_eq_true rfl) ⟨Nat.zero_le _, Nat.zero_le _⟩ d_D_meltsNow_2 (fun r2 μ1 h => ?_)
  refine sr_if_ne C (tgt := 10) d_D_meltsNow_5 (by decide) (fun c3 => ?_) (fun c3 => ?_)
  · replace h := Eq.mp (if_neg c3) h
    refine sr_aload_n C 0 rfl rfl d_D_meltsNow_10 ?_
    refine sr_getR C sm_F0 2 q_54 sm_l1 (r := 4) rfl (by decide) d_D_meltsNow_11 ?_
    refine sr_iload_n C 1 rfl rfl d_D_meltsNow_14 ?_
    obtain ⟨g4, h⟩ := h
    refine sr_iald C sm_l4 g4 d_D_meltsNow_15 ?_
    refine sr_aload_n C 0 rfl rfl d_D_meltsNow_16 ?_
    refine sr_getR C sm_F0 3 q_55 sm_l1 (r := 5) rfl (by decide) d_D_meltsNow_17 ?_
    refine sr_iload_n C 1 rfl rfl d_D_meltsNow_20 ?_
    obtain ⟨g5, h⟩ := h
    refine sr_iald C sm_l5 g5 d_D_meltsNow_21 ?_
    refine sr_aload_n C 0 rfl rfl d_D_meltsNow_22 ?_
    refine sr_aload_n C 0 rfl rfl d_D_meltsNow_23 ?_
    refine sr_iload_n C 2 rfl rfl d_D_meltsNow_24 ?_
    refine sr_callVI C [sm_I _] (P_D_warmthOf l h) ok_11 sm_l1 rfl rfl rfl rfl ⟨Nat.le_of_ble_eq_true rfl, Nat.le_of_ble_eq_true rfl⟩ (Nat.le_of_ble_eq_true rfl) ⟨Nat.zero_le _, Nat.zero_le _⟩ d_D_meltsNow_25 (fun r7 μ6 h => ?_)
    refine sr_aload_n C 0 rfl rfl d_D_meltsNow_28 ?_
    refine sr_getI C sm_F0 13 q_60 sm_l1 rfl (by decide) d_D_meltsNow_29 ?_
    refine sr_aload_n C 0 rfl rfl d_D_meltsNow_32 ?_
    refine sr_getI C sm_F0 14 q_61 sm_l1 rfl (by decide) d_D_meltsNow_33 ?_
    refine sr_bipush C (v := 24) d_D_meltsNow_36 (by decide) ?_
    refine sr_irem C (by decide) d_D_meltsNow_38 ?_
    refine sr_callVI C [sm_I _, sm_I _, sm_I _] (P_D_heatBy l h) ok_12 sm_l1 rfl rfl rfl rfl ⟨Nat.le_of_ble_eq_true rfl, Nat.le_of_ble_eq_true rfl⟩ (Nat.le_of_ble_eq_true rfl) ⟨Nat.zero_le _, Nat.zero_le _⟩ d_D_meltsNow_39 (fun r9 μ8 h => ?_)
    refine sr_callSI C [sm_I _, sm_I _, sm_I _] (P_K_melts l h) ok_13 rfl rfl rfl ⟨Nat.le_of_ble_eq_true rfl, Nat.le_of_ble_eq_true rfl⟩ (Nat.le_of_ble_eq_true rfl) ⟨Nat.zero_le _, Nat.zero_le _⟩ d_D_meltsNow_42 (fun r11 μ10 h => ?_)
    exact hR _ _ _ _ d_D_meltsNow_45 rfl h
  · replace h := Eq.mp (if_pos c3) h
    refine sr_iconst C (v := 0) d_D_meltsNow_8 (by decide) ?_
    exact hR _ _ _ _ d_D_meltsNow_9 rfl h
theorem d_D_foundBy_0 : decode prog_2_method_11_code 0 = .ok (.aload_n 0, 1) := by decide +kernel
theorem d_D_foundBy_1 : decode prog_2_method_11_code 1 = .ok (.getfield 44, 3) := by decide +kernel
theorem d_D_foundBy_4 : decode prog_2_method_11_code 4 = .ok (.invokevirtual 90, 3) := by decide +kernel
theorem d_D_foundBy_7 : decode prog_2_method_11_code 7 = .ok (.ifCond .eq 14, 3) := by decide +kernel
theorem d_D_foundBy_10 : decode prog_2_method_11_code 10 = .ok (.iload_n 1, 1) := by decide +kernel
theorem d_D_foundBy_11 : decode prog_2_method_11_code 11 = .ok (.iconst 5, 1) := by decide +kernel
theorem d_D_foundBy_12 : decode prog_2_method_11_code 12 = .ok (.if_icmp .ge 7, 3) := by decide +kernel
theorem d_D_foundBy_15 : decode prog_2_method_11_code 15 = .ok (.iconst 1, 1) := by decide +kernel
theorem d_D_foundBy_16 : decode prog_2_method_11_code 16 = .ok (.goto 4, 3) := by decide +kernel
theorem d_D_foundBy_19 : decode prog_2_method_11_code 19 = .ok (.iconst 0, 1) := by decide +kernel
theorem d_D_foundBy_20 : decode prog_2_method_11_code 20 = .ok (.ireturn, 1) := by decide +kernel
theorem d_D_foundBy_21 : decode prog_2_method_11_code 21 = .ok (.iconst 1, 1) := by decide +kernel
theorem d_D_foundBy_22 : decode prog_2_method_11_code 22 = .ok (.iconst 0, 1) := by decide +kernel
theorem d_D_foundBy_23 : decode prog_2_method_11_code 23 = .ok (.aload_n 0, 1) := by decide +kernel
theorem d_D_foundBy_24 : decode prog_2_method_11_code 24 = .ok (.getfield 44, 3) := by decide +kernel
theorem d_D_foundBy_27 : decode prog_2_method_11_code 27 = .ok (.iload_n 1, 1) := by decide +kernel
theorem d_D_foundBy_28 : decode prog_2_method_11_code 28 = .ok (.iload_n 2, 1) := by decide +kernel
theorem d_D_foundBy_29 : decode prog_2_method_11_code 29 = .ok (.iload_n 3, 1) := by decide +kernel
theorem d_D_foundBy_30 : decode prog_2_method_11_code 30 = .ok (.invokevirtual 94, 3) := by decide +kernel
theorem d_D_foundBy_33 : decode prog_2_method_11_code 33 = .ok (.invokestatic 98, 3) := by decide +kernel
theorem d_D_foundBy_36 : decode prog_2_method_11_code 36 = .ok (.invokestatic 104, 3) := by decide +kernel
theorem d_D_foundBy_39 : decode prog_2_method_11_code 39 = .ok (.ireturn, 1) := by decide +kernel
def w_D_foundBy (K : Int32 → sm_Mem → Prop) (p0 : Int32) (p1 : Int32) (p2 : Int32) (μ : sm_Mem) : Prop := w_T_isMissing (fun r2 μ1 => if r2 = 0 then w_T_valueWith (fun r5 μ4 => K (if (if 0 < r5 then r5 else 0) < 1 then (if 0 < r5 then r5 else 0) else 1) μ4) 15 p0 p1 p2 μ1 else (if 5 ≤ p0 then K 0 μ1 else K 1 μ1)) 15 μ
set_option maxHeartbeats 4000000 in
set_option maxRecDepth 100000 in
theorem P_D_foundBy (l : Launch) {K : Int32 → sm_Mem → Prop} {p0 : Int32} {p1 : Int32} {p2 : Int32} {μ : sm_Mem} (h : w_D_foundBy K p0 p1 p2 μ) : sm_MI l ⟨"SnowMoney$Duchy", "foundBy", "(III)I"⟩ prog_2_method_11_code 4 (some .int) { frames := 2, cells := 0, slots := 0, locals := 49 } [sm_R 1, sm_I p0, sm_I p1, sm_I p2] μ K := by
  refine sm_ofI (by decide +kernel) (fun _ => Nat.le_of_ble_eq_true rfl) ?_
  intro p e s m args below meth c A Q G C hR
  refine sr_aload_n C 0 rfl rfl d_D_foundBy_0 ?_
  refine sr_getR C sm_F0 10 q_108 sm_l1 (r := 15) rfl (by decide) d_D_foundBy_1 ?_
  refine sr_callVI C [] (P_T_isMissing l h) ok_14 sm_l15 rfl rfl rfl rfl ⟨Nat.le_of_ble_eq_true rfl, Nat.le_of_ble_eq_true rfl⟩ (Nat.le_of_ble_eq_true rfl) ⟨Nat.zero_le _, Nat.zero_le _⟩ d_D_foundBy_4 (fun r2 μ1 h => ?_)
  refine sr_if_eq C (tgt := 21) d_D_foundBy_7 (by decide) (fun c3 => ?_) (fun c3 => ?_)
  · replace h := Eq.mp (if_pos c3) h
    refine sr_iconst C (v := 1) d_D_foundBy_21 (by decide) ?_
    refine sr_iconst C (v := 0) d_D_foundBy_22 (by decide) ?_
    refine sr_aload_n C 0 rfl rfl d_D_foundBy_23 ?_
    refine sr_getR C sm_F0 10 q_108 sm_l1 (r := 15) rfl (by decide) d_D_foundBy_24 ?_
    refine sr_iload_n C 1 rfl rfl d_D_foundBy_27 ?_
    refine sr_iload_n C 2 rfl rfl d_D_foundBy_28 ?_
    refine sr_iload_n C 3 rfl rfl d_D_foundBy_29 ?_
    refine sr_callVI C [sm_I _, sm_I _, sm_I _] (P_T_valueWith l h) ok_15 sm_l15 rfl rfl rfl rfl ⟨Nat.le_of_ble_eq_true rfl, Nat.le_of_ble_eq_true rfl⟩ (Nat.le_of_ble_eq_true rfl) ⟨Nat.zero_le _, Nat.zero_le _⟩ d_D_foundBy_30 (fun r5 μ4 h => ?_)
    refine sr_mmax C q_80 q_mmax1 q_mini q_mmax2 (Nat.le_of_ble_eq_true rfl) (Nat.le_of_ble_eq_true rfl) ⟨Nat.zero_le _, Nat.zero_le _⟩ d_D_foundBy_33 ?_
    refine sr_mmin C q_81 q_mmin1 q_mini q_mmin2 (Nat.le_of_ble_eq_true rfl) (Nat.le_of_ble_eq_true rfl) ⟨Nat.zero_le _, Nat.zero_le _⟩ d_D_foundBy_36 ?_
    exact hR _ _ _ _ d_D_foundBy_39 rfl h
  · replace h := Eq.mp (if_neg c3) h
    refine sr_iload_n C 1 rfl rfl d_D_foundBy_10 ?_
    refine sr_iconst C (v := 5) d_D_foundBy_11 (by decide) ?_
    refine sr_icmp_ge C (tgt := 19) d_D_foundBy_12 (by decide) (fun c6 => ?_) (fun c6 => ?_)
    · replace h := Eq.mp (if_pos c6) h
      refine sr_iconst C (v := 0) d_D_foundBy_19 (by decide) ?_
      exact hR _ _ _ _ d_D_foundBy_20 rfl h
    · replace h := Eq.mp (if_neg c6) h
      refine sr_iconst C (v := 1) d_D_foundBy_15 (by decide) ?_
      refine sr_goto C (tgt := 20) (by decide) d_D_foundBy_16 ?_
      exact hR _ _ _ _ d_D_foundBy_20 rfl h
theorem d_D_paysWith_0 : decode prog_2_method_13_code 0 = .ok (.aload_n 0, 1) := by decide +kernel
theorem d_D_paysWith_1 : decode prog_2_method_13_code 1 = .ok (.iload_n 1, 1) := by decide +kernel
theorem d_D_paysWith_2 : decode prog_2_method_13_code 2 = .ok (.invokevirtual 83, 3) := by decide +kernel
theorem d_D_paysWith_5 : decode prog_2_method_13_code 5 = .ok (.ifCond .ne 5, 3) := by decide +kernel
theorem d_D_paysWith_8 : decode prog_2_method_13_code 8 = .ok (.iconst 0, 1) := by decide +kernel
theorem d_D_paysWith_9 : decode prog_2_method_13_code 9 = .ok (.ireturn, 1) := by decide +kernel
theorem d_D_paysWith_10 : decode prog_2_method_13_code 10 = .ok (.aload_n 0, 1) := by decide +kernel
theorem d_D_paysWith_11 : decode prog_2_method_13_code 11 = .ok (.getfield 16, 3) := by decide +kernel
theorem d_D_paysWith_14 : decode prog_2_method_13_code 14 = .ok (.iload_n 1, 1) := by decide +kernel
theorem d_D_paysWith_15 : decode prog_2_method_13_code 15 = .ok (.iaload, 1) := by decide +kernel
theorem d_D_paysWith_16 : decode prog_2_method_13_code 16 = .ok (.iconst 2, 1) := by decide +kernel
theorem d_D_paysWith_17 : decode prog_2_method_13_code 17 = .ok (.invokestatic 115, 3) := by decide +kernel
theorem d_D_paysWith_20 : decode prog_2_method_13_code 20 = .ok (.ifCond .eq 27, 3) := by decide +kernel
theorem d_D_paysWith_23 : decode prog_2_method_13_code 23 = .ok (.aload_n 0, 1) := by decide +kernel
theorem d_D_paysWith_24 : decode prog_2_method_13_code 24 = .ok (.iload_n 2, 1) := by decide +kernel
theorem d_D_paysWith_25 : decode prog_2_method_13_code 25 = .ok (.aload_n 0, 1) := by decide +kernel
theorem d_D_paysWith_26 : decode prog_2_method_13_code 26 = .ok (.getfield 19, 3) := by decide +kernel
theorem d_D_paysWith_29 : decode prog_2_method_13_code 29 = .ok (.iload_n 1, 1) := by decide +kernel
theorem d_D_paysWith_30 : decode prog_2_method_13_code 30 = .ok (.iaload, 1) := by decide +kernel
theorem d_D_paysWith_31 : decode prog_2_method_13_code 31 = .ok (.aload_n 0, 1) := by decide +kernel
theorem d_D_paysWith_32 : decode prog_2_method_13_code 32 = .ok (.getfield 28, 3) := by decide +kernel
theorem d_D_paysWith_35 : decode prog_2_method_13_code 35 = .ok (.iload_n 1, 1) := by decide +kernel
theorem d_D_paysWith_36 : decode prog_2_method_13_code 36 = .ok (.iaload, 1) := by decide +kernel
theorem d_D_paysWith_37 : decode prog_2_method_13_code 37 = .ok (.invokevirtual 119, 3) := by decide +kernel
theorem d_D_paysWith_40 : decode prog_2_method_13_code 40 = .ok (.ifCond .eq 7, 3) := by decide +kernel
theorem d_D_paysWith_43 : decode prog_2_method_13_code 43 = .ok (.iconst 1, 1) := by decide +kernel
theorem d_D_paysWith_44 : decode prog_2_method_13_code 44 = .ok (.goto 4, 3) := by decide +kernel
theorem d_D_paysWith_47 : decode prog_2_method_13_code 47 = .ok (.iconst 0, 1) := by decide +kernel
theorem d_D_paysWith_48 : decode prog_2_method_13_code 48 = .ok (.istore_n 3, 1) := by decide +kernel
theorem d_D_paysWith_49 : decode prog_2_method_13_code 49 = .ok (.aload_n 0, 1) := by decide +kernel
theorem d_D_paysWith_50 : decode prog_2_method_13_code 50 = .ok (.getfield 16, 3) := by decide +kernel
theorem d_D_paysWith_53 : decode prog_2_method_13_code 53 = .ok (.iload_n 1, 1) := by decide +kernel
theorem d_D_paysWith_54 : decode prog_2_method_13_code 54 = .ok (.iaload, 1) := by decide +kernel
theorem d_D_paysWith_55 : decode prog_2_method_13_code 55 = .ok (.aload_n 0, 1) := by decide +kernel
theorem d_D_paysWith_56 : decode prog_2_method_13_code 56 = .ok (.getfield 19, 3) := by decide +kernel
theorem d_D_paysWith_59 : decode prog_2_method_13_code 59 = .ok (.iload_n 1, 1) := by decide +kernel
theorem d_D_paysWith_60 : decode prog_2_method_13_code 60 = .ok (.iaload, 1) := by decide +kernel
theorem d_D_paysWith_61 : decode prog_2_method_13_code 61 = .ok (.iload_n 2, 1) := by decide +kernel
theorem d_D_paysWith_62 : decode prog_2_method_13_code 62 = .ok (.iload_n 3, 1) := by decide +kernel
theorem d_D_paysWith_63 : decode prog_2_method_13_code 63 = .ok (.invokestatic 122, 3) := by decide +kernel
theorem d_D_paysWith_66 : decode prog_2_method_13_code 66 = .ok (.ireturn, 1) := by decide +kernel
def w_D_paysWith_48 (K : Int32 → sm_Mem → Prop) (p0 : Int32) (p1 : Int32) (s0 : Int32) (μ : sm_Mem) : Prop := vp_in p0 10 ∧ vp_in p0 10 ∧ w_K_pays (fun r11 μ10 => K r11 μ10) (μ 4 p0.toNatClampNeg) (μ 5 p0.toNatClampNeg) p1 s0 μ
def w_D_paysWith_47 (K : Int32 → sm_Mem → Prop) (p0 : Int32) (p1 : Int32) (μ : sm_Mem) : Prop := w_D_paysWith_48 K p0 p1 0 μ
def w_D_paysWith (K : Int32 → sm_Mem → Prop) (p0 : Int32) (p1 : Int32) (μ : sm_Mem) : Prop := w_D_hasNote (fun r2 μ1 => if r2 = 0 then K 0 μ1 else (vp_in p0 10 ∧ w_K_isOf (fun r6 μ5 => if r6 = 0 then w_D_paysWith_47 K p0 p1 μ5 else (vp_in p0 10 ∧ vp_in p0 10 ∧ w_D_foundBy (fun r15 μ14 => if r15 = 0 then w_D_paysWith_47 K p0 p1 μ14 else w_D_paysWith_48 K p0 p1 1 μ14) p1 (μ5 5 p0.toNatClampNeg) (μ5 8 p0.toNatClampNeg) μ5)) (μ1 4 p0.toNatClampNeg) 2 μ1)) p0 μ
set_option maxHeartbeats 4000000 in
set_option maxRecDepth 100000 in
theorem P_D_paysWith (l : Launch) {K : Int32 → sm_Mem → Prop} {p0 : Int32} {p1 : Int32} {μ : sm_Mem} (h : w_D_paysWith K p0 p1 μ) : sm_MI l ⟨"SnowMoney$Duchy", "paysWith", "(II)I"⟩ prog_2_method_13_code 4 (some .int) { frames := 3, cells := 0, slots := 0, locals := 72 } [sm_R 1, sm_I p0, sm_I p1] μ K := by
  refine sm_ofI (by decide +kernel) (fun _ => Nat.le_of_ble_eq_true rfl) ?_
  intro p e s m args below meth c A Q G C hR
  have B48 : ∀ (s0 : Int32) (μ : sm_Mem), w_D_paysWith_48 K p0 p1 s0 μ → sm_W p l e { frames := 3, cells := 0, slots := 0, locals := 72 } s m args below meth c A Q G 4 0 0 48 [sm_I s0] [(0, sm_R 1), (1, sm_I p0), (2, sm_I p1)] μ := by
    intro s0 μ h
    refine sr_istore_n C rfl (by decide) d_D_paysWith_48 ?_
    refine sr_aload_n C 1 rfl rfl d_D_paysWith_49 ?_
    refine sr_getR C sm_F0 2 q_54 sm_l1 (r := 4) rfl (by decide) d_D_paysWith_50 ?_
    refine sr_iload_n C 2 rfl rfl d_D_paysWith_53 ?_
    obtain ⟨g8, h⟩ := h
    refine sr_iald C sm_l4 g8 d_D_paysWith_54 ?_
    refine sr_aload_n C 1 rfl rfl d_D_paysWith_55 ?_
    refine sr_getR C sm_F0 3 q_55 sm_l1 (r := 5) rfl (by decide) d_D_paysWith_56 ?_
    refine sr_iload_n C 2 rfl rfl d_D_paysWith_59 ?_
    obtain ⟨g9, h⟩ := h
    refine sr_iald C sm_l5 g9 d_D_paysWith_60 ?_
    refine sr_iload_n C 3 rfl rfl d_D_paysWith_61 ?_
    refine sr_iload_n C 0 rfl rfl d_D_paysWith_62 ?_
    refine sr_callSI C [sm_I _, sm_I _, sm_I _, sm_I _] (P_K_pays l h) ok_20 rfl rfl rfl ⟨Nat.le_of_ble_eq_true rfl, Nat.le_of_ble_eq_true rfl⟩ (Nat.le_of_ble_eq_true rfl) ⟨Nat.zero_le _, Nat.zero_le _⟩ d_D_paysWith_63 (fun r11 μ10 h => ?_)
    exact hR _ _ _ _ d_D_paysWith_66 rfl h
  have B47 : ∀ (μ : sm_Mem), w_D_paysWith_47 K p0 p1 μ → sm_W p l e { frames := 3, cells := 0, slots := 0, locals := 72 } s m args below meth c A Q G 4 0 0 47 [] [(0, sm_R 1), (1, sm_I p0), (2, sm_I p1)] μ := by
    intro μ h
    refine sr_iconst C (v := 0) d_D_paysWith_47 (by decide) ?_
    exact B48 _ _ h
  refine sr_aload_n C 0 rfl rfl d_D_paysWith_0 ?_
  refine sr_iload_n C 1 rfl rfl d_D_paysWith_1 ?_
  refine sr_callVI C [sm_I _] (P_D_hasNote l h) ok_10 sm_l1 rfl rfl rfl rfl ⟨Nat.le_of_ble_eq_true rfl, Nat.le_of_ble_eq_true rfl⟩ (Nat.le_of_ble_eq_true rfl) ⟨Nat.zero_le _, Nat.zero_le _⟩ d_D_paysWith_2 (fun r2 μ1 h => ?_)
  refine sr_if_ne C (tgt := 10) d_D_paysWith_5 (by decide) (fun c3 => ?_) (fun c3 => ?_)
  · replace h := Eq.mp (if_neg c3) h
    refine sr_aload_n C 0 rfl rfl d_D_paysWith_10 ?_
    refine sr_getR C sm_F0 2 q_54 sm_l1 (r := 4) rfl (by decide) d_D_paysWith_11 ?_
    refine sr_iload_n C 1 rfl rfl d_D_paysWith_14 ?_
    obtain ⟨g4, h⟩ := h
    refine sr_iald C sm_l4 g4 d_D_paysWith_15 ?_
    refine sr_iconst C (v := 2) d_D_paysWith_16 (by decide) ?_
    refine sr_callSI C [sm_I _, sm_I _] (P_K_isOf l h) ok_19 rfl rfl rfl ⟨Nat.le_of_ble_eq_true rfl, Nat.le_of_ble_eq_true rfl⟩ (Nat.le_of_ble_eq_true rfl) ⟨Nat.zero_le _, Nat.zero_le _⟩ d_D_paysWith_17 (fun r6 μ5 h => ?_)
    refine sr_if_eq C (tgt := 47) d_D_paysWith_20 (by decide) (fun c7 => ?_) (fun c7 => ?_)
    · replace h := Eq.mp (if_pos c7) h
      exact B47 _ h
    · replace h := Eq.mp (if_neg c7) h
      refine sr_aload_n C 0 rfl rfl d_D_paysWith_23 ?_
      refine sr_iload_n C 2 rfl rfl d_D_paysWith_24 ?_
      refine sr_aload_n C 0 rfl rfl d_D_paysWith_25 ?_
      refine sr_getR C sm_F0 3 q_55 sm_l1 (r := 5) rfl (by decide) d_D_paysWith_26 ?_
      refine sr_iload_n C 1 rfl rfl d_D_paysWith_29 ?_
      obtain ⟨g12, h⟩ := h
      refine sr_iald C sm_l5 g12 d_D_paysWith_30 ?_
      refine sr_aload_n C 0 rfl rfl d_D_paysWith_31 ?_
      refine sr_getR C sm_F0 6 q_103 sm_l1 (r := 8) rfl (by decide) d_D_paysWith_32 ?_
      refine sr_iload_n C 1 rfl rfl d_D_paysWith_35 ?_
      obtain ⟨g13, h⟩ := h
      refine sr_iald C sm_l8 g13 d_D_paysWith_36 ?_
      refine sr_callVI C [sm_I _, sm_I _, sm_I _] (P_D_foundBy l h) ok_21 sm_l1 rfl rfl rfl rfl ⟨Nat.le_of_ble_eq_true rfl, Nat.le_of_ble_eq_true rfl⟩ (Nat.le_of_ble_eq_true rfl) ⟨Nat.zero_le _, Nat.zero_le _⟩ d_D_paysWith_37 (fun r15 μ14 h => ?_)
      refine sr_if_eq C (tgt := 47) d_D_paysWith_40 (by decide) (fun c16 => ?_) (fun c16 => ?_)
      · replace h := Eq.mp (if_pos c16) h
        exact B47 _ h
      · replace h := Eq.mp (if_neg c16) h
        refine sr_iconst C (v := 1) d_D_paysWith_43 (by decide) ?_
        refine sr_goto C (tgt := 48) (by decide) d_D_paysWith_44 ?_
        exact B48 _ _ h
  · replace h := Eq.mp (if_pos c3) h
    refine sr_iconst C (v := 0) d_D_paysWith_8 (by decide) ?_
    exact hR _ _ _ _ d_D_paysWith_9 rfl h
theorem d_D_snowOfAll_0 : decode prog_2_method_14_code 0 = .ok (.iconst 0, 1) := by decide +kernel
theorem d_D_snowOfAll_1 : decode prog_2_method_14_code 1 = .ok (.istore_n 1, 1) := by decide +kernel
theorem d_D_snowOfAll_2 : decode prog_2_method_14_code 2 = .ok (.iconst 0, 1) := by decide +kernel
theorem d_D_snowOfAll_3 : decode prog_2_method_14_code 3 = .ok (.istore_n 2, 1) := by decide +kernel
theorem d_D_snowOfAll_4 : decode prog_2_method_14_code 4 = .ok (.iload_n 2, 1) := by decide +kernel
theorem d_D_snowOfAll_5 : decode prog_2_method_14_code 5 = .ok (.aload_n 0, 1) := by decide +kernel
theorem d_D_snowOfAll_6 : decode prog_2_method_14_code 6 = .ok (.getfield 67, 3) := by decide +kernel
theorem d_D_snowOfAll_9 : decode prog_2_method_14_code 9 = .ok (.if_icmp .ge 18, 3) := by decide +kernel
theorem d_D_snowOfAll_12 : decode prog_2_method_14_code 12 = .ok (.iload_n 1, 1) := by decide +kernel
theorem d_D_snowOfAll_13 : decode prog_2_method_14_code 13 = .ok (.aload_n 0, 1) := by decide +kernel
theorem d_D_snowOfAll_14 : decode prog_2_method_14_code 14 = .ok (.getfield 22, 3) := by decide +kernel
theorem d_D_snowOfAll_17 : decode prog_2_method_14_code 17 = .ok (.iload_n 2, 1) := by decide +kernel
theorem d_D_snowOfAll_18 : decode prog_2_method_14_code 18 = .ok (.iaload, 1) := by decide +kernel
theorem d_D_snowOfAll_19 : decode prog_2_method_14_code 19 = .ok (.iadd, 1) := by decide +kernel
theorem d_D_snowOfAll_20 : decode prog_2_method_14_code 20 = .ok (.istore_n 1, 1) := by decide +kernel
theorem d_D_snowOfAll_21 : decode prog_2_method_14_code 21 = .ok (.iinc 2 1, 3) := by decide +kernel
theorem d_D_snowOfAll_24 : decode prog_2_method_14_code 24 = .ok (.goto (-20), 3) := by decide +kernel
theorem d_D_snowOfAll_27 : decode prog_2_method_14_code 27 = .ok (.iload_n 1, 1) := by decide +kernel
theorem d_D_snowOfAll_28 : decode prog_2_method_14_code 28 = .ok (.ireturn, 1) := by decide +kernel
def w_D_snowOfAll_4 (K : Int32 → sm_Mem → Prop) (x1 : Int32) (x2 : Int32) (μ : sm_Mem) : Prop := sm_lp2 (fun J4 x1 x2 μ => if (μ 1 12) ≤ x2 then K x1 μ else (vp_in x2 10 ∧ ∀ v3 : Int32, v3 = (x1 + (μ 6 x2.toNatClampNeg)) → J4 v3 (x2 + 1) μ)) x1 x2 μ
def w_D_snowOfAll (K : Int32 → sm_Mem → Prop) (μ : sm_Mem) : Prop := w_D_snowOfAll_4 K 0 0 μ
set_option maxHeartbeats 4000000 in
set_option maxRecDepth 100000 in
theorem P_D_snowOfAll (l : Launch) {K : Int32 → sm_Mem → Prop} {μ : sm_Mem} (h : w_D_snowOfAll K μ) : sm_MI l ⟨"SnowMoney$Duchy", "snowOfAll", "()I"⟩ prog_2_method_14_code 3 (some .int) { frames := 0, cells := 0, slots := 0, locals := 0 } [sm_R 1] μ K := by
  refine sm_ofI (by decide +kernel) (fun _ => Nat.le_of_ble_eq_true rfl) ?_
  intro p e s m args below meth c A Q G C hR
  have B4 : ∀ (x1 : Int32) (x2 : Int32) (μ : sm_Mem), w_D_snowOfAll_4 K x1 x2 μ → sm_W p l e { frames := 0, cells := 0, slots := 0, locals := 0 } s m args below meth c A Q G 3 0 0 4 [] [(0, sm_R 1), (1, sm_I x1), (2, sm_I x2)] μ := by
    intro x1 x2 μ h
    refine sm_lp2_sound (P := fun x1 x2 μ => sm_W p l e { frames := 0, cells := 0, slots := 0, locals := 0 } s m args below meth c A Q G 3 0 0 4 [] [(0, sm_R 1), (1, sm_I x1), (2, sm_I x2)] μ) (fun J4 x1 x2 μ hJ4 h => ?_) h
    refine sr_iload_n C 2 rfl rfl d_D_snowOfAll_4 ?_
    refine sr_aload_n C 0 rfl rfl d_D_snowOfAll_5 ?_
    refine sr_getI C sm_F0 12 q_23 sm_l1 rfl (by decide) d_D_snowOfAll_6 ?_
    refine sr_icmp_ge C (tgt := 27) d_D_snowOfAll_9 (by decide) (fun c1 => ?_) (fun c1 => ?_)
    · replace h := Eq.mp (if_pos c1) h
      refine sr_iload_n C 1 rfl rfl d_D_snowOfAll_27 ?_
      exact hR _ _ _ _ d_D_snowOfAll_28 rfl h
    · replace h := Eq.mp (if_neg c1) h
      refine sr_iload_n C 1 rfl rfl d_D_snowOfAll_12 ?_
      refine sr_aload_n C 0 rfl rfl d_D_snowOfAll_13 ?_
      refine sr_getR C sm_F0 4 q_209 sm_l1 (r := 6) rfl (by decide) d_D_snowOfAll_14 ?_
      refine sr_iload_n C 2 rfl rfl d_D_snowOfAll_17 ?_
      obtain ⟨g2, h⟩ := h
      refine sr_iald C sm_l6 g2 d_D_snowOfAll_18 ?_
      refine sr_iadd C d_D_snowOfAll_19 ?_
      replace h := h _ rfl
      refine sr_istore_n C rfl (by decide) d_D_snowOfAll_20 ?_
      refine sr_iinc C 2 rfl (by decide) d_D_snowOfAll_21 rfl ?_
      refine sr_goto C (tgt := 4) (by decide) d_D_snowOfAll_24 ?_
      refine sr_mask C [2, 1, 0] rfl ?_
      exact hJ4 _ _ _ h
  refine sr_iconst C (v := 0) d_D_snowOfAll_0 (by decide) ?_
  refine sr_istore_n C rfl (by decide) d_D_snowOfAll_1 ?_
  refine sr_iconst C (v := 0) d_D_snowOfAll_2 (by decide) ?_
  refine sr_istore_n C rfl (by decide) d_D_snowOfAll_3 ?_
  refine sr_mask C [2, 1, 0] rfl ?_
  exact B4 _ _ _ h
theorem d_D_warmthAround_0 : decode prog_2_method_6_code 0 = .ok (.aload_n 0, 1) := by decide +kernel
theorem d_D_warmthAround_1 : decode prog_2_method_6_code 1 = .ok (.iload_n 1, 1) := by decide +kernel
theorem d_D_warmthAround_2 : decode prog_2_method_6_code 2 = .ok (.invokevirtual 83, 3) := by decide +kernel
theorem d_D_warmthAround_5 : decode prog_2_method_6_code 5 = .ok (.ifCond .eq 16, 3) := by decide +kernel
theorem d_D_warmthAround_8 : decode prog_2_method_6_code 8 = .ok (.aload_n 0, 1) := by decide +kernel
theorem d_D_warmthAround_9 : decode prog_2_method_6_code 9 = .ok (.aload_n 0, 1) := by decide +kernel
theorem d_D_warmthAround_10 : decode prog_2_method_6_code 10 = .ok (.getfield 25, 3) := by decide +kernel
theorem d_D_warmthAround_13 : decode prog_2_method_6_code 13 = .ok (.iload_n 1, 1) := by decide +kernel
theorem d_D_warmthAround_14 : decode prog_2_method_6_code 14 = .ok (.iaload, 1) := by decide +kernel
theorem d_D_warmthAround_15 : decode prog_2_method_6_code 15 = .ok (.invokevirtual 86, 3) := by decide +kernel
theorem d_D_warmthAround_18 : decode prog_2_method_6_code 18 = .ok (.goto 4, 3) := by decide +kernel
theorem d_D_warmthAround_21 : decode prog_2_method_6_code 21 = .ok (.iconst 0, 1) := by decide +kernel
theorem d_D_warmthAround_22 : decode prog_2_method_6_code 22 = .ok (.ireturn, 1) := by decide +kernel
def w_D_warmthAround (K : Int32 → sm_Mem → Prop) (p0 : Int32) (μ : sm_Mem) : Prop := w_D_hasNote (fun r2 μ1 => if r2 = 0 then K 0 μ1 else (vp_in p0 10 ∧ w_D_warmthOf (fun r6 μ5 => K r6 μ5) (μ1 7 p0.toNatClampNeg) μ1)) p0 μ
set_option maxHeartbeats 4000000 in
set_option maxRecDepth 100000 in
theorem P_D_warmthAround (l : Launch) {K : Int32 → sm_Mem → Prop} {p0 : Int32} {μ : sm_Mem} (h : w_D_warmthAround K p0 μ) : sm_MI l ⟨"SnowMoney$Duchy", "warmthAround", "(I)I"⟩ prog_2_method_6_code 2 (some .int) { frames := 2, cells := 0, slots := 0, locals := 42 } [sm_R 1, sm_I p0] μ K := by
  refine sm_ofI (by decide +kernel) (fun _ => Nat.le_of_ble_eq_true rfl) ?_
  intro p e s m args below meth c A Q G C hR
  refine sr_aload_n C 0 rfl rfl d_D_warmthAround_0 ?_
  refine sr_iload_n C 1 rfl rfl d_D_warmthAround_1 ?_
  refine sr_callVI C [sm_I _] (P_D_hasNote l h) ok_10 sm_l1 rfl rfl rfl rfl ⟨Nat.le_of_ble_eq_true rfl, Nat.le_of_ble_eq_true rfl⟩ (Nat.le_of_ble_eq_true rfl) ⟨Nat.zero_le _, Nat.zero_le _⟩ d_D_warmthAround_2 (fun r2 μ1 h => ?_)
  refine sr_if_eq C (tgt := 21) d_D_warmthAround_5 (by decide) (fun c3 => ?_) (fun c3 => ?_)
  · replace h := Eq.mp (if_pos c3) h
    refine sr_iconst C (v := 0) d_D_warmthAround_21 (by decide) ?_
    exact hR _ _ _ _ d_D_warmthAround_22 rfl h
  · replace h := Eq.mp (if_neg c3) h
    refine sr_aload_n C 0 rfl rfl d_D_warmthAround_8 ?_
    refine sr_aload_n C 0 rfl rfl d_D_warmthAround_9 ?_
    refine sr_getR C sm_F0 5 q_24 sm_l1 (r := 7) rfl (by decide) d_D_warmthAround_10 ?_
    refine sr_iload_n C 1 rfl rfl d_D_warmthAround_13 ?_
    obtain ⟨g4, h⟩ := h
    refine sr_iald C sm_l7 g4 d_D_warmthAround_14 ?_
    refine sr_callVI C [sm_I _] (P_D_warmthOf l h) ok_11 sm_l1 rfl rfl rfl rfl ⟨Nat.le_of_ble_eq_true rfl, Nat.le_of_ble_eq_true rfl⟩ (Nat.le_of_ble_eq_true rfl) ⟨Nat.zero_le _, Nat.zero_le _⟩ d_D_warmthAround_15 (fun r6 μ5 h => ?_)
    refine sr_goto C (tgt := 22) (by decide) d_D_warmthAround_18 ?_
    exact hR _ _ _ _ d_D_warmthAround_22 rfl h
theorem d_D_draw_0 : decode prog_2_method_16_code 0 = .ok (.aload_n 0, 1) := by decide +kernel
theorem d_D_draw_1 : decode prog_2_method_16_code 1 = .ok (.aload_n 0, 1) := by decide +kernel
theorem d_D_draw_2 : decode prog_2_method_16_code 2 = .ok (.getfield 51, 3) := by decide +kernel
theorem d_D_draw_5 : decode prog_2_method_16_code 5 = .ok (.ldc 126, 2) := by decide +kernel
theorem d_D_draw_7 : decode prog_2_method_16_code 7 = .ok (.imul, 1) := by decide +kernel
theorem d_D_draw_8 : decode prog_2_method_16_code 8 = .ok (.sipush 12345, 3) := by decide +kernel
theorem d_D_draw_11 : decode prog_2_method_16_code 11 = .ok (.iadd, 1) := by decide +kernel
theorem d_D_draw_12 : decode prog_2_method_16_code 12 = .ok (.putfield 51, 3) := by decide +kernel
theorem d_D_draw_15 : decode prog_2_method_16_code 15 = .ok (.aload_n 0, 1) := by decide +kernel
theorem d_D_draw_16 : decode prog_2_method_16_code 16 = .ok (.getfield 51, 3) := by decide +kernel
theorem d_D_draw_19 : decode prog_2_method_16_code 19 = .ok (.bipush 8, 2) := by decide +kernel
theorem d_D_draw_21 : decode prog_2_method_16_code 21 = .ok (.iushr, 1) := by decide +kernel
theorem d_D_draw_22 : decode prog_2_method_16_code 22 = .ok (.ireturn, 1) := by decide +kernel
def w_D_draw (K : Int32 → sm_Mem → Prop) (μ : sm_Mem) : Prop := ∀ μ1 : sm_Mem, μ1 = sm_st μ 1 17 (((μ 1 17) * 1103515245) + 12345) → K (((μ1 1 17).toUInt32 >>> ((8 : Int32).toUInt32 &&& Int32.toUInt32 31)).toInt32) μ1
set_option maxHeartbeats 4000000 in
set_option maxRecDepth 100000 in
theorem P_D_draw (l : Launch) {K : Int32 → sm_Mem → Prop} {μ : sm_Mem} (h : w_D_draw K μ) : sm_MI l ⟨"SnowMoney$Duchy", "draw", "()I"⟩ prog_2_method_16_code 1 (some .int) { frames := 0, cells := 0, slots := 0, locals := 0 } [sm_R 1] μ K := by
  refine sm_ofI (by decide +kernel) (fun _ => Nat.le_of_ble_eq_true rfl) ?_
  intro p e s m args below meth c A Q G C hR
  refine sr_aload_n C 0 rfl rfl d_D_draw_0 ?_
  refine sr_aload_n C 0 rfl rfl d_D_draw_1 ?_
  refine sr_getI C sm_F0 17 q_244 sm_l1 rfl (by decide) d_D_draw_2 ?_
  refine sr_ldc C q_245 d_D_draw_5 ?_
  refine sr_imul C d_D_draw_7 ?_
  refine sr_sipush C (v := 12345) d_D_draw_8 (by decide) ?_
  refine sr_iadd C d_D_draw_11 ?_
  refine sr_putI C sm_F0 17 q_244 sm_l1 rfl rfl (by decide) rfl d_D_draw_12 ?_
  replace h := h _ rfl
  refine sr_aload_n C 0 rfl rfl d_D_draw_15 ?_
  refine sr_getI C sm_F0 17 q_244 sm_l1 rfl (by decide) d_D_draw_16 ?_
  refine sr_bipush C (v := 8) d_D_draw_19 (by decide) ?_
  refine sr_iushr C d_D_draw_21 ?_
  exact hR _ _ _ _ d_D_draw_22 rfl h
theorem d_D_take_19_1_0 : decode prog_2_method_2_code 0 = .ok (.aload_n 1, 1) := by decide +kernel
theorem d_D_take_19_1_1 : decode prog_2_method_2_code 1 = .ok (.getfield 9, 3) := by decide +kernel
theorem d_D_take_19_1_4 : decode prog_2_method_2_code 4 = .ok (.iconst 0, 1) := by decide +kernel
theorem d_D_take_19_1_5 : decode prog_2_method_2_code 5 = .ok (.aload_n 0, 1) := by decide +kernel
theorem d_D_take_19_1_6 : decode prog_2_method_2_code 6 = .ok (.getfield 9, 3) := by decide +kernel
theorem d_D_take_19_1_9 : decode prog_2_method_2_code 9 = .ok (.iconst 0, 1) := by decide +kernel
theorem d_D_take_19_1_10 : decode prog_2_method_2_code 10 = .ok (.bipush 6, 2) := by decide +kernel
theorem d_D_take_19_1_12 : decode prog_2_method_2_code 12 = .ok (.invokestatic 54, 3) := by decide +kernel
theorem d_D_take_19_1_15 : decode prog_2_method_2_code 15 = .ok (.aload_n 1, 1) := by decide +kernel
theorem d_D_take_19_1_16 : decode prog_2_method_2_code 16 = .ok (.getfield 13, 3) := by decide +kernel
theorem d_D_take_19_1_19 : decode prog_2_method_2_code 19 = .ok (.iconst 0, 1) := by decide +kernel
theorem d_D_take_19_1_20 : decode prog_2_method_2_code 20 = .ok (.aload_n 0, 1) := by decide +kernel
theorem d_D_take_19_1_21 : decode prog_2_method_2_code 21 = .ok (.getfield 13, 3) := by decide +kernel
theorem d_D_take_19_1_24 : decode prog_2_method_2_code 24 = .ok (.iconst 0, 1) := by decide +kernel
theorem d_D_take_19_1_25 : decode prog_2_method_2_code 25 = .ok (.bipush 36, 2) := by decide +kernel
theorem d_D_take_19_1_27 : decode prog_2_method_2_code 27 = .ok (.invokestatic 54, 3) := by decide +kernel
theorem d_D_take_19_1_30 : decode prog_2_method_2_code 30 = .ok (.aload_n 1, 1) := by decide +kernel
theorem d_D_take_19_1_31 : decode prog_2_method_2_code 31 = .ok (.getfield 16, 3) := by decide +kernel
theorem d_D_take_19_1_34 : decode prog_2_method_2_code 34 = .ok (.iconst 0, 1) := by decide +kernel
theorem d_D_take_19_1_35 : decode prog_2_method_2_code 35 = .ok (.aload_n 0, 1) := by decide +kernel
theorem d_D_take_19_1_36 : decode prog_2_method_2_code 36 = .ok (.getfield 16, 3) := by decide +kernel
theorem d_D_take_19_1_39 : decode prog_2_method_2_code 39 = .ok (.iconst 0, 1) := by decide +kernel
theorem d_D_take_19_1_40 : decode prog_2_method_2_code 40 = .ok (.bipush 10, 2) := by decide +kernel
theorem d_D_take_19_1_42 : decode prog_2_method_2_code 42 = .ok (.invokestatic 54, 3) := by decide +kernel
theorem d_D_take_19_1_45 : decode prog_2_method_2_code 45 = .ok (.aload_n 1, 1) := by decide +kernel
theorem d_D_take_19_1_46 : decode prog_2_method_2_code 46 = .ok (.getfield 19, 3) := by decide +kernel
theorem d_D_take_19_1_49 : decode prog_2_method_2_code 49 = .ok (.iconst 0, 1) := by decide +kernel
theorem d_D_take_19_1_50 : decode prog_2_method_2_code 50 = .ok (.aload_n 0, 1) := by decide +kernel
theorem d_D_take_19_1_51 : decode prog_2_method_2_code 51 = .ok (.getfield 19, 3) := by decide +kernel
theorem d_D_take_19_1_54 : decode prog_2_method_2_code 54 = .ok (.iconst 0, 1) := by decide +kernel
theorem d_D_take_19_1_55 : decode prog_2_method_2_code 55 = .ok (.bipush 10, 2) := by decide +kernel
theorem d_D_take_19_1_57 : decode prog_2_method_2_code 57 = .ok (.invokestatic 54, 3) := by decide +kernel
theorem d_D_take_19_1_60 : decode prog_2_method_2_code 60 = .ok (.aload_n 1, 1) := by decide +kernel
theorem d_D_take_19_1_61 : decode prog_2_method_2_code 61 = .ok (.getfield 22, 3) := by decide +kernel
theorem d_D_take_19_1_64 : decode prog_2_method_2_code 64 = .ok (.iconst 0, 1) := by decide +kernel
theorem d_D_take_19_1_65 : decode prog_2_method_2_code 65 = .ok (.aload_n 0, 1) := by decide +kernel
theorem d_D_take_19_1_66 : decode prog_2_method_2_code 66 = .ok (.getfield 22, 3) := by decide +kernel
theorem d_D_take_19_1_69 : decode prog_2_method_2_code 69 = .ok (.iconst 0, 1) := by decide +kernel
theorem d_D_take_19_1_70 : decode prog_2_method_2_code 70 = .ok (.bipush 10, 2) := by decide +kernel
theorem d_D_take_19_1_72 : decode prog_2_method_2_code 72 = .ok (.invokestatic 54, 3) := by decide +kernel
theorem d_D_take_19_1_75 : decode prog_2_method_2_code 75 = .ok (.aload_n 1, 1) := by decide +kernel
theorem d_D_take_19_1_76 : decode prog_2_method_2_code 76 = .ok (.getfield 25, 3) := by decide +kernel
theorem d_D_take_19_1_79 : decode prog_2_method_2_code 79 = .ok (.iconst 0, 1) := by decide +kernel
theorem d_D_take_19_1_80 : decode prog_2_method_2_code 80 = .ok (.aload_n 0, 1) := by decide +kernel
theorem d_D_take_19_1_81 : decode prog_2_method_2_code 81 = .ok (.getfield 25, 3) := by decide +kernel
theorem d_D_take_19_1_84 : decode prog_2_method_2_code 84 = .ok (.iconst 0, 1) := by decide +kernel
theorem d_D_take_19_1_85 : decode prog_2_method_2_code 85 = .ok (.bipush 10, 2) := by decide +kernel
theorem d_D_take_19_1_87 : decode prog_2_method_2_code 87 = .ok (.invokestatic 54, 3) := by decide +kernel
theorem d_D_take_19_1_90 : decode prog_2_method_2_code 90 = .ok (.aload_n 1, 1) := by decide +kernel
theorem d_D_take_19_1_91 : decode prog_2_method_2_code 91 = .ok (.getfield 28, 3) := by decide +kernel
theorem d_D_take_19_1_94 : decode prog_2_method_2_code 94 = .ok (.iconst 0, 1) := by decide +kernel
theorem d_D_take_19_1_95 : decode prog_2_method_2_code 95 = .ok (.aload_n 0, 1) := by decide +kernel
theorem d_D_take_19_1_96 : decode prog_2_method_2_code 96 = .ok (.getfield 28, 3) := by decide +kernel
theorem d_D_take_19_1_99 : decode prog_2_method_2_code 99 = .ok (.iconst 0, 1) := by decide +kernel
theorem d_D_take_19_1_100 : decode prog_2_method_2_code 100 = .ok (.bipush 10, 2) := by decide +kernel
theorem d_D_take_19_1_102 : decode prog_2_method_2_code 102 = .ok (.invokestatic 54, 3) := by decide +kernel
theorem d_D_take_19_1_105 : decode prog_2_method_2_code 105 = .ok (.aload_n 1, 1) := by decide +kernel
theorem d_D_take_19_1_106 : decode prog_2_method_2_code 106 = .ok (.getfield 31, 3) := by decide +kernel
theorem d_D_take_19_1_109 : decode prog_2_method_2_code 109 = .ok (.iconst 0, 1) := by decide +kernel
theorem d_D_take_19_1_110 : decode prog_2_method_2_code 110 = .ok (.aload_n 0, 1) := by decide +kernel
theorem d_D_take_19_1_111 : decode prog_2_method_2_code 111 = .ok (.getfield 31, 3) := by decide +kernel
theorem d_D_take_19_1_114 : decode prog_2_method_2_code 114 = .ok (.iconst 0, 1) := by decide +kernel
theorem d_D_take_19_1_115 : decode prog_2_method_2_code 115 = .ok (.bipush 50, 2) := by decide +kernel
theorem d_D_take_19_1_117 : decode prog_2_method_2_code 117 = .ok (.invokestatic 54, 3) := by decide +kernel
theorem d_D_take_19_1_120 : decode prog_2_method_2_code 120 = .ok (.aload_n 1, 1) := by decide +kernel
theorem d_D_take_19_1_121 : decode prog_2_method_2_code 121 = .ok (.getfield 34, 3) := by decide +kernel
theorem d_D_take_19_1_124 : decode prog_2_method_2_code 124 = .ok (.iconst 0, 1) := by decide +kernel
theorem d_D_take_19_1_125 : decode prog_2_method_2_code 125 = .ok (.aload_n 0, 1) := by decide +kernel
theorem d_D_take_19_1_126 : decode prog_2_method_2_code 126 = .ok (.getfield 34, 3) := by decide +kernel
theorem d_D_take_19_1_129 : decode prog_2_method_2_code 129 = .ok (.iconst 0, 1) := by decide +kernel
theorem d_D_take_19_1_130 : decode prog_2_method_2_code 130 = .ok (.bipush 20, 2) := by decide +kernel
theorem d_D_take_19_1_132 : decode prog_2_method_2_code 132 = .ok (.invokestatic 54, 3) := by decide +kernel
theorem d_D_take_19_1_135 : decode prog_2_method_2_code 135 = .ok (.aload_n 0, 1) := by decide +kernel
theorem d_D_take_19_1_136 : decode prog_2_method_2_code 136 = .ok (.getfield 40, 3) := by decide +kernel
theorem d_D_take_19_1_139 : decode prog_2_method_2_code 139 = .ok (.aload_n 1, 1) := by decide +kernel
theorem d_D_take_19_1_140 : decode prog_2_method_2_code 140 = .ok (.getfield 40, 3) := by decide +kernel
theorem d_D_take_19_1_143 : decode prog_2_method_2_code 143 = .ok (.invokevirtual 60, 3) := by decide +kernel
theorem d_D_take_19_1_146 : decode prog_2_method_2_code 146 = .ok (.aload_n 0, 1) := by decide +kernel
theorem d_D_take_19_1_147 : decode prog_2_method_2_code 147 = .ok (.getfield 44, 3) := by decide +kernel
theorem d_D_take_19_1_150 : decode prog_2_method_2_code 150 = .ok (.aload_n 1, 1) := by decide +kernel
theorem d_D_take_19_1_151 : decode prog_2_method_2_code 151 = .ok (.getfield 44, 3) := by decide +kernel
theorem d_D_take_19_1_154 : decode prog_2_method_2_code 154 = .ok (.invokevirtual 60, 3) := by decide +kernel
theorem d_D_take_19_1_157 : decode prog_2_method_2_code 157 = .ok (.aload_n 0, 1) := by decide +kernel
theorem d_D_take_19_1_158 : decode prog_2_method_2_code 158 = .ok (.aload_n 1, 1) := by decide +kernel
theorem d_D_take_19_1_159 : decode prog_2_method_2_code 159 = .ok (.getfield 64, 3) := by decide +kernel
theorem d_D_take_19_1_162 : decode prog_2_method_2_code 162 = .ok (.putfield 64, 3) := by decide +kernel
theorem d_D_take_19_1_165 : decode prog_2_method_2_code 165 = .ok (.aload_n 0, 1) := by decide +kernel
theorem d_D_take_19_1_166 : decode prog_2_method_2_code 166 = .ok (.aload_n 1, 1) := by decide +kernel
theorem d_D_take_19_1_167 : decode prog_2_method_2_code 167 = .ok (.getfield 67, 3) := by decide +kernel
theorem d_D_take_19_1_170 : decode prog_2_method_2_code 170 = .ok (.putfield 67, 3) := by decide +kernel
theorem d_D_take_19_1_173 : decode prog_2_method_2_code 173 = .ok (.aload_n 0, 1) := by decide +kernel
theorem d_D_take_19_1_174 : decode prog_2_method_2_code 174 = .ok (.aload_n 1, 1) := by decide +kernel
theorem d_D_take_19_1_175 : decode prog_2_method_2_code 175 = .ok (.getfield 47, 3) := by decide +kernel
theorem d_D_take_19_1_178 : decode prog_2_method_2_code 178 = .ok (.putfield 47, 3) := by decide +kernel
theorem d_D_take_19_1_181 : decode prog_2_method_2_code 181 = .ok (.aload_n 0, 1) := by decide +kernel
theorem d_D_take_19_1_182 : decode prog_2_method_2_code 182 = .ok (.aload_n 1, 1) := by decide +kernel
theorem d_D_take_19_1_183 : decode prog_2_method_2_code 183 = .ok (.getfield 70, 3) := by decide +kernel
theorem d_D_take_19_1_186 : decode prog_2_method_2_code 186 = .ok (.putfield 70, 3) := by decide +kernel
theorem d_D_take_19_1_189 : decode prog_2_method_2_code 189 = .ok (.aload_n 0, 1) := by decide +kernel
theorem d_D_take_19_1_190 : decode prog_2_method_2_code 190 = .ok (.aload_n 1, 1) := by decide +kernel
theorem d_D_take_19_1_191 : decode prog_2_method_2_code 191 = .ok (.getfield 73, 3) := by decide +kernel
theorem d_D_take_19_1_194 : decode prog_2_method_2_code 194 = .ok (.putfield 73, 3) := by decide +kernel
theorem d_D_take_19_1_197 : decode prog_2_method_2_code 197 = .ok (.aload_n 0, 1) := by decide +kernel
theorem d_D_take_19_1_198 : decode prog_2_method_2_code 198 = .ok (.aload_n 1, 1) := by decide +kernel
theorem d_D_take_19_1_199 : decode prog_2_method_2_code 199 = .ok (.getfield 76, 3) := by decide +kernel
theorem d_D_take_19_1_202 : decode prog_2_method_2_code 202 = .ok (.putfield 76, 3) := by decide +kernel
theorem d_D_take_19_1_205 : decode prog_2_method_2_code 205 = .ok (.aload_n 0, 1) := by decide +kernel
theorem d_D_take_19_1_206 : decode prog_2_method_2_code 206 = .ok (.aload_n 1, 1) := by decide +kernel
theorem d_D_take_19_1_207 : decode prog_2_method_2_code 207 = .ok (.getfield 51, 3) := by decide +kernel
theorem d_D_take_19_1_210 : decode prog_2_method_2_code 210 = .ok (.putfield 51, 3) := by decide +kernel
theorem d_D_take_19_1_213 : decode prog_2_method_2_code 213 = .ok (.return_, 1) := by decide +kernel
def w_D_take_19_1 (K : sm_Mem → Prop) (μ : sm_Mem) : Prop := ∀ μ6 : sm_Mem, μ6 = sm_cpy μ 2 20 ((0 : Int32).toNatClampNeg) ((0 : Int32).toNatClampNeg) ((6 : Int32).toNatClampNeg) → ∀ μ12 : sm_Mem, μ12 = sm_cpy μ6 3 21 ((0 : Int32).toNatClampNeg) ((0 : Int32).toNatClampNeg) ((36 : Int32).toNatClampNeg) → ∀ μ18 : sm_Mem, μ18 = sm_cpy μ12 4 22 ((0 : Int32).toNatClampNeg) ((0 : Int32).toNatClampNeg) ((10 : Int32).toNatClampNeg) → ∀ μ24 : sm_Mem, μ24 = sm_cpy μ18 5 23 ((0 : Int32).toNatClampNeg) ((0 : Int32).toNatClampNeg) ((10 : Int32).toNatClampNeg) → ∀ μ30 : sm_Mem, μ30 = sm_cpy μ24 6 24 ((0 : Int32).toNatClampNeg) ((0 : Int32).toNatClampNeg) ((10 : Int32).toNatClampNeg) → ∀ μ36 : sm_Mem, μ36 = sm_cpy μ30 7 25 ((0 : Int32).toNatClampNeg) ((0 : Int32).toNatClampNeg) ((10 : Int32).toNatClampNeg) → ∀ μ42 : sm_Mem, μ42 = sm_cpy μ36 8 26 ((0 : Int32).toNatClampNeg) ((0 : Int32).toNatClampNeg) ((10 : Int32).toNatClampNeg) → ∀ μ48 : sm_Mem, μ48 = sm_cpy μ42 9 27 ((0 : Int32).toNatClampNeg) ((0 : Int32).toNatClampNeg) ((50 : Int32).toNatClampNeg) → ∀ μ54 : sm_Mem, μ54 = sm_cpy μ48 10 28 ((0 : Int32).toNatClampNeg) ((0 : Int32).toNatClampNeg) ((20 : Int32).toNatClampNeg) → w_T_take (fun μ55 => w_T_take (fun μ56 => ∀ μ57 : sm_Mem, μ57 = sm_st μ56 19 11 (μ56 1 11) → ∀ μ58 : sm_Mem, μ58 = sm_st μ57 19 12 (μ57 1 12) → ∀ μ59 : sm_Mem, μ59 = sm_st μ58 19 13 (μ58 1 13) → ∀ μ60 : sm_Mem, μ60 = sm_st μ59 19 14 (μ59 1 14) → ∀ μ61 : sm_Mem, μ61 = sm_st μ60 19 15 (μ60 1 15) → ∀ μ62 : sm_Mem, μ62 = sm_st μ61 19 16 (μ61 1 16) → ∀ μ63 : sm_Mem, μ63 = sm_st μ62 19 17 (μ62 1 17) → K μ63) 33 15 μ55) 29 11 μ54
set_option maxHeartbeats 4000000 in
set_option maxRecDepth 100000 in
theorem P_D_take_19_1 (l : Launch) {K : sm_Mem → Prop} {μ : sm_Mem} (h : w_D_take_19_1 K μ) : sm_MV l ⟨"SnowMoney$Duchy", "take", "(LSnowMoney$Duchy;)V"⟩ prog_2_method_2_code 2 { frames := 2, cells := 0, slots := 0, locals := 61 } [sm_R 19, sm_R 1] μ K := by
  refine sm_ofV (by decide +kernel) (fun _ => Nat.le_of_ble_eq_true rfl) ?_
  intro p e s m args below meth c A Q G C hR
  refine sr_aload_n C 1 rfl rfl d_D_take_19_1_0 ?_
  refine sr_getR C sm_F0 0 q_92 sm_l1 (r := 2) rfl (by decide) d_D_take_19_1_1 ?_
  refine sr_iconst C (v := 0) d_D_take_19_1_4 (by decide) ?_
  refine sr_aload_n C 0 rfl rfl d_D_take_19_1_5 ?_
  refine sr_getR C sm_F0 0 q_92 sm_l19 (r := 20) rfl (by decide) d_D_take_19_1_6 ?_
  refine sr_iconst C (v := 0) d_D_take_19_1_9 (by decide) ?_
  refine sr_bipush C (v := 6) d_D_take_19_1_10 (by decide) ?_
  refine sr_copy C sm_l2 sm_l20 (by decide) (by decide) (by decide) (by decide) (by decide) q_413 q_sysn q_syss q_sysi (Nat.le_of_ble_eq_true rfl) (Nat.le_of_ble_eq_true rfl) d_D_take_19_1_12 ?_
  replace h := h _ rfl
  refine sr_aload_n C 1 rfl rfl d_D_take_19_1_15 ?_
  refine sr_getR C sm_F0 1 q_34 sm_l1 (r := 3) rfl (by decide) d_D_take_19_1_16 ?_
  refine sr_iconst C (v := 0) d_D_take_19_1_19 (by decide) ?_
  refine sr_aload_n C 0 rfl rfl d_D_take_19_1_20 ?_
  refine sr_getR C sm_F0 1 q_34 sm_l19 (r := 21) rfl (by decide) d_D_take_19_1_21 ?_
  refine sr_iconst C (v := 0) d_D_take_19_1_24 (by decide) ?_
  refine sr_bipush C (v := 36) d_D_take_19_1_25 (by decide) ?_
  refine sr_copy C sm_l3 sm_l21 (by decide) (by decide) (by decide) (by decide) (by decide) q_413 q_sysn q_syss q_sysi (Nat.le_of_ble_eq_true rfl) (Nat.le_of_ble_eq_true rfl) d_D_take_19_1_27 ?_
  replace h := h _ rfl
  refine sr_aload_n C 1 rfl rfl d_D_take_19_1_30 ?_
  refine sr_getR C sm_F0 2 q_54 sm_l1 (r := 4) rfl (by decide) d_D_take_19_1_31 ?_
  refine sr_iconst C (v := 0) d_D_take_19_1_34 (by decide) ?_
  refine sr_aload_n C 0 rfl rfl d_D_take_19_1_35 ?_
  refine sr_getR C sm_F0 2 q_54 sm_l19 (r := 22) rfl (by decide) d_D_take_19_1_36 ?_
  refine sr_iconst C (v := 0) d_D_take_19_1_39 (by decide) ?_
  refine sr_bipush C (v := 10) d_D_take_19_1_40 (by decide) ?_
  refine sr_copy C sm_l4 sm_l22 (by decide) (by decide) (by decide) (by decide) (by decide) q_413 q_sysn q_syss q_sysi (Nat.le_of_ble_eq_true rfl) (Nat.le_of_ble_eq_true rfl) d_D_take_19_1_42 ?_
  replace h := h _ rfl
  refine sr_aload_n C 1 rfl rfl d_D_take_19_1_45 ?_
  refine sr_getR C sm_F0 3 q_55 sm_l1 (r := 5) rfl (by decide) d_D_take_19_1_46 ?_
  refine sr_iconst C (v := 0) d_D_take_19_1_49 (by decide) ?_
  refine sr_aload_n C 0 rfl rfl d_D_take_19_1_50 ?_
  refine sr_getR C sm_F0 3 q_55 sm_l19 (r := 23) rfl (by decide) d_D_take_19_1_51 ?_
  refine sr_iconst C (v := 0) d_D_take_19_1_54 (by decide) ?_
  refine sr_bipush C (v := 10) d_D_take_19_1_55 (by decide) ?_
  refine sr_copy C sm_l5 sm_l23 (by decide) (by decide) (by decide) (by decide) (by decide) q_413 q_sysn q_syss q_sysi (Nat.le_of_ble_eq_true rfl) (Nat.le_of_ble_eq_true rfl) d_D_take_19_1_57 ?_
  replace h := h _ rfl
  refine sr_aload_n C 1 rfl rfl d_D_take_19_1_60 ?_
  refine sr_getR C sm_F0 4 q_209 sm_l1 (r := 6) rfl (by decide) d_D_take_19_1_61 ?_
  refine sr_iconst C (v := 0) d_D_take_19_1_64 (by decide) ?_
  refine sr_aload_n C 0 rfl rfl d_D_take_19_1_65 ?_
  refine sr_getR C sm_F0 4 q_209 sm_l19 (r := 24) rfl (by decide) d_D_take_19_1_66 ?_
  refine sr_iconst C (v := 0) d_D_take_19_1_69 (by decide) ?_
  refine sr_bipush C (v := 10) d_D_take_19_1_70 (by decide) ?_
  refine sr_copy C sm_l6 sm_l24 (by decide) (by decide) (by decide) (by decide) (by decide) q_413 q_sysn q_syss q_sysi (Nat.le_of_ble_eq_true rfl) (Nat.le_of_ble_eq_true rfl) d_D_take_19_1_72 ?_
  replace h := h _ rfl
  refine sr_aload_n C 1 rfl rfl d_D_take_19_1_75 ?_
  refine sr_getR C sm_F0 5 q_24 sm_l1 (r := 7) rfl (by decide) d_D_take_19_1_76 ?_
  refine sr_iconst C (v := 0) d_D_take_19_1_79 (by decide) ?_
  refine sr_aload_n C 0 rfl rfl d_D_take_19_1_80 ?_
  refine sr_getR C sm_F0 5 q_24 sm_l19 (r := 25) rfl (by decide) d_D_take_19_1_81 ?_
  refine sr_iconst C (v := 0) d_D_take_19_1_84 (by decide) ?_
  refine sr_bipush C (v := 10) d_D_take_19_1_85 (by decide) ?_
  refine sr_copy C sm_l7 sm_l25 (by decide) (by decide) (by decide) (by decide) (by decide) q_413 q_sysn q_syss q_sysi (Nat.le_of_ble_eq_true rfl) (Nat.le_of_ble_eq_true rfl) d_D_take_19_1_87 ?_
  replace h := h _ rfl
  refine sr_aload_n C 1 rfl rfl d_D_take_19_1_90 ?_
  refine sr_getR C sm_F0 6 q_103 sm_l1 (r := 8) rfl (by decide) d_D_take_19_1_91 ?_
  refine sr_iconst C (v := 0) d_D_take_19_1_94 (by decide) ?_
  refine sr_aload_n C 0 rfl rfl d_D_take_19_1_95 ?_
  refine sr_getR C sm_F0 6 q_103 sm_l19 (r := 26) rfl (by decide) d_D_take_19_1_96 ?_
  refine sr_iconst C (v := 0) d_D_take_19_1_99 (by decide) ?_
  refine sr_bipush C (v := 10) d_D_take_19_1_100 (by decide) ?_
  refine sr_copy C sm_l8 sm_l26 (by decide) (by decide) (by decide) (by decide) (by decide) q_413 q_sysn q_syss q_sysi (Nat.le_of_ble_eq_true rfl) (Nat.le_of_ble_eq_true rfl) d_D_take_19_1_102 ?_
  replace h := h _ rfl
  refine sr_aload_n C 1 rfl rfl d_D_take_19_1_105 ?_
  refine sr_getR C sm_F0 7 q_414 sm_l1 (r := 9) rfl (by decide) d_D_take_19_1_106 ?_
  refine sr_iconst C (v := 0) d_D_take_19_1_109 (by decide) ?_
  refine sr_aload_n C 0 rfl rfl d_D_take_19_1_110 ?_
  refine sr_getR C sm_F0 7 q_414 sm_l19 (r := 27) rfl (by decide) d_D_take_19_1_111 ?_
  refine sr_iconst C (v := 0) d_D_take_19_1_114 (by decide) ?_
  refine sr_bipush C (v := 50) d_D_take_19_1_115 (by decide) ?_
  refine sr_copy C sm_l9 sm_l27 (by decide) (by decide) (by decide) (by decide) (by decide) q_413 q_sysn q_syss q_sysi (Nat.le_of_ble_eq_true rfl) (Nat.le_of_ble_eq_true rfl) d_D_take_19_1_117 ?_
  replace h := h _ rfl
  refine sr_aload_n C 1 rfl rfl d_D_take_19_1_120 ?_
  refine sr_getR C sm_F0 8 q_415 sm_l1 (r := 10) rfl (by decide) d_D_take_19_1_121 ?_
  refine sr_iconst C (v := 0) d_D_take_19_1_124 (by decide) ?_
  refine sr_aload_n C 0 rfl rfl d_D_take_19_1_125 ?_
  refine sr_getR C sm_F0 8 q_415 sm_l19 (r := 28) rfl (by decide) d_D_take_19_1_126 ?_
  refine sr_iconst C (v := 0) d_D_take_19_1_129 (by decide) ?_
  refine sr_bipush C (v := 20) d_D_take_19_1_130 (by decide) ?_
  refine sr_copy C sm_l10 sm_l28 (by decide) (by decide) (by decide) (by decide) (by decide) q_413 q_sysn q_syss q_sysi (Nat.le_of_ble_eq_true rfl) (Nat.le_of_ble_eq_true rfl) d_D_take_19_1_132 ?_
  replace h := h _ rfl
  refine sr_aload_n C 0 rfl rfl d_D_take_19_1_135 ?_
  refine sr_getR C sm_F0 9 q_70 sm_l19 (r := 29) rfl (by decide) d_D_take_19_1_136 ?_
  refine sr_aload_n C 1 rfl rfl d_D_take_19_1_139 ?_
  refine sr_getR C sm_F0 9 q_70 sm_l1 (r := 11) rfl (by decide) d_D_take_19_1_140 ?_
  refine sr_callVV C [sm_R _] (P_T_take l h) ok_93 sm_l29 rfl rfl rfl rfl ⟨Nat.le_of_ble_eq_true rfl, Nat.le_of_ble_eq_true rfl⟩ (Nat.le_of_ble_eq_true rfl) ⟨Nat.zero_le _, Nat.zero_le _⟩ d_D_take_19_1_143 (fun μ55 h => ?_)
  refine sr_aload_n C 0 rfl rfl d_D_take_19_1_146 ?_
  refine sr_getR C sm_F0 10 q_108 sm_l19 (r := 33) rfl (by decide) d_D_take_19_1_147 ?_
  refine sr_aload_n C 1 rfl rfl d_D_take_19_1_150 ?_
  refine sr_getR C sm_F0 10 q_108 sm_l1 (r := 15) rfl (by decide) d_D_take_19_1_151 ?_
  refine sr_callVV C [sm_R _] (P_T_take l h) ok_93 sm_l33 rfl rfl rfl rfl ⟨Nat.le_of_ble_eq_true rfl, Nat.le_of_ble_eq_true rfl⟩ (Nat.le_of_ble_eq_true rfl) ⟨Nat.zero_le _, Nat.zero_le _⟩ d_D_take_19_1_154 (fun μ56 h => ?_)
  refine sr_aload_n C 0 rfl rfl d_D_take_19_1_157 ?_
  refine sr_aload_n C 1 rfl rfl d_D_take_19_1_158 ?_
  refine sr_getI C sm_F0 11 q_18 sm_l1 rfl (by decide) d_D_take_19_1_159 ?_
  refine sr_putI C sm_F0 11 q_18 sm_l19 rfl rfl (by decide) rfl d_D_take_19_1_162 ?_
  replace h := h _ rfl
  refine sr_aload_n C 0 rfl rfl d_D_take_19_1_165 ?_
  refine sr_aload_n C 1 rfl rfl d_D_take_19_1_166 ?_
  refine sr_getI C sm_F0 12 q_23 sm_l1 rfl (by decide) d_D_take_19_1_167 ?_
  refine sr_putI C sm_F0 12 q_23 sm_l19 rfl rfl (by decide) rfl d_D_take_19_1_170 ?_
  replace h := h _ rfl
  refine sr_aload_n C 0 rfl rfl d_D_take_19_1_173 ?_
  refine sr_aload_n C 1 rfl rfl d_D_take_19_1_174 ?_
  refine sr_getI C sm_F0 13 q_60 sm_l1 rfl (by decide) d_D_take_19_1_175 ?_
  refine sr_putI C sm_F0 13 q_60 sm_l19 rfl rfl (by decide) rfl d_D_take_19_1_178 ?_
  replace h := h _ rfl
  refine sr_aload_n C 0 rfl rfl d_D_take_19_1_181 ?_
  refine sr_aload_n C 1 rfl rfl d_D_take_19_1_182 ?_
  refine sr_getI C sm_F0 14 q_61 sm_l1 rfl (by decide) d_D_take_19_1_183 ?_
  refine sr_putI C sm_F0 14 q_61 sm_l19 rfl rfl (by decide) rfl d_D_take_19_1_186 ?_
  replace h := h _ rfl
  refine sr_aload_n C 0 rfl rfl d_D_take_19_1_189 ?_
  refine sr_aload_n C 1 rfl rfl d_D_take_19_1_190 ?_
  refine sr_getI C sm_F0 15 q_417 sm_l1 rfl (by decide) d_D_take_19_1_191 ?_
  refine sr_putI C sm_F0 15 q_417 sm_l19 rfl rfl (by decide) rfl d_D_take_19_1_194 ?_
  replace h := h _ rfl
  refine sr_aload_n C 0 rfl rfl d_D_take_19_1_197 ?_
  refine sr_aload_n C 1 rfl rfl d_D_take_19_1_198 ?_
  refine sr_getI C sm_F0 16 q_418 sm_l1 rfl (by decide) d_D_take_19_1_199 ?_
  refine sr_putI C sm_F0 16 q_418 sm_l19 rfl rfl (by decide) rfl d_D_take_19_1_202 ?_
  replace h := h _ rfl
  refine sr_aload_n C 0 rfl rfl d_D_take_19_1_205 ?_
  refine sr_aload_n C 1 rfl rfl d_D_take_19_1_206 ?_
  refine sr_getI C sm_F0 17 q_244 sm_l1 rfl (by decide) d_D_take_19_1_207 ?_
  refine sr_putI C sm_F0 17 q_244 sm_l19 rfl rfl (by decide) rfl d_D_take_19_1_210 ?_
  replace h := h _ rfl
  exact hR _ _ _ d_D_take_19_1_213 h
theorem d_D_take_1_19_0 : decode prog_2_method_2_code 0 = .ok (.aload_n 1, 1) := by decide +kernel
theorem d_D_take_1_19_1 : decode prog_2_method_2_code 1 = .ok (.getfield 9, 3) := by decide +kernel
theorem d_D_take_1_19_4 : decode prog_2_method_2_code 4 = .ok (.iconst 0, 1) := by decide +kernel
theorem d_D_take_1_19_5 : decode prog_2_method_2_code 5 = .ok (.aload_n 0, 1) := by decide +kernel
theorem d_D_take_1_19_6 : decode prog_2_method_2_code 6 = .ok (.getfield 9, 3) := by decide +kernel
theorem d_D_take_1_19_9 : decode prog_2_method_2_code 9 = .ok (.iconst 0, 1) := by decide +kernel
theorem d_D_take_1_19_10 : decode prog_2_method_2_code 10 = .ok (.bipush 6, 2) := by decide +kernel
theorem d_D_take_1_19_12 : decode prog_2_method_2_code 12 = .ok (.invokestatic 54, 3) := by decide +kernel
theorem d_D_take_1_19_15 : decode prog_2_method_2_code 15 = .ok (.aload_n 1, 1) := by decide +kernel
theorem d_D_take_1_19_16 : decode prog_2_method_2_code 16 = .ok (.getfield 13, 3) := by decide +kernel
theorem d_D_take_1_19_19 : decode prog_2_method_2_code 19 = .ok (.iconst 0, 1) := by decide +kernel
theorem d_D_take_1_19_20 : decode prog_2_method_2_code 20 = .ok (.aload_n 0, 1) := by decide +kernel
theorem d_D_take_1_19_21 : decode prog_2_method_2_code 21 = .ok (.getfield 13, 3) := by decide +kernel
theorem d_D_take_1_19_24 : decode prog_2_method_2_code 24 = .ok (.iconst 0, 1) := by decide +kernel
theorem d_D_take_1_19_25 : decode prog_2_method_2_code 25 = .ok (.bipush 36, 2) := by decide +kernel
theorem d_D_take_1_19_27 : decode prog_2_method_2_code 27 = .ok (.invokestatic 54, 3) := by decide +kernel
theorem d_D_take_1_19_30 : decode prog_2_method_2_code 30 = .ok (.aload_n 1, 1) := by decide +kernel
theorem d_D_take_1_19_31 : decode prog_2_method_2_code 31 = .ok (.getfield 16, 3) := by decide +kernel
theorem d_D_take_1_19_34 : decode prog_2_method_2_code 34 = .ok (.iconst 0, 1) := by decide +kernel
theorem d_D_take_1_19_35 : decode prog_2_method_2_code 35 = .ok (.aload_n 0, 1) := by decide +kernel
theorem d_D_take_1_19_36 : decode prog_2_method_2_code 36 = .ok (.getfield 16, 3) := by decide +kernel
theorem d_D_take_1_19_39 : decode prog_2_method_2_code 39 = .ok (.iconst 0, 1) := by decide +kernel
theorem d_D_take_1_19_40 : decode prog_2_method_2_code 40 = .ok (.bipush 10, 2) := by decide +kernel
theorem d_D_take_1_19_42 : decode prog_2_method_2_code 42 = .ok (.invokestatic 54, 3) := by decide +kernel
theorem d_D_take_1_19_45 : decode prog_2_method_2_code 45 = .ok (.aload_n 1, 1) := by decide +kernel
theorem d_D_take_1_19_46 : decode prog_2_method_2_code 46 = .ok (.getfield 19, 3) := by decide +kernel
theorem d_D_take_1_19_49 : decode prog_2_method_2_code 49 = .ok (.iconst 0, 1) := by decide +kernel
theorem d_D_take_1_19_50 : decode prog_2_method_2_code 50 = .ok (.aload_n 0, 1) := by decide +kernel
theorem d_D_take_1_19_51 : decode prog_2_method_2_code 51 = .ok (.getfield 19, 3) := by decide +kernel
theorem d_D_take_1_19_54 : decode prog_2_method_2_code 54 = .ok (.iconst 0, 1) := by decide +kernel
theorem d_D_take_1_19_55 : decode prog_2_method_2_code 55 = .ok (.bipush 10, 2) := by decide +kernel
theorem d_D_take_1_19_57 : decode prog_2_method_2_code 57 = .ok (.invokestatic 54, 3) := by decide +kernel
theorem d_D_take_1_19_60 : decode prog_2_method_2_code 60 = .ok (.aload_n 1, 1) := by decide +kernel
theorem d_D_take_1_19_61 : decode prog_2_method_2_code 61 = .ok (.getfield 22, 3) := by decide +kernel
theorem d_D_take_1_19_64 : decode prog_2_method_2_code 64 = .ok (.iconst 0, 1) := by decide +kernel
theorem d_D_take_1_19_65 : decode prog_2_method_2_code 65 = .ok (.aload_n 0, 1) := by decide +kernel
theorem d_D_take_1_19_66 : decode prog_2_method_2_code 66 = .ok (.getfield 22, 3) := by decide +kernel
theorem d_D_take_1_19_69 : decode prog_2_method_2_code 69 = .ok (.iconst 0, 1) := by decide +kernel
theorem d_D_take_1_19_70 : decode prog_2_method_2_code 70 = .ok (.bipush 10, 2) := by decide +kernel
theorem d_D_take_1_19_72 : decode prog_2_method_2_code 72 = .ok (.invokestatic 54, 3) := by decide +kernel
theorem d_D_take_1_19_75 : decode prog_2_method_2_code 75 = .ok (.aload_n 1, 1) := by decide +kernel
theorem d_D_take_1_19_76 : decode prog_2_method_2_code 76 = .ok (.getfield 25, 3) := by decide +kernel
theorem d_D_take_1_19_79 : decode prog_2_method_2_code 79 = .ok (.iconst 0, 1) := by decide +kernel
theorem d_D_take_1_19_80 : decode prog_2_method_2_code 80 = .ok (.aload_n 0, 1) := by decide +kernel
theorem d_D_take_1_19_81 : decode prog_2_method_2_code 81 = .ok (.getfield 25, 3) := by decide +kernel
theorem d_D_take_1_19_84 : decode prog_2_method_2_code 84 = .ok (.iconst 0, 1) := by decide +kernel
theorem d_D_take_1_19_85 : decode prog_2_method_2_code 85 = .ok (.bipush 10, 2) := by decide +kernel
theorem d_D_take_1_19_87 : decode prog_2_method_2_code 87 = .ok (.invokestatic 54, 3) := by decide +kernel
theorem d_D_take_1_19_90 : decode prog_2_method_2_code 90 = .ok (.aload_n 1, 1) := by decide +kernel
theorem d_D_take_1_19_91 : decode prog_2_method_2_code 91 = .ok (.getfield 28, 3) := by decide +kernel
theorem d_D_take_1_19_94 : decode prog_2_method_2_code 94 = .ok (.iconst 0, 1) := by decide +kernel
theorem d_D_take_1_19_95 : decode prog_2_method_2_code 95 = .ok (.aload_n 0, 1) := by decide +kernel
theorem d_D_take_1_19_96 : decode prog_2_method_2_code 96 = .ok (.getfield 28, 3) := by decide +kernel
theorem d_D_take_1_19_99 : decode prog_2_method_2_code 99 = .ok (.iconst 0, 1) := by decide +kernel
theorem d_D_take_1_19_100 : decode prog_2_method_2_code 100 = .ok (.bipush 10, 2) := by decide +kernel
theorem d_D_take_1_19_102 : decode prog_2_method_2_code 102 = .ok (.invokestatic 54, 3) := by decide +kernel
theorem d_D_take_1_19_105 : decode prog_2_method_2_code 105 = .ok (.aload_n 1, 1) := by decide +kernel
theorem d_D_take_1_19_106 : decode prog_2_method_2_code 106 = .ok (.getfield 31, 3) := by decide +kernel
theorem d_D_take_1_19_109 : decode prog_2_method_2_code 109 = .ok (.iconst 0, 1) := by decide +kernel
theorem d_D_take_1_19_110 : decode prog_2_method_2_code 110 = .ok (.aload_n 0, 1) := by decide +kernel
theorem d_D_take_1_19_111 : decode prog_2_method_2_code 111 = .ok (.getfield 31, 3) := by decide +kernel
theorem d_D_take_1_19_114 : decode prog_2_method_2_code 114 = .ok (.iconst 0, 1) := by decide +kernel
theorem d_D_take_1_19_115 : decode prog_2_method_2_code 115 = .ok (.bipush 50, 2) := by decide +kernel
theorem d_D_take_1_19_117 : decode prog_2_method_2_code 117 = .ok (.invokestatic 54, 3) := by decide +kernel
theorem d_D_take_1_19_120 : decode prog_2_method_2_code 120 = .ok (.aload_n 1, 1) := by decide +kernel
theorem d_D_take_1_19_121 : decode prog_2_method_2_code 121 = .ok (.getfield 34, 3) := by decide +kernel
theorem d_D_take_1_19_124 : decode prog_2_method_2_code 124 = .ok (.iconst 0, 1) := by decide +kernel
theorem d_D_take_1_19_125 : decode prog_2_method_2_code 125 = .ok (.aload_n 0, 1) := by decide +kernel
theorem d_D_take_1_19_126 : decode prog_2_method_2_code 126 = .ok (.getfield 34, 3) := by decide +kernel
theorem d_D_take_1_19_129 : decode prog_2_method_2_code 129 = .ok (.iconst 0, 1) := by decide +kernel
theorem d_D_take_1_19_130 : decode prog_2_method_2_code 130 = .ok (.bipush 20, 2) := by decide +kernel
theorem d_D_take_1_19_132 : decode prog_2_method_2_code 132 = .ok (.invokestatic 54, 3) := by decide +kernel
theorem d_D_take_1_19_135 : decode prog_2_method_2_code 135 = .ok (.aload_n 0, 1) := by decide +kernel
theorem d_D_take_1_19_136 : decode prog_2_method_2_code 136 = .ok (.getfield 40, 3) := by decide +kernel
theorem d_D_take_1_19_139 : decode prog_2_method_2_code 139 = .ok (.aload_n 1, 1) := by decide +kernel
theorem d_D_take_1_19_140 : decode prog_2_method_2_code 140 = .ok (.getfield 40, 3) := by decide +kernel
theorem d_D_take_1_19_143 : decode prog_2_method_2_code 143 = .ok (.invokevirtual 60, 3) := by decide +kernel
theorem d_D_take_1_19_146 : decode prog_2_method_2_code 146 = .ok (.aload_n 0, 1) := by decide +kernel
theorem d_D_take_1_19_147 : decode prog_2_method_2_code 147 = .ok (.getfield 44, 3) := by decide +kernel
theorem d_D_take_1_19_150 : decode prog_2_method_2_code 150 = .ok (.aload_n 1, 1) := by decide +kernel
theorem d_D_take_1_19_151 : decode prog_2_method_2_code 151 = .ok (.getfield 44, 3) := by decide +kernel
theorem d_D_take_1_19_154 : decode prog_2_method_2_code 154 = .ok (.invokevirtual 60, 3) := by decide +kernel
theorem d_D_take_1_19_157 : decode prog_2_method_2_code 157 = .ok (.aload_n 0, 1) := by decide +kernel
theorem d_D_take_1_19_158 : decode prog_2_method_2_code 158 = .ok (.aload_n 1, 1) := by decide +kernel
theorem d_D_take_1_19_159 : decode prog_2_method_2_code 159 = .ok (.getfield 64, 3) := by decide +kernel
theorem d_D_take_1_19_162 : decode prog_2_method_2_code 162 = .ok (.putfield 64, 3) := by decide +kernel
theorem d_D_take_1_19_165 : decode prog_2_method_2_code 165 = .ok (.aload_n 0, 1) := by decide +kernel
theorem d_D_take_1_19_166 : decode prog_2_method_2_code 166 = .ok (.aload_n 1, 1) := by decide +kernel
theorem d_D_take_1_19_167 : decode prog_2_method_2_code 167 = .ok (.getfield 67, 3) := by decide +kernel
theorem d_D_take_1_19_170 : decode prog_2_method_2_code 170 = .ok (.putfield 67, 3) := by decide +kernel
theorem d_D_take_1_19_173 : decode prog_2_method_2_code 173 = .ok (.aload_n 0, 1) := by decide +kernel
theorem d_D_take_1_19_174 : decode prog_2_method_2_code 174 = .ok (.aload_n 1, 1) := by decide +kernel
theorem d_D_take_1_19_175 : decode prog_2_method_2_code 175 = .ok (.getfield 47, 3) := by decide +kernel
theorem d_D_take_1_19_178 : decode prog_2_method_2_code 178 = .ok (.putfield 47, 3) := by decide +kernel
theorem d_D_take_1_19_181 : decode prog_2_method_2_code 181 = .ok (.aload_n 0, 1) := by decide +kernel
theorem d_D_take_1_19_182 : decode prog_2_method_2_code 182 = .ok (.aload_n 1, 1) := by decide +kernel
theorem d_D_take_1_19_183 : decode prog_2_method_2_code 183 = .ok (.getfield 70, 3) := by decide +kernel
theorem d_D_take_1_19_186 : decode prog_2_method_2_code 186 = .ok (.putfield 70, 3) := by decide +kernel
theorem d_D_take_1_19_189 : decode prog_2_method_2_code 189 = .ok (.aload_n 0, 1) := by decide +kernel
theorem d_D_take_1_19_190 : decode prog_2_method_2_code 190 = .ok (.aload_n 1, 1) := by decide +kernel
theorem d_D_take_1_19_191 : decode prog_2_method_2_code 191 = .ok (.getfield 73, 3) := by decide +kernel
theorem d_D_take_1_19_194 : decode prog_2_method_2_code 194 = .ok (.putfield 73, 3) := by decide +kernel
theorem d_D_take_1_19_197 : decode prog_2_method_2_code 197 = .ok (.aload_n 0, 1) := by decide +kernel
theorem d_D_take_1_19_198 : decode prog_2_method_2_code 198 = .ok (.aload_n 1, 1) := by decide +kernel
theorem d_D_take_1_19_199 : decode prog_2_method_2_code 199 = .ok (.getfield 76, 3) := by decide +kernel
theorem d_D_take_1_19_202 : decode prog_2_method_2_code 202 = .ok (.putfield 76, 3) := by decide +kernel
theorem d_D_take_1_19_205 : decode prog_2_method_2_code 205 = .ok (.aload_n 0, 1) := by decide +kernel
theorem d_D_take_1_19_206 : decode prog_2_method_2_code 206 = .ok (.aload_n 1, 1) := by decide +kernel
theorem d_D_take_1_19_207 : decode prog_2_method_2_code 207 = .ok (.getfield 51, 3) := by decide +kernel
theorem d_D_take_1_19_210 : decode prog_2_method_2_code 210 = .ok (.putfield 51, 3) := by decide +kernel
theorem d_D_take_1_19_213 : decode prog_2_method_2_code 213 = .ok (.return_, 1) := by decide +kernel
def w_D_take_1_19 (K : sm_Mem → Prop) (μ : sm_Mem) : Prop := ∀ μ6 : sm_Mem, μ6 = sm_cpy μ 20 2 ((0 : Int32).toNatClampNeg) ((0 : Int32).toNatClampNeg) ((6 : Int32).toNatClampNeg) → ∀ μ12 : sm_Mem, μ12 = sm_cpy μ6 21 3 ((0 : Int32).toNatClampNeg) ((0 : Int32).toNatClampNeg) ((36 : Int32).toNatClampNeg) → ∀ μ18 : sm_Mem, μ18 = sm_cpy μ12 22 4 ((0 : Int32).toNatClampNeg) ((0 : Int32).toNatClampNeg) ((10 : Int32).toNatClampNeg) → ∀ μ24 : sm_Mem, μ24 = sm_cpy μ18 23 5 ((0 : Int32).toNatClampNeg) ((0 : Int32).toNatClampNeg) ((10 : Int32).toNatClampNeg) → ∀ μ30 : sm_Mem, μ30 = sm_cpy μ24 24 6 ((0 : Int32).toNatClampNeg) ((0 : Int32).toNatClampNeg) ((10 : Int32).toNatClampNeg) → ∀ μ36 : sm_Mem, μ36 = sm_cpy μ30 25 7 ((0 : Int32).toNatClampNeg) ((0 : Int32).toNatClampNeg) ((10 : Int32).toNatClampNeg) → ∀ μ42 : sm_Mem, μ42 = sm_cpy μ36 26 8 ((0 : Int32).toNatClampNeg) ((0 : Int32).toNatClampNeg) ((10 : Int32).toNatClampNeg) → ∀ μ48 : sm_Mem, μ48 = sm_cpy μ42 27 9 ((0 : Int32).toNatClampNeg) ((0 : Int32).toNatClampNeg) ((50 : Int32).toNatClampNeg) → ∀ μ54 : sm_Mem, μ54 = sm_cpy μ48 28 10 ((0 : Int32).toNatClampNeg) ((0 : Int32).toNatClampNeg) ((20 : Int32).toNatClampNeg) → w_T_take (fun μ55 => w_T_take (fun μ56 => ∀ μ57 : sm_Mem, μ57 = sm_st μ56 1 11 (μ56 19 11) → ∀ μ58 : sm_Mem, μ58 = sm_st μ57 1 12 (μ57 19 12) → ∀ μ59 : sm_Mem, μ59 = sm_st μ58 1 13 (μ58 19 13) → ∀ μ60 : sm_Mem, μ60 = sm_st μ59 1 14 (μ59 19 14) → ∀ μ61 : sm_Mem, μ61 = sm_st μ60 1 15 (μ60 19 15) → ∀ μ62 : sm_Mem, μ62 = sm_st μ61 1 16 (μ61 19 16) → ∀ μ63 : sm_Mem, μ63 = sm_st μ62 1 17 (μ62 19 17) → K μ63) 15 33 μ55) 11 29 μ54
set_option maxHeartbeats 4000000 in
set_option maxRecDepth 100000 in
theorem P_D_take_1_19 (l : Launch) {K : sm_Mem → Prop} {μ : sm_Mem} (h : w_D_take_1_19 K μ) : sm_MV l ⟨"SnowMoney$Duchy", "take", "(LSnowMoney$Duchy;)V"⟩ prog_2_method_2_code 2 { frames := 2, cells := 0, slots := 0, locals := 61 } [sm_R 1, sm_R 19] μ K := by
  refine sm_ofV (by decide +kernel) (fun _ => Nat.le_of_ble_eq_true rfl) ?_
  intro p e s m args below meth c A Q G C hR
  refine sr_aload_n C 1 rfl rfl d_D_take_1_19_0 ?_
  refine sr_getR C sm_F0 0 q_92 sm_l19 (r := 20) rfl (by decide) d_D_take_1_19_1 ?_
  refine sr_iconst C (v := 0) d_D_take_1_19_4 (by decide) ?_
  refine sr_aload_n C 0 rfl rfl d_D_take_1_19_5 ?_
  refine sr_getR C sm_F0 0 q_92 sm_l1 (r := 2) rfl (by decide) d_D_take_1_19_6 ?_
  refine sr_iconst C (v := 0) d_D_take_1_19_9 (by decide) ?_
  refine sr_bipush C (v := 6) d_D_take_1_19_10 (by decide) ?_
  refine sr_copy C sm_l20 sm_l2 (by decide) (by decide) (by decide) (by decide) (by decide) q_413 q_sysn q_syss q_sysi (Nat.le_of_ble_eq_true rfl) (Nat.le_of_ble_eq_true rfl) d_D_take_1_19_12 ?_
  replace h := h _ rfl
  refine sr_aload_n C 1 rfl rfl d_D_take_1_19_15 ?_
  refine sr_getR C sm_F0 1 q_34 sm_l19 (r := 21) rfl (by decide) d_D_take_1_19_16 ?_
  refine sr_iconst C (v := 0) d_D_take_1_19_19 (by decide) ?_
  refine sr_aload_n C 0 rfl rfl d_D_take_1_19_20 ?_
  refine sr_getR C sm_F0 1 q_34 sm_l1 (r := 3) rfl (by decide) d_D_take_1_19_21 ?_
  refine sr_iconst C (v := 0) d_D_take_1_19_24 (by decide) ?_
  refine sr_bipush C (v := 36) d_D_take_1_19_25 (by decide) ?_
  refine sr_copy C sm_l21 sm_l3 (by decide) (by decide) (by decide) (by decide) (by decide) q_413 q_sysn q_syss q_sysi (Nat.le_of_ble_eq_true rfl) (Nat.le_of_ble_eq_true rfl) d_D_take_1_19_27 ?_
  replace h := h _ rfl
  refine sr_aload_n C 1 rfl rfl d_D_take_1_19_30 ?_
  refine sr_getR C sm_F0 2 q_54 sm_l19 (r := 22) rfl (by decide) d_D_take_1_19_31 ?_
  refine sr_iconst C (v := 0) d_D_take_1_19_34 (by decide) ?_
  refine sr_aload_n C 0 rfl rfl d_D_take_1_19_35 ?_
  refine sr_getR C sm_F0 2 q_54 sm_l1 (r := 4) rfl (by decide) d_D_take_1_19_36 ?_
  refine sr_iconst C (v := 0) d_D_take_1_19_39 (by decide) ?_
  refine sr_bipush C (v := 10) d_D_take_1_19_40 (by decide) ?_
  refine sr_copy C sm_l22 sm_l4 (by decide) (by decide) (by decide) (by decide) (by decide) q_413 q_sysn q_syss q_sysi (Nat.le_of_ble_eq_true rfl) (Nat.le_of_ble_eq_true rfl) d_D_take_1_19_42 ?_
  replace h := h _ rfl
  refine sr_aload_n C 1 rfl rfl d_D_take_1_19_45 ?_
  refine sr_getR C sm_F0 3 q_55 sm_l19 (r := 23) rfl (by decide) d_D_take_1_19_46 ?_
  refine sr_iconst C (v := 0) d_D_take_1_19_49 (by decide) ?_
  refine sr_aload_n C 0 rfl rfl d_D_take_1_19_50 ?_
  refine sr_getR C sm_F0 3 q_55 sm_l1 (r := 5) rfl (by decide) d_D_take_1_19_51 ?_
  refine sr_iconst C (v := 0) d_D_take_1_19_54 (by decide) ?_
  refine sr_bipush C (v := 10) d_D_take_1_19_55 (by decide) ?_
  refine sr_copy C sm_l23 sm_l5 (by decide) (by decide) (by decide) (by decide) (by decide) q_413 q_sysn q_syss q_sysi (Nat.le_of_ble_eq_true rfl) (Nat.le_of_ble_eq_true rfl) d_D_take_1_19_57 ?_
  replace h := h _ rfl
  refine sr_aload_n C 1 rfl rfl d_D_take_1_19_60 ?_
  refine sr_getR C sm_F0 4 q_209 sm_l19 (r := 24) rfl (by decide) d_D_take_1_19_61 ?_
  refine sr_iconst C (v := 0) d_D_take_1_19_64 (by decide) ?_
  refine sr_aload_n C 0 rfl rfl d_D_take_1_19_65 ?_
  refine sr_getR C sm_F0 4 q_209 sm_l1 (r := 6) rfl (by decide) d_D_take_1_19_66 ?_
  refine sr_iconst C (v := 0) d_D_take_1_19_69 (by decide) ?_
  refine sr_bipush C (v := 10) d_D_take_1_19_70 (by decide) ?_
  refine sr_copy C sm_l24 sm_l6 (by decide) (by decide) (by decide) (by decide) (by decide) q_413 q_sysn q_syss q_sysi (Nat.le_of_ble_eq_true rfl) (Nat.le_of_ble_eq_true rfl) d_D_take_1_19_72 ?_
  replace h := h _ rfl
  refine sr_aload_n C 1 rfl rfl d_D_take_1_19_75 ?_
  refine sr_getR C sm_F0 5 q_24 sm_l19 (r := 25) rfl (by decide) d_D_take_1_19_76 ?_
  refine sr_iconst C (v := 0) d_D_take_1_19_79 (by decide) ?_
  refine sr_aload_n C 0 rfl rfl d_D_take_1_19_80 ?_
  refine sr_getR C sm_F0 5 q_24 sm_l1 (r := 7) rfl (by decide) d_D_take_1_19_81 ?_
  refine sr_iconst C (v := 0) d_D_take_1_19_84 (by decide) ?_
  refine sr_bipush C (v := 10) d_D_take_1_19_85 (by decide) ?_
  refine sr_copy C sm_l25 sm_l7 (by decide) (by decide) (by decide) (by decide) (by decide) q_413 q_sysn q_syss q_sysi (Nat.le_of_ble_eq_true rfl) (Nat.le_of_ble_eq_true rfl) d_D_take_1_19_87 ?_
  replace h := h _ rfl
  refine sr_aload_n C 1 rfl rfl d_D_take_1_19_90 ?_
  refine sr_getR C sm_F0 6 q_103 sm_l19 (r := 26) rfl (by decide) d_D_take_1_19_91 ?_
  refine sr_iconst C (v := 0) d_D_take_1_19_94 (by decide) ?_
  refine sr_aload_n C 0 rfl rfl d_D_take_1_19_95 ?_
  refine sr_getR C sm_F0 6 q_103 sm_l1 (r := 8) rfl (by decide) d_D_take_1_19_96 ?_
  refine sr_iconst C (v := 0) d_D_take_1_19_99 (by decide) ?_
  refine sr_bipush C (v := 10) d_D_take_1_19_100 (by decide) ?_
  refine sr_copy C sm_l26 sm_l8 (by decide) (by decide) (by decide) (by decide) (by decide) q_413 q_sysn q_syss q_sysi (Nat.le_of_ble_eq_true rfl) (Nat.le_of_ble_eq_true rfl) d_D_take_1_19_102 ?_
  replace h := h _ rfl
  refine sr_aload_n C 1 rfl rfl d_D_take_1_19_105 ?_
  refine sr_getR C sm_F0 7 q_414 sm_l19 (r := 27) rfl (by decide) d_D_take_1_19_106 ?_
  refine sr_iconst C (v := 0) d_D_take_1_19_109 (by decide) ?_
  refine sr_aload_n C 0 rfl rfl d_D_take_1_19_110 ?_
  refine sr_getR C sm_F0 7 q_414 sm_l1 (r := 9) rfl (by decide) d_D_take_1_19_111 ?_
  refine sr_iconst C (v := 0) d_D_take_1_19_114 (by decide) ?_
  refine sr_bipush C (v := 50) d_D_take_1_19_115 (by decide) ?_
  refine sr_copy C sm_l27 sm_l9 (by decide) (by decide) (by decide) (by decide) (by decide) q_413 q_sysn q_syss q_sysi (Nat.le_of_ble_eq_true rfl) (Nat.le_of_ble_eq_true rfl) d_D_take_1_19_117 ?_
  replace h := h _ rfl
  refine sr_aload_n C 1 rfl rfl d_D_take_1_19_120 ?_
  refine sr_getR C sm_F0 8 q_415 sm_l19 (r := 28) rfl (by decide) d_D_take_1_19_121 ?_
  refine sr_iconst C (v := 0) d_D_take_1_19_124 (by decide) ?_
  refine sr_aload_n C 0 rfl rfl d_D_take_1_19_125 ?_
  refine sr_getR C sm_F0 8 q_415 sm_l1 (r := 10) rfl (by decide) d_D_take_1_19_126 ?_
  refine sr_iconst C (v := 0) d_D_take_1_19_129 (by decide) ?_
  refine sr_bipush C (v := 20) d_D_take_1_19_130 (by decide) ?_
  refine sr_copy C sm_l28 sm_l10 (by decide) (by decide) (by decide) (by decide) (by decide) q_413 q_sysn q_syss q_sysi (Nat.le_of_ble_eq_true rfl) (Nat.le_of_ble_eq_true rfl) d_D_take_1_19_132 ?_
  replace h := h _ rfl
  refine sr_aload_n C 0 rfl rfl d_D_take_1_19_135 ?_
  refine sr_getR C sm_F0 9 q_70 sm_l1 (r := 11) rfl (by decide) d_D_take_1_19_136 ?_
  refine sr_aload_n C 1 rfl rfl d_D_take_1_19_139 ?_
  refine sr_getR C sm_F0 9 q_70 sm_l19 (r := 29) rfl (by decide) d_D_take_1_19_140 ?_
  refine sr_callVV C [sm_R _] (P_T_take l h) ok_93 sm_l11 rfl rfl rfl rfl ⟨Nat.le_of_ble_eq_true rfl, Nat.le_of_ble_eq_true rfl⟩ (Nat.le_of_ble_eq_true rfl) ⟨Nat.zero_le _, Nat.zero_le _⟩ d_D_take_1_19_143 (fun μ55 h => ?_)
  refine sr_aload_n C 0 rfl rfl d_D_take_1_19_146 ?_
  refine sr_getR C sm_F0 10 q_108 sm_l1 (r := 15) rfl (by decide) d_D_take_1_19_147 ?_
  refine sr_aload_n C 1 rfl rfl d_D_take_1_19_150 ?_
  refine sr_getR C sm_F0 10 q_108 sm_l19 (r := 33) rfl (by decide) d_D_take_1_19_151 ?_
  refine sr_callVV C [sm_R _] (P_T_take l h) ok_93 sm_l15 rfl rfl rfl rfl ⟨Nat.le_of_ble_eq_true rfl, Nat.le_of_ble_eq_true rfl⟩ (Nat.le_of_ble_eq_true rfl) ⟨Nat.zero_le _, Nat.zero_le _⟩ d_D_take_1_19_154 (fun μ56 h => ?_)
  refine sr_aload_n C 0 rfl rfl d_D_take_1_19_157 ?_
  refine sr_aload_n C 1 rfl rfl d_D_take_1_19_158 ?_
  refine sr_getI C sm_F0 11 q_18 sm_l19 rfl (by decide) d_D_take_1_19_159 ?_
  refine sr_putI C sm_F0 11 q_18 sm_l1 rfl rfl (by decide) rfl d_D_take_1_19_162 ?_
  replace h := h _ rfl
  refine sr_aload_n C 0 rfl rfl d_D_take_1_19_165 ?_
  refine sr_aload_n C 1 rfl rfl d_D_take_1_19_166 ?_
  refine sr_getI C sm_F0 12 q_23 sm_l19 rfl (by decide) d_D_take_1_19_167 ?_
  refine sr_putI C sm_F0 12 q_23 sm_l1 rfl rfl (by decide) rfl d_D_take_1_19_170 ?_
  replace h := h _ rfl
  refine sr_aload_n C 0 rfl rfl d_D_take_1_19_173 ?_
  refine sr_aload_n C 1 rfl rfl d_D_take_1_19_174 ?_
  refine sr_getI C sm_F0 13 q_60 sm_l19 rfl (by decide) d_D_take_1_19_175 ?_
  refine sr_putI C sm_F0 13 q_60 sm_l1 rfl rfl (by decide) rfl d_D_take_1_19_178 ?_
  replace h := h _ rfl
  refine sr_aload_n C 0 rfl rfl d_D_take_1_19_181 ?_
  refine sr_aload_n C 1 rfl rfl d_D_take_1_19_182 ?_
  refine sr_getI C sm_F0 14 q_61 sm_l19 rfl (by decide) d_D_take_1_19_183 ?_
  refine sr_putI C sm_F0 14 q_61 sm_l1 rfl rfl (by decide) rfl d_D_take_1_19_186 ?_
  replace h := h _ rfl
  refine sr_aload_n C 0 rfl rfl d_D_take_1_19_189 ?_
  refine sr_aload_n C 1 rfl rfl d_D_take_1_19_190 ?_
  refine sr_getI C sm_F0 15 q_417 sm_l19 rfl (by decide) d_D_take_1_19_191 ?_
  refine sr_putI C sm_F0 15 q_417 sm_l1 rfl rfl (by decide) rfl d_D_take_1_19_194 ?_
  replace h := h _ rfl
  refine sr_aload_n C 0 rfl rfl d_D_take_1_19_197 ?_
  refine sr_aload_n C 1 rfl rfl d_D_take_1_19_198 ?_
  refine sr_getI C sm_F0 16 q_418 sm_l19 rfl (by decide) d_D_take_1_19_199 ?_
  refine sr_putI C sm_F0 16 q_418 sm_l1 rfl rfl (by decide) rfl d_D_take_1_19_202 ?_
  replace h := h _ rfl
  refine sr_aload_n C 0 rfl rfl d_D_take_1_19_205 ?_
  refine sr_aload_n C 1 rfl rfl d_D_take_1_19_206 ?_
  refine sr_getI C sm_F0 17 q_244 sm_l19 rfl (by decide) d_D_take_1_19_207 ?_
  refine sr_putI C sm_F0 17 q_244 sm_l1 rfl rfl (by decide) rfl d_D_take_1_19_210 ?_
  replace h := h _ rfl
  exact hR _ _ _ d_D_take_1_19_213 h
theorem d_D_gone_0 : decode prog_2_method_15_code 0 = .ok (.iconst 0, 1) := by decide +kernel
theorem d_D_gone_1 : decode prog_2_method_15_code 1 = .ok (.istore_n 1, 1) := by decide +kernel
theorem d_D_gone_2 : decode prog_2_method_15_code 2 = .ok (.iconst 0, 1) := by decide +kernel
theorem d_D_gone_3 : decode prog_2_method_15_code 3 = .ok (.istore_n 2, 1) := by decide +kernel
theorem d_D_gone_4 : decode prog_2_method_15_code 4 = .ok (.iload_n 2, 1) := by decide +kernel
theorem d_D_gone_5 : decode prog_2_method_15_code 5 = .ok (.aload_n 0, 1) := by decide +kernel
theorem d_D_gone_6 : decode prog_2_method_15_code 6 = .ok (.getfield 67, 3) := by decide +kernel
theorem d_D_gone_9 : decode prog_2_method_15_code 9 = .ok (.if_icmp .ge 21, 3) := by decide +kernel
theorem d_D_gone_12 : decode prog_2_method_15_code 12 = .ok (.aload_n 0, 1) := by decide +kernel
theorem d_D_gone_13 : decode prog_2_method_15_code 13 = .ok (.getfield 22, 3) := by decide +kernel
theorem d_D_gone_16 : decode prog_2_method_15_code 16 = .ok (.iload_n 2, 1) := by decide +kernel
theorem d_D_gone_17 : decode prog_2_method_15_code 17 = .ok (.iaload, 1) := by decide +kernel
theorem d_D_gone_18 : decode prog_2_method_15_code 18 = .ok (.ifCond .ne 6, 3) := by decide +kernel
theorem d_D_gone_21 : decode prog_2_method_15_code 21 = .ok (.iinc 1 1, 3) := by decide +kernel
theorem d_D_gone_24 : decode prog_2_method_15_code 24 = .ok (.iinc 2 1, 3) := by decide +kernel
theorem d_D_gone_27 : decode prog_2_method_15_code 27 = .ok (.goto (-23), 3) := by decide +kernel
theorem d_D_gone_30 : decode prog_2_method_15_code 30 = .ok (.iload_n 1, 1) := by decide +kernel
theorem d_D_gone_31 : decode prog_2_method_15_code 31 = .ok (.ireturn, 1) := by decide +kernel
def w_D_gone_24 (K : Int32 → sm_Mem → Prop) (J4 : Int32 → Int32 → sm_Mem → Prop) (x1 : Int32) (x2 : Int32) (μ : sm_Mem) : Prop := J4 x1 (x2 + 1) μ
def w_D_gone_4 (K : Int32 → sm_Mem → Prop) (x1 : Int32) (x2 : Int32) (μ : sm_Mem) : Prop := sm_lp2 (fun J4 x1 x2 μ => if (μ 1 12) ≤ x2 then K x1 μ else (vp_in x2 10 ∧ if (μ 6 x2.toNatClampNeg) = 0 then w_D_gone_24 K J4 (x1 + 1) x2 μ else w_D_gone_24 K J4 x1 x2 μ)) x1 x2 μ
def w_D_gone (K : Int32 → sm_Mem → Prop) (μ : sm_Mem) : Prop := w_D_gone_4 K 0 0 μ
set_option maxHeartbeats 4000000 in
set_option maxRecDepth 100000 in
theorem P_D_gone (l : Launch) {K : Int32 → sm_Mem → Prop} {μ : sm_Mem} (h : w_D_gone K μ) : sm_MI l ⟨"SnowMoney$Duchy", "gone", "()I"⟩ prog_2_method_15_code 3 (some .int) { frames := 0, cells := 0, slots := 0, locals := 0 } [sm_R 1] μ K := by
  refine sm_ofI (by decide +kernel) (fun _ => Nat.le_of_ble_eq_true rfl) ?_
  intro p e s m args below meth c A Q G C hR
  have B24 : ∀ (x1 : Int32) (x2 : Int32) (J4 : Int32 → Int32 → sm_Mem → Prop) (hJ4 : ∀ (x1 : Int32) (x2 : Int32) (μ : sm_Mem), J4 x1 x2 μ → sm_W p l e { frames := 0, cells := 0, slots := 0, locals := 0 } s m args below meth c A Q G 3 0 0 4 [] [(0, sm_R 1), (1, sm_I x1), (2, sm_I x2)] μ) (μ : sm_Mem), w_D_gone_24 K J4 x1 x2 μ → sm_W p l e { frames := 0, cells := 0, slots := 0, locals := 0 } s m args below meth c A Q G 3 0 0 24 [] [(0, sm_R 1), (1, sm_I x1), (2, sm_I x2)] μ := by
    intro x1 x2 J4 hJ4 μ h
    refine sr_iinc C 2 rfl (by decide) d_D_gone_24 rfl ?_
    refine sr_goto C (tgt := 4) (by decide) d_D_gone_27 ?_
    refine sr_mask C [1, 2, 0] rfl ?_
    exact hJ4 _ _ _ h
  have B4 : ∀ (x1 : Int32) (x2 : Int32) (μ : sm_Mem), w_D_gone_4 K x1 x2 μ → sm_W p l e { frames := 0, cells := 0, slots := 0, locals := 0 } s m args below meth c A Q G 3 0 0 4 [] [(0, sm_R 1), (1, sm_I x1), (2, sm_I x2)] μ := by
    intro x1 x2 μ h
    refine sm_lp2_sound (P := fun x1 x2 μ => sm_W p l e { frames := 0, cells := 0, slots := 0, locals := 0 } s m args below meth c A Q G 3 0 0 4 [] [(0, sm_R 1), (1, sm_I x1), (2, sm_I x2)] μ) (fun J4 x1 x2 μ hJ4 h => ?_) h
    refine sr_iload_n C 2 rfl rfl d_D_gone_4 ?_
    refine sr_aload_n C 0 rfl rfl d_D_gone_5 ?_
    refine sr_getI C sm_F0 12 q_23 sm_l1 rfl (by decide) d_D_gone_6 ?_
    refine sr_icmp_ge C (tgt := 30) d_D_gone_9 (by decide) (fun c1 => ?_) (fun c1 => ?_)
    · replace h := Eq.mp (if_pos c1) h
      refine sr_iload_n C 1 rfl rfl d_D_gone_30 ?_
      exact hR _ _ _ _ d_D_gone_31 rfl h
    · replace h := Eq.mp (if_neg c1) h
      refine sr_aload_n C 0 rfl rfl d_D_gone_12 ?_
      refine sr_getR C sm_F0 4 q_209 sm_l1 (r := 6) rfl (by decide) d_D_gone_13 ?_
      refine sr_iload_n C 2 rfl rfl d_D_gone_16 ?_
      obtain ⟨g2, h⟩ := h
      refine sr_iald C sm_l6 g2 d_D_gone_17 ?_
      refine sr_if_ne C (tgt := 24) d_D_gone_18 (by decide) (fun c3 => ?_) (fun c3 => ?_)
      · replace h := Eq.mp (if_neg c3) h
        exact B24 _ _ _ hJ4 _ h
      · replace h := Eq.mp (if_pos c3) h
        refine sr_iinc C 1 rfl (by decide) d_D_gone_21 rfl ?_
        refine sr_mask C [1, 0, 2] rfl ?_
        exact B24 _ _ _ hJ4 _ h
  refine sr_iconst C (v := 0) d_D_gone_0 (by decide) ?_
  refine sr_istore_n C rfl (by decide) d_D_gone_1 ?_
  refine sr_iconst C (v := 0) d_D_gone_2 (by decide) ?_
  refine sr_istore_n C rfl (by decide) d_D_gone_3 ?_
  refine sr_mask C [2, 1, 0] rfl ?_
  exact B4 _ _ _ h

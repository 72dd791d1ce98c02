theorem and63 (x : Int32) : ∃ a : Nat, a ≤ 63 ∧ x &&& 63 = nI a := by
  refine ⟨(x &&& 63).toUInt32.toNat, ?_, ?_⟩
  · have e : (x &&& 63).toUInt32.toNat = x.toUInt32.toNat &&& 63 := by
      have : (x &&& 63).toUInt32 = x.toUInt32 &&& 63 := rfl
      rw [this, UInt32.toNat_and]
      rfl
    rw [e]
    exact Nat.and_le_right
  · apply Int32.toBitVec_inj.mp
    show (x &&& 63).toBitVec = (Int32.ofNat (x &&& 63).toUInt32.toNat).toBitVec
    simp
set_option maxHeartbeats 4000000 in
set_option maxRecDepth 100000 in
/-- THE LAW'S LOOP -/
theorem law_loop {p : Program} {l : Launch} {e : Env} {s : State} {m : MethodId} {below : List Frame} {meth : Method} {c : Code} {G : sm_G} {b L kc ks : Nat} {xs : Nat → Int32} (hL : L ≤ 3072) (C0 : lw_At p s m meth c b L xs) (C : sm_C p s m #[Value.ref b] c code 4 "SnowMoneyLaw" (fun q : Nat => s.heap.size ≤ q) G) (h130 : G.1 130 = b) (hf : kc ≤ 600000 ∧ ks ≤ 7302250) : ∀ (n i cnt : Nat) (μ : sm_Mem), i ≤ L → L + 1 ≤ i + n → cnt ≤ i → RR cnt μ → sm_W p l e room_1 s m #[Value.ref b] below meth c (fun q : Nat => s.heap.size ≤ q) (lw_Z below #[Value.ref b] s) G 4 kc ks 18 [] (lwLo i) μ := by
  intro n
  induction n with
  | zero =>
    intro i cnt μ h1 h2
    exact absurd h2 (by omega)
  | succ n ih =>
    intro i cnt μ hi hin hcn hR
    obtain ⟨hx, hb, hr, hml, hown, hts, hX, hbl, hlocks, hgv⟩ := C0
    have hXX : va_X b L xs s s.heap ∧ b < s.heap.size ∧ ¬ (fun q : Nat => s.heap.size ≤ q) b ∧ G.1 130 = b := ⟨hX, hbl, Nat.not_le.mpr hbl, h130⟩
    refine sr_iload_n C 3 rfl rfl dL_18 ?_
    refine sr_aload_n C 0 rfl rfl dL_19 ?_
    refine sr_slen C hXX dL_20 ?_
    refine sr_bipush C (v := 6) dL_21 (by decide) ?_
    refine sr_isub C dL_23 ?_
    refine sr_icmp_gt C (tgt := 1571) dL_24 (by decide) (fun _ => ?_) (fun hng => ?_)
    · refine sr_iconst C (v := 1) dL_1571 (by decide) ?_
      intro H locs ls hP hD hS hLs
      refine va_forget (fun q hq => hS.2.2 q hq) ?_
      refine W.widen (k := 600000) (n := 7302250) hf.1 hf.2 ?_
      exact lw_ret hx hb hr hlocks dL_1572
    · have hi6 : i + 6 ≤ L := by
        have h1 := Int32.not_lt.mp hng
        have h2 := Int32.le_iff_toInt_le.mp h1
        have e6 : (nI L - 6).toInt = (L : Int) - 6 := by
          rw [Int32.toInt_sub, nI_toInt (by omega), show (6 : Int32).toInt = 6 from rfl]
          exact Int.bmod_eq_of_le (by omega) (by omega)
        rw [e6, nI_toInt (by omega)] at h2
        omega
      have kk : ∀ μ2 cnt2, cnt2 ≤ i + 6 → RR cnt2 μ2 → sm_W p l e room_1 s m #[Value.ref b] below meth c (fun q : Nat => s.heap.size ≤ q) (lw_Z below #[Value.ref b] s) G 4 kc ks 1565 [] (lwLo i) μ2 := fun μ2 cnt2 hc hR2 => by
        refine sr_iinc C 3 (v := nI (i + 6)) rfl (by decide) dL_1565 (nI_add i 6) ?_
        refine sr_goto C (tgt := 18) (by decide) dL_1568 ?_
        refine sr_mask C [1, 2, 3, 0] rfl ?_
        exact ih (i + 6) cnt2 μ2 hi6 (by omega) hc hR2
      refine sr_aload_n C 0 rfl rfl dL_27 ?_
      refine sr_iload_n C 3 rfl rfl dL_28 ?_
      refine sr_sld C hXX (j := nI i) ((vin_iff (by omega)).mpr (by omega)) dL_29 ?_
      refine sr_bipush C (v := 63) dL_30 (by decide) ?_
      refine sr_iand C dL_32 ?_
      obtain ⟨k, hk, ek⟩ := and63 (xs (nI i).toNatClampNeg)
      rw [ek]
      match k, hk with
      | 0, _ =>
        refine sr_tableIn C (tgt := 212) (off := 179) dL_33 (by decide) (by decide) (by decide) (by decide) ?_
        exact lc_place C hXX hL hi6 hcn hf hR (fun μ2 hR2 => kk μ2 _ (by omega) hR2)
      | 1, _ =>
        refine sr_tableIn C (tgt := 235) (off := 202) dL_33 (by decide) (by decide) (by decide) (by decide) ?_
        exact lc_warm C hXX hL hi6 hcn hf hR (fun μ2 hR2 => kk μ2 _ (by omega) hR2)
      | 2, _ =>
        refine sr_tableIn C (tgt := 268) (off := 235) dL_33 (by decide) (by decide) (by decide) (by decide) ?_
        exact lc_ofPlace C hXX hL hi6 hcn hf hR (fun μ2 hR2 => kk μ2 _ (by omega) hR2)
      | 3, _ =>
        refine sr_tableIn C (tgt := 301) (off := 268) dL_33 (by decide) (by decide) (by decide) (by decide) ?_
        exact lc_road C hXX hL hi6 hcn hf hR (fun μ2 hR2 => kk μ2 _ (by omega) hR2)
      | 4, _ =>
        refine sr_tableIn C (tgt := 344) (off := 311) dL_33 (by decide) (by decide) (by decide) (by decide) ?_
        exact lc_note C hXX hL hi6 hcn hf hR (fun μ2 hR2 => kk μ2 _ (by omega) hR2)
      | 5, _ =>
        refine sr_tableIn C (tgt := 397) (off := 364) dL_33 (by decide) (by decide) (by decide) (by decide) ?_
        exact lc_ofNote C hXX hL hi6 hcn hf hR (fun μ2 hR2 => kk μ2 _ (by omega) hR2)
      | 6, _ =>
        refine sr_tableIn C (tgt := 430) (off := 397) dL_33 (by decide) (by decide) (by decide) (by decide) ?_
        exact lc_change C hXX hL hi6 hcn hf hR (fun μ2 hR2 => kk μ2 _ (by omega) hR2)
      | 7, _ =>
        refine sr_tableIn C (tgt := 473) (off := 440) dL_33 (by decide) (by decide) (by decide) (by decide) ?_
        exact lc_become C hXX hL hi6 hcn hf hR (fun μ2 hR2 => kk μ2 _ (by omega) hR2)
      | 8, _ =>
        refine sr_tableIn C (tgt := 506) (off := 473) dL_33 (by decide) (by decide) (by decide) (by decide) ?_
        exact lc_as C hXX hL hi6 hcn hf hR (fun μ2 hR2 => kk μ2 _ (by omega) hR2)
      | 9, _ =>
        refine sr_tableIn C (tgt := 539) (off := 506) dL_33 (by decide) (by decide) (by decide) (by decide) ?_
        exact lc_weather C hXX hL hi6 hcn hf hR (fun μ2 hR2 => kk μ2 _ (by omega) hR2)
      | 10, _ =>
        refine sr_tableIn C (tgt := 562) (off := 529) dL_33 (by decide) (by decide) (by decide) (by decide) ?_
        exact lc_feed C hXX hL hi6 hcn hf hR (fun μ2 hR2 => kk μ2 _ (by omega) hR2)
      | 11, _ =>
        refine sr_tableIn C (tgt := 625) (off := 592) dL_33 (by decide) (by decide) (by decide) (by decide) ?_
        exact lc_text C hXX hL hi6 hcn hf hR (fun μ2 hR2 => kk μ2 _ (by omega) hR2)
      | 12, _ =>
        refine sr_tableIn C (tgt := 648) (off := 615) dL_33 (by decide) (by decide) (by decide) (by decide) ?_
        exact lc_law C hXX hL hi6 hcn hf hR (fun μ2 hR2 => kk μ2 _ (by omega) hR2)
      | 13, _ =>
        refine sr_tableIn C (tgt := 701) (off := 668) dL_33 (by decide) (by decide) (by decide) (by decide) ?_
        exact lc_hours C hXX hL hi6 hcn hf hR (fun μ2 hR2 => kk μ2 _ (by omega) hR2)
      | 14, _ =>
        refine sr_tableIn C (tgt := 724) (off := 691) dL_33 (by decide) (by decide) (by decide) (by decide) ?_
        exact lc_loose C hXX hL hi6 hcn hf hR (fun μ2 hR2 => kk μ2 _ (by omega) hR2)
      | 15, _ =>
        refine sr_tableIn C (tgt := 747) (off := 714) dL_33 (by decide) (by decide) (by decide) (by decide) ?_
        exact lc_carry C hXX hL hi6 hcn hf hR (fun μ2 hR2 => kk μ2 _ (by omega) hR2)
      | 16, _ =>
        refine sr_tableIn C (tgt := 780) (off := 747) dL_33 (by decide) (by decide) (by decide) (by decide) ?_
        exact lc_then C hXX hL hi6 hcn hf hR (fun μ2 hR2 => kk μ2 _ (by omega) hR2)
      | 17, _ =>
        refine sr_tableIn C (tgt := 823) (off := 790) dL_33 (by decide) (by decide) (by decide) (by decide) ?_
        exact lc_first C hXX hL hi6 hcn hf hR (fun μ2 hR2 => kk μ2 _ (by omega) hR2)
      | 18, _ =>
        refine sr_tableIn C (tgt := 846) (off := 813) dL_33 (by decide) (by decide) (by decide) (by decide) ?_
        exact lc_worth C hXX hL hi6 hcn hf hR (fun μ2 hR2 => kk μ2 _ (by omega) hR2)
      | 19, _ =>
        refine sr_tableIn C (tgt := 869) (off := 836) dL_33 (by decide) (by decide) (by decide) (by decide) ?_
        exact lc_keep C hXX hL hi6 hcn hf hR (fun μ2 hR2 => kk μ2 _ (by omega) hR2)
      | 20, _ =>
        refine sr_tableIn C (tgt := 912) (off := 879) dL_33 (by decide) (by decide) (by decide) (by decide) ?_
        exact lc_pay C hXX hL hi6 hcn hf hR (fun μ2 hR2 => kk μ2 _ (by omega) hR2)
      | 21, _ =>
        refine sr_tableIn C (tgt := 955) (off := 922) dL_33 (by decide) (by decide) (by decide) (by decide) ?_
        exact lc_lasts C hXX hL hi6 hcn hf hR (fun μ2 hR2 => kk μ2 _ (by omega) hR2)
      | 22, _ =>
        refine sr_tableIn C (tgt := 988) (off := 955) dL_33 (by decide) (by decide) (by decide) (by decide) ?_
        exact lc_way C hXX hL hi6 hcn hf hR (fun μ2 hR2 => kk μ2 _ (by omega) hR2)
      | 23, _ =>
        refine sr_tableIn C (tgt := 1031) (off := 998) dL_33 (by decide) (by decide) (by decide) (by decide) ?_
        exact lc_forgers C hXX hL hi6 hcn hf hR (fun μ2 hR2 => kk μ2 _ (by omega) hR2)
      | 24, _ =>
        refine sr_tableIn C (tgt := 1064) (off := 1031) dL_33 (by decide) (by decide) (by decide) (by decide) ?_
        exact lc_richest C hXX hL hi6 hcn hf hR (fun μ2 hR2 => kk μ2 _ (by omega) hR2)
      | 25, _ =>
        refine sr_tableIn C (tgt := 1097) (off := 1064) dL_33 (by decide) (by decide) (by decide) (by decide) ?_
        exact lc_warmer C hXX hL hi6 hcn hf hR (fun μ2 hR2 => kk μ2 _ (by omega) hR2)
      | 26, _ =>
        refine sr_tableIn C (tgt := 1130) (off := 1097) dL_33 (by decide) (by decide) (by decide) (by decide) ?_
        exact lc_odds C hXX hL hi6 hcn hf hR (fun μ2 hR2 => kk μ2 _ (by omega) hR2)
      | 27, _ =>
        refine sr_tableIn C (tgt := 1173) (off := 1140) dL_33 (by decide) (by decide) (by decide) (by decide) ?_
        exact lc_seed C hXX hL hi6 hcn hf hR (fun μ2 hR2 => kk μ2 _ (by omega) hR2)
      | 28, _ =>
        refine sr_tableIn C (tgt := 1196) (off := 1163) dL_33 (by decide) (by decide) (by decide) (by decide) ?_
        exact lc_voice C hXX hL hi6 hcn hf hR (fun μ2 hR2 => kk μ2 _ (by omega) hR2)
      | 29, _ =>
        refine sr_tableIn C (tgt := 1239) (off := 1206) dL_33 (by decide) (by decide) (by decide) (by decide) ?_
        exact lc_trace C hXX hL hi6 hcn hf hR (fun μ2 hR2 => kk μ2 _ (by omega) hR2)
      | 30, _ =>
        refine sr_tableIn C (tgt := 1262) (off := 1229) dL_33 (by decide) (by decide) (by decide) (by decide) ?_
        exact lc_sheet C hXX hL hi6 hcn hf hR (fun μ2 hR2 => kk μ2 _ (by omega) hR2)
      | 31, _ =>
        refine sr_tableIn C (tgt := 1305) (off := 1272) dL_33 (by decide) (by decide) (by decide) (by decide) ?_
        exact lc_put C hXX hL hi6 hcn hf hR (fun μ2 hR2 => kk μ2 _ (by omega) hR2)
      | 32, _ =>
        refine sr_tableIn C (tgt := 1348) (off := 1315) dL_33 (by decide) (by decide) (by decide) (by decide) ?_
        exact lc_move C hXX hL hi6 hcn hf hR (fun μ2 hR2 => kk μ2 _ (by omega) hR2)
      | 33, _ =>
        refine sr_tableIn C (tgt := 1411) (off := 1378) dL_33 (by decide) (by decide) (by decide) (by decide) ?_
        exact lc_snows C hXX hL hi6 hcn hf hR (fun μ2 hR2 => kk μ2 _ (by omega) hR2)
      | 34, _ =>
        refine sr_tableIn C (tgt := 1434) (off := 1401) dL_33 (by decide) (by decide) (by decide) (by decide) ?_
        exact lc_judge C hXX hL hi6 hcn hf hR (fun μ2 hR2 => kk μ2 _ (by omega) hR2)
      | 35, _ =>
        refine sr_tableIn C (tgt := 1457) (off := 1424) dL_33 (by decide) (by decide) (by decide) (by decide) ?_
        exact lc_image C hXX hL hi6 hcn hf hR (fun μ2 hR2 => kk μ2 _ (by omega) hR2)
      | 36, _ =>
        refine sr_tableIn C (tgt := 1470) (off := 1437) dL_33 (by decide) (by decide) (by decide) (by decide) ?_
        exact lc_restore C hXX hL hi6 hcn hf hR (fun μ2 hR2 => kk μ2 _ (by omega) hR2)
      | 37, _ =>
        refine sr_tableIn C (tgt := 1483) (off := 1450) dL_33 (by decide) (by decide) (by decide) (by decide) ?_
        exact lc_tell C hXX hL hi6 hcn hf hR (fun μ2 hR2 => kk μ2 _ (by omega) hR2)
      | 38, _ =>
        refine sr_tableIn C (tgt := 1506) (off := 1473) dL_33 (by decide) (by decide) (by decide) (by decide) ?_
        exact lc_check C hXX hL hi6 hcn hf hR (fun μ2 hR2 => kk μ2 _ (by omega) hR2)
      | 39, _ =>
        refine sr_tableIn C (tgt := 1519) (off := 1486) dL_33 (by decide) (by decide) (by decide) (by decide) ?_
        exact lc_count C hXX hL hi6 hcn hf hR (fun μ2 hR2 => kk μ2 _ (by omega) hR2)
      | 40, _ =>
        refine sr_tableIn C (tgt := 1542) (off := 1509) dL_33 (by decide) (by decide) (by decide) (by decide) ?_
        exact lc_told C hXX hL hi6 hcn hf hR (fun μ2 hR2 => kk μ2 _ (by omega) hR2)
      | k + 41, hk =>
        refine sr_tableOut C (tgt := 1565) dL_33 (Or.inr (by rw [nI_toInt (by omega)]; omega)) (by decide) ?_
        exact kk μ cnt (by omega) hR

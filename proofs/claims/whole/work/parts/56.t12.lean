/-! ===== methods alike: feed ===== -/
theorem byte_bits (x : BitVec 64) (s : Nat) (hs : s ≤ 56) (j : Nat) (hj : j < 32) : ((BitVec.signExtend 32 (x.sshiftRight s)).getLsbD j && (255#32).getLsbD j) = ((BitVec.signExtend 32 (x >>> s)).getLsbD j && (255#32).getLsbD j) := by
  by_cases h8 : j < 8
  · rw [BitVec.getLsbD_signExtend, BitVec.getLsbD_signExtend, BitVec.getLsbD_sshiftRight, BitVec.getLsbD_ushiftRight]
    have h1 : s + j < 64 := by omega
    have h2 : j < 64 := by omega
    have h3 : ¬ 64 ≤ j := by omega
    simp [h1, h2, h3]
  · have h : ∀ j, j < 32 → ¬ j < 8 → (255#32).getLsbD j = false := by decide
    rw [h j hj h8, Bool.and_false, Bool.and_false]
theorem by_eq0 (w : Int64) : (((w >>> ((8 * nI 0).toInt64 &&& 63)) &&& 255).toInt32) = (((w.toUInt64 >>> ((8 * nI 0).toInt64.toUInt64 &&& Int64.toUInt64 63)).toInt64).toInt32 &&& 255) := by
  have e1 : (8 * nI 0).toInt64 &&& 63 = 0 := by decide
  have e2 : (8 * nI 0).toInt64.toUInt64 &&& Int64.toUInt64 63 = 0 := by decide
  rw [e1, e2]
  apply Int32.toBitVec_inj.mp
  apply BitVec.eq_of_getLsbD_eq
  intro j hj
  have h := byte_bits w.toBitVec 0 (by omega) j hj
  simpa using h
theorem by_eq1 (w : Int64) : (((w >>> ((8 * nI 1).toInt64 &&& 63)) &&& 255).toInt32) = (((w.toUInt64 >>> ((8 * nI 1).toInt64.toUInt64 &&& Int64.toUInt64 63)).toInt64).toInt32 &&& 255) := by
  have e1 : (8 * nI 1).toInt64 &&& 63 = 8 := by decide
  have e2 : (8 * nI 1).toInt64.toUInt64 &&& Int64.toUInt64 63 = 8 := by decide
  rw [e1, e2]
  apply Int32.toBitVec_inj.mp
  apply BitVec.eq_of_getLsbD_eq
  intro j hj
  have h := byte_bits w.toBitVec 8 (by omega) j hj
  simpa using h
theorem by_eq2 (w : Int64) : (((w >>> ((8 * nI 2).toInt64 &&& 63)) &&& 255).toInt32) = (((w.toUInt64 >>> ((8 * nI 2).toInt64.toUInt64 &&& Int64.toUInt64 63)).toInt64).toInt32 &&& 255) := by
  have e1 : (8 * nI 2).toInt64 &&& 63 = 16 := by decide
  have e2 : (8 * nI 2).toInt64.toUInt64 &&& Int64.toUInt64 63 = 16 := by decide
  rw [e1, e2]
  apply Int32.toBitVec_inj.mp
  apply BitVec.eq_of_getLsbD_eq
  intro j hj
  have h := byte_bits w.toBitVec 16 (by omega) j hj
  simpa using h
theorem by_eq3 (w : Int64) : (((w >>> ((8 * nI 3).toInt64 &&& 63)) &&& 255).toInt32) = (((w.toUInt64 >>> ((8 * nI 3).toInt64.toUInt64 &&& Int64.toUInt64 63)).toInt64).toInt32 &&& 255) := by
  have e1 : (8 * nI 3).toInt64 &&& 63 = 24 := by decide
  have e2 : (8 * nI 3).toInt64.toUInt64 &&& Int64.toUInt64 63 = 24 := by decide
  rw [e1, e2]
  apply Int32.toBitVec_inj.mp
  apply BitVec.eq_of_getLsbD_eq
  intro j hj
  have h := byte_bits w.toBitVec 24 (by omega) j hj
  simpa using h
theorem by_eq4 (w : Int64) : (((w >>> ((8 * nI 4).toInt64 &&& 63)) &&& 255).toInt32) = (((w.toUInt64 >>> ((8 * nI 4).toInt64.toUInt64 &&& Int64.toUInt64 63)).toInt64).toInt32 &&& 255) := by
  have e1 : (8 * nI 4).toInt64 &&& 63 = 32 := by decide
  have e2 : (8 * nI 4).toInt64.toUInt64 &&& Int64.toUInt64 63 = 32 := by decide
  rw [e1, e2]
  apply Int32.toBitVec_inj.mp
  apply BitVec.eq_of_getLsbD_eq
  intro j hj
  have h := byte_bits w.toBitVec 32 (by omega) j hj
  simpa using h
theorem by_eq5 (w : Int64) : (((w >>> ((8 * nI 5).toInt64 &&& 63)) &&& 255).toInt32) = (((w.toUInt64 >>> ((8 * nI 5).toInt64.toUInt64 &&& Int64.toUInt64 63)).toInt64).toInt32 &&& 255) := by
  have e1 : (8 * nI 5).toInt64 &&& 63 = 40 := by decide
  have e2 : (8 * nI 5).toInt64.toUInt64 &&& Int64.toUInt64 63 = 40 := by decide
  rw [e1, e2]
  apply Int32.toBitVec_inj.mp
  apply BitVec.eq_of_getLsbD_eq
  intro j hj
  have h := byte_bits w.toBitVec 40 (by omega) j hj
  simpa using h
theorem by_eq6 (w : Int64) : (((w >>> ((8 * nI 6).toInt64 &&& 63)) &&& 255).toInt32) = (((w.toUInt64 >>> ((8 * nI 6).toInt64.toUInt64 &&& Int64.toUInt64 63)).toInt64).toInt32 &&& 255) := by
  have e1 : (8 * nI 6).toInt64 &&& 63 = 48 := by decide
  have e2 : (8 * nI 6).toInt64.toUInt64 &&& Int64.toUInt64 63 = 48 := by decide
  rw [e1, e2]
  apply Int32.toBitVec_inj.mp
  apply BitVec.eq_of_getLsbD_eq
  intro j hj
  have h := byte_bits w.toBitVec 48 (by omega) j hj
  simpa using h
theorem by_eq7 (w : Int64) : (((w >>> ((8 * nI 7).toInt64 &&& 63)) &&& 255).toInt32) = (((w.toUInt64 >>> ((8 * nI 7).toInt64.toUInt64 &&& Int64.toUInt64 63)).toInt64).toInt32 &&& 255) := by
  have e1 : (8 * nI 7).toInt64 &&& 63 = 56 := by decide
  have e2 : (8 * nI 7).toInt64.toUInt64 &&& Int64.toUInt64 63 = 56 := by decide
  rw [e1, e2]
  apply Int32.toBitVec_inj.mp
  apply BitVec.eq_of_getLsbD_eq
  intro j hj
  have h := byte_bits w.toBitVec 56 (by omega) j hj
  simpa using h
theorem by_eq (w : Int64) : ∀ i, i < 8 → (((w >>> ((8 * nI i).toInt64 &&& 63)) &&& 255).toInt32) = (((w.toUInt64 >>> ((8 * nI i).toInt64.toUInt64 &&& Int64.toUInt64 63)).toInt64).toInt32 &&& 255) := by
  intro i hi
  rcases (by omega : i = 0 ∨ i = 1 ∨ i = 2 ∨ i = 3 ∨ i = 4 ∨ i = 5 ∨ i = 6 ∨ i = 7) with rfl | rfl | rfl | rfl | rfl | rfl | rfl | rfl
  · exact by_eq0 w
  · exact by_eq1 w
  · exact by_eq2 w
  · exact by_eq3 w
  · exact by_eq4 w
  · exact by_eq5 w
  · exact by_eq6 w
  · exact by_eq7 w
def bytX (w : Int64) (i : Nat) : Int32 := (((w.toUInt64 >>> ((8 * nI i).toInt64.toUInt64 &&& Int64.toUInt64 63)).toInt64).toInt32 &&& 255)
theorem and255 (x : Int32) : ∃ a : Nat, a ≤ 255 ∧ x &&& 255 = nI a := by
  refine ⟨(x &&& 255).toBitVec.toNat, ?_, ?_⟩
  · rw [Int32.toBitVec_and, BitVec.toNat_and]
    exact Nat.and_le_right
  · apply Int32.toBitVec_inj.mp
    show (x &&& 255).toBitVec = (Int32.ofNat (x &&& 255).toBitVec.toNat).toBitVec
    simp
/-- the numbers of a duchy change, and nothing of the rest -/
theorem RR_gen {n : Nat} {μ μ2 : sm_Mem} {g2 : GH} (h : RR n μ) (hok : gOk g2) (hc : CA 1 g2 μ2) (hm : MA 62 g2 μ2) (hf : ∀ k, k ∈ rxCells → μ2 k = μ k) (h15 : μ2 61 15 = μ 61 15) (h4 : μ2 61 4 = μ 61 4) (h5 : μ2 61 5 = μ 61 5) (h24 : μ2 61 24 = μ 61 24) : RR (n + 1) μ2 := by
  obtain ⟨_, h, hr⟩ := h
  exact ⟨⟨g2, hok, hc, hm⟩, by rw [h15]; exact h, rx_fr (by omega) hr hf h4 h5 h24⟩
def gTape (g : GH) (T : Nat) (f : Nat → Nat) : GH := gMk g.1 (gP g) (gN g) (gY g) (gHo g) (gWa g) (gRo g) (gKd g) (gMs g) (gSn g) (gAt g) (gOw g) (T, f) g.2.2.2.2.2.2.1 (gZ g)
theorem CA_tape {g : GH} {μ μ2 : sm_Mem} {T : Nat} {f : Nat → Nat} (h : CA 1 g μ) (hf : fr [1, 9] μ μ2) (h1 : ∀ j, j ≠ 15 → μ2 1 j = μ 1 j) (h15 : μ2 1 15 = nI T) (hT : ∀ i, i < T → μ2 9 i = nI (f i)) : CA 1 (gTape g T f) μ2 := by
  obtain ⟨⟨b1, b2, b3, b4, b5, b6, b7⟩, a2, a3, a4, a5, a6, a7, a8⟩ := h
  have e2 : ∀ k, k ≠ 1 → k ≠ 9 → μ2 k = μ k := fun k k1 k2 => hf k (by simp; omega)
  refine ⟨⟨?_, ?_, ?_, ?_, ?_, ?_, ?_⟩, fun p hp => ?_, fun a b ha hb => ?_, fun i hi => ?_, fun i hi => ?_, fun i hi => ?_, TX_fr a7 (e2 _ (by decide) (by decide)) (e2 _ (by decide) (by decide)) (e2 _ (by decide) (by decide)), TX_fr a8 (e2 _ (by decide) (by decide)) (e2 _ (by decide) (by decide)) (e2 _ (by decide) (by decide))⟩
  · rw [h1 _ (by decide)]; exact b1
  · rw [h1 _ (by decide)]; exact b2
  · rw [h1 _ (by decide)]; exact b3
  · rw [h1 _ (by decide)]; exact b4
  · exact h15
  · rw [h1 _ (by decide)]; exact b6
  · rw [h1 _ (by decide)]; exact b7
  · rw [e2 _ (by decide) (by decide)]; exact a2 p hp
  · rw [e2 _ (by decide) (by decide)]; exact a3 a b ha hb
  · rw [e2 _ (by decide) (by decide), e2 _ (by decide) (by decide), e2 _ (by decide) (by decide), e2 _ (by decide) (by decide), e2 _ (by decide) (by decide)]; exact a4 i hi
  · exact hT i hi
  · rw [e2 _ (by decide) (by decide)]; exact a6 i hi
theorem MA_tape {g : GH} {μ μ2 : sm_Mem} {T : Nat} {f : Nat → Nat} (hP : gP g ≤ 6) (hN : gN g ≤ 10) (h : MA 62 g μ) (h1 : ∀ j, j ≠ 3 → (j < 101 ∨ 151 ≤ j) → μ2 62 j = μ 62 j) (h3 : μ2 62 3 = nI T) (hT : ∀ i, i < T → μ2 62 (101 + i) = nI (f i)) : MA 62 (gTape g T f) μ2 := by
  obtain ⟨⟨b1, b2, b3, b4, b5, b6, b7⟩, a2, a3, a4, a5, a6, a7, a8⟩ := h
  refine ⟨⟨?_, ?_, ?_, ?_, ?_, ?_, ?_⟩, fun p hp => ?_, fun a b ha hb => ?_, fun i hi => ?_, fun i hi => ?_, fun i hi => ?_, TM_wk (by omega) a7 (h1 _ (by omega) (by omega)) (fun j hj => h1 j (by omega) (by omega)), TM_wk (by omega) a8 (h1 _ (by omega) (by omega)) (fun j hj => h1 j (by omega) (by omega))⟩
  · rw [h1 _ (by decide) (by omega)]; exact b1
  · rw [h1 _ (by decide) (by omega)]; exact b2
  · rw [h1 _ (by decide) (by omega)]; exact b3
  · rw [h1 _ (by decide) (by omega)]; exact b4
  · exact h3
  · rw [h1 _ (by decide) (by omega)]; exact b6
  · rw [h1 _ (by decide) (by omega)]; exact b7
  · have hp : p < gP g := hp
    rw [h1 _ (by omega) (by omega)]; exact a2 p hp
  · have ha : a < gP g := ha
    have hb : b < gP g := hb
    rw [h1 _ (by omega) (by omega)]; exact a3 a b ha hb
  · have hi : i < gN g := hi
    rw [h1 _ (by omega) (by omega), h1 _ (by omega) (by omega), h1 _ (by omega) (by omega), h1 _ (by omega) (by omega), h1 _ (by omega) (by omega)]; exact a4 i hi
  · exact hT i hi
  · rw [h1 _ (by omega) (by omega)]; exact a6 i hi
theorem T_feed (n : Nat) (p0 : Int64) (p1 : Int32) : Same n (fun K => w_X_feed K p0 p1) (fun K => w_M_feed K p0 p1) := by
  intro μ hR
  obtain ⟨⟨g, g1, g2, g3⟩, h15, _⟩ := id hR
  have hT := g1.2.2.2.2.2.2.2.1
  show w_X_feed _ p0 p1 μ
  unfold w_X_feed
  refine X_in (fun q => ?_) (fun q => ?_)
  · rw [if_neg (by decide), g2.1.2.2.2.2.1]
    obtain ⟨m, hm, e⟩ := sm_ofle (n := 8) (by omega) (Int32.le_trans (by decide) q.1) q.2
    subst e
    rw [nI_add]
    by_cases z : gTn g + m ≤ 50
    · have z50 : nI (gTn g + m) ≤ 50 := nI_le_yes (b := 50) (by omega) (by omega) z
      rw [if_pos z50]
      unfold w_X_feed_39
      refine ⟨fun k x4 μ1 => ∃ i, k = m - i ∧ i ≤ m ∧ x4 = nI i ∧ fr [9] μ μ1 ∧ ∀ j, μ1 9 j = if gTn g ≤ j ∧ j < gTn g + i then bytX p0 (j - gTn g) else μ 9 j, ⟨m, 0, rfl, Nat.zero_le _, rfl, fr_rfl, fun j => by rw [if_neg (by omega)]⟩, ?_⟩
      rintro k x4 μ1 ⟨i, rfl, hi, rfl, hf, hr⟩
      dsimp only
      have t1 : μ1 1 15 = nI (gTn g) := by rw [hf 1 (by decide)]; exact g2.1.2.2.2.2.1
      by_cases him : i = m
      · subst him
        rw [if_pos (nI_le_yes (by omega) (by omega) (Nat.le_refl _)), t1, nI_add]
        intro μ6 e6
        have f6 : fr [1, 9] μ μ6 := by rw [e6]; exact fr_st (fr_mono hf (by simp)) (by simp)
        have r6 : μ6 1 15 = nI (gTn g + i) := by rw [e6, st_same, if_pos rfl]
        have r9 : ∀ j, μ6 9 j = if gTn g ≤ j ∧ j < gTn g + i then bytX p0 (j - gTn g) else μ 9 j := fun j => by rw [e6, st_ne _ _ _ _ _ (by decide)]; exact hr j
        rw [r6]
        have m6 : MA 62 g μ6 := MA_fr g3 (f6 62 (by decide))
        have hb : ∀ j, j < gTn g + i → (if gTn g ≤ j then ix (bytX p0 (j - gTn g)) else gTp g j) ≤ 255 ∧ nI (if gTn g ≤ j then ix (bytX p0 (j - gTn g)) else gTp g j) = (if gTn g ≤ j ∧ j < gTn g + i then bytX p0 (j - gTn g) else nI (gTp g j)) := by
          intro j hj
          by_cases y : gTn g ≤ j
          · obtain ⟨a, ha, e⟩ := and255 (((p0.toUInt64 >>> ((8 * nI (j - gTn g)).toInt64.toUInt64 &&& Int64.toUInt64 63)).toInt64).toInt32)
            have e : bytX p0 (j - gTn g) = nI a := e
            rw [if_pos y, if_pos ⟨y, hj⟩, e]
            have : ix (nI a) = a := ix_nI (by omega)
            rw [this]
            exact ⟨ha, rfl⟩
          · rw [if_neg y, if_neg (fun w => y w.1)]
            exact ⟨g1.2.2.2.2.2.2.2.2.1 j (by show j < gTn g; omega), rfl⟩
        have ok : gOk (gTape g (gTn g + i) (fun j => if gTn g ≤ j then ix (bytX p0 (j - gTn g)) else gTp g j)) := ⟨g1.1, g1.2.1, g1.2.2.1, g1.2.2.2.1, g1.2.2.2.2.1, g1.2.2.2.2.2.1, g1.2.2.2.2.2.2.1, z, fun j hj => (hb j hj).1, g1.2.2.2.2.2.2.2.2.2⟩
        have c6 : CA 1 (gTape g (gTn g + i) (fun j => if gTn g ≤ j then ix (bytX p0 (j - gTn g)) else gTp g j)) μ6 := by
          refine CA_tape g2 f6 (fun j hj => by rw [e6, st_same, if_neg hj, hf 1 (by decide)]) r6 (fun j hj => ?_)
          rw [r9, (hb j hj).2]
          by_cases y : gTn g ≤ j ∧ j < gTn g + i
          · rw [if_pos y, if_pos y]
          · rw [if_neg y, if_neg y]
            exact g2.2.2.2.2.1 j (by show j < gTn g; omega)
        show w_M_feed (fun r2 μ2 => nI (gTn g + i) = r2 ∧ RR (n + 1) μ2) p0 (nI i) μ6
        unfold w_M_feed
        refine M_in (fun _ => ?_) (fun y => absurd q y)
        rw [if_neg (by decide), m6.1.2.2.2.2.1, nI_add, if_pos z50]
        unfold w_M_feed_40
        refine ⟨fun k x4 μ7 => ∃ u, k = i - u ∧ u ≤ i ∧ x4 = nI u ∧ fr [62] μ6 μ7 ∧ μ7 62 3 = nI (gTn g + u) ∧ ∀ j, j ≠ 3 → μ7 62 j = if 101 + gTn g ≤ j ∧ j < 101 + gTn g + u then bytX p0 (j - (101 + gTn g)) else μ6 62 j, ⟨i, 0, rfl, Nat.zero_le _, rfl, fr_rfl, m6.1.2.2.2.2.1, fun j _ => by rw [if_neg (by omega)]⟩, ?_⟩
        rintro k x4 μ7 ⟨u, rfl, hu, rfl, hf7, h3, hr7⟩
        dsimp only
        by_cases hui : u = i
        · subst hui
          rw [if_pos (nI_le_yes (by omega) (by omega) (Nat.le_refl _)), h3]
          refine ⟨rfl, RR_upd hR ok (CA_fr c6 (fun k hk => hf7 k (by revert k; decide))) (MA_tape g1.1 g1.2.1 m6 (fun j j3 hj => by rw [hr7 j j3, if_neg (by omega)]) h3 (fun j hj => ?_)) (fr_trans (fr_mono f6 (by simp)) (fr_mono hf7 (by simp)))⟩
          rw [hr7 _ (by omega), (hb j hj).2]
          by_cases y : gTn g ≤ j
          · rw [if_pos (by omega), if_pos ⟨y, hj⟩, show 101 + j - (101 + gTn g) = j - gTn g by omega]
          · rw [if_neg (by omega), if_neg (by omega)]
            exact m6.2.2.2.2.1 j (by show j < gTn g; omega)
        · rw [if_neg (nI_le_no (by omega) (by omega) (by omega)), h3, show (101 : Int32) + nI (gTn g + u) = nI (101 + (gTn g + u)) from nI_add 101 _]
          refine ⟨(vin_iff (by omega)).mpr (by omega), ?_⟩
          intro μ8 e8 μ9 e9
          rw [ix_nI (by omega), by_eq p0 u (by omega)] at e8
          have h38 : μ8 62 3 = nI (gTn g + u) := by rw [e8, st_same, if_neg (by omega)]; exact h3
          rw [h38, ← nI_succ] at e9
          refine ⟨i - (u + 1), by omega, u + 1, rfl, by omega, (nI_succ u).symm, by rw [e9, e8]; exact fr_st (fr_st hf7 (by simp)) (by simp), by rw [e9, st_same, if_pos rfl]; rfl, fun j j3 => ?_⟩
          rw [e9, st_same, if_neg j3, e8, st_same, hr7 j j3]
          by_cases y : j = 101 + (gTn g + u)
          · rw [if_pos y, if_pos (by omega), y, show 101 + (gTn g + u) - (101 + gTn g) = u by omega]
            rfl
          · rw [if_neg y]
            by_cases y2 : 101 + gTn g ≤ j ∧ j < 101 + gTn g + u
            · rw [if_pos y2, if_pos (by omega)]
            · rw [if_neg y2, if_neg (by omega)]
      · rw [if_neg (nI_le_no (by omega) (by omega) (by omega)), t1, nI_add]
        refine ⟨(vin_iff (by omega)).mpr (by omega), ?_⟩
        intro μ8 e8
        rw [ix_nI (by omega)] at e8
        refine ⟨m - (i + 1), by omega, i + 1, rfl, by omega, (nI_succ i).symm, by rw [e8]; exact fr_st hf (by simp), fun j => ?_⟩
        rw [e8, st_same, hr]
        by_cases y : j = gTn g + i
        · rw [if_pos y, if_pos (by omega), y, show gTn g + i - gTn g = i by omega]
          rfl
        · rw [if_neg y]
          by_cases y2 : gTn g ≤ j ∧ j < gTn g + i
          · rw [if_pos y2, if_pos (by omega)]
          · rw [if_neg y2, if_neg (by omega)]
    · have z50 : ¬ nI (gTn g + m) ≤ 50 := nI_le_no (b := 50) (by omega) (by omega) (by omega)
      rw [if_neg z50]
      refine X_err4 ?_
      show w_M_feed (fun r2 μ2 => -1000000004 = r2 ∧ RR (n + 1) μ2) p0 (nI m) (sm_st μ 60 4 (μ 60 4 + 1))
      unfold w_M_feed
      refine M_in (fun _ => ?_) (fun y => absurd q y)
      rw [if_neg (by decide), st_ne _ _ _ _ 62 (by decide), g3.1.2.2.2.2.1, nI_add, if_neg z50]
      exact M_err4 ⟨rfl, RR_err hR rfl rfl⟩
  · rw [if_pos rfl]
    refine X_err1 ?_
    show w_M_feed (fun r2 μ2 => -1000000001 = r2 ∧ RR (n + 1) μ2) p0 p1 (sm_st μ 60 1 (μ 60 1 + 1))
    unfold w_M_feed
    refine M_in (fun z => absurd z q) (fun _ => ?_)
    rw [if_pos rfl]
    exact M_err1 ⟨rfl, RR_err hR rfl rfl⟩
/-! ===== methods alike: image, restore ===== -/
theorem t29 : isText 29 := ⟨sm_l29, sm_l30, sm_l31, sm_l32⟩
theorem t33 : isText 33 := ⟨sm_l33, sm_l34, sm_l35, sm_l36⟩
theorem x_Ttake {K : sm_Mem → Prop} {k o : Nat} {μ : sm_Mem} (hk : isText k) (ho : isText o) (hne : o + 4 ≤ k ∨ k + 4 ≤ o) (hK : ∀ μ2, fr [k, k + 1, k + 2] μ μ2 → (∀ j, j < 50 → μ2 (k + 1) j = μ (o + 1) j) → (∀ j, j < 50 → μ2 (k + 2) j = μ (o + 2) j) → μ2 k 3 = μ o 3 → K μ2) : w_T_take K k o μ := by
  unfold w_T_take
  refine ⟨hk, ho, ?_⟩
  have z0 : (0 : Int32).toNatClampNeg = 0 := rfl
  have z50 : (50 : Int32).toNatClampNeg = 50 := rfl
  rw [z0, z50]
  intro μ1 e1 μ2 e2 μ3 e3
  refine hK μ3 ?_ (fun j hj => ?_) (fun j hj => ?_) ?_
  · intro q hq
    have q1 : q ≠ k := fun e => hq (by simp [e])
    have q2 : q ≠ k + 1 := fun e => hq (by simp [e])
    have q3 : q ≠ k + 2 := fun e => hq (by simp [e])
    rw [e3, st_ne _ _ _ _ _ q1, e2, cpy_ne _ _ _ _ _ _ _ q3, e1, cpy_ne _ _ _ _ _ _ _ q2]
  · rw [e3, st_ne _ _ _ _ _ (by omega), e2, cpy_ne _ _ _ _ _ _ _ (by omega), e1, cpy_rd, if_pos (by omega), show 0 + (j - 0) = j by omega]
  · rw [e3, st_ne _ _ _ _ _ (by omega), e2, cpy_rd, if_pos (by omega), show 0 + (j - 0) = j by omega, e1, cpy_ne _ _ _ _ _ _ _ (by omega)]
  · rw [e3, st_same, if_pos rfl, e2, cpy_ne _ _ _ _ _ _ _ (by omega), e1, cpy_ne _ _ _ _ _ _ _ (by omega)]
theorem TX_cp {k o : Nat} {μ μ2 : sm_Mem} {t : Option pV} (h : TX o μ t) (h1 : ∀ j, j < 50 → μ2 (k + 1) j = μ (o + 1) j) (h2 : ∀ j, j < 50 → μ2 (k + 2) j = μ (o + 2) j) (h3 : μ2 k 3 = μ o 3) : TX k μ2 t := by
  cases t with
  | none => show μ2 k 3 = 0; rw [h3]; exact h
  | some v =>
    obtain ⟨n, a, b, c, e⟩ := h
    refine ⟨n, a, b, by rw [h3]; exact c, fun x y z => ?_⟩
    have ec : cdOf μ2 k n = cdOf μ o n := by
      unfold cdOf
      apply List.map_congr_left
      intro i hi
      have : i < n := List.mem_range.mp hi
      rw [h1 i (by omega), h2 i (by omega)]
    rw [ec]
    exact e x y z
theorem x_take_19_1 {K : sm_Mem → Prop} {g : GH} {μ : sm_Mem} (hg : gOk g) (hc : CA 1 g μ) (hK : ∀ μ2, (∀ k, (k < 19 ∨ 36 < k) → μ2 k = μ k) → CA 19 g μ2 → μ2 19 14 = nI (gHo g) → K μ2) : w_D_take_19_1 K μ := by
  unfold w_D_take_19_1
  have z0 : (0 : Int32).toNatClampNeg = 0 := rfl
  have z6 : (6 : Int32).toNatClampNeg = 6 := rfl
  have z36 : (36 : Int32).toNatClampNeg = 36 := rfl
  have z10 : (10 : Int32).toNatClampNeg = 10 := rfl
  have z50 : (50 : Int32).toNatClampNeg = 50 := rfl
  have z20 : (20 : Int32).toNatClampNeg = 20 := rfl
  rw [z0, z6, z36, z10, z50, z20]
  intro μ1 e1 μ2 e2 μ3 e3 μ4 e4 μ5 e5 μ6 e6 μ7 e7 μ8 e8 μ9 e9
  have s9 : ∀ k, (k < 20 ∨ 28 < k) → μ9 k = μ k := fun k hk => by
    rw [e9, cpy_ne _ _ _ _ _ _ _ (by omega), e8, cpy_ne _ _ _ _ _ _ _ (by omega), e7, cpy_ne _ _ _ _ _ _ _ (by omega), e6, cpy_ne _ _ _ _ _ _ _ (by omega), e5, cpy_ne _ _ _ _ _ _ _ (by omega), e4, cpy_ne _ _ _ _ _ _ _ (by omega), e3, cpy_ne _ _ _ _ _ _ _ (by omega), e2, cpy_ne _ _ _ _ _ _ _ (by omega), e1, cpy_ne _ _ _ _ _ _ _ (by omega)]
  refine x_Ttake t29 t11 (by omega) (fun μa fa a1 a2 a3 => ?_)
  refine x_Ttake t33 t15 (by omega) (fun μb fb b1 b2 b3 => ?_)
  intro μc1 ec1 μc2 ec2 μc3 ec3 μc4 ec4 μc5 ec5 μc6 ec6 μc7 ec7
  have sb : μb 1 = μ 1 := by rw [fb 1 (by decide), fa 1 (by decide), s9 1 (by omega)]
  have sc : ∀ k, k ≠ 19 → μc7 k = μb k := fun k hk => by rw [ec7, st_ne _ _ _ _ _ hk, ec6, st_ne _ _ _ _ _ hk, ec5, st_ne _ _ _ _ _ hk, ec4, st_ne _ _ _ _ _ hk, ec3, st_ne _ _ _ _ _ hk, ec2, st_ne _ _ _ _ _ hk, ec1, st_ne _ _ _ _ _ hk]
  have h0 : ∀ i, i < 6 → μc7 20 i = μ 2 i := fun i hi => by
    rw [sc _ (by decide), fb _ (by decide), fa _ (by decide), e9, cpy_ne _ _ _ _ _ _ _ (by decide), e8, cpy_ne _ _ _ _ _ _ _ (by decide), e7, cpy_ne _ _ _ _ _ _ _ (by decide), e6, cpy_ne _ _ _ _ _ _ _ (by decide), e5, cpy_ne _ _ _ _ _ _ _ (by decide), e4, cpy_ne _ _ _ _ _ _ _ (by decide), e3, cpy_ne _ _ _ _ _ _ _ (by decide), e2, cpy_ne _ _ _ _ _ _ _ (by decide), e1, cpy_rd, if_pos (by omega), show 0 + (i - 0) = i by omega]
  have h1 : ∀ i, i < 36 → μc7 21 i = μ 3 i := fun i hi => by
    rw [sc _ (by decide), fb _ (by decide), fa _ (by decide), e9, cpy_ne _ _ _ _ _ _ _ (by decide), e8, cpy_ne _ _ _ _ _ _ _ (by decide), e7, cpy_ne _ _ _ _ _ _ _ (by decide), e6, cpy_ne _ _ _ _ _ _ _ (by decide), e5, cpy_ne _ _ _ _ _ _ _ (by decide), e4, cpy_ne _ _ _ _ _ _ _ (by decide), e3, cpy_ne _ _ _ _ _ _ _ (by decide), e2, cpy_rd, if_pos (by omega), show 0 + (i - 0) = i by omega, e1, cpy_ne _ _ _ _ _ _ _ (by decide)]
  have h2 : ∀ i, i < 10 → μc7 22 i = μ 4 i := fun i hi => by
    rw [sc _ (by decide), fb _ (by decide), fa _ (by decide), e9, cpy_ne _ _ _ _ _ _ _ (by decide), e8, cpy_ne _ _ _ _ _ _ _ (by decide), e7, cpy_ne _ _ _ _ _ _ _ (by decide), e6, cpy_ne _ _ _ _ _ _ _ (by decide), e5, cpy_ne _ _ _ _ _ _ _ (by decide), e4, cpy_ne _ _ _ _ _ _ _ (by decide), e3, cpy_rd, if_pos (by omega), show 0 + (i - 0) = i by omega, e2, cpy_ne _ _ _ _ _ _ _ (by decide), e1, cpy_ne _ _ _ _ _ _ _ (by decide)]
  have h3 : ∀ i, i < 10 → μc7 23 i = μ 5 i := fun i hi => by
    rw [sc _ (by decide), fb _ (by decide), fa _ (by decide), e9, cpy_ne _ _ _ _ _ _ _ (by decide), e8, cpy_ne _ _ _ _ _ _ _ (by decide), e7, cpy_ne _ _ _ _ _ _ _ (by decide), e6, cpy_ne _ _ _ _ _ _ _ (by decide), e5, cpy_ne _ _ _ _ _ _ _ (by decide), e4, cpy_rd, if_pos (by omega), show 0 + (i - 0) = i by omega, e3, cpy_ne _ _ _ _ _ _ _ (by decide), e2, cpy_ne _ _ _ _ _ _ _ (by decide), e1, cpy_ne _ _ _ _ _ _ _ (by decide)]
  have h4 : ∀ i, i < 10 → μc7 24 i = μ 6 i := fun i hi => by
    rw [sc _ (by decide), fb _ (by decide), fa _ (by decide), e9, cpy_ne _ _ _ _ _ _ _ (by decide), e8, cpy_ne _ _ _ _ _ _ _ (by decide), e7, cpy_ne _ _ _ _ _ _ _ (by decide), e6, cpy_ne _ _ _ _ _ _ _ (by decide), e5, cpy_rd, if_pos (by omega), show 0 + (i - 0) = i by omega, e4, cpy_ne _ _ _ _ _ _ _ (by decide), e3, cpy_ne _ _ _ _ _ _ _ (by decide), e2, cpy_ne _ _ _ _ _ _ _ (by decide), e1, cpy_ne _ _ _ _ _ _ _ (by decide)]
  have h5 : ∀ i, i < 10 → μc7 25 i = μ 7 i := fun i hi => by
    rw [sc _ (by decide), fb _ (by decide), fa _ (by decide), e9, cpy_ne _ _ _ _ _ _ _ (by decide), e8, cpy_ne _ _ _ _ _ _ _ (by decide), e7, cpy_ne _ _ _ _ _ _ _ (by decide), e6, cpy_rd, if_pos (by omega), show 0 + (i - 0) = i by omega, e5, cpy_ne _ _ _ _ _ _ _ (by decide), e4, cpy_ne _ _ _ _ _ _ _ (by decide), e3, cpy_ne _ _ _ _ _ _ _ (by decide), e2, cpy_ne _ _ _ _ _ _ _ (by decide), e1, cpy_ne _ _ _ _ _ _ _ (by decide)]
  have h6 : ∀ i, i < 10 → μc7 26 i = μ 8 i := fun i hi => by
    rw [sc _ (by decide), fb _ (by decide), fa _ (by decide), e9, cpy_ne _ _ _ _ _ _ _ (by decide), e8, cpy_ne _ _ _ _ _ _ _ (by decide), e7, cpy_rd, if_pos (by omega), show 0 + (i - 0) = i by omega, e6, cpy_ne _ _ _ _ _ _ _ (by decide), e5, cpy_ne _ _ _ _ _ _ _ (by decide), e4, cpy_ne _ _ _ _ _ _ _ (by decide), e3, cpy_ne _ _ _ _ _ _ _ (by decide), e2, cpy_ne _ _ _ _ _ _ _ (by decide), e1, cpy_ne _ _ _ _ _ _ _ (by decide)]
  have h7 : ∀ i, i < 50 → μc7 27 i = μ 9 i := fun i hi => by
    rw [sc _ (by decide), fb _ (by decide), fa _ (by decide), e9, cpy_ne _ _ _ _ _ _ _ (by decide), e8, cpy_rd, if_pos (by omega), show 0 + (i - 0) = i by omega, e7, cpy_ne _ _ _ _ _ _ _ (by decide), e6, cpy_ne _ _ _ _ _ _ _ (by decide), e5, cpy_ne _ _ _ _ _ _ _ (by decide), e4, cpy_ne _ _ _ _ _ _ _ (by decide), e3, cpy_ne _ _ _ _ _ _ _ (by decide), e2, cpy_ne _ _ _ _ _ _ _ (by decide), e1, cpy_ne _ _ _ _ _ _ _ (by decide)]
  have h8 : ∀ i, i < 20 → μc7 28 i = μ 10 i := fun i hi => by
    rw [sc _ (by decide), fb _ (by decide), fa _ (by decide), e9, cpy_rd, if_pos (by omega), show 0 + (i - 0) = i by omega, e8, cpy_ne _ _ _ _ _ _ _ (by decide), e7, cpy_ne _ _ _ _ _ _ _ (by decide), e6, cpy_ne _ _ _ _ _ _ _ (by decide), e5, cpy_ne _ _ _ _ _ _ _ (by decide), e4, cpy_ne _ _ _ _ _ _ _ (by decide), e3, cpy_ne _ _ _ _ _ _ _ (by decide), e2, cpy_ne _ _ _ _ _ _ _ (by decide), e1, cpy_ne _ _ _ _ _ _ _ (by decide)]
  have f1 : μc7 19 11 = μ 1 11 := by rw [ec7, st_same, if_neg (by decide), ec6, st_same, if_neg (by decide), ec5, st_same, if_neg (by decide), ec4, st_same, if_neg (by decide), ec3, st_same, if_neg (by decide), ec2, st_same, if_neg (by decide), ec1, st_same, if_pos rfl, sb]
  have f2 : μc7 19 12 = μ 1 12 := by rw [ec7, st_same, if_neg (by decide), ec6, st_same, if_neg (by decide), ec5, st_same, if_neg (by decide), ec4, st_same, if_neg (by decide), ec3, st_same, if_neg (by decide), ec2, st_same, if_pos rfl, ec1, st_ne _ _ _ _ _ (by decide), sb]
  have f3 : μc7 19 13 = μ 1 13 := by rw [ec7, st_same, if_neg (by decide), ec6, st_same, if_neg (by decide), ec5, st_same, if_neg (by decide), ec4, st_same, if_neg (by decide), ec3, st_same, if_pos rfl, ec2, st_ne _ _ _ _ _ (by decide), ec1, st_ne _ _ _ _ _ (by decide), sb]
  have f4 : μc7 19 14 = μ 1 14 := by rw [ec7, st_same, if_neg (by decide), ec6, st_same, if_neg (by decide), ec5, st_same, if_neg (by decide), ec4, st_same, if_pos rfl, ec3, st_ne _ _ _ _ _ (by decide), ec2, st_ne _ _ _ _ _ (by decide), ec1, st_ne _ _ _ _ _ (by decide), sb]
  have f5 : μc7 19 15 = μ 1 15 := by rw [ec7, st_same, if_neg (by decide), ec6, st_same, if_neg (by decide), ec5, st_same, if_pos rfl, ec4, st_ne _ _ _ _ _ (by decide), ec3, st_ne _ _ _ _ _ (by decide), ec2, st_ne _ _ _ _ _ (by decide), ec1, st_ne _ _ _ _ _ (by decide), sb]
  have f6 : μc7 19 16 = μ 1 16 := by rw [ec7, st_same, if_neg (by decide), ec6, st_same, if_pos rfl, ec5, st_ne _ _ _ _ _ (by decide), ec4, st_ne _ _ _ _ _ (by decide), ec3, st_ne _ _ _ _ _ (by decide), ec2, st_ne _ _ _ _ _ (by decide), ec1, st_ne _ _ _ _ _ (by decide), sb]
  have f7 : μc7 19 17 = μ 1 17 := by rw [ec7, st_same, if_pos rfl, ec6, st_ne _ _ _ _ _ (by decide), ec5, st_ne _ _ _ _ _ (by decide), ec4, st_ne _ _ _ _ _ (by decide), ec3, st_ne _ _ _ _ _ (by decide), ec2, st_ne _ _ _ _ _ (by decide), ec1, st_ne _ _ _ _ _ (by decide), sb]
  obtain ⟨⟨q1, q2, q3, q4, q5, q6, q7⟩, p2, p3, p4, p5, p6, p7, p8⟩ := hc
  have hP := hg.1
  have hN := hg.2.1
  have hT := hg.2.2.2.2.2.2.2.1
  have hW := hg.2.2.2.2.2.2.2.2.2
  refine hK μc7 (fun k hk => ?_) ⟨⟨f1.trans q1, f2.trans q2, f3.trans q3, f4.trans q4, f5.trans q5, f6.trans q6, f7.trans q7⟩, fun p hp => (h0 p (by omega)).trans (p2 p hp), fun a b ha hb => (h1 (a * 6 + b) (by omega)).trans (p3 a b ha hb), fun i hi => ⟨(h2 i (by omega)).trans (p4 i hi).1, (h3 i (by omega)).trans (p4 i hi).2.1, (h4 i (by omega)).trans (p4 i hi).2.2.1, (h5 i (by omega)).trans (p4 i hi).2.2.2.1, (h6 i (by omega)).trans (p4 i hi).2.2.2.2⟩, fun i hi => (h7 i (by omega)).trans (p5 i hi), fun i hi => (h8 i (by omega)).trans (p6 i hi), ?_, ?_⟩ (f4.trans q4)
  · rw [sc k (by omega), fb k (by simp; omega), fa k (by simp; omega), s9 k (by omega)]
  · refine TX_cp (k := 29) p7 (fun j hj => ?_) (fun j hj => ?_) ?_
    · rw [sc _ (by decide), fb _ (by decide), a1 j hj, s9 _ (by omega)]
    · rw [sc _ (by decide), fb _ (by decide), a2 j hj, s9 _ (by omega)]
    · rw [sc _ (by decide), fb _ (by decide), a3, s9 _ (by omega)]
  · refine TX_cp (k := 33) p8 (fun j hj => ?_) (fun j hj => ?_) ?_
    · rw [sc _ (by decide), b1 j hj, fa _ (by decide), s9 _ (by omega)]
    · rw [sc _ (by decide), b2 j hj, fa _ (by decide), s9 _ (by omega)]
    · rw [sc _ (by decide), b3, fa _ (by decide), s9 _ (by omega)]
theorem x_take_1_19 {K : sm_Mem → Prop} {g : GH} {μ : sm_Mem} (hg : gOk g) (hc : CA 19 g μ) (hK : ∀ μ2, (∀ k, (k < 1 ∨ 18 < k) → μ2 k = μ k) → CA 1 g μ2 → μ2 1 14 = nI (gHo g) → K μ2) : w_D_take_1_19 K μ := by
  unfold w_D_take_1_19
  have z0 : (0 : Int32).toNatClampNeg = 0 := rfl
  have z6 : (6 : Int32).toNatClampNeg = 6 := rfl
  have z36 : (36 : Int32).toNatClampNeg = 36 := rfl
  have z10 : (10 : Int32).toNatClampNeg = 10 := rfl
  have z50 : (50 : Int32).toNatClampNeg = 50 := rfl
  have z20 : (20 : Int32).toNatClampNeg = 20 := rfl
  rw [z0, z6, z36, z10, z50, z20]
  intro μ1 e1 μ2 e2 μ3 e3 μ4 e4 μ5 e5 μ6 e6 μ7 e7 μ8 e8 μ9 e9
  have s9 : ∀ k, (k < 2 ∨ 10 < k) → μ9 k = μ k := fun k hk => by
    rw [e9, cpy_ne _ _ _ _ _ _ _ (by omega), e8, cpy_ne _ _ _ _ _ _ _ (by omega), e7, cpy_ne _ _ _ _ _ _ _ (by omega), e6, cpy_ne _ _ _ _ _ _ _ (by omega), e5, cpy_ne _ _ _ _ _ _ _ (by omega), e4, cpy_ne _ _ _ _ _ _ _ (by omega), e3, cpy_ne _ _ _ _ _ _ _ (by omega), e2, cpy_ne _ _ _ _ _ _ _ (by omega), e1, cpy_ne _ _ _ _ _ _ _ (by omega)]
  refine x_Ttake t11 t29 (by omega) (fun μa fa a1 a2 a3 => ?_)
  refine x_Ttake t15 t33 (by omega) (fun μb fb b1 b2 b3 => ?_)
  intro μc1 ec1 μc2 ec2 μc3 ec3 μc4 ec4 μc5 ec5 μc6 ec6 μc7 ec7
  have sb : μb 19 = μ 19 := by rw [fb 19 (by decide), fa 19 (by decide), s9 19 (by omega)]
  have sc : ∀ k, k ≠ 1 → μc7 k = μb k := fun k hk => by rw [ec7, st_ne _ _ _ _ _ hk, ec6, st_ne _ _ _ _ _ hk, ec5, st_ne _ _ _ _ _ hk, ec4, st_ne _ _ _ _ _ hk, ec3, st_ne _ _ _ _ _ hk, ec2, st_ne _ _ _ _ _ hk, ec1, st_ne _ _ _ _ _ hk]
  have h0 : ∀ i, i < 6 → μc7 2 i = μ 20 i := fun i hi => by
    rw [sc _ (by decide), fb _ (by decide), fa _ (by decide), e9, cpy_ne _ _ _ _ _ _ _ (by decide), e8, cpy_ne _ _ _ _ _ _ _ (by decide), e7, cpy_ne _ _ _ _ _ _ _ (by decide), e6, cpy_ne _ _ _ _ _ _ _ (by decide), e5, cpy_ne _ _ _ _ _ _ _ (by decide), e4, cpy_ne _ _ _ _ _ _ _ (by decide), e3, cpy_ne _ _ _ _ _ _ _ (by decide), e2, cpy_ne _ _ _ _ _ _ _ (by decide), e1, cpy_rd, if_pos (by omega), show 0 + (i - 0) = i by omega]
  have h1 : ∀ i, i < 36 → μc7 3 i = μ 21 i := fun i hi => by
    rw [sc _ (by decide), fb _ (by decide), fa _ (by decide), e9, cpy_ne _ _ _ _ _ _ _ (by decide), e8, cpy_ne _ _ _ _ _ _ _ (by decide), e7, cpy_ne _ _ _ _ _ _ _ (by decide), e6, cpy_ne _ _ _ _ _ _ _ (by decide), e5, cpy_ne _ _ _ _ _ _ _ (by decide), e4, cpy_ne _ _ _ _ _ _ _ (by decide), e3, cpy_ne _ _ _ _ _ _ _ (by decide), e2, cpy_rd, if_pos (by omega), show 0 + (i - 0) = i by omega, e1, cpy_ne _ _ _ _ _ _ _ (by decide)]
  have h2 : ∀ i, i < 10 → μc7 4 i = μ 22 i := fun i hi => by
    rw [sc _ (by decide), fb _ (by decide), fa _ (by decide), e9, cpy_ne _ _ _ _ _ _ _ (by decide), e8, cpy_ne _ _ _ _ _ _ _ (by decide), e7, cpy_ne _ _ _ _ _ _ _ (by decide), e6, cpy_ne _ _ _ _ _ _ _ (by decide), e5, cpy_ne _ _ _ _ _ _ _ (by decide), e4, cpy_ne _ _ _ _ _ _ _ (by decide), e3, cpy_rd, if_pos (by omega), show 0 + (i - 0) = i by omega, e2, cpy_ne _ _ _ _ _ _ _ (by decide), e1, cpy_ne _ _ _ _ _ _ _ (by decide)]
  have h3 : ∀ i, i < 10 → μc7 5 i = μ 23 i := fun i hi => by
    rw [sc _ (by decide), fb _ (by decide), fa _ (by decide), e9, cpy_ne _ _ _ _ _ _ _ (by decide), e8, cpy_ne _ _ _ _ _ _ _ (by decide), e7, cpy_ne _ _ _ _ _ _ _ (by decide), e6, cpy_ne _ _ _ _ _ _ _ (by decide), e5, cpy_ne _ _ _ _ _ _ _ (by decide), e4, cpy_rd, if_pos (by omega), show 0 + (i - 0) = i by omega, e3, cpy_ne _ _ _ _ _ _ _ (by decide), e2, cpy_ne _ _ _ _ _ _ _ (by decide), e1, cpy_ne _ _ _ _ _ _ _ (by decide)]
  have h4 : ∀ i, i < 10 → μc7 6 i = μ 24 i := fun i hi => by
    rw [sc _ (by decide), fb _ (by decide), fa _ (by decide), e9, cpy_ne _ _ _ _ _ _ _ (by decide), e8, cpy_ne _ _ _ _ _ _ _ (by decide), e7, cpy_ne _ _ _ _ _ _ _ (by decide), e6, cpy_ne _ _ _ _ _ _ _ (by decide), e5, cpy_rd, if_pos (by omega), show 0 + (i - 0) = i by omega, e4, cpy_ne _ _ _ _ _ _ _ (by decide), e3, cpy_ne _ _ _ _ _ _ _ (by decide), e2, cpy_ne _ _ _ _ _ _ _ (by decide), e1, cpy_ne _ _ _ _ _ _ _ (by decide)]
  have h5 : ∀ i, i < 10 → μc7 7 i = μ 25 i := fun i hi => by
    rw [sc _ (by decide), fb _ (by decide), fa _ (by decide), e9, cpy_ne _ _ _ _ _ _ _ (by decide), e8, cpy_ne _ _ _ _ _ _ _ (by decide), e7, cpy_ne _ _ _ _ _ _ _ (by decide), e6, cpy_rd, if_pos (by omega), show 0 + (i - 0) = i by omega, e5, cpy_ne _ _ _ _ _ _ _ (by decide), e4, cpy_ne _ _ _ _ _ _ _ (by decide), e3, cpy_ne _ _ _ _ _ _ _ (by decide), e2, cpy_ne _ _ _ _ _ _ _ (by decide), e1, cpy_ne _ _ _ _ _ _ _ (by decide)]
  have h6 : ∀ i, i < 10 → μc7 8 i = μ 26 i := fun i hi => by
    rw [sc _ (by decide), fb _ (by decide), fa _ (by decide), e9, cpy_ne _ _ _ _ _ _ _ (by decide), e8, cpy_ne _ _ _ _ _ _ _ (by decide), e7, cpy_rd, if_pos (by omega), show 0 + (i - 0) = i by omega, e6, cpy_ne _ _ _ _ _ _ _ (by decide), e5, cpy_ne _ _ _ _ _ _ _ (by decide), e4, cpy_ne _ _ _ _ _ _ _ (by decide), e3, cpy_ne _ _ _ _ _ _ _ (by decide), e2, cpy_ne _ _ _ _ _ _ _ (by decide), e1, cpy_ne _ _ _ _ _ _ _ (by decide)]
  have h7 : ∀ i, i < 50 → μc7 9 i = μ 27 i := fun i hi => by
    rw [sc _ (by decide), fb _ (by decide), fa _ (by decide), e9, cpy_ne _ _ _ _ _ _ _ (by decide), e8, cpy_rd, if_pos (by omega), show 0 + (i - 0) = i by omega, e7, cpy_ne _ _ _ _ _ _ _ (by decide), e6, cpy_ne _ _ _ _ _ _ _ (by decide), e5, cpy_ne _ _ _ _ _ _ _ (by decide), e4, cpy_ne _ _ _ _ _ _ _ (by decide), e3, cpy_ne _ _ _ _ _ _ _ (by decide), e2, cpy_ne _ _ _ _ _ _ _ (by decide), e1, cpy_ne _ _ _ _ _ _ _ (by decide)]
  have h8 : ∀ i, i < 20 → μc7 10 i = μ 28 i := fun i hi => by
    rw [sc _ (by decide), fb _ (by decide), fa _ (by decide), e9, cpy_rd, if_pos (by omega), show 0 + (i - 0) = i by omega, e8, cpy_ne _ _ _ _ _ _ _ (by decide), e7, cpy_ne _ _ _ _ _ _ _ (by decide), e6, cpy_ne _ _ _ _ _ _ _ (by decide), e5, cpy_ne _ _ _ _ _ _ _ (by decide), e4, cpy_ne _ _ _ _ _ _ _ (by decide), e3, cpy_ne _ _ _ _ _ _ _ (by decide), e2, cpy_ne _ _ _ _ _ _ _ (by decide), e1, cpy_ne _ _ _ _ _ _ _ (by decide)]
  have f1 : μc7 1 11 = μ 19 11 := by rw [ec7, st_same, if_neg (by decide), ec6, st_same, if_neg (by decide), ec5, st_same, if_neg (by decide), ec4, st_same, if_neg (by decide), ec3, st_same, if_neg (by decide), ec2, st_same, if_neg (by decide), ec1, st_same, if_pos rfl, sb]
  have f2 : μc7 1 12 = μ 19 12 := by rw [ec7, st_same, if_neg (by decide), ec6, st_same, if_neg (by decide), ec5, st_same, if_neg (by decide), ec4, st_same, if_neg (by decide), ec3, st_same, if_neg (by decide), ec2, st_same, if_pos rfl, ec1, st_ne _ _ _ _ _ (by decide), sb]
  have f3 : μc7 1 13 = μ 19 13 := by rw [ec7, st_same, if_neg (by decide), ec6, st_same, if_neg (by decide), ec5, st_same, if_neg (by decide), ec4, st_same, if_neg (by decide), ec3, st_same, if_pos rfl, ec2, st_ne _ _ _ _ _ (by decide), ec1, st_ne _ _ _ _ _ (by decide), sb]
  have f4 : μc7 1 14 = μ 19 14 := by rw [ec7, st_same, if_neg (by decide), ec6, st_same, if_neg (by decide), ec5, st_same, if_neg (by decide), ec4, st_same, if_pos rfl, ec3, st_ne _ _ _ _ _ (by decide), ec2, st_ne _ _ _ _ _ (by decide), ec1, st_ne _ _ _ _ _ (by decide), sb]
  have f5 : μc7 1 15 = μ 19 15 := by rw [ec7, st_same, if_neg (by decide), ec6, st_same, if_neg (by decide), ec5, st_same, if_pos rfl, ec4, st_ne _ _ _ _ _ (by decide), ec3, st_ne _ _ _ _ _ (by decide), ec2, st_ne _ _ _ _ _ (by decide), ec1, st_ne _ _ _ _ _ (by decide), sb]
  have f6 : μc7 1 16 = μ 19 16 := by rw [ec7, st_same, if_neg (by decide), ec6, st_same, if_pos rfl, ec5, st_ne _ _ _ _ _ (by decide), ec4, st_ne _ _ _ _ _ (by decide), ec3, st_ne _ _ _ _ _ (by decide), ec2, st_ne _ _ _ _ _ (by decide), ec1, st_ne _ _ _ _ _ (by decide), sb]
  have f7 : μc7 1 17 = μ 19 17 := by rw [ec7, st_same, if_pos rfl, ec6, st_ne _ _ _ _ _ (by decide), ec5, st_ne _ _ _ _ _ (by decide), ec4, st_ne _ _ _ _ _ (by decide), ec3, st_ne _ _ _ _ _ (by decide), ec2, st_ne _ _ _ _ _ (by decide), ec1, st_ne _ _ _ _ _ (by decide), sb]
  obtain ⟨⟨q1, q2, q3, q4, q5, q6, q7⟩, p2, p3, p4, p5, p6, p7, p8⟩ := hc
  have hP := hg.1
  have hN := hg.2.1
  have hT := hg.2.2.2.2.2.2.2.1
  have hW := hg.2.2.2.2.2.2.2.2.2
  refine hK μc7 (fun k hk => ?_) ⟨⟨f1.trans q1, f2.trans q2, f3.trans q3, f4.trans q4, f5.trans q5, f6.trans q6, f7.trans q7⟩, fun p hp => (h0 p (by omega)).trans (p2 p hp), fun a b ha hb => (h1 (a * 6 + b) (by omega)).trans (p3 a b ha hb), fun i hi => ⟨(h2 i (by omega)).trans (p4 i hi).1, (h3 i (by omega)).trans (p4 i hi).2.1, (h4 i (by omega)).trans (p4 i hi).2.2.1, (h5 i (by omega)).trans (p4 i hi).2.2.2.1, (h6 i (by omega)).trans (p4 i hi).2.2.2.2⟩, fun i hi => (h7 i (by omega)).trans (p5 i hi), fun i hi => (h8 i (by omega)).trans (p6 i hi), ?_, ?_⟩ (f4.trans q4)
  · rw [sc k (by omega), fb k (by simp; omega), fa k (by simp; omega), s9 k (by omega)]
  · refine TX_cp (k := 11) p7 (fun j hj => ?_) (fun j hj => ?_) ?_
    · rw [sc _ (by decide), fb _ (by decide), a1 j hj, s9 _ (by omega)]
    · rw [sc _ (by decide), fb _ (by decide), a2 j hj, s9 _ (by omega)]
    · rw [sc _ (by decide), fb _ (by decide), a3, s9 _ (by omega)]
  · refine TX_cp (k := 15) p8 (fun j hj => ?_) (fun j hj => ?_) ?_
    · rw [sc _ (by decide), b1 j hj, fa _ (by decide), s9 _ (by omega)]
    · rw [sc _ (by decide), b2 j hj, fa _ (by decide), s9 _ (by omega)]
    · rw [sc _ (by decide), b3, fa _ (by decide), s9 _ (by omega)]
theorem MA_cp {c c2 : Nat} {g : GH} {μ μ2 : sm_Mem} (hg : gOk g) (h : MA c g μ) (hf : ∀ j, j < 271 → μ2 c2 j = μ c j) : MA c2 g μ2 := by
  have h3 : MA c g (fun k => if k = c then μ2 c2 else μ k) := MA_lt hg.1 hg.2.1 hg.2.2.2.2.2.2.2.1 hg.2.2.2.2.2.2.2.2.2 h (fun j hj => by show (if c = c then μ2 c2 else μ c) j = _; rw [if_pos rfl]; exact hf j hj)
  have e : (fun k => if k = c then μ2 c2 else μ k) c = μ2 c2 := by
    show (if c = c then μ2 c2 else μ c) = μ2 c2
    rw [if_pos rfl]
  unfold MA TM at *
  rw [e] at h3
  exact h3
theorem T_image (n : Nat) : Same n (fun K => w_X_image K) (fun K => w_M_image K) := by
  intro μ hR
  obtain ⟨⟨g, g1, g2, g3⟩, h15, hE, hT, hS, c, c1, c2, c3, c4, c5⟩ := id hR
  show w_X_image _ μ
  unfold w_X_image
  refine x_take_19_1 g1 g2 (fun μ1 hf i1 _ => ?_)
  intro μ2 e2
  rw [hf 0 (by omega), c2, ← nI_succ] at e2
  have r2 : μ2 0 7 = nI (c + 1) := by rw [e2, st_same, if_pos rfl]
  rw [r2]
  have f2 : ∀ k, (k < 19 ∨ 36 < k) → k ≠ 0 → μ2 k = μ k := fun k hk h0 => by rw [e2, st_ne _ _ _ _ _ h0]; exact hf k hk
  have i2 : CA 19 g μ2 := CA_fr i1 (fun k hk => by rw [e2]; exact st_ne _ _ _ _ _ (by revert k; decide))
  show w_M_image (fun r2 μ2 => nI (c + 1) = r2 ∧ RR (n + 1) μ2) μ2
  unfold w_M_image
  refine m_moveAll (by decide) sm_l62 sm_l63 (fun μ3 f3 hs => ?_)
  intro μ4 e4 μ5 e5
  have r4 : μ4 61 5 = nI c := by rw [e4, st_same, if_neg (by decide), f3 61 (by decide), f2 61 (by omega) (by decide)]; exact c3
  rw [r4, ← nI_succ] at e5
  have r5 : μ5 61 5 = nI (c + 1) := by rw [e5, st_same, if_pos rfl]
  have f5 : ∀ k, (k < 19 ∨ 36 < k) → k ≠ 0 → k ≠ 61 → k ≠ 63 → μ5 k = μ k := fun k hk h0 h1 h3 => by rw [e5, st_ne _ _ _ _ _ h1, e4, st_ne _ _ _ _ _ h1, f3 k (by simpa using h3), f2 k hk h0]
  have j5 : ∀ j, j ≠ 4 → j ≠ 5 → μ5 61 j = μ 61 j := fun j h4 h5 => by rw [e5, st_same, if_neg h5, e4, st_same, if_neg h4, f3 61 (by decide), f2 61 (by omega) (by decide)]
  have i5 : CA 19 g μ5 := CA_fr i2 (fun k hk => by
    have hk36 : k ≤ 36 := by revert k; decide
    rw [e5, st_ne _ _ _ _ _ (by omega), e4, st_ne _ _ _ _ _ (by omega), f3 k (by simp; omega)])
  have m63 : MA 63 g μ5 := MA_cp (c := 62) (μ := μ) g1 g3 (fun j hj => by rw [e5, st_ne _ _ _ _ _ (by decide), e4, st_ne _ _ _ _ _ (by decide), hs j hj, f2 62 (by omega) (by decide)])
  refine ⟨r5.symm, ⟨g, g1, CA_fr g2 (fun k hk => ?_), MA_fr g3 (f5 62 (by omega) (by decide) (by decide) (by decide))⟩, by rw [j5 15 (by decide) (by decide)]; exact h15, ?_, ?_, ?_, ?_⟩
  · have : k ≤ 17 ∧ 1 ≤ k := by revert k; decide
    exact f5 k (by omega) (by omega) (by omega) (by omega)
  · intro k hk
    rw [f5 66 (by omega) (by decide) (by decide) (by decide), f5 60 (by omega) (by decide) (by decide) (by decide)]
    exact hE k hk
  · obtain ⟨t, t1, t2, t3, t4⟩ := hT
    refine ⟨t, t1, by rw [f5 49 (by omega) (by decide) (by decide) (by decide)]; exact t2, by rw [j5 24 (by decide) (by decide)]; exact t3, fun i hi => ?_⟩
    rw [f5 72 (by omega) (by decide) (by decide) (by decide), f5 50 (by omega) (by decide) (by decide) (by decide)]
    exact t4 i hi
  · intro s hs
    obtain ⟨b, l, s1, s2, s3, s4, s5, s6, s7, s8⟩ := hS s hs
    have e1 : μ5 (52 + 2 * s) = μ (52 + 2 * s) := f5 _ (by omega) (by omega) (by omega) (by omega)
    have e2 : μ5 (53 + 2 * s) = μ (53 + 2 * s) := f5 _ (by omega) (by omega) (by omega) (by omega)
    refine ⟨b, l, s1, s2, by rw [e1]; exact s3, by rw [f5 68 (by omega) (by decide) (by decide) (by decide)]; exact s4, by rw [e1]; exact s5, by rw [f5 69 (by omega) (by decide) (by decide) (by decide)]; exact s6, s7, fun i hi => ?_⟩
    rw [e2, f5 70 (by omega) (by decide) (by decide) (by decide)]
    exact s8 i hi
  · refine ⟨c + 1, by omega, ?_, r5, ?_, fun _ => ⟨g, g1, i5, m63⟩⟩
    · rw [e5, st_ne _ _ _ _ _ (by decide), e4, st_ne _ _ _ _ _ (by decide), f3 0 (by decide)]
      exact r2
    · rw [e5, st_same, if_neg (by decide), e4, st_same, if_pos rfl, if_neg (by omega)]
theorem T_restore (n : Nat) (hn : n < 2 ^ 31) : Same n (fun K => w_X_restore K) (fun K => w_M_restore K) := by
  intro μ hR
  obtain ⟨⟨g, g1, g2, g3⟩, h15, hE, hT, hS, c, c1, c2, c3, c4, c5⟩ := id hR
  show w_X_restore _ μ
  unfold w_X_restore
  rw [c2]
  by_cases z : c = 0
  · rw [if_pos (by rw [z]; rfl)]
    refine X_err2 ?_
    show w_M_restore (fun r2 μ2 => -1000000002 = r2 ∧ RR (n + 1) μ2) (sm_st μ 60 2 (μ 60 2 + 1))
    unfold w_M_restore
    rw [if_pos z] at c4
    rw [st_ne _ _ _ _ 61 (by decide), c4, if_pos rfl]
    exact M_err2 ⟨rfl, RR_err hR rfl rfl⟩
  · rw [if_neg (nI_ne0 (by omega) (by omega))]
    obtain ⟨gi, i1, i2, i3⟩ := c5 (by omega)
    refine x_take_1_19 i1 i2 (fun μ1 hf cc hh => ?_)
    rw [hh]
    show w_M_restore (fun r2 μ2 => nI (gHo gi) = r2 ∧ RR (n + 1) μ2) μ1
    unfold w_M_restore
    rw [if_neg z] at c4
    rw [hf 61 (by omega), c4, if_neg (by decide)]
    refine m_moveAll (by decide) sm_l63 sm_l62 (fun μ2 f2 hs => ?_)
    have m2 : MA 62 gi μ2 := MA_cp (c := 63) (μ := μ) i1 i3 (fun j hj => by rw [hs j hj, hf 63 (by omega)])
    refine ⟨m2.1.2.2.2.1.symm, RR_gen hR i1 (CA_fr cc (fun k hk => f2 k (by revert k; decide))) m2 (fun k hk => ?_) ?_ ?_ ?_ ?_⟩
    · have h62 : k ≠ 62 ∧ (k < 1 ∨ 18 < k) := by revert k; decide
      rw [f2 k (by simpa using h62.1), hf k h62.2]
    all_goals rw [f2 61 (by decide), hf 61 (by omega)]

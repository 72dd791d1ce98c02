/-! ===== methods alike: text ===== -/
theorem x_read {K : Int32 → sm_Mem → Prop} {u sz : Nat} {B : Nat → Int32} {μ : sm_Mem} (hz : sz ≤ 50) (hu : u ≤ 1) (hB : ∀ i, i < sz → μ 9 i = B i) (hb : ∀ i, i < sz → ∃ b : Nat, b ≤ 255 ∧ B i = nI b) (hK : ∀ μ2, fr [43, 44, 45, 46, 48] μ μ2 → μ2 44 3 = nI (pText B sz u).2.2.1.length → cdOf μ2 44 (pText B sz u).2.2.1.length = (pText B sz u).2.2.1 → K (if (pText B sz u).1 = true ∧ (pText B sz u).2.1 = sz then -1 else nI (pText B sz u).2.1) μ2) : w_R_read K 9 (nI sz) (nI (u + 1)) μ := by
  unfold w_R_read
  refine ⟨sm_l9, ?_⟩
  intro μ1 e1
  have n50 : ¬ (50 : Int32) < nI sz := nI_lt_no (a := 50) (by omega) (by omega) (by omega)
  have e0 : (if (0 : Int32) < nI sz then nI sz else 0) = nI sz := by
    by_cases z : sz = 0
    · rw [z]; rfl
    · have p : (0 : Int32) < nI sz := nI_lt_yes (a := 0) (by omega) (by omega) (by omega)
      rw [if_pos p]
  simp only [ite_self] at e1
  rw [if_neg n50, e0] at e1
  have r2 : μ1 43 2 = nI sz := by rw [e1, st_same, if_pos rfl]
  rw [r2]
  have c0 : (0 : Int32).toNatClampNeg = 0 := rfl
  have cs : (nI sz).toNatClampNeg = sz := ix_nI (by omega)
  rw [c0, cs]
  have nn : ¬ nI sz < 0 := nI_lt_no (b := 0) (by omega) (by omega) (by omega)
  refine ⟨by decide, by decide, nn, by omega, by omega, ?_⟩
  intro μ7 e7 μ8 e8 μ9 e9
  unfold w_T_clear
  refine ⟨t44, ?_⟩
  intro μ10 e10
  have f10 : fr [43, 44, 45, 46, 48] μ μ10 := by
    intro q hq
    have q3 : q ≠ 43 := fun e => hq (by rw [e]; decide)
    have q4 : q ≠ 44 := fun e => hq (by rw [e]; decide)
    have q8 : q ≠ 48 := fun e => hq (by rw [e]; decide)
    rw [e10, st_ne _ _ _ _ _ q4, e9, st_ne _ _ _ _ _ q3, e8, st_ne _ _ _ _ _ q3, e7, cpy_ne _ _ _ _ _ _ _ q8, e1, st_ne _ _ _ _ _ q3]
  have b10 : ∀ i, i < sz → μ10 48 i = B i := by
    intro i hi
    rw [e10, st_ne _ _ _ _ _ (by decide), e9, st_ne _ _ _ _ _ (by decide), e8, st_ne _ _ _ _ _ (by decide), e7, cpy_rd, if_pos (by omega), show 0 + (i - 0) = i by omega, e1, st_ne _ _ _ _ _ (by decide)]
    exact hB i hi
  have h7 : μ7 43 = μ1 43 := by rw [e7, cpy_ne _ _ _ _ _ _ _ (by decide)]
  have x10 : xst μ10 u sz 0 [] μ10 := by
    refine ⟨fr_rfl, ?_, ?_, ?_, ?_, rfl⟩
    · rw [e10, st_ne _ _ _ _ _ (by decide), e9, st_same, if_neg (by decide), e8, st_same, if_neg (by decide), h7]
      exact r2
    · rw [e10, st_ne _ _ _ _ _ (by decide), e9, st_same, if_pos rfl]
      rfl
    · rw [e10, st_ne _ _ _ _ _ (by decide), e9, st_same, if_neg (by decide), e8, st_same, if_pos rfl]
    · rw [e10, st_same, if_pos rfl]
      rfl
  have go : ∀ K2 : Int32 → sm_Mem → Prop, (∀ μ2, xst μ10 u sz (pOr B sz (pPart B sz u 5) 0).2.1 ([] ++ (pOr B sz (pPart B sz u 5) 0).2.2.1) μ2 → K2 (bI (pOr B sz (pPart B sz u 5) 0).1) μ2) → wg_R 50 0 K2 0 μ10 := by
    intro K2 h
    have h2 := x_text b10 hz hb hu K2 0 [] μ10 (by omega) (by simp) x10 h
    rw [show nI (5 - 5) = (0 : Int32) by decide] at h2
    exact h2
  refine go _ (fun μ11 hx => ?_)
  have hx : xst μ10 u sz (pText B sz u).2.1 ([] ++ (pText B sz u).2.2.1) μ11 := hx
  rw [List.nil_append] at hx
  obtain ⟨y1, y2, y3, y4, y5, y6⟩ := hx
  have f11 : fr [43, 44, 45, 46, 48] μ μ11 := fr_trans f10 (fr_mono y1 (by simp))
  have h3 := hK μ11 f11 y5 y6
  have hp : pOk sz 0 (pText B sz u) := (pOr_ok (B := B) (pPart_ok B sz u 5)).2.2.2.2 0 (Nat.zero_le _)
  have hle := hp.2.1
  show if bI (pText B sz u).1 = 0 then K (μ11 43 3) μ11 else (if (μ11 43 3) = (μ11 43 2) then K (-1) μ11 else K (μ11 43 3) μ11)
  rw [y3, y2]
  by_cases hg : (pText B sz u).1 = true
  · rw [if_neg (by rw [hg]; decide)]
    by_cases q : (pText B sz u).2.1 = sz
    · rw [if_pos ⟨hg, q⟩] at h3
      rw [if_pos (by rw [q])]
      exact h3
    · rw [if_neg (fun z => q z.2)] at h3
      rw [if_neg (fun z => q ((nI_inj (by omega) (by omega)).mp z))]
      exact h3
  · rw [if_neg (fun z => hg z.1)] at h3
    rw [if_pos (by rw [Bool.eq_false_iff.mpr hg]; rfl)]
    exact h3
def gTx (g : GH) (t : Option pV × Option pV) : GH := gMk t (gP g) (gN g) (gY g) (gHo g) (gWa g) (gRo g) (gKd g) (gMs g) (gSn g) (gAt g) (gOw g) (0, gTp g) g.2.2.2.2.2.2.1 (gZ g)
theorem gTx_ok {g : GH} (h : gOk g) (t : Option pV × Option pV) : gOk (gTx g t) := ⟨h.1, h.2.1, h.2.2.1, h.2.2.2.1, h.2.2.2.2.1, h.2.2.2.2.2.1, h.2.2.2.2.2.2.1, (by show 0 ≤ 50; omega), (fun i hi => absurd (show i < 0 from hi) (by omega)), h.2.2.2.2.2.2.2.2.2⟩
theorem CA_tx {g : GH} {t : Option pV × Option pV} {μ μ2 : sm_Mem} (h : CA 1 g μ) (h1 : ∀ j, j ≠ 15 → μ2 1 j = μ 1 j) (h15 : μ2 1 15 = 0) (hf : ∀ k, k ∈ [2, 3, 4, 5, 6, 7, 8, 9, 10] → μ2 k = μ k) (ht : TX 11 μ2 t.1) (hF : TX 15 μ2 t.2) : CA 1 (gTx g t) μ2 := by
  obtain ⟨⟨b1, b2, b3, b4, b5, b6, b7⟩, a2, a3, a4, a5, a6, a7, a8⟩ := h
  refine ⟨⟨by rw [h1 11 (by decide)]; exact b1, by rw [h1 12 (by decide)]; exact b2, by rw [h1 13 (by decide)]; exact b3, by rw [h1 14 (by decide)]; exact b4, h15, by rw [h1 16 (by decide)]; exact b6, by rw [h1 17 (by decide)]; exact b7⟩, ?_, ?_, ?_, fun i hi => absurd (show i < 0 from hi) (by omega), ?_, ht, hF⟩
  · rw [show μ2 (1 + 1) = μ (1 + 1) from hf 2 (by decide)]; exact a2
  · rw [show μ2 (1 + 2) = μ (1 + 2) from hf 3 (by decide)]; exact a3
  · rw [show μ2 (1 + 3) = μ (1 + 3) from hf 4 (by decide), show μ2 (1 + 4) = μ (1 + 4) from hf 5 (by decide), show μ2 (1 + 5) = μ (1 + 5) from hf 6 (by decide), show μ2 (1 + 6) = μ (1 + 6) from hf 7 (by decide), show μ2 (1 + 7) = μ (1 + 7) from hf 8 (by decide)]; exact a4
  · rw [show μ2 (1 + 9) = μ (1 + 9) from hf 10 (by decide)]; exact a6
theorem MA_tx {g : GH} {t : Option pV × Option pV} {μ μ2 : sm_Mem} (hP : gP g ≤ 6) (hN : gN g ≤ 10) (hW : gWn g ≤ 20) (h : MA 62 g μ) (hr : ∀ j, j ≠ 3 → j ≠ 5 → j ≠ 6 → j < 171 → μ2 62 j = μ 62 j) (h3 : μ2 62 3 = 0) (ht : TM 0 62 μ2 t.1) (hF : TM 1 62 μ2 t.2) : MA 62 (gTx g t) μ2 := by
  obtain ⟨⟨b1, b2, b3, b4, b5, b6, b7⟩, a2, a3, a4, a5, a6, a7, a8⟩ := h
  refine ⟨⟨by rw [hr 2 (by decide) (by decide) (by decide) (by decide)]; exact b1, by rw [hr 7 (by decide) (by decide) (by decide) (by decide)]; exact b2, by rw [hr 8 (by decide) (by decide) (by decide) (by decide)]; exact b3, by rw [hr 0 (by decide) (by decide) (by decide) (by decide)]; exact b4, h3, by rw [hr 4 (by decide) (by decide) (by decide) (by decide)]; exact b6, by rw [hr 1 (by decide) (by decide) (by decide) (by decide)]; exact b7⟩, fun p hp => ?_, fun a b ha hb => ?_, fun i hi => ?_, fun i hi => absurd (show i < 0 from hi) (by omega), fun i hi => ?_, ht, hF⟩
  · have hp : p < gP g := hp
    rw [hr _ (by omega) (by omega) (by omega) (by omega)]
    exact a2 p hp
  · have ha : a < gP g := ha
    have hb : b < gP g := hb
    rw [hr _ (by omega) (by omega) (by omega) (by omega)]
    exact a3 a b ha hb
  · have hi : i < gN g := hi
    rw [hr _ (by omega) (by omega) (by omega) (by omega), hr _ (by omega) (by omega) (by omega) (by omega), hr _ (by omega) (by omega) (by omega) (by omega), hr _ (by omega) (by omega) (by omega) (by omega), hr _ (by omega) (by omega) (by omega) (by omega)]
    exact a4 i hi
  · have hi : i < gWn g := hi
    rw [hr _ (by omega) (by omega) (by omega) (by omega)]
    exact a6 i hi
theorem TM_by {w : Nat} {μ μ2 : sm_Mem} {o : Option pV} (h : TM w 62 μ o) (h5 : μ2 62 (5 + w) = μ 62 (5 + w)) (hf : ∀ i, i < 50 → μ2 62 (171 + 50 * w + i) = μ 62 (171 + 50 * w + i)) : TM w 62 μ2 o := by
  cases o with
  | none => show μ2 62 (5 + w) = -1; rw [h5]; exact h
  | some v =>
    obtain ⟨n, cd, h1, h2, h3⟩ := h
    refine ⟨n, cd, h1, by rw [h5]; exact h2, ?_⟩
    have e : bys (μ2 62) w = bys (μ 62) w := by
      funext i
      unfold bys
      by_cases q : i < 50
      · rw [if_pos q, if_pos q, hf i q]
      · rw [if_neg q, if_neg q]
    rw [e]
    exact h3
def tU (g : GH) (u : Nat) (v : pV) : Option pV × Option pV := if u = 0 then (some v, gFd g) else (gHt g, some v)
theorem m_textM {K : Int32 → sm_Mem → Prop} {g : GH} {u : Nat} {B : Nat → Int32} {μ : sm_Mem} (hg : gOk g) (hc : MA 62 g μ) (hu : u ≤ 1) (q : 0 ≤ nI u ∧ nI u ≤ 1) (hB : ∀ i, i < 50 → μ 62 (101 + i) = B i) (hB0 : ∀ i, ¬ i < 50 → B i = 0) (k1 : ((pText B (gTn g) u).1 = true ∧ (pText B (gTn g) u).2.1 = gTn g) → ∀ μ2, fr [61, 62, 65] μ μ2 → (∀ j, j ∉ [7, 8, 9, 10, 11, 12, 13, 14] → μ2 61 j = μ 61 j) → MA 62 (gTx g (tU g u (pText B (gTn g) u).2.2.2)) μ2 → K 1 μ2) (k2 : ¬ ((pText B (gTn g) u).1 = true ∧ (pText B (gTn g) u).2.1 = gTn g) → ∀ μ2, fr [61, 62, 65] μ μ2 → (∀ j, j ∉ [7, 8, 9, 10, 11, 12, 13, 14] → μ2 61 j = μ 61 j) → MA 62 (gTx g g.1) μ2 → K ((-10) - nI (pText B (gTn g) u).2.1) μ2) : w_M_text K (nI u) μ := by
  have hz : gTn g ≤ 50 := hg.2.2.2.2.2.2.2.1
  unfold w_M_text
  refine M_in (fun _ => ?_) (fun z => absurd q z)
  rw [if_neg (by decide)]
  refine m_moveAll (by decide) sm_l62 sm_l65 (fun μ1 hf1 hs1 => ?_)
  unfold w_M_text_30
  refine ⟨fun m x2 μ3 => ∃ i, m = 50 - i ∧ i ≤ 50 ∧ x2 = nI i ∧ fr [62] μ1 μ3 ∧ ∀ j, μ3 62 j = if 171 + 50 * u ≤ j ∧ j < 171 + 50 * u + i then B (j - (171 + 50 * u)) else μ 62 j, ⟨50, 0, rfl, by omega, rfl, fr_rfl, fun j => ?_⟩, ?_⟩
  · rw [if_neg (by omega), hf1 62 (by decide)]
  rintro m x2 μ3 ⟨i, rfl, hi, rfl, hf3, hs3⟩
  dsimp only
  have a5 : (5 : Int32) + nI u = nI (5 + u) := nI_add 5 u
  have a101 : (101 : Int32) + nI i = nI (101 + i) := nI_add 101 i
  have a171 : ((171 : Int32) + (50 * nI u)) + nI i = nI (171 + 50 * u + i) := by
    rw [show (50 : Int32) * nI u = nI (50 * u) from nI_mul 50 u, show (171 : Int32) + nI (50 * u) = nI (171 + 50 * u) from nI_add 171 _, nI_add]
  rw [a5, a101, a171]
  by_cases i50 : i = 50
  · subst i50
    rw [if_pos (by decide)]
    refine ⟨(vin_iff (by omega)).mpr (by omega), ?_⟩
    intro μ7 e7
    have e3 : μ3 62 3 = nI (gTn g) := by rw [hs3, if_neg (by omega)]; exact hc.1.2.2.2.2.1
    rw [ix_nI (by omega), e3] at e7
    have hby : mB μ7 u = B := by
      funext j
      unfold mB bys
      by_cases z : j < 50
      · rw [if_pos z, e7, st_same, if_neg (by omega), hs3, if_pos (by omega)]
        congr 1
        omega
      · rw [if_neg z, hB0 j z]
    refine m_walks (sz := gTn g) hu hz (by rw [e7, st_same, if_pos rfl]) (fun v μ8 hf8 h8 h14 _ => ?_)
    rw [hby] at h8 h14
    have f8 : fr [61, 62, 65] μ μ8 := by
      refine fr_trans (fr_mono hf1 (by simp)) (fr_trans (fr_mono hf3 (by simp)) ?_)
      refine fr_trans (b := μ7) ?_ (fr_mono hf8.1 (by simp))
      rw [e7]
      exact fr_st fr_rfl (by simp)
    have j8 : ∀ j, j ∉ [7, 8, 9, 10, 11, 12, 13, 14] → μ8 61 j = μ 61 j := fun j hj => by
      rw [hf8.2 j hj, e7, st_ne _ _ _ _ _ (by decide), hf3 61 (by decide), hf1 61 (by decide)]
    have r8 : ∀ j, μ8 62 j = if j = 5 + u then nI (gTn g) else if 171 + 50 * u ≤ j ∧ j < 171 + 50 * u + 50 then B (j - (171 + 50 * u)) else μ 62 j := fun j => by
      rw [hf8.1 62 (by decide), e7, st_same]
      by_cases z : j = 5 + u
      · rw [if_pos z, if_pos z]
      · rw [if_neg z, if_neg z, hs3]
    rw [h14]
    by_cases hgood : (pText B (gTn g) u).1 = true ∧ (pText B (gTn g) u).2.1 = gTn g
    · have eb : bI ((pText B (gTn g) u).1 && decide ((pText B (gTn g) u).2.1 = gTn g)) = 1 := by rw [hgood.1, decide_eq_true hgood.2]; rfl
      rw [eb, if_neg (by decide), if_pos rfl]
      unfold w_M_text_106
      intro v11 e11
      rw [if_neg (by decide)]
      unfold w_M_text_129
      intro μ13 e13
      rw [if_neg (by decide)]
      have r13 : ∀ j, j ≠ 3 → μ13 62 j = μ8 62 j := fun j hj => by rw [e13, st_same, if_neg hj]
      have tmu : TM u 62 μ13 (some (pText B (gTn g) u).2.2.2) := by
        refine ⟨gTn g, (pText B (gTn g) u).2.2.1, hz, by rw [r13 _ (by omega), r8, if_pos rfl], ?_⟩
        have eb2 : bys (μ13 62) u = B := by
          funext j
          unfold bys
          by_cases z : j < 50
          · rw [if_pos z, r13 _ (by omega), r8, if_neg (by omega), if_pos (by omega)]
            congr 1
            omega
          · rw [if_neg z, hB0 j z]
        rw [eb2]
        exact Prod.ext hgood.1 (Prod.ext hgood.2 rfl)
      refine k1 hgood μ13 (by rw [e13]; exact fr_st f8 (by simp)) (fun j hj => by rw [e13, st_ne _ _ _ _ _ (by decide)]; exact j8 j hj) ?_
      have t7 := hc.2.2.2.2.2.2.1
      have t8 := hc.2.2.2.2.2.2.2
      refine MA_tx hg.1 hg.2.1 hg.2.2.2.2.2.2.2.2.2 hc (fun j h3 h5 h6 h171 => by rw [r13 j h3, r8, if_neg (by omega), if_neg (by omega)]) (by rw [e13, st_same, if_pos rfl]) ?_ ?_
      · unfold tU
        rcases (by omega : u = 0 ∨ u = 1) with rfl | rfl
        · rw [if_pos rfl]
          exact tmu
        · rw [if_neg (by decide)]
          exact TM_by t7 (by rw [r13 _ (by omega), r8, if_neg (by omega), if_neg (by omega)]) (fun z hz => by rw [r13 _ (by omega), r8, if_neg (by omega), if_neg (by omega)])
      · unfold tU
        rcases (by omega : u = 0 ∨ u = 1) with rfl | rfl
        · rw [if_pos rfl]
          exact TM_by t8 (by rw [r13 _ (by omega), r8, if_neg (by omega), if_neg (by omega)]) (fun z hz => by rw [r13 _ (by omega), r8, if_neg (by omega), if_neg (by omega)])
        · rw [if_neg (by decide)]
          exact tmu
    · have eb : bI ((pText B (gTn g) u).1 && decide ((pText B (gTn g) u).2.1 = gTn g)) = 0 := by
        by_cases z : (pText B (gTn g) u).1 = true
        · rw [z, decide_eq_false (fun y => hgood ⟨z, y⟩)]
          rfl
        · rw [Bool.eq_false_iff.mpr z]
          rfl
      rw [eb, if_pos rfl]
      unfold w_M_text_105 w_M_text_106
      intro v11 e11
      rw [h8] at e11
      subst e11
      rw [if_pos rfl]
      refine m_moveAll (by decide) sm_l65 sm_l62 (fun μ9 hf9 hs9 => ?_)
      have r9 : ∀ j, j < 271 → μ9 62 j = μ 62 j := fun j hj => by
        rw [hs9 j hj, hf8.1 65 (by decide), e7, st_ne _ _ _ _ _ (by decide), hf3 65 (by decide)]
        exact hs1 j hj
      unfold w_M_text_129
      intro μ13 e13
      rw [if_pos rfl]
      have r13 : ∀ j, j ≠ 3 → j < 271 → μ13 62 j = μ 62 j := fun j hj h => by rw [e13, st_same, if_neg hj]; exact r9 j h
      refine k2 hgood μ13 ?_ (fun j hj => by rw [e13, st_ne _ _ _ _ _ (by decide), hf9 61 (by decide)]; exact j8 j hj) ?_
      · rw [e13]
        exact fr_st (fr_trans f8 (fr_mono hf9 (by simp))) (by simp)
      · refine MA_tx hg.1 hg.2.1 hg.2.2.2.2.2.2.2.2.2 hc (fun j h3 h5 h6 h171 => r13 j h3 (by omega)) (by rw [e13, st_same, if_pos rfl]) ?_ ?_
        · exact TM_by hc.2.2.2.2.2.2.1 (r13 _ (by omega) (by omega)) (fun z hz => r13 _ (by omega) (by omega))
        · exact TM_by hc.2.2.2.2.2.2.2 (r13 _ (by omega) (by omega)) (fun z hz => r13 _ (by omega) (by omega))
  · have n50 : ¬ (50 : Int32) ≤ nI i := nI_le_no (a := 50) (by omega) (by omega) (by omega)
    rw [if_neg n50]
    refine ⟨(vin_iff (by omega)).mpr (by omega), (vin_iff (by omega)).mpr (by omega), ?_⟩
    intro μ19 e19
    rw [ix_nI (by omega), ix_nI (by omega), hs3 (101 + i), if_neg (by omega), hB i (by omega)] at e19
    refine ⟨50 - (i + 1), by omega, i + 1, rfl, by omega, (nI_succ i).symm, by rw [e19]; exact fr_st hf3 (by simp), fun j => ?_⟩
    rw [e19, st_same]
    by_cases z : j = 171 + 50 * u + i
    · rw [if_pos z, if_pos (by omega)]
      congr 1
      omega
    · rw [if_neg z, hs3]
      by_cases y : 171 + 50 * u ≤ j ∧ j < 171 + 50 * u + i
      · rw [if_pos y, if_pos (by omega)]
      · rw [if_neg y, if_neg (by omega)]
theorem T_text (n : Nat) (p0 : Int32) : Same n (fun K => w_X_text K p0) (fun K => w_M_text K p0) := by
  intro μ hR
  obtain ⟨⟨g, g1, g2, g3⟩, h15, _⟩ := id hR
  have hz : gTn g ≤ 50 := g1.2.2.2.2.2.2.2.1
  show w_X_text _ p0 μ
  unfold w_X_text
  refine X_in (fun q => ?_) (fun q => ?_)
  · rw [if_neg (by decide)]
    obtain ⟨u, hu, e⟩ := sm_ofle (n := 1) (by omega) q.1 q.2
    subst e
    have main : w_X_text_44 (fun r1 μ1 => w_M_text (fun r2 μ2 => r1 = r2 ∧ RR (n + 1) μ2) (nI u) μ1) (nI u) (nI (u + 1)) (nI (gTn g)) μ := by
      unfold w_X_text_44
      have hB : ∀ i, i < gTn g → μ 9 i = (fun i => if i < 50 then μ 62 (101 + i) else 0) i := fun i hi => by
        show μ 9 i = if i < 50 then μ 62 (101 + i) else 0
        rw [if_pos (by omega), g3.2.2.2.2.1 i hi]
        exact g2.2.2.2.2.1 i hi
      have hb : ∀ i, i < gTn g → ∃ b : Nat, b ≤ 255 ∧ (fun i => if i < 50 then μ 62 (101 + i) else 0) i = nI b := fun i hi => ⟨gTp g i, g1.2.2.2.2.2.2.2.2.1 i hi, by
        show (if i < 50 then μ 62 (101 + i) else 0) = nI (gTp g i)
        rw [if_pos (by omega)]
        exact g3.2.2.2.2.1 i hi⟩
      refine x_read hz hu hB hb (fun μ5 hf5 hlen hcd => ?_)
      have hB62 : ∀ i, i < 50 → μ 62 (101 + i) = (fun i => if i < 50 then μ 62 (101 + i) else 0) i := fun i hi => by
        show _ = if i < 50 then μ 62 (101 + i) else 0
        rw [if_pos hi]
      have hB0 : ∀ i, ¬ i < 50 → (fun i => if i < 50 then μ 62 (101 + i) else 0) i = 0 := fun i hi => by
        show (if i < 50 then μ 62 (101 + i) else 0) = 0
        rw [if_neg hi]
      generalize (fun i => if i < 50 then μ 62 (101 + i) else 0) = B at hlen hcd hB62 hB0 ⊢
      have hp : pOk (gTn g) 0 (pText B (gTn g) u) := (pOr_ok (B := B) (pPart_ok B (gTn g) u 5)).2.2.2.2 0 (Nat.zero_le _)
      obtain ⟨p1, p2, p3, p4, p5⟩ := hp
      intro μ7 e7
      have f7 : fr [1, 43, 44, 45, 46, 48] μ μ7 := by
        rw [e7]
        exact fr_st (fr_mono hf5 (by simp)) (by simp)
      have j7 : ∀ j, j ≠ 15 → μ7 1 j = μ 1 j := fun j hj => by rw [e7, st_same, if_neg hj, hf5 1 (by decide)]
      have z7 : μ7 1 15 = 0 := by rw [e7, st_same, if_pos rfl]
      by_cases hgood : (pText B (gTn g) u).1 = true ∧ (pText B (gTn g) u).2.1 = gTn g
      · rw [if_pos hgood, if_pos (by decide)]
        have tx : TX 44 μ7 (some (pText B (gTn g) u).2.2.2) := by
          refine ⟨(pText B (gTn g) u).2.2.1.length, ?_, by omega, ?_, fun a b c => ?_⟩
          · cases hl : (pText B (gTn g) u).2.2.1 with
            | nil =>
              have h4 := p4 hgood.1 0 0 0 []
              rw [hl] at h4
              exact absurd h4 (by simp [evs])
            | cons x y => simp
          · rw [e7, st_ne _ _ _ _ _ (by decide)]
            exact hlen
          · have ec : cdOf μ7 44 (pText B (gTn g) u).2.2.1.length = (pText B (gTn g) u).2.2.1 := by
              rw [cd_fr (k := 44) (μ := μ5) (by rw [e7]; exact st_ne _ _ _ _ _ (by decide)) (by rw [e7]; exact st_ne _ _ _ _ _ (by decide))]
              exact hcd
            rw [ec]
            exact p4 hgood.1 a b c []
        have fin : ∀ (k : Nat) (μ8 : sm_Mem), fr [k, k + 1, k + 2] μ7 μ8 → (u = 0 ∧ k = 11 ∨ u = 1 ∧ k = 15) → TX k μ8 (some (pText B (gTn g) u).2.2.2) → w_M_text (fun r2 μ2 => 1 = r2 ∧ RR (n + 1) μ2) (nI u) μ8 := by
          intro k μ8 hf8 hk htx
          have f8 : ∀ q, q ≠ 1 → (q < 11 ∨ (17 < q ∧ q < 43) ∨ 48 < q) → μ8 q = μ q := fun q h1 h2 => by
            rw [hf8 q (by simp only [List.mem_cons, List.not_mem_nil, or_false]; omega), f7 q (by simp only [List.mem_cons, List.not_mem_nil, or_false]; omega)]
          have e1 : μ8 1 = μ7 1 := hf8 1 (by simp only [List.mem_cons, List.not_mem_nil, or_false]; omega)
          have m8 : MA 62 g μ8 := MA_fr g3 (f8 62 (by decide) (by omega))
          have ca : CA 1 (gTx g (tU g u (pText B (gTn g) u).2.2.2)) μ8 := by
            refine CA_tx g2 (fun j hj => by rw [e1]; exact j7 j hj) (by rw [e1]; exact z7) (fun q hq => f8 q (by revert hq; simp; omega) (by revert hq; simp; omega)) ?_ ?_
            · unfold tU
              rcases hk with ⟨rfl, rfl⟩ | ⟨rfl, rfl⟩
              · rw [if_pos rfl]
                exact htx
              · rw [if_neg (by decide)]
                have t0 : TX 11 μ (gHt g) := g2.2.2.2.2.2.2.1
                exact TX_fr t0 (by rw [hf8 11 (by decide), f7 11 (by decide)]) (by rw [hf8 12 (by decide), f7 12 (by decide)]) (by rw [hf8 13 (by decide), f7 13 (by decide)])
            · unfold tU
              rcases hk with ⟨rfl, rfl⟩ | ⟨rfl, rfl⟩
              · rw [if_pos rfl]
                have t0 : TX 15 μ (gFd g) := g2.2.2.2.2.2.2.2
                exact TX_fr t0 (by rw [hf8 15 (by decide), f7 15 (by decide)]) (by rw [hf8 16 (by decide), f7 16 (by decide)]) (by rw [hf8 17 (by decide), f7 17 (by decide)])
              · rw [if_neg (by decide)]
                exact htx
          refine m_textM (B := B) g1 m8 hu q (fun i hi => by rw [f8 62 (by decide) (by omega)]; exact hB62 i hi) hB0 (fun _ μ2 hf2 hj2 hm2 => ⟨rfl, ?_⟩) (fun z => absurd hgood z)
          have rx : ∀ k, k ∈ rxCells → k ≠ 1 ∧ (k < 11 ∨ (17 < k ∧ k < 43) ∨ 48 < k) ∧ k ∉ [61, 62, 65] := by decide
          refine RR_gen hR (gTx_ok g1 _) (CA_fr ca (fun k hk => hf2 k (by revert k; decide))) hm2 (fun k hk => ?_) ?_ ?_ ?_ ?_
          · obtain ⟨r1, r2, r3⟩ := rx k hk
            rw [hf2 k r3, f8 k r1 r2]
          · rw [hj2 15 (by decide), f8 61 (by decide) (by omega)]
          · rw [hj2 4 (by decide), f8 61 (by decide) (by omega)]
          · rw [hj2 5 (by decide), f8 61 (by decide) (by omega)]
          · rw [hj2 24 (by decide), f8 61 (by decide) (by omega)]
        rcases (by omega : u = 0 ∨ u = 1) with rfl | rfl
        · rw [if_pos (show nI 0 = 0 from rfl)]
          unfold w_X_text_86
          refine ⟨t11, ?_⟩
          exact x_Ttake t11 t44 (by omega) (fun μ8 hf8 a1 a2 a3 => fin 11 μ8 hf8 (Or.inl ⟨rfl, rfl⟩) (TX_cp tx a1 a2 a3))
        · rw [if_neg (by decide)]
          unfold w_X_text_86
          refine ⟨t15, ?_⟩
          exact x_Ttake t15 t44 (by omega) (fun μ8 hf8 a1 a2 a3 => fin 15 μ8 hf8 (Or.inr ⟨rfl, rfl⟩) (TX_cp tx a1 a2 a3))
      · rw [if_neg hgood]
        have nn : ¬ nI (pText B (gTn g) u).2.1 < 0 := nI_lt_no (b := 0) (by omega) (by omega) (by omega)
        rw [if_neg nn]
        have m7 : MA 62 g μ7 := MA_fr g3 (f7 62 (by decide))
        have ca : CA 1 (gTx g g.1) μ7 := by
          refine CA_tx g2 j7 z7 (fun q hq => f7 q (by revert hq; simp; omega)) ?_ ?_
          · have t0 : TX 11 μ (gHt g) := g2.2.2.2.2.2.2.1
            exact TX_fr t0 (f7 11 (by decide)) (f7 12 (by decide)) (f7 13 (by decide))
          · have t0 : TX 15 μ (gFd g) := g2.2.2.2.2.2.2.2
            exact TX_fr t0 (f7 15 (by decide)) (f7 16 (by decide)) (f7 17 (by decide))
        refine m_textM (B := B) g1 m7 hu q (fun i hi => by rw [f7 62 (by decide)]; exact hB62 i hi) hB0 (fun z => absurd z hgood) (fun _ μ2 hf2 hj2 hm2 => ⟨rfl, ?_⟩)
        have rx : ∀ k, k ∈ rxCells → k ∉ [1, 43, 44, 45, 46, 48] ∧ k ∉ [61, 62, 65] := by decide
        refine RR_gen hR (gTx_ok g1 _) (CA_fr ca (fun k hk => hf2 k (by revert k; decide))) hm2 (fun k hk => ?_) ?_ ?_ ?_ ?_
        · obtain ⟨r1, r2⟩ := rx k hk
          rw [hf2 k r2, f7 k r1]
        · rw [hj2 15 (by decide), f7 61 (by decide)]
        · rw [hj2 4 (by decide), f7 61 (by decide)]
        · rw [hj2 5 (by decide), f7 61 (by decide)]
        · rw [hj2 24 (by decide), f7 61 (by decide)]
    rw [g2.1.2.2.2.2.1]
    rcases (by omega : u = 0 ∨ u = 1) with rfl | rfl
    · rw [if_pos (show nI 0 = 0 from rfl)]
      exact main
    · rw [if_neg (by decide)]
      exact main
  · rw [if_pos rfl]
    refine X_err1 ?_
    show w_M_text (fun r2 μ2 => -1000000001 = r2 ∧ RR (n + 1) μ2) p0 (sm_st μ 60 1 (μ 60 1 + 1))
    unfold w_M_text
    refine M_in (fun z => absurd z q) (fun _ => ?_)
    rw [if_pos rfl]
    exact M_err1 ⟨rfl, RR_err hR rfl rfl⟩

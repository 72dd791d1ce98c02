/-! ===== the model: copies, sums ===== -/
theorem m_moveAll {K : sm_Mem → Prop} {k0 k1 : Nat} {μ : sm_Mem} (hne : k0 ≠ k1) (h0 : isArr k0 271) (h1 : isArr k1 271) (hK : ∀ μ2, fr [k1] μ μ2 → (∀ j, j < 271 → μ2 k1 j = μ k0 j) → K μ2) : w_M_moveAll K k0 k1 μ := by
  refine ⟨h0, h1, ?_⟩
  unfold w_M_moveAll_2
  refine ⟨fun m x3 μ2 => ∃ i, m = 271 - i ∧ i ≤ 271 ∧ x3 = nI i ∧ fr [k1] μ μ2 ∧ (∀ j, j < i → μ2 k1 j = μ k0 j), ⟨271, 0, rfl, by omega, rfl, fr_rfl, fun j hj => by omega⟩, ?_⟩
  rintro m x3 μ2 ⟨i, rfl, hi, rfl, hf, hs⟩
  dsimp only
  by_cases hin : i = 271
  · subst hin
    rw [if_pos (by decide)]
    exact hK μ2 hf hs
  · have q : ¬ (271 : Int32) ≤ nI i := nI_le_no (a := 271) (by omega) (by omega) (by omega)
    rw [if_neg q]
    refine ⟨(vin_iff (by omega)).mpr (by omega), (vin_iff (by omega)).mpr (by omega), ?_⟩
    intro μ4 e4
    rw [ix_nI (by omega), hf k0 (by simpa using hne)] at e4
    refine ⟨271 - (i + 1), by omega, i + 1, rfl, by omega, (nI_succ i).symm, by rw [e4]; exact fr_st hf (by simp), fun j hj => ?_⟩
    rw [e4, st_same]
    by_cases z : j = i
    · rw [if_pos z, z]
    · rw [if_neg z]
      exact hs j (by omega)
theorem m_save {K : sm_Mem → Prop} {μ : sm_Mem} (hK : ∀ μ2, fr [64] μ μ2 → (∀ j, j < 271 → μ2 64 j = μ 62 j) → K μ2) : w_M_moveAll K 62 64 μ := m_moveAll (by decide) sm_l62 sm_l64 hK
theorem m_load {K : sm_Mem → Prop} {μ0 μ : sm_Mem} (h64 : ∀ j, j < 271 → μ 64 j = μ0 62 j) (hK : ∀ μ2, fr [62] μ μ2 → (∀ j, j < 271 → μ2 62 j = μ0 62 j) → K μ2) : w_M_moveAll K 64 62 μ := m_moveAll (by decide) sm_l64 sm_l62 (fun μ2 hf hs => hK μ2 hf (fun j hj => (hs j hj).trans (h64 j hj)))
/-- what a query of the model's may change on its way -/
def frz (μ μ2 : sm_Mem) : Prop := fr [61, 62, 64, 65, 67, 71] μ μ2 ∧ ∀ j, j ∉ [7, 8, 9, 10, 11, 12, 13, 14, 17, 18, 25, 26, 27] → μ2 61 j = μ 61 j
theorem frz_rfl {μ : sm_Mem} : frz μ μ := ⟨fr_rfl, fun _ _ => rfl⟩
theorem frz_trans {a b c : sm_Mem} (h : frz a b) (g : frz b c) : frz a c := ⟨fr_trans h.1 g.1, fun j hj => (g.2 j hj).trans (h.2 j hj)⟩
theorem frw.z {a b : sm_Mem} (h : frw a b) : frz a b := ⟨fr_mono h.1 (by simp), fun j hj => h.2 j (fun q => hj (by revert q; simp; omega))⟩
theorem frm.z {a b : sm_Mem} (h : frm a b) : frz a b := h.w.z
theorem frz_of {S : List Nat} {a b : sm_Mem} (h : fr S a b) (hs : ∀ k, k ∈ S → k ∈ [62, 64, 65, 67, 71]) : frz a b := ⟨fr_mono h (fun k hk => by have := hs k hk; revert this; simp; omega), fun j _ => by rw [h 61 (fun q => by have := hs 61 q; revert this; decide)]⟩
theorem frz.q {a b : sm_Mem} (h : frz a b) (hr : ∀ j, j < 271 → b 62 j = a 62 j) : frq a b := ⟨h.1, h.2, hr⟩
theorem m_worthOf {K : Int32 → sm_Mem → Prop} {g : GH} {o : Nat} {μ : sm_Mem} (hg : gOkM g) (hc : MA 62 g μ) (ho : o ≤ 3) (hK : ∀ μ2, frm μ μ2 → K (nI (sumN (fun i => if gOw g i = o then payA g i (gSn g i) else 0) (gN g))) μ2) : w_M_worthOf K (nI o) μ := by
  have h10 := hg.2.1
  unfold w_M_worthOf w_M_worthOf_4
  refine ⟨fun m x2 x3 μ2 => ∃ i, m = gN g - i ∧ i ≤ gN g ∧ x3 = nI i ∧ x2 = nI (sumN (fun i => if gOw g i = o then payA g i (gSn g i) else 0) i) ∧ frm μ μ2, ⟨gN g, 0, rfl, Nat.zero_le _, rfl, rfl, frm_rfl⟩, ?_⟩
  rintro m x2 x3 μ2 ⟨i, rfl, hi, rfl, rfl, hf⟩
  dsimp only
  have hc2 := MA_of hc hf
  rw [hc2.1.2.1]
  by_cases hin : i = gN g
  · subst hin
    rw [if_pos (nI_le_yes (by omega) (by omega) (Nat.le_refl _))]
    exact hK μ2 hf
  · rw [if_neg (nI_le_no (by omega) (by omega) (by omega))]
    have hlt : i < gN g := by omega
    have hw := (hg.2.2.2.2.2.2 i hlt).2.2.2.2
    refine m_its (f := 4) (by omega) (by omega) ?_
    rw [(hc2.2.2.2.1 i hlt).2.2.2.2]
    by_cases q : gOw g i = o
    · rw [if_pos (by rw [q])]
      refine m_pays hg hc2 hlt (fun μ3 hf3 => ?_)
      unfold w_M_worthOf_35
      intro v5 e5
      rw [nI_add] at e5
      refine ⟨gN g - (i + 1), by omega, i + 1, rfl, by omega, (nI_succ i).symm, ?_, frm_trans hf hf3⟩
      rw [e5]
      show _ = nI (sumN _ i + (if gOw g i = o then payA g i (gSn g i) else 0))
      rw [if_pos q]
    · rw [if_neg (fun z => q ((nI_inj (by omega) (by omega)).mp z))]
      unfold w_M_worthOf_35
      intro v5 e5
      refine ⟨gN g - (i + 1), by omega, i + 1, rfl, by omega, (nI_succ i).symm, ?_, hf⟩
      rw [e5]
      show _ = nI (sumN _ i + (if gOw g i = o then payA g i (gSn g i) else 0))
      rw [if_neg q]
      exact Int32.add_zero _
theorem m_snowOfAll {K : Int32 → sm_Mem → Prop} {g : GH} {μ : sm_Mem} (hg : gOkM g) (hc : MA 62 g μ) (hK : K (nI (sumN (gSn g) (gN g))) μ) : w_M_snowOfAll K μ := by
  have h10 := hg.2.1
  unfold w_M_snowOfAll w_M_snowOfAll_4
  refine ⟨fun m x1 x2 μ2 => ∃ i, m = gN g - i ∧ i ≤ gN g ∧ x2 = nI i ∧ x1 = nI (sumN (gSn g) i) ∧ μ2 = μ, ⟨gN g, 0, rfl, Nat.zero_le _, rfl, rfl, rfl⟩, ?_⟩
  rintro m x1 x2 μ2 ⟨i, rfl, hi, rfl, rfl, rfl⟩
  dsimp only
  rw [hc.1.2.1]
  by_cases hin : i = gN g
  · subst hin
    rw [if_pos (nI_le_yes (by omega) (by omega) (Nat.le_refl _))]
    exact hK
  · rw [if_neg (nI_le_no (by omega) (by omega) (by omega))]
    have hlt : i < gN g := by omega
    refine m_its (f := 2) (by omega) (by omega) ?_
    rw [(hc.2.2.2.1 i hlt).2.2.1]
    intro v4 e4
    rw [nI_add] at e4
    exact ⟨gN g - (i + 1), by omega, i + 1, rfl, by omega, (nI_succ i).symm, e4, rfl⟩
theorem x_snowOfAll {K : Int32 → sm_Mem → Prop} {g : GH} {μ : sm_Mem} (hN : gN g ≤ 10) (hc : CA 1 g μ) (hK : K (nI (sumN (gSn g) (gN g))) μ) : w_D_snowOfAll K μ := by
  unfold w_D_snowOfAll w_D_snowOfAll_4
  refine ⟨fun m x1 x2 μ2 => ∃ i, m = gN g - i ∧ i ≤ gN g ∧ x2 = nI i ∧ x1 = nI (sumN (gSn g) i) ∧ μ2 = μ, ⟨gN g, 0, rfl, Nat.zero_le _, rfl, rfl, rfl⟩, ?_⟩
  rintro m x1 x2 μ2 ⟨i, rfl, hi, rfl, rfl, rfl⟩
  dsimp only
  rw [hc.1.2.1]
  by_cases hin : i = gN g
  · subst hin
    rw [if_pos (nI_le_yes (by omega) (by omega) (Nat.le_refl _))]
    exact hK
  · rw [if_neg (nI_le_no (by omega) (by omega) (by omega))]
    have hlt : i < gN g := by omega
    refine ⟨(vin_iff (by omega)).mpr (by omega), ?_⟩
    intro v4 e4
    rw [ix_nI (by omega), show μ2 6 i = _ from (hc.2.2.2.1 i hlt).2.2.1, nI_add] at e4
    exact ⟨gN g - (i + 1), by omega, i + 1, rfl, by omega, (nI_succ i).symm, e4, rfl⟩
/-! ===== methods alike: questions ===== -/
theorem X_err1 {K : Int32 → sm_Mem → Prop} {μ : sm_Mem} (h : K (-1000000001) (sm_st μ 60 1 (μ 60 1 + 1))) : w_X_error K 1 μ := by rw [(X_error_eq K μ).1]; exact h
theorem M_err1 {K : Int32 → sm_Mem → Prop} {μ : sm_Mem} (h : K (-1000000001) (sm_st μ 66 1 (μ 66 1 + 1))) : w_M_errs K (-1000000001) μ := by rw [(M_errs_eq K μ).1]; exact h
theorem X_err2 {K : Int32 → sm_Mem → Prop} {μ : sm_Mem} (h : K (-1000000002) (sm_st μ 60 2 (μ 60 2 + 1))) : w_X_error K 2 μ := by rw [(X_error_eq K μ).2.1]; exact h
theorem M_err2 {K : Int32 → sm_Mem → Prop} {μ : sm_Mem} (h : K (-1000000002) (sm_st μ 66 2 (μ 66 2 + 1))) : w_M_errs K (-1000000002) μ := by rw [(M_errs_eq K μ).2.1]; exact h
theorem X_err3 {K : Int32 → sm_Mem → Prop} {μ : sm_Mem} (h : K (-1000000003) (sm_st μ 60 3 (μ 60 3 + 1))) : w_X_error K 3 μ := by rw [(X_error_eq K μ).2.2.1]; exact h
theorem M_err3 {K : Int32 → sm_Mem → Prop} {μ : sm_Mem} (h : K (-1000000003) (sm_st μ 66 3 (μ 66 3 + 1))) : w_M_errs K (-1000000003) μ := by rw [(M_errs_eq K μ).2.2.1]; exact h
theorem X_err4 {K : Int32 → sm_Mem → Prop} {μ : sm_Mem} (h : K (-1000000004) (sm_st μ 60 4 (μ 60 4 + 1))) : w_X_error K 4 μ := by rw [(X_error_eq K μ).2.2.2.1]; exact h
theorem M_err4 {K : Int32 → sm_Mem → Prop} {μ : sm_Mem} (h : K (-1000000004) (sm_st μ 66 4 (μ 66 4 + 1))) : w_M_errs K (-1000000004) μ := by rw [(M_errs_eq K μ).2.2.2.1]; exact h
theorem X_err5 {K : Int32 → sm_Mem → Prop} {μ : sm_Mem} (h : K (-1000000005) (sm_st μ 60 5 (μ 60 5 + 1))) : w_X_error K 5 μ := by rw [(X_error_eq K μ).2.2.2.2]; exact h
theorem M_err5 {K : Int32 → sm_Mem → Prop} {μ : sm_Mem} (h : K (-1000000005) (sm_st μ 66 5 (μ 66 5 + 1))) : w_M_errs K (-1000000005) μ := by rw [(M_errs_eq K μ).2.2.2.2]; exact h
/-- a condition asked by both: 1 or 0 -/
theorem X_in {K : Int32 → sm_Mem → Prop} {x a b : Int32} {μ : sm_Mem} (hy : a ≤ x ∧ x ≤ b → K 1 μ) (hn : ¬ (a ≤ x ∧ x ≤ b) → K 0 μ) : w_X_within K x a b μ := by
  rw [X_within_eq]
  by_cases q : a ≤ x ∧ x ≤ b
  · rw [if_pos q]; exact hy q
  · rw [if_neg q]; exact hn q
theorem M_in {K : Int32 → sm_Mem → Prop} {x a b : Int32} {μ : sm_Mem} (hy : a ≤ x ∧ x ≤ b → K 1 μ) (hn : ¬ (a ≤ x ∧ x ≤ b) → K 0 μ) : w_M_in K x a b μ := by
  rw [M_in_eq]
  by_cases q : a ≤ x ∧ x ≤ b
  · rw [if_pos q]; exact hy q
  · rw [if_neg q]; exact hn q
theorem M_own {K : Int32 → sm_Mem → Prop} {x : Int32} {μ : sm_Mem} (hy : 0 ≤ x ∧ x ≤ 3 → K 1 μ) (hn : ¬ (0 ≤ x ∧ x ≤ 3) → K 0 μ) : w_M_isOwner K x μ := by
  unfold w_M_isOwner
  exact M_in (fun q => ⟨Or.inr rfl, hy q⟩) (fun q => ⟨Or.inl rfl, hn q⟩)
theorem T_worth (n : Nat) (o : Int32) : Same n (fun K => w_X_worth K o) (fun K => w_M_worth K o) := by
  intro μ hR
  obtain ⟨⟨g, g1, g2, g3⟩, _⟩ := id hR
  show w_X_worth _ o μ
  unfold w_X_worth
  refine X_in (fun q => ?_) (fun q => ?_)
  · rw [if_neg (by decide)]
    obtain ⟨a, ha, e⟩ := sm_ofle (n := 3) (by omega) q.1 q.2
    subst e
    refine x_worthBehind (n := 0) g1 g2 ha (by omega) (fun μ1 hf _ => ?_)
    have hR1 := RR_sx hR hf
    unfold w_M_worth
    refine M_own (fun _ => ?_) (fun z => absurd q z)
    rw [if_neg (by decide)]
    refine m_worthOf (g := g) g1.M (MA_fr g3 (hf 62 (by decide))) ha (fun μ2 hf2 => ?_)
    exact ⟨rfl, RR_q hR1 hf2.q⟩
  · rw [if_pos rfl]
    refine X_err1 ?_
    unfold w_M_worth
    refine M_own (fun z => absurd z q) (fun _ => ?_)
    rw [if_pos rfl]
    exact M_err1 ⟨rfl, RR_err hR rfl rfl⟩
theorem T_law (n : Nat) (u a b c : Int32) : Same n (fun K => w_X_law K u a b c) (fun K => w_M_law K u a b c) := by
  intro μ hR
  obtain ⟨⟨g, g1, g2, g3⟩, _⟩ := id hR
  show w_X_law _ u a b c μ
  unfold w_X_law
  intro v1 e1
  subst e1
  by_cases q0 : v1 = 0
  · rw [if_pos q0]
    refine x_heatBy g2.2.2.2.2.2.2.1 (fun μ1 hf => ?_)
    have hR1 := RR_sx hR (fr_mono hf (by simp))
    unfold w_M_law
    refine M_in (fun _ => ?_) (fun z => absurd (by rw [q0]; decide) z)
    rw [if_neg (by decide), q0]
    exact m_heat (MA_fr g3 (hf 62 (by decide))).2.2.2.2.2.2.1 (fun μ2 hf2 => ⟨rfl, RR_q hR1 hf2.q⟩)
  · rw [if_neg q0]
    by_cases q1 : v1 = 1
    · rw [if_pos q1]
      refine x_foundBy g2.2.2.2.2.2.2.2 (fun μ1 hf => ?_)
      have hR1 := RR_sx hR (fr_mono hf (by simp))
      unfold w_M_law
      refine M_in (fun _ => ?_) (fun z => absurd (by rw [q1]; decide) z)
      rw [if_neg (by decide), q1]
      exact m_found (MA_fr g3 (hf 62 (by decide))).2.2.2.2.2.2.2 (fun μ2 hf2 => ⟨rfl, RR_q hR1 hf2.q⟩)
    · rw [if_neg q1]
      refine X_err1 ?_
      unfold w_M_law
      refine M_in (fun z => ?_) (fun _ => ?_)
      · obtain ⟨k, hk, e⟩ := sm_ofle (n := 1) (by omega) z.1 z.2
        rcases (by omega : k = 0 ∨ k = 1) with rfl | rfl
        · exact absurd e q0
        · exact absurd e q1
      · rw [if_pos rfl]
        exact M_err1 ⟨rfl, RR_err hR rfl rfl⟩

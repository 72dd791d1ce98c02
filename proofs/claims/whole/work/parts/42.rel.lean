/-! ===== what class and model hold alike ===== -/
def rxErr (μ : sm_Mem) : Prop := ∀ k, k ≤ 5 → μ 66 k = μ 60 k
def rxTr (μ : sm_Mem) : Prop := ∃ t, t ≤ 40 ∧ μ 49 1 = nI t ∧ μ 61 24 = nI t ∧ ∀ i, i < t → μ 72 i = μ 50 i
def rxSh (μ : sm_Mem) : Prop := ∀ s, s < 4 → ∃ b l, (b = 0 ∨ b = 8 ∨ b = 16 ∨ b = 32) ∧ l ≤ 40 ∧ μ (52 + 2 * s) 1 = nI b ∧ μ 68 s = nI b ∧ μ (52 + 2 * s) 2 = nI l ∧ μ 69 s = nI l ∧ (b = 0 → l = 0) ∧ ∀ i, i < 40 → μ 70 (40 * s + i) = μ (53 + 2 * s) i
def rxIm (n : Nat) (μ : sm_Mem) : Prop := ∃ c, c ≤ n ∧ μ 0 7 = nI c ∧ μ 61 5 = nI c ∧ μ 61 4 = (if c = 0 then 0 else 1) ∧ (0 < c → ∃ g, gOk g ∧ CA 19 g μ ∧ MA 63 g μ)
def RR (n : Nat) (μ : sm_Mem) : Prop := (∃ g, gOk g ∧ CA 1 g μ ∧ MA 62 g μ) ∧ μ 61 15 = 0 ∧ rxErr μ ∧ rxTr μ ∧ rxSh μ ∧ rxIm n μ
/-- the cells that the rest of the relation speaks of -/
def rxCells : List Nat := [0, 19, 20, 21, 22, 23, 24, 25, 26, 27, 28, 29, 30, 31, 33, 34, 35, 49, 50, 52, 53, 54, 55, 56, 57, 58, 59, 60, 63, 66, 68, 69, 70, 72]
theorem rx_fr {n n2 : Nat} {μ μ2 : sm_Mem} (hn : n ≤ n2) (h : rxErr μ ∧ rxTr μ ∧ rxSh μ ∧ rxIm n μ) (hf : ∀ k, k ∈ rxCells → μ2 k = μ k) (h4 : μ2 61 4 = μ 61 4) (h5 : μ2 61 5 = μ 61 5) (h24 : μ2 61 24 = μ 61 24) : rxErr μ2 ∧ rxTr μ2 ∧ rxSh μ2 ∧ rxIm n2 μ2 := by
  obtain ⟨a, b, c, d⟩ := h
  refine ⟨?_, ?_, ?_, ?_⟩
  · intro k hk
    rw [hf 66 (by decide), hf 60 (by decide)]
    exact a k hk
  · obtain ⟨t, t1, t2, t3, t4⟩ := b
    refine ⟨t, t1, by rw [hf 49 (by decide)]; exact t2, by rw [h24]; exact t3, fun i hi => ?_⟩
    rw [hf 72 (by decide), hf 50 (by decide)]
    exact t4 i hi
  · intro s hs
    obtain ⟨b, l, s1, s2, s3, s4, s5, s6, s7, s8⟩ := c s hs
    have e1 : μ2 (52 + 2 * s) = μ (52 + 2 * s) := hf _ (by rcases (by omega : s = 0 ∨ s = 1 ∨ s = 2 ∨ s = 3) with rfl | rfl | rfl | rfl <;> decide)
    have e2 : μ2 (53 + 2 * s) = μ (53 + 2 * s) := hf _ (by rcases (by omega : s = 0 ∨ s = 1 ∨ s = 2 ∨ s = 3) with rfl | rfl | rfl | rfl <;> decide)
    refine ⟨b, l, s1, s2, by rw [e1]; exact s3, by rw [hf 68 (by decide)]; exact s4, by rw [e1]; exact s5, by rw [hf 69 (by decide)]; exact s6, s7, fun i hi => ?_⟩
    rw [e2, hf 70 (by decide)]
    exact s8 i hi
  · obtain ⟨c, c1, c2, c3, c4, c5⟩ := d
    refine ⟨c, by omega, by rw [hf 0 (by decide)]; exact c2, by rw [h5]; exact c3, by rw [h4]; exact c4, fun hc => ?_⟩
    obtain ⟨g, g1, g2, g3⟩ := c5 hc
    exact ⟨g, g1, CA_fr g2 (fun k hk => hf k (by revert k; decide)), MA_fr g3 (hf 63 (by decide))⟩
/-- the class' own scratch -/
theorem RR_sx {n : Nat} {μ μ2 : sm_Mem} (h : RR n μ) (hf : fr SX μ μ2) : RR n μ2 := by
  obtain ⟨⟨g, g1, g2, g3⟩, h15, hr⟩ := h
  refine ⟨⟨g, g1, CA_of g2 hf, MA_fr g3 (hf 62 (by decide))⟩, by rw [hf 61 (by decide)]; exact h15, ?_⟩
  exact rx_fr (Nat.le_refl _) hr (fun k hk => hf k (by revert k; decide)) (by rw [hf 61 (by decide)]) (by rw [hf 61 (by decide)]) (by rw [hf 61 (by decide)])
/-- a query of the model's: its row is as it was -/
def frq (μ μ2 : sm_Mem) : Prop := fr [61, 62, 64, 65, 67, 71] μ μ2 ∧ (∀ j, j ∉ [7, 8, 9, 10, 11, 12, 13, 14, 17, 18, 25, 26, 27] → μ2 61 j = μ 61 j) ∧ ∀ j, j < 271 → μ2 62 j = μ 62 j
theorem frq_rfl {μ : sm_Mem} : frq μ μ := ⟨fr_rfl, fun _ _ => rfl, fun _ _ => rfl⟩
theorem frm.q {a b : sm_Mem} (h : frm a b) : frq a b := ⟨fr_mono h.1 (by simp), fun j hj => h.2 j (fun q => hj (by revert q; simp; omega)), fun j _ => by rw [h.1 62 (by decide)]⟩
theorem RR_q {n : Nat} {μ μ2 : sm_Mem} (h : RR n μ) (hf : frq μ μ2) : RR (n + 1) μ2 := by
  obtain ⟨⟨g, g1, g2, g3⟩, h15, hr⟩ := h
  refine ⟨⟨g, g1, CA_fr g2 (fun k hk => hf.1 k (by revert k; decide)), MA_lt g1.1 g1.2.1 g1.2.2.2.2.2.2.2.1 g1.2.2.2.2.2.2.2.2.2 g3 hf.2.2⟩, by rw [hf.2.1 15 (by decide)]; exact h15, ?_⟩
  exact rx_fr (by omega) hr (fun k hk => hf.1 k (by revert k; decide)) (hf.2.1 4 (by decide)) (hf.2.1 5 (by decide)) (hf.2.1 24 (by decide))
/-- both count an ERROR -/
theorem RR_err {n k : Nat} {μ μ1 μ2 : sm_Mem} (h : RR n μ) (e1 : μ1 = sm_st μ 60 k (μ 60 k + 1)) (e2 : μ2 = sm_st μ1 66 k (μ1 66 k + 1)) : RR (n + 1) μ2 := by
  obtain ⟨⟨g, g1, g2, g3⟩, h15, a, b, c, d⟩ := h
  have ff : ∀ q, q ≠ 60 → q ≠ 66 → μ2 q = μ q := fun q q1 q2 => by rw [e2, st_ne _ _ _ _ _ q2, e1, st_ne _ _ _ _ _ q1]
  have hr : rxErr μ ∧ rxTr μ ∧ rxSh μ ∧ rxIm n μ := ⟨a, b, c, d⟩
  refine ⟨⟨g, g1, CA_fr g2 (fun k hk => ff k (by revert k; decide) (by revert k; decide)), MA_fr g3 (ff 62 (by decide) (by decide))⟩, by rw [ff 61 (by decide) (by decide)]; exact h15, ?_, ?_, ?_, ?_⟩
  · intro j hj
    rw [e2, st_same, st_ne _ _ _ _ 60 (by decide), e1, st_same, st_ne _ _ _ _ 66 (by decide)]
    by_cases q : j = k
    · subst q
      rw [if_pos rfl, if_pos rfl, a j hj]
    · rw [if_neg q, if_neg q]
      exact a j hj
  · obtain ⟨t, t1, t2, t3, t4⟩ := b
    exact ⟨t, t1, by rw [ff 49 (by decide) (by decide)]; exact t2, by rw [ff 61 (by decide) (by decide)]; exact t3, fun i hi => by rw [ff 72 (by decide) (by decide), ff 50 (by decide) (by decide)]; exact t4 i hi⟩
  · intro s hs
    obtain ⟨b, l, s1, s2, s3, s4, s5, s6, s7, s8⟩ := c s hs
    have e1 : μ2 (52 + 2 * s) = μ (52 + 2 * s) := ff _ (by omega) (by omega)
    have e2 : μ2 (53 + 2 * s) = μ (53 + 2 * s) := ff _ (by omega) (by omega)
    refine ⟨b, l, s1, s2, by rw [e1]; exact s3, by rw [ff 68 (by decide) (by decide)]; exact s4, by rw [e1]; exact s5, by rw [ff 69 (by decide) (by decide)]; exact s6, s7, fun i hi => ?_⟩
    rw [e2, ff 70 (by decide) (by decide)]
    exact s8 i hi
  · obtain ⟨c, c1, c2, c3, c4, c5⟩ := d
    refine ⟨c, by omega, by rw [ff 0 (by decide) (by decide)]; exact c2, by rw [ff 61 (by decide) (by decide)]; exact c3, by rw [ff 61 (by decide) (by decide)]; exact c4, fun hc => ?_⟩
    obtain ⟨g, g1, g2, g3⟩ := c5 hc
    exact ⟨g, g1, CA_fr g2 (fun k hk => ff k (by revert k; decide) (by revert k; decide)), MA_fr g3 (ff 63 (by decide) (by decide))⟩
/-- what is asked of a method: class and model answer alike, and hold alike again -/
def Same (n : Nat) (wx wm : (Int32 → sm_Mem → Prop) → sm_Mem → Prop) : Prop := ∀ μ, RR n μ → wx (fun r1 μ1 => wm (fun r2 μ2 => r1 = r2 ∧ RR (n + 1) μ2) μ1) μ
theorem sm_of {x : Int32} {n : Nat} (hn : n < 2 ^ 31) (h0 : 0 ≤ x) (h1 : x < nI n) : ∃ a, a < n ∧ x = nI a := by
  obtain ⟨a, ha, e⟩ := bd_of hn h0 (Int32.le_of_lt h1)
  subst e
  exact ⟨a, (nI_lt_iff (by omega) hn).mp h1, rfl⟩
theorem sm_ofle {x : Int32} {n : Nat} (hn : n < 2 ^ 31) (h0 : 0 ≤ x) (h1 : x ≤ nI n) : ∃ a, a ≤ n ∧ x = nI a := bd_of hn h0 h1
theorem le_pred {x : Int32} {n : Nat} (hn : n < 2 ^ 31) : x ≤ nI n - 1 ↔ x < nI n := by
  have e : (nI n - 1).toInt = (n : Int) - 1 := by
    rw [Int32.toInt_sub, nI_toInt hn, show (1 : Int32).toInt = 1 from rfl]
    exact Int.bmod_eq_of_le (by omega) (by omega)
  rw [Int32.le_iff_toInt_le, Int32.lt_iff_toInt_lt, e, nI_toInt hn]
  omega
theorem m_isPlace_eq {K : Int32 → sm_Mem → Prop} {x : Int32} {P : Nat} {μ : sm_Mem} (hP : P ≤ 6) (h : μ 62 2 = nI P) (hy : 0 ≤ x ∧ x < nI P → K 1 μ) (hno : ¬ (0 ≤ x ∧ x < nI P) → K 0 μ) : w_M_isPlace K x μ := by
  unfold w_M_isPlace
  rw [M_in_eq, h]
  by_cases q : 0 ≤ x ∧ x < nI P
  · rw [if_pos ⟨q.1, (le_pred (by omega)).mpr q.2⟩]
    exact ⟨Or.inr rfl, hy q⟩
  · rw [if_neg (fun z => q ⟨z.1, (le_pred (by omega)).mp z.2⟩)]
    exact ⟨Or.inl rfl, hno q⟩
theorem m_isNote_eq {K : Int32 → sm_Mem → Prop} {x : Int32} {N : Nat} {μ : sm_Mem} (hN : N ≤ 10) (h : μ 62 7 = nI N) (hy : 0 ≤ x ∧ x < nI N → K 1 μ) (hno : ¬ (0 ≤ x ∧ x < nI N) → K 0 μ) : w_M_isNote K x μ := by
  unfold w_M_isNote
  rw [M_in_eq, h]
  by_cases q : 0 ≤ x ∧ x < nI N
  · rw [if_pos ⟨q.1, (le_pred (by omega)).mpr q.2⟩]
    exact ⟨Or.inr rfl, hy q⟩
  · rw [if_neg (fun z => q ⟨z.1, (le_pred (by omega)).mp z.2⟩)]
    exact ⟨Or.inl rfl, hno q⟩
theorem x_hasPlace_eq {K : Int32 → sm_Mem → Prop} {x : Int32} {P : Nat} {μ : sm_Mem} (h : μ 1 11 = nI P) (hy : 0 ≤ x ∧ x < nI P → K 1 μ) (hno : ¬ (0 ≤ x ∧ x < nI P) → K 0 μ) : w_D_hasPlace K x μ := by
  rw [D_hasPlace_eq, h]
  by_cases q : 0 ≤ x ∧ x < nI P
  · rw [if_pos q]
    exact hy q
  · rw [if_neg q]
    exact hno q
theorem x_hasNote_eq {K : Int32 → sm_Mem → Prop} {x : Int32} {N : Nat} {μ : sm_Mem} (h : μ 1 12 = nI N) (hy : 0 ≤ x ∧ x < nI N → K 1 μ) (hno : ¬ (0 ≤ x ∧ x < nI N) → K 0 μ) : w_D_hasNote K x μ := by
  rw [D_hasNote_eq, h]
  by_cases q : 0 ≤ x ∧ x < nI N
  · rw [if_pos q]
    exact hy q
  · rw [if_neg q]
    exact hno q

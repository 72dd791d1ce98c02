/-! ===== the class: heat, melting, paying, what is left ===== -/
theorem nI_div {a b : Nat} (ha : a < 2 ^ 31) (hb : b < 2 ^ 31) : nI a / nI b = nI (a / b) := (Int32.ofNat_div ha hb).symm
theorem t11 : isText 11 := ⟨sm_l11, sm_l12, sm_l13, sm_l14⟩
theorem t15 : isText 15 := ⟨sm_l15, sm_l16, sm_l17, sm_l18⟩
theorem nI_ne0' {n : Nat} (h0 : 0 < n) (h : n < 2 ^ 31) : ¬ nI n = 0 := nI_ne0 h0 h
theorem x_heatBy {K : Int32 → sm_Mem → Prop} {a b c : Int32} {μ : sm_Mem} {o : Option pV} (hT : TX 11 μ o) (hK : ∀ μ2, fr [14] μ μ2 → K (hF o a b c) μ2) : w_D_heatBy K a b c μ := by
  unfold w_D_heatBy w_T_isMissing
  refine ⟨t11, ?_⟩
  cases o with
  | none =>
    have hT : μ 11 3 = 0 := hT
    rw [if_pos hT]
    dsimp only
    rw [if_neg (by decide)]
    exact hK μ fr_rfl
  | some v =>
    obtain ⟨n, h0, hn, hl, he⟩ := hT
    rw [if_neg (by rw [hl]; exact nI_ne0 h0 (by omega))]
    dsimp only
    rw [if_pos rfl]
    exact x_valueWith t11 hn hl (he a b c) (fun μ2 h => hK μ2 h)
theorem x_foundBy {K : Int32 → sm_Mem → Prop} {a b c : Int32} {μ : sm_Mem} {o : Option pV} (hT : TX 15 μ o) (hK : ∀ μ2, fr [18] μ μ2 → K (fF o a b c) μ2) : w_D_foundBy K a b c μ := by
  unfold w_D_foundBy w_T_isMissing
  refine ⟨t15, ?_⟩
  cases o with
  | none =>
    have hT : μ 15 3 = 0 := hT
    rw [if_pos hT]
    dsimp only
    rw [if_neg (by decide)]
    have h := hK μ fr_rfl
    have e : fF none a b c = if 5 ≤ a then 0 else 1 := rfl
    rw [e] at h
    by_cases c5 : 5 ≤ a
    · rw [if_pos c5] at h ⊢
      exact h
    · rw [if_neg c5] at h ⊢
      exact h
  | some v =>
    obtain ⟨n, h0, hn, hl, he⟩ := hT
    rw [if_neg (by rw [hl]; exact nI_ne0 h0 (by omega))]
    dsimp only
    rw [if_pos rfl]
    exact x_valueWith t15 hn hl (he a b c) (fun μ2 h => hK μ2 h)
def mE0 (kd m h : Int32) : Int32 := if kd = 1 then h / 2 else if kd = 2 then h + 2 else if kd = 3 then h - m else if kd = 4 then h / 2 - 1 else if kd = 5 then 2 * (h + 2) else if kd = 6 then h - m + 9 else h
theorem K_melts_eq (K : Int32 → sm_Mem → Prop) (kd m h : Int32) (μ : sm_Mem) (hK : K (if 0 < mE0 kd m h then mE0 kd m h else 0) μ) : w_K_melts K kd m h μ := by
  unfold w_K_melts w_K_meltsBelowZeroToo
  intro v1 e1
  subst e1
  unfold mE0 at hK
  repeat' split
  all_goals simp_all
theorem mE_tab : ∀ kd, kd < 7 → ∀ m, m < 10 → ∀ h, h < 100 → (if 0 < mE0 (nI kd) (nI m) (nI h) then mE0 (nI kd) (nI m) (nI h) else 0) = nI (mN kd m h) := by decide +kernel
theorem x_melts {K : Int32 → sm_Mem → Prop} {kd m h : Nat} {μ : sm_Mem} (h1 : kd ≤ 6) (h2 : m ≤ 9) (h3 : h ≤ 99) (hK : K (nI (mN kd m h)) μ) : w_K_melts K (nI kd) (nI m) (nI h) μ := by
  apply K_melts_eq
  rw [mE_tab kd (by omega) m (by omega) h (by omega)]
  exact hK
def pE0 (kd m s fo : Int32) : Int32 := if kd = 1 then 2 * s else if kd = 2 then (if fo = 0 then s else 0) else if kd = 3 then (if s ≤ 0 then 0 else s + m) else if kd = 4 then (if s ≤ 0 then 0 else 2 * s + 5) else if kd = 5 then (if fo = 0 then s / 2 else 0) else s
theorem K_pays_eq (K : Int32 → sm_Mem → Prop) (kd m s fo : Int32) (μ : sm_Mem) (hK : K (pE0 kd m s fo) μ) : w_K_pays K kd m s fo μ := by
  unfold w_K_pays
  intro v1 e1
  subst e1
  unfold pE0 at hK
  repeat' split
  all_goals simp_all
def pN0 (kd m s : Nat) (fo : Int32) : Nat := if kd = 1 then 2 * s else if kd = 2 then (if fo = 0 then s else 0) else if kd = 3 then (if s = 0 then 0 else s + m) else if kd = 4 then (if s = 0 then 0 else 2 * s + 5) else if kd = 5 then (if fo = 0 then s / 2 else 0) else s
theorem pE_eq {kd m s : Nat} (fo : Int32) (h1 : kd ≤ 6) (h2 : m ≤ 9) (h3 : s ≤ 999) : pE0 (nI kd) (nI m) (nI s) fo = nI (pN0 kd m s fo) := by
  have hs : ¬ s = 0 → ¬ nI s ≤ 0 := fun h q => absurd ((nI_le_iff (a := s) (b := 0) (by omega) (by omega)).mp q) (by omega)
  have e2 : (2 : Int32) * nI s = nI (2 * s) := nI_mul 2 s
  have e5 : (2 : Int32) * nI s + 5 = nI (2 * s + 5) := by rw [e2]; exact nI_add (2 * s) 5
  have ed : nI s / (2 : Int32) = nI (s / 2) := nI_div (a := s) (b := 2) (by omega) (by omega)
  rcases (by omega : kd = 0 ∨ kd = 1 ∨ kd = 2 ∨ kd = 3 ∨ kd = 4 ∨ kd = 5 ∨ kd = 6) with rfl | rfl | rfl | rfl | rfl | rfl | rfl
  · rfl
  · exact e2
  · show (if fo = 0 then nI s else 0) = nI (if fo = 0 then s else 0)
    split <;> rfl
  · show (if nI s ≤ 0 then 0 else nI s + nI m) = nI (if s = 0 then 0 else s + m)
    by_cases c : s = 0
    · subst c; rfl
    · rw [if_neg (hs c), if_neg c, nI_add]
  · show (if nI s ≤ 0 then 0 else 2 * nI s + 5) = nI (if s = 0 then 0 else 2 * s + 5)
    by_cases c : s = 0
    · subst c; rfl
    · rw [if_neg (hs c), if_neg c, e5]
  · show (if fo = 0 then nI s / 2 else 0) = nI (if fo = 0 then s / 2 else 0)
    split
    · exact ed
    · rfl
  · rfl
def abv (x : Int32) : Int32 := if x < 0 then -1 else if 7 ≤ x then -1 else sm_above.getD x.toNatClampNeg 0
def chn (kd : Nat) : Nat → Int32
  | 0 => nI kd
  | j + 1 => abv (chn kd j)
theorem x_above {K : Int32 → sm_Mem → Prop} {x : Int32} {μ : sm_Mem} (h : K (abv x) μ) : w_K_above K x μ := by
  unfold w_K_above
  unfold abv at h
  by_cases c1 : x < 0
  · rw [if_pos c1] at h ⊢
    exact h
  · rw [if_neg c1] at h ⊢
    by_cases c2 : 7 ≤ x
    · rw [if_pos c2] at h ⊢
      exact h
    · rw [if_neg c2] at h ⊢
      refine ⟨?_, h⟩
      obtain ⟨a, ha, e⟩ := bd_of (n := 6) (by omega) (Int32.not_lt.mp c1) (by
        have h6 := Int32.lt_iff_toInt_lt.mp (Int32.not_le.mp c2)
        rw [Int32.le_iff_toInt_le]
        have e7 : (7 : Int32).toInt = 7 := rfl
        have e6 : (nI 6).toInt = 6 := rfl
        rw [e7] at h6
        rw [e6]
        omega)
      rw [e]
      exact (vin_iff (by omega)).mpr (by omega)
theorem x_isOf {K : Int32 → sm_Mem → Prop} {kd : Nat} {μ : sm_Mem} (h1 : kd ≤ 6) (hK : K (if kd = 2 ∨ kd = 5 then 1 else 0) μ) : w_K_isOf K (nI kd) 2 μ := by
  unfold w_K_isOf w_K_isOf_4
  refine ⟨fun n x2 x3 μ2 => μ2 = μ ∧ ∃ j, j ≤ 3 ∧ n = 3 - j ∧ x3 = nI j ∧ x2 = chn kd j ∧ (∀ z, z < j → ¬ chn kd z = 2), ⟨3, rfl, 0, by omega, rfl, rfl, rfl, fun z hz => by omega⟩, ?_⟩
  rintro n x2 x3 μ2 ⟨rfl, j, hj, rfl, rfl, rfl, hz⟩
  have nx : j < 3 → ¬ chn kd j = 2 → w_K_above (fun r5 μ4 => (fun a0 a1 μ3 => ∃ k, k < 3 - j ∧ (μ3 = μ2 ∧ ∃ j, j ≤ 3 ∧ k = 3 - j ∧ a1 = nI j ∧ a0 = chn kd j ∧ ∀ z, z < j → ¬ chn kd z = 2)) r5 (nI j + 1) μ4) (chn kd j) μ2 := by
    intro hlt hne
    apply x_above
    refine ⟨3 - (j + 1), by omega, rfl, j + 1, by omega, rfl, (nI_succ j).symm, rfl, fun z hz2 => ?_⟩
    by_cases q : z < j
    · exact hz z q
    · have : z = j := by omega
      subst this
      exact hne
  dsimp only
  rcases (by omega : kd = 0 ∨ kd = 1 ∨ kd = 2 ∨ kd = 3 ∨ kd = 4 ∨ kd = 5 ∨ kd = 6) with rfl | rfl | rfl | rfl | rfl | rfl | rfl <;>
  rcases (by omega : j = 0 ∨ j = 1 ∨ j = 2 ∨ j = 3) with rfl | rfl | rfl | rfl <;>
  first
    | exact absurd (by decide) (hz 0 (by omega))
    | exact absurd (by decide) (hz 1 (by omega))
    | (rw [if_neg (by decide), if_pos (by decide)]; exact hK)
    | (rw [if_neg (by decide), if_neg (by decide), if_pos (by decide)]; exact hK)
    | (rw [if_neg (by decide), if_neg (by decide), if_neg (by decide)]; exact nx (by omega) (by decide))

/-! ===== methods alike: voice ===== -/
def vF0 (N x : Int32) : Int32 × List Int32 := (x + N, [10])
def vF1 (N x : Int32) : Int32 × List Int32 := ((vF0 N x).1 * 3, 20 :: (vF0 N x).2)
def vFa (kd : Nat) (N x : Int32) : Int32 × List Int32 := if kd = 1 ∨ kd = 4 then vF1 N x else vF0 N x
def vP0 (M x : Int32) : Int32 × List Int32 := (x - M, [12])
def vP3 (M x : Int32) : Int32 × List Int32 := (-(vP0 M x).1, 40 :: (vP0 M x).2)
def vP6 (N M x : Int32) : Int32 × List Int32 := ((vP3 M x).1 ^^^ N, 70 :: (vP3 M x).2)
def vPa (kd : Nat) (N M x : Int32) : Int32 × List Int32 := if kd = 3 then vP3 M x else if kd = 6 then vP6 N M x else vP0 M x
def vM0 (k : Nat) (N x : Int32) : Int32 × List Int32 := ((vFa k N x).1 * 2, 11 :: (vFa k N x).2)
def vM2 (k : Nat) (N M x : Int32) : Int32 × List Int32 := ((vM0 k N x).1 - (vPa k N M 1).1, 30 :: ((vM0 k N x).2 ++ (vPa k N M 1).2))
def vM5 (k : Nat) (N M x : Int32) : Int32 × List Int32 := ((vM2 k N M (x + 1)).1, 60 :: (vM2 k N M (x + 1)).2)
def vMa (k kd : Nat) (N M x : Int32) : Int32 × List Int32 := if kd = 2 then vM2 k N M x else if kd = 5 then vM5 k N M x else vM0 k N x
def vR0 (k : Nat) (N M x : Int32) : Int32 × List Int32 := ((vMa k k N M x).1 ^^^ (vPa k N M x).1, 13 :: ((vMa k k N M x).2 ++ (vPa k N M x).2))
def vR4 (k : Nat) (N M x : Int32) : Int32 × List Int32 := ((vR0 k N M x).1 - (vFa k N 2).1, 50 :: ((vR0 k N M x).2 ++ (vFa k N 2).2))
def vR6 (k : Nat) (N M x : Int32) : Int32 × List Int32 := ((vMa k k N M x).1 - (vR0 k N M x).1, 71 :: ((vMa k k N M x).2 ++ (vR0 k N M x).2))
def vRa (k kd : Nat) (N M x : Int32) : Int32 × List Int32 := if kd = 4 then vR4 k N M x else if kd = 6 then vR6 k N M x else vR0 k N M x
def aN (a : Nat) : Nat := if a ≤ 3 then 0 else a - 3
def vBr (a act : Nat) : Nat := if act = 0 then (if a = 1 ∨ a = 4 then 1 else 0) else if act = 1 then (if a = 2 ∨ a = 5 then a else 0) else if act = 2 then (if a = 3 ∨ a = 6 then a else 0) else (if a = 4 ∨ a = 6 then a else 0)
theorem vBr_t1 : ∀ a, a < 7 → ∀ act, act < 4 → vBr a act ≤ 6 ∧ (a = 0 → vBr a act = a) := by decide +kernel
theorem vBr_t2 : ∀ a, a < 7 → ∀ act, act < 4 → sm_bodies.getD (a * 4 + act) 0 = 0 ∨ vBr a act = a := by decide +kernel
theorem vBr_t3 : ∀ a, a < 7 → ∀ act, act < 4 → a = 0 ∨ ¬ sm_bodies.getD (a * 4 + act) 0 = 0 ∨ vBr (aN a) act = vBr a act := by decide +kernel
theorem vBr_t4 : ∀ a, a < 7 → a = 0 ∨ (aN a < a ∧ abv (nI a) = nI (aN a)) := by decide +kernel
theorem vBr_tab (a : Nat) (ha : a < 7) (act : Nat) (hb : act < 4) : vBr a act ≤ 6 ∧ (a = 0 → vBr a act = a) ∧ (¬ sm_bodies.getD (a * 4 + act) 0 = 0 → vBr a act = a) ∧ (a ≠ 0 → sm_bodies.getD (a * 4 + act) 0 = 0 → vBr (aN a) act = vBr a act) ∧ (a ≠ 0 → aN a < a ∧ abv (nI a) = nI (aN a)) :=
  ⟨(vBr_t1 a ha act hb).1, (vBr_t1 a ha act hb).2, fun h => (vBr_t2 a ha act hb).resolve_left h, fun h0 h1 => ((vBr_t3 a ha act hb).resolve_left h0).resolve_left (fun z => z h1), fun h0 => (vBr_t4 a ha).resolve_left h0⟩
/-- the trace so far, in the class -/
def vx (μ0 : sm_Mem) (L : List Int32) (μ : sm_Mem) : Prop := fr [49, 50] μ0 μ ∧ (∀ j, j ≠ 1 → μ 49 j = μ0 49 j) ∧ μ 49 1 = nI L.length ∧ ∀ i, i < L.length → μ 50 i = L.getD i 0
theorem getD_snoc {L : List Int32} {b : Int32} {i : Nat} : (L ++ [b]).getD i 0 = if i = L.length then b else L.getD i 0 := by
  by_cases h : i < L.length
  · rw [if_neg (by omega)]
    simp [List.getD, List.getElem?_append_left h]
  · by_cases e : i = L.length
    · subst e
      simp [List.getD]
    · rw [if_neg e]
      have h1 : (L ++ [b]).length ≤ i := by simp; omega
      simp [List.getD, List.getElem?_eq_none h1, List.getElem?_eq_none (show L.length ≤ i by omega)]
theorem vx_push {μ0 : sm_Mem} {L : List Int32} {b : Int32} {μ : sm_Mem} (h : vx μ0 L μ) : vx μ0 (L ++ [b]) (sm_st (sm_st μ 50 L.length b) 49 1 (nI (L.length + 1))) := by
  obtain ⟨h1, h2, h3, h4⟩ := h
  refine ⟨fr_st (fr_st h1 (by simp)) (by simp), fun j hj => ?_, ?_, fun i hi => ?_⟩
  · rw [st_same, if_neg hj, st_ne _ _ _ _ _ (by decide)]
    exact h2 j hj
  · rw [st_same, if_pos rfl]
    simp
  · rw [st_ne _ _ _ _ _ (by decide), st_same, getD_snoc]
    by_cases e : i = L.length
    · rw [if_pos e, if_pos e]
    · rw [if_neg e, if_neg e]
      refine h4 i ?_
      simp at hi
      omega
theorem x_bodyOf {K : Int32 → sm_Mem → Prop} {a b : Nat} {μ : sm_Mem} (ha : a < 7) (hb : b < 4) (hK : K (sm_bodies.getD (a * 4 + b) 0) μ) : w_V_bodyOf K (nI a) (nI b) μ := by
  unfold w_V_bodyOf
  intro v1 e1
  have e : v1 = nI (a * 4 + b) := by
    rw [e1, show nI a * (4 : Int32) = nI (a * 4) from nI_mul a 4, nI_add]
  subst e
  have n1 : ¬ nI (a * 4 + b) < 0 := nI_lt_no (b := 0) (by omega) (by omega) (by omega)
  have n2 : ¬ (28 : Int32) ≤ nI (a * 4 + b) := nI_le_no (a := 28) (by omega) (by omega) (by omega)
  rw [if_neg n1, if_neg n2, ix_nI (by omega)]
  exact ⟨(vin_iff (by omega)).mpr (by omega), hK⟩
theorem x_speak {K : Int32 → sm_Mem → Prop} {μ0 : sm_Mem} {n kd act deep : Nat} {x b u : Int32} {L : List Int32} {μ : sm_Mem} (hk : kd ≤ 6) (ha : act ≤ 3) (hd : deep ≤ 30) (hL : L.length < 40) (hx : vx μ0 L μ) (hb : sm_bodies.getD (vBr kd act * 4 + act) 0 = b) (hu : abv (nI (vBr kd act)) = u) (h : ∀ μ2, vx μ0 (L ++ [b]) μ2 → w_V_work (wg_V n) K b u x (nI (deep + 1)) μ2) : wg_V (n + 2) 0 K (nI kd) (nI act) x (nI deep) μ := by
  show w_V_speak (wg_V (n + 1)) K (nI kd) (nI act) x (nI deep) μ
  unfold w_V_speak
  have hd2 : nI deep ≤ 30 := nI_le_yes (b := 30) (by omega) (by omega) hd
  rw [if_pos hd2]
  have fin : w_V_speak_49 (wg_V (n + 1)) K (nI kd) (nI act) x (nI deep) (nI (vBr kd act)) μ := by
    unfold w_V_speak_49
    have ht := (vBr_tab kd (by omega) act (by omega)).1
    refine x_bodyOf (by omega) (by omega) ?_
    rw [hb, hx.2.2.1]
    have n40 : ¬ (40 : Int32) ≤ nI L.length := nI_le_no (a := 40) (by omega) (by omega) (by omega)
    rw [if_neg n40]
    refine ⟨(vin_iff (by omega)).mpr (by omega), ?_⟩
    intro μ11 e11 μ12 e12
    rw [ix_nI (by omega)] at e11
    have e : μ11 49 1 + 1 = nI (L.length + 1) := by rw [e11, st_ne _ _ _ _ _ (by decide), hx.2.2.1, nI_succ]
    rw [e, e11] at e12
    unfold w_V_speak_87
    apply x_above
    rw [hu, ← nI_succ]
    show w_V_work (wg_V n) K b u x (nI (deep + 1)) μ12
    refine h μ12 ?_
    rw [e12]
    exact vx_push hx
  unfold w_V_speak_15
  refine ⟨fun m x5 x6 μ2 => μ2 = μ ∧ m ≤ 6 ∧ x5 = nI m ∧ vBr m act = vBr kd act ∧ ∃ j, x6 = nI j ∧ j + m ≤ 6, ⟨kd, rfl, hk, rfl, rfl, 0, rfl, by omega⟩, ?_⟩
  rintro m x5 x6 μ2 ⟨rfl, hm, rfl, hv, j, rfl, hj⟩
  dsimp only
  have n7 : ¬ (7 : Int32) ≤ nI j := nI_le_no (a := 7) (by omega) (by omega) (by omega)
  rw [if_neg n7]
  obtain ⟨t1, t2, t3, t4, t5⟩ := vBr_tab m (by omega) act (by omega)
  by_cases m0 : m = 0
  · rw [if_pos (by rw [m0]; decide)]
    rw [← hv, t2 m0] at fin
    exact fin
  · have m1 : ¬ nI m ≤ 0 := nI_le_no (b := 0) (by omega) (by omega) (by omega)
    rw [if_neg m1]
    refine x_bodyOf (by omega) (by omega) ?_
    by_cases c : sm_bodies.getD (m * 4 + act) 0 = 0
    · rw [if_pos c]
      apply x_above
      obtain ⟨a1, a2⟩ := t5 m0
      rw [a2]
      exact ⟨aN m, a1, rfl, by omega, rfl, by rw [t4 m0 c]; exact hv, j + 1, (nI_succ j).symm, by omega⟩
    · rw [if_neg c]
      rw [← hv, t3 c] at fin
      exact fin
/-- what a voice of the class says: the number, and the bodies that ran -/
def VC (μ0 : sm_Mem) (d kd act : Nat) (r : Int32 → Int32 × List Int32) : Prop := ∀ (n deep : Nat) (K : Int32 → sm_Mem → Prop) (x : Int32) (L : List Int32) (μ : sm_Mem), 2 * d ≤ n → deep + d ≤ 31 → vx μ0 L μ → L.length + (r x).2.length ≤ 40 → (∀ μ2, vx μ0 (L ++ (r x).2) μ2 → K (r x).1 μ2) → wg_V n 0 K (nI kd) (nI act) x (nI deep) μ
theorem vc_F0 {μ0 : sm_Mem} {kd : Nat} (hk : kd ≤ 6) (hn : ¬ (kd = 1 ∨ kd = 4)) : VC μ0 1 kd 0 (vF0 (μ0 49 3)) := by
  intro n deep K x L μ h1 h2 hx hl hK
  obtain ⟨z, rfl⟩ : ∃ z, n = z + 2 := ⟨n - 2, by omega⟩
  have hl : L.length + 1 ≤ 40 := hl
  have hv : vBr kd 0 = 0 := by unfold vBr; rw [if_pos rfl, if_neg hn]
  refine x_speak (b := 10) (u := -1) hk (by omega) (by omega) (by omega) hx (by rw [hv]; rfl) (by rw [hv]; rfl) (fun μ2 h => ?_)
  unfold w_V_work
  intro v1 e1
  subst e1
  rw [if_pos rfl, h.2.1 3 (by decide)]
  exact hK μ2 h
theorem vc_F1 {μ0 : sm_Mem} {kd : Nat} (hn : kd = 1 ∨ kd = 4) : VC μ0 2 kd 0 (vF1 (μ0 49 3)) := by
  intro n deep K x L μ h1 h2 hx hl hK
  obtain ⟨z, rfl⟩ : ∃ z, n = z + 2 := ⟨n - 2, by omega⟩
  have hl : L.length + 2 ≤ 40 := hl
  have hv : vBr kd 0 = 1 := by unfold vBr; rw [if_pos rfl, if_pos hn]
  refine x_speak (b := 20) (u := nI 0) (by omega) (by omega) (by omega) (by omega) hx (by rw [hv]; rfl) (by rw [hv]; decide) (fun μ2 h => ?_)
  unfold w_V_work
  intro v1 e1
  subst e1
  rw [if_neg (by decide), if_neg (by decide), if_neg (by decide), if_neg (by decide), if_pos rfl]
  refine vc_F0 (kd := 0) (by omega) (by omega) z (deep + 1) _ x (L ++ [20]) μ2 (by omega) (by omega) h (by simp [vF0]; omega) (fun μ3 h3 => ?_)
  exact hK μ3 (by simpa [vF1, vF0, List.append_assoc] using h3)
theorem vc_Fa {μ0 : sm_Mem} {kd : Nat} (hk : kd ≤ 6) : VC μ0 2 kd 0 (vFa kd (μ0 49 3)) := by
  intro n deep K x L μ h1 h2 hx hl hK
  unfold vFa at hl hK
  by_cases q : kd = 1 ∨ kd = 4
  · simp only [if_pos q] at hl hK
    exact vc_F1 q n deep K x L μ h1 h2 hx hl hK
  · simp only [if_neg q] at hl hK
    exact vc_F0 hk q n deep K x L μ (by omega) (by omega) hx hl hK
theorem vc_P0 {μ0 : sm_Mem} {kd : Nat} (hk : kd ≤ 6) (hn : ¬ (kd = 3 ∨ kd = 6)) : VC μ0 1 kd 2 (vP0 (μ0 49 4)) := by
  intro n deep K x L μ h1 h2 hx hl hK
  obtain ⟨z, rfl⟩ : ∃ z, n = z + 2 := ⟨n - 2, by omega⟩
  have hl : L.length + 1 ≤ 40 := hl
  have hv : vBr kd 2 = 0 := by unfold vBr; rw [if_neg (by decide), if_neg (by decide), if_pos rfl, if_neg hn]
  refine x_speak (b := 12) (u := -1) hk (by omega) (by omega) (by omega) hx (by rw [hv]; rfl) (by rw [hv]; rfl) (fun μ2 h => ?_)
  unfold w_V_work
  intro v1 e1
  subst e1
  rw [if_neg (by decide), if_neg (by decide), if_pos rfl, h.2.1 4 (by decide)]
  exact hK μ2 h
theorem vc_P3 {μ0 : sm_Mem} : VC μ0 2 3 2 (vP3 (μ0 49 4)) := by
  intro n deep K x L μ h1 h2 hx hl hK
  obtain ⟨z, rfl⟩ : ∃ z, n = z + 2 := ⟨n - 2, by omega⟩
  have hl : L.length + 2 ≤ 40 := hl
  refine x_speak (b := 40) (u := nI 0) (by omega) (by omega) (by omega) (by omega) hx rfl (by decide) (fun μ2 h => ?_)
  unfold w_V_work
  intro v1 e1
  subst e1
  rw [if_neg (by decide), if_neg (by decide), if_neg (by decide), if_neg (by decide), if_neg (by decide), if_neg (by decide), if_pos rfl]
  refine vc_P0 (kd := 0) (by omega) (by omega) z (deep + 1) _ x (L ++ [40]) μ2 (by omega) (by omega) h (by simp [vP0]; omega) (fun μ3 h3 => ?_)
  exact hK μ3 (by simpa [vP3, vP0, List.append_assoc] using h3)
theorem vc_P6 {μ0 : sm_Mem} : VC μ0 3 6 2 (vP6 (μ0 49 3) (μ0 49 4)) := by
  intro n deep K x L μ h1 h2 hx hl hK
  obtain ⟨z, rfl⟩ : ∃ z, n = z + 2 := ⟨n - 2, by omega⟩
  have hl : L.length + 3 ≤ 40 := hl
  refine x_speak (b := 70) (u := nI 3) (by omega) (by omega) (by omega) (by omega) hx rfl (by decide) (fun μ2 h => ?_)
  unfold w_V_work
  intro v1 e1
  subst e1
  rw [if_neg (by decide), if_neg (by decide), if_neg (by decide), if_neg (by decide), if_neg (by decide), if_neg (by decide), if_neg (by decide), if_neg (by decide), if_neg (by decide), if_pos rfl]
  refine vc_P3 z (deep + 1) _ x (L ++ [70]) μ2 (by omega) (by omega) h (by simp [vP3, vP0]; omega) (fun μ3 h3 => ?_)
  rw [h3.2.1 3 (by decide)]
  exact hK μ3 (by simpa [vP6, vP3, vP0, List.append_assoc] using h3)
theorem vc_Pa {μ0 : sm_Mem} {kd : Nat} (hk : kd ≤ 6) : VC μ0 3 kd 2 (vPa kd (μ0 49 3) (μ0 49 4)) := by
  intro n deep K x L μ h1 h2 hx hl hK
  unfold vPa at hl hK
  by_cases q3 : kd = 3
  · simp only [if_pos q3] at hl hK
    subst q3
    exact vc_P3 n deep K x L μ (by omega) (by omega) hx hl hK
  · by_cases q6 : kd = 6
    · simp only [if_neg q3, if_pos q6] at hl hK
      subst q6
      exact vc_P6 n deep K x L μ h1 h2 hx hl hK
    · simp only [if_neg q3, if_neg q6] at hl hK
      exact vc_P0 hk (by omega) n deep K x L μ (by omega) (by omega) hx hl hK
theorem vc_M0 {μ0 : sm_Mem} {k kd : Nat} (h0 : μ0 49 2 = nI k) (hk0 : k ≤ 6) (hk : kd ≤ 6) (hn : ¬ (kd = 2 ∨ kd = 5)) : VC μ0 3 kd 1 (vM0 k (μ0 49 3)) := by
  intro n deep K x L μ h1 h2 hx hl hK
  obtain ⟨z, rfl⟩ : ∃ z, n = z + 2 := ⟨n - 2, by omega⟩
  have hl : L.length + ((vFa k (μ0 49 3) x).2.length + 1) ≤ 40 := hl
  have hv : vBr kd 1 = 0 := by unfold vBr; rw [if_neg (by decide), if_pos rfl, if_neg hn]
  refine x_speak (b := 11) (u := -1) hk (by omega) (by omega) (by omega) hx (by rw [hv]; rfl) (by rw [hv]; rfl) (fun μ2 h => ?_)
  unfold w_V_work
  intro v1 e1
  subst e1
  rw [if_neg (by decide), if_pos rfl, h.2.1 2 (by decide), h0]
  refine vc_Fa hk0 z (deep + 1) _ x (L ++ [11]) μ2 (by omega) (by omega) h (by simp; omega) (fun μ3 h3 => ?_)
  exact hK μ3 (by simpa [vM0, List.append_assoc] using h3)
theorem vc_M2 {μ0 : sm_Mem} {k : Nat} (h0 : μ0 49 2 = nI k) (hk0 : k ≤ 6) : VC μ0 4 2 1 (vM2 k (μ0 49 3) (μ0 49 4)) := by
  intro n deep K x L μ h1 h2 hx hl hK
  obtain ⟨z, rfl⟩ : ∃ z, n = z + 2 := ⟨n - 2, by omega⟩
  have hl : L.length + (((vM0 k (μ0 49 3) x).2 ++ (vPa k (μ0 49 3) (μ0 49 4) 1).2).length + 1) ≤ 40 := hl
  rw [List.length_append] at hl
  refine x_speak (b := 30) (u := nI 0) (by omega) (by omega) (by omega) (by omega) hx rfl (by decide) (fun μ2 h => ?_)
  unfold w_V_work
  intro v1 e1
  subst e1
  rw [if_neg (by decide), if_neg (by decide), if_neg (by decide), if_neg (by decide), if_neg (by decide), if_pos rfl]
  refine vc_M0 h0 hk0 (kd := 0) (by omega) (by omega) z (deep + 1) _ x (L ++ [30]) μ2 (by omega) (by omega) h (by simp; omega) (fun μ3 h3 => ?_)
  rw [h3.2.1 2 (by decide), h0]
  refine vc_Pa hk0 z (deep + 1) _ 1 _ μ3 (by omega) (by omega) h3 (by simp; omega) (fun μ4 h4 => ?_)
  exact hK μ4 (by simpa [vM2, List.append_assoc] using h4)
theorem vc_M5 {μ0 : sm_Mem} {k : Nat} (h0 : μ0 49 2 = nI k) (hk0 : k ≤ 6) : VC μ0 5 5 1 (vM5 k (μ0 49 3) (μ0 49 4)) := by
  intro n deep K x L μ h1 h2 hx hl hK
  obtain ⟨z, rfl⟩ : ∃ z, n = z + 2 := ⟨n - 2, by omega⟩
  have hl : L.length + ((vM2 k (μ0 49 3) (μ0 49 4) (x + 1)).2.length + 1) ≤ 40 := hl
  refine x_speak (b := 60) (u := nI 2) (by omega) (by omega) (by omega) (by omega) hx rfl (by decide) (fun μ2 h => ?_)
  unfold w_V_work
  intro v1 e1
  subst e1
  rw [if_neg (by decide), if_neg (by decide), if_neg (by decide), if_neg (by decide), if_neg (by decide), if_neg (by decide), if_neg (by decide), if_neg (by decide), if_pos rfl]
  refine vc_M2 h0 hk0 z (deep + 1) _ (x + 1) (L ++ [60]) μ2 (by omega) (by omega) h (by simp; omega) (fun μ3 h3 => ?_)
  exact hK μ3 (by simpa [vM5, List.append_assoc] using h3)
theorem vc_Ma {μ0 : sm_Mem} {k kd : Nat} (h0 : μ0 49 2 = nI k) (hk0 : k ≤ 6) (hk : kd ≤ 6) : VC μ0 5 kd 1 (vMa k kd (μ0 49 3) (μ0 49 4)) := by
  intro n deep K x L μ h1 h2 hx hl hK
  unfold vMa at hl hK
  by_cases q3 : kd = 2
  · simp only [if_pos q3] at hl hK
    subst q3
    exact vc_M2 h0 hk0 n deep K x L μ (by omega) (by omega) hx hl hK
  · by_cases q6 : kd = 5
    · simp only [if_neg q3, if_pos q6] at hl hK
      subst q6
      exact vc_M5 h0 hk0 n deep K x L μ h1 h2 hx hl hK
    · simp only [if_neg q3, if_neg q6] at hl hK
      exact vc_M0 h0 hk0 hk (by omega) n deep K x L μ (by omega) (by omega) hx hl hK
theorem vc_R0 {μ0 : sm_Mem} {k kd : Nat} (h0 : μ0 49 2 = nI k) (hk0 : k ≤ 6) (hk : kd ≤ 6) (hn : ¬ (kd = 4 ∨ kd = 6)) : VC μ0 6 kd 3 (vR0 k (μ0 49 3) (μ0 49 4)) := by
  intro n deep K x L μ h1 h2 hx hl hK
  obtain ⟨z, rfl⟩ : ∃ z, n = z + 2 := ⟨n - 2, by omega⟩
  have hl : L.length + (((vMa k k (μ0 49 3) (μ0 49 4) x).2 ++ (vPa k (μ0 49 3) (μ0 49 4) x).2).length + 1) ≤ 40 := hl
  rw [List.length_append] at hl
  have hv : vBr kd 3 = 0 := by unfold vBr; rw [if_neg (by decide), if_neg (by decide), if_neg (by decide), if_neg hn]
  refine x_speak (b := 13) (u := -1) hk (by omega) (by omega) (by omega) hx (by rw [hv]; rfl) (by rw [hv]; rfl) (fun μ2 h => ?_)
  unfold w_V_work
  intro v1 e1
  subst e1
  rw [if_neg (by decide), if_neg (by decide), if_neg (by decide), if_pos rfl, h.2.1 2 (by decide), h0]
  refine vc_Ma h0 hk0 hk0 z (deep + 1) _ x (L ++ [13]) μ2 (by omega) (by omega) h (by simp; omega) (fun μ3 h3 => ?_)
  rw [h3.2.1 2 (by decide), h0]
  refine vc_Pa hk0 z (deep + 1) _ x _ μ3 (by omega) (by omega) h3 (by simp; omega) (fun μ4 h4 => ?_)
  exact hK μ4 (by simpa [vR0, List.append_assoc] using h4)
theorem vc_R4 {μ0 : sm_Mem} {k : Nat} (h0 : μ0 49 2 = nI k) (hk0 : k ≤ 6) : VC μ0 7 4 3 (vR4 k (μ0 49 3) (μ0 49 4)) := by
  intro n deep K x L μ h1 h2 hx hl hK
  obtain ⟨z, rfl⟩ : ∃ z, n = z + 2 := ⟨n - 2, by omega⟩
  have hl : L.length + (((vR0 k (μ0 49 3) (μ0 49 4) x).2 ++ (vFa k (μ0 49 3) 2).2).length + 1) ≤ 40 := hl
  rw [List.length_append] at hl
  refine x_speak (b := 50) (u := nI 1) (by omega) (by omega) (by omega) (by omega) hx rfl (by decide) (fun μ2 h => ?_)
  unfold w_V_work
  intro v1 e1
  subst e1
  rw [if_neg (by decide), if_neg (by decide), if_neg (by decide), if_neg (by decide), if_neg (by decide), if_neg (by decide), if_neg (by decide), if_pos rfl]
  refine vc_R0 h0 hk0 (kd := 1) (by omega) (by omega) z (deep + 1) _ x (L ++ [50]) μ2 (by omega) (by omega) h (by simp; omega) (fun μ3 h3 => ?_)
  rw [h3.2.1 2 (by decide), h0]
  refine vc_Fa hk0 z (deep + 1) _ 2 _ μ3 (by omega) (by omega) h3 (by simp; omega) (fun μ4 h4 => ?_)
  exact hK μ4 (by simpa [vR4, List.append_assoc] using h4)
theorem vc_R6 {μ0 : sm_Mem} {k : Nat} (h0 : μ0 49 2 = nI k) (hk0 : k ≤ 6) : VC μ0 7 6 3 (vR6 k (μ0 49 3) (μ0 49 4)) := by
  intro n deep K x L μ h1 h2 hx hl hK
  obtain ⟨z, rfl⟩ : ∃ z, n = z + 2 := ⟨n - 2, by omega⟩
  have hl : L.length + (((vMa k k (μ0 49 3) (μ0 49 4) x).2 ++ (vR0 k (μ0 49 3) (μ0 49 4) x).2).length + 1) ≤ 40 := hl
  rw [List.length_append] at hl
  refine x_speak (b := 71) (u := nI 3) (by omega) (by omega) (by omega) (by omega) hx rfl (by decide) (fun μ2 h => ?_)
  unfold w_V_work
  intro v1 e1
  subst e1
  rw [if_neg (by decide), if_neg (by decide), if_neg (by decide), if_neg (by decide), if_neg (by decide), if_neg (by decide), if_neg (by decide), if_neg (by decide), if_neg (by decide), if_neg (by decide), if_pos rfl, h.2.1 2 (by decide), h0]
  refine vc_Ma h0 hk0 hk0 z (deep + 1) _ x (L ++ [71]) μ2 (by omega) (by omega) h (by simp; omega) (fun μ3 h3 => ?_)
  refine vc_R0 h0 hk0 (kd := 3) (by omega) (by omega) z (deep + 1) _ x _ μ3 (by omega) (by omega) h3 (by simp; omega) (fun μ4 h4 => ?_)
  exact hK μ4 (by simpa [vR6, List.append_assoc] using h4)
theorem vc_Ra {μ0 : sm_Mem} {k kd : Nat} (h0 : μ0 49 2 = nI k) (hk0 : k ≤ 6) (hk : kd ≤ 6) : VC μ0 7 kd 3 (vRa k kd (μ0 49 3) (μ0 49 4)) := by
  intro n deep K x L μ h1 h2 hx hl hK
  unfold vRa at hl hK
  by_cases q3 : kd = 4
  · simp only [if_pos q3] at hl hK
    subst q3
    exact vc_R4 h0 hk0 n deep K x L μ h1 h2 hx hl hK
  · by_cases q6 : kd = 6
    · simp only [if_neg q3, if_pos q6] at hl hK
      subst q6
      exact vc_R6 h0 hk0 n deep K x L μ h1 h2 hx hl hK
    · simp only [if_neg q3, if_neg q6] at hl hK
      exact vc_R0 h0 hk0 hk (by omega) n deep K x L μ (by omega) (by omega) hx hl hK
/-- what is said of all four acts -/
def vAll (k act : Nat) (N M x : Int32) : Int32 × List Int32 := if act = 0 then vFa k N x else if act = 1 then vMa k k N M x else if act = 2 then vPa k N M x else vRa k k N M x
theorem vAll_len {k act : Nat} (hk : k ≤ 6) (N M x : Int32) : (vAll k act N M x).2.length ≤ 40 := by
  unfold vAll
  rcases (by omega : k = 0 ∨ k = 1 ∨ k = 2 ∨ k = 3 ∨ k = 4 ∨ k = 5 ∨ k = 6) with rfl | rfl | rfl | rfl | rfl | rfl | rfl <;>
  (repeat' split) <;> simp [vFa, vMa, vPa, vRa, vF0, vF1, vP0, vP3, vP6, vM0, vM2, vM5, vR0, vR4, vR6]
theorem vc_all {μ0 : sm_Mem} {k act : Nat} (h0 : μ0 49 2 = nI k) (hk0 : k ≤ 6) (ha : act ≤ 3) : VC μ0 7 k act (vAll k act (μ0 49 3) (μ0 49 4)) := by
  intro n deep K x L μ h1 h2 hx hl hK
  unfold vAll at hl hK
  rcases (by omega : act = 0 ∨ act = 1 ∨ act = 2 ∨ act = 3) with rfl | rfl | rfl | rfl
  · exact vc_Fa hk0 n deep K x L μ (by omega) (by omega) hx hl hK
  · exact vc_Ma h0 hk0 hk0 n deep K x L μ (by omega) (by omega) hx hl hK
  · exact vc_Pa hk0 n deep K x L μ (by omega) (by omega) hx hl hK
  · exact vc_Ra h0 hk0 hk0 n deep K x L μ h1 h2 hx hl hK
/-- the trace so far, in the model -/
def mx (μ0 : sm_Mem) (L : List Int32) (μ : sm_Mem) : Prop := fr [61, 72] μ0 μ ∧ (∀ j, j ≠ 24 → μ 61 j = μ0 61 j) ∧ μ 61 24 = nI L.length ∧ ∀ i, i < L.length → μ 72 i = L.getD i 0
theorem m_ran {K : sm_Mem → Prop} {μ0 : sm_Mem} {b : Int32} {L : List Int32} {μ : sm_Mem} (hx : mx μ0 L μ) (hL : L.length < 40) (hK : ∀ μ2, mx μ0 (L ++ [b]) μ2 → K μ2) : w_M_ran K b μ := by
  obtain ⟨h1, h2, h3, h4⟩ := hx
  unfold w_M_ran
  rw [h3]
  have n40 : ¬ (40 : Int32) ≤ nI L.length := nI_le_no (a := 40) (by omega) (by omega) (by omega)
  rw [if_neg n40]
  refine ⟨(vin_iff (by omega)).mpr (by omega), ?_⟩
  intro μ3 e3 μ4 e4
  rw [ix_nI (by omega)] at e3
  have e : μ3 61 24 + 1 = nI (L.length + 1) := by rw [e3, st_ne _ _ _ _ _ (by decide), h3, nI_succ]
  rw [e, e3] at e4
  refine hK μ4 ?_
  rw [e4]
  refine ⟨fr_st (fr_st h1 (by simp)) (by simp), fun j hj => ?_, ?_, fun i hi => ?_⟩
  · rw [st_same, if_neg hj, st_ne _ _ _ _ _ (by decide)]
    exact h2 j hj
  · rw [st_same, if_pos rfl]
    simp
  · rw [st_ne _ _ _ _ _ (by decide), st_same, getD_snoc]
    by_cases e : i = L.length
    · rw [if_pos e, if_pos e]
    · rw [if_neg e, if_neg e]
      refine h4 i ?_
      simp at hi
      omega
/-- what a voice of the model says -/
def MV (μ0 : sm_Mem) (W : (Int32 → sm_Mem → Prop) → Int32 → Int32 → sm_Mem → Prop) (kd : Nat) (r : Int32 → Int32 × List Int32) : Prop := ∀ (K : Int32 → sm_Mem → Prop) (x : Int32) (L : List Int32) (μ : sm_Mem), mx μ0 L μ → L.length + (r x).2.length ≤ 40 → (∀ μ2, mx μ0 (L ++ (r x).2) μ2 → K (r x).1 μ2) → W K (nI kd) x μ
theorem kd_ne {kd : Nat} (hk : kd ≤ 6) {c : Nat} (hc : c ≤ 6) (h : ¬ kd = c) : ¬ nI kd = nI c := fun e => h ((nI_inj (by omega) (by omega)).mp e)
theorem mab_tab : ∀ a, a < 7 → a ≠ 0 → mab (nI a) = nI (aN a) := by decide
theorem mv_f0 {μ0 : sm_Mem} {n : Nat} : MV μ0 (wg_f (n + 1) 0) 0 (vF0 (μ0 61 26)) := by
  intro K x L μ hx hl hK
  have hl : L.length + 1 ≤ 40 := hl
  show w_M_fallsIn (wg_f n) K (nI 0) x μ
  unfold w_M_fallsIn
  rw [if_pos (show nI 0 = 0 from rfl)]
  refine m_ran hx (by omega) (fun μ2 h => ?_)
  rw [h.2.1 26 (by decide)]
  exact hK μ2 h
theorem mv_f1 {μ0 : sm_Mem} {n : Nat} : MV μ0 (wg_f (n + 2) 0) 1 (vF1 (μ0 61 26)) := by
  intro K x L μ hx hl hK
  have hl : L.length + 2 ≤ 40 := hl
  show w_M_fallsIn (wg_f (n + 1)) K (nI 1) x μ
  unfold w_M_fallsIn
  rw [if_neg (by decide), if_pos (show nI 1 = 1 from rfl)]
  refine m_ran hx (by omega) (fun μ2 h => ?_)
  refine mv_f0 (n := n) _ x (L ++ [20]) μ2 h (by simp [vF0]; omega) (fun μ3 h3 => ?_)
  exact hK μ3 (by simpa [vF1, vF0, List.append_assoc] using h3)
theorem mv_fs {μ0 : sm_Mem} {n kd : Nat} {r : Int32 → Int32 × List Int32} (hk : kd ≤ 6) (h0 : ¬ kd = 0) (h1 : ¬ kd = 1) (h : MV μ0 (wg_f n 0) (aN kd) r) : MV μ0 (wg_f (n + 1) 0) kd r := by
  intro K x L μ hx hl hK
  show w_M_fallsIn (wg_f n) K (nI kd) x μ
  unfold w_M_fallsIn
  have n0 : ¬ nI kd = 0 := kd_ne (c := 0) hk (by omega) h0
  have n1 : ¬ nI kd = 1 := kd_ne (c := 1) hk (by omega) h1
  rw [if_neg n0, if_neg n1]
  apply M_above_eq
  rw [mab_tab kd (by omega) h0]
  exact h K x L μ hx hl hK
theorem mv_fa {μ0 : sm_Mem} {kd : Nat} (hk : kd ≤ 6) : MV μ0 (wg_f 8 0) kd (vFa kd (μ0 61 26)) := by
  rcases (by omega : kd = 0 ∨ kd = 1 ∨ kd = 2 ∨ kd = 3 ∨ kd = 4 ∨ kd = 5 ∨ kd = 6) with rfl | rfl | rfl | rfl | rfl | rfl | rfl
  · exact mv_f0
  · exact mv_f1
  · exact mv_fs (by omega) (by omega) (by omega) mv_f0
  · exact mv_fs (by omega) (by omega) (by omega) mv_f0
  · exact mv_fs (by omega) (by omega) (by omega) mv_f1
  · exact mv_fs (by omega) (by omega) (by omega) (mv_fs (by decide) (by decide) (by decide) mv_f0)
  · exact mv_fs (by omega) (by omega) (by omega) (mv_fs (by decide) (by decide) (by decide) mv_f0)
theorem mv_p0 {μ0 : sm_Mem} {n : Nat} : MV μ0 (wg_p (n + 1) 0) 0 (vP0 (μ0 61 27)) := by
  intro K x L μ hx hl hK
  have hl : L.length + 1 ≤ 40 := hl
  show w_M_paysIn (wg_p n) K (nI 0) x μ
  unfold w_M_paysIn
  rw [if_pos (show nI 0 = 0 from rfl)]
  refine m_ran hx (by omega) (fun μ2 h => ?_)
  rw [h.2.1 27 (by decide)]
  exact hK μ2 h
theorem mv_p3 {μ0 : sm_Mem} {n : Nat} : MV μ0 (wg_p (n + 2) 0) 3 (vP3 (μ0 61 27)) := by
  intro K x L μ hx hl hK
  have hl : L.length + 2 ≤ 40 := hl
  show w_M_paysIn (wg_p (n + 1)) K (nI 3) x μ
  unfold w_M_paysIn
  rw [if_neg (by decide), if_pos (show nI 3 = 3 from rfl)]
  refine m_ran hx (by omega) (fun μ2 h => ?_)
  refine mv_p0 (n := n) _ x (L ++ [40]) μ2 h (by simp [vP0]; omega) (fun μ3 h3 => ?_)
  exact hK μ3 (by simpa [vP3, vP0, List.append_assoc] using h3)
theorem mv_p6 {μ0 : sm_Mem} {n : Nat} : MV μ0 (wg_p (n + 3) 0) 6 (vP6 (μ0 61 26) (μ0 61 27)) := by
  intro K x L μ hx hl hK
  have hl : L.length + 3 ≤ 40 := hl
  show w_M_paysIn (wg_p (n + 2)) K (nI 6) x μ
  unfold w_M_paysIn
  rw [if_neg (by decide), if_neg (by decide), if_pos (show nI 6 = 6 from rfl)]
  refine m_ran hx (by omega) (fun μ2 h => ?_)
  refine mv_p3 (n := n) _ x (L ++ [70]) μ2 h (by simp [vP3, vP0]; omega) (fun μ3 h3 => ?_)
  rw [h3.2.1 26 (by decide)]
  exact hK μ3 (by simpa [vP6, vP3, vP0, List.append_assoc] using h3)
theorem mv_ps {μ0 : sm_Mem} {n kd : Nat} {r : Int32 → Int32 × List Int32} (hk : kd ≤ 6) (h0 : ¬ kd = 0) (h1 : ¬ kd = 3) (h6 : ¬ kd = 6) (h : MV μ0 (wg_p n 0) (aN kd) r) : MV μ0 (wg_p (n + 1) 0) kd r := by
  intro K x L μ hx hl hK
  show w_M_paysIn (wg_p n) K (nI kd) x μ
  unfold w_M_paysIn
  have n0 : ¬ nI kd = 0 := kd_ne (c := 0) hk (by omega) h0
  have n1 : ¬ nI kd = 3 := kd_ne (c := 3) hk (by omega) h1
  have n6 : ¬ nI kd = 6 := kd_ne (c := 6) hk (by omega) h6
  rw [if_neg n0, if_neg n1, if_neg n6]
  apply M_above_eq
  rw [mab_tab kd (by omega) h0]
  exact h K x L μ hx hl hK
theorem mv_pa {μ0 : sm_Mem} {kd : Nat} (hk : kd ≤ 6) : MV μ0 (wg_p 8 0) kd (vPa kd (μ0 61 26) (μ0 61 27)) := by
  rcases (by omega : kd = 0 ∨ kd = 1 ∨ kd = 2 ∨ kd = 3 ∨ kd = 4 ∨ kd = 5 ∨ kd = 6) with rfl | rfl | rfl | rfl | rfl | rfl | rfl
  · exact mv_p0
  · exact mv_ps (by omega) (by omega) (by omega) (by omega) mv_p0
  · exact mv_ps (by omega) (by omega) (by omega) (by omega) mv_p0
  · exact mv_p3
  · exact mv_ps (by omega) (by omega) (by omega) (by omega) (mv_ps (by decide) (by decide) (by decide) (by decide) mv_p0)
  · exact mv_ps (by omega) (by omega) (by omega) (by omega) (mv_ps (by decide) (by decide) (by decide) (by decide) mv_p0)
  · exact mv_p6
theorem mv_m0 {μ0 : sm_Mem} {n k : Nat} (e0 : μ0 61 25 = nI k) (hk0 : k ≤ 6) : MV μ0 (wg_m (n + 1) 0) 0 (vM0 k (μ0 61 26)) := by
  intro K x L μ hx hl hK
  have hl : L.length + ((vFa k (μ0 61 26) x).2.length + 1) ≤ 40 := hl
  show w_M_meltsIn (wg_m n) K (nI 0) x μ
  unfold w_M_meltsIn
  rw [if_pos (show nI 0 = 0 from rfl)]
  refine m_ran hx (by omega) (fun μ2 h => ?_)
  rw [h.2.1 25 (by decide), e0]
  refine mv_fa hk0 _ x (L ++ [11]) μ2 h (by simp; omega) (fun μ3 h3 => ?_)
  exact hK μ3 (by simpa [vM0, List.append_assoc] using h3)
theorem mv_m2 {μ0 : sm_Mem} {n k : Nat} (e0 : μ0 61 25 = nI k) (hk0 : k ≤ 6) : MV μ0 (wg_m (n + 2) 0) 2 (vM2 k (μ0 61 26) (μ0 61 27)) := by
  intro K x L μ hx hl hK
  have hl : L.length + (((vM0 k (μ0 61 26) x).2 ++ (vPa k (μ0 61 26) (μ0 61 27) 1).2).length + 1) ≤ 40 := hl
  rw [List.length_append] at hl
  show w_M_meltsIn (wg_m (n + 1)) K (nI 2) x μ
  unfold w_M_meltsIn
  rw [if_neg (by decide), if_pos (show nI 2 = 2 from rfl)]
  refine m_ran hx (by omega) (fun μ2 h => ?_)
  refine mv_m0 (n := n) e0 hk0 _ x (L ++ [30]) μ2 h (by simp; omega) (fun μ3 h3 => ?_)
  rw [h3.2.1 25 (by decide), e0]
  refine mv_pa hk0 _ 1 _ μ3 h3 (by simp; omega) (fun μ4 h4 => ?_)
  exact hK μ4 (by simpa [vM2, List.append_assoc] using h4)
theorem mv_m5 {μ0 : sm_Mem} {n k : Nat} (e0 : μ0 61 25 = nI k) (hk0 : k ≤ 6) : MV μ0 (wg_m (n + 3) 0) 5 (vM5 k (μ0 61 26) (μ0 61 27)) := by
  intro K x L μ hx hl hK
  have hl : L.length + ((vM2 k (μ0 61 26) (μ0 61 27) (x + 1)).2.length + 1) ≤ 40 := hl
  show w_M_meltsIn (wg_m (n + 2)) K (nI 5) x μ
  unfold w_M_meltsIn
  rw [if_neg (by decide), if_neg (by decide), if_pos (show nI 5 = 5 from rfl)]
  refine m_ran hx (by omega) (fun μ2 h => ?_)
  refine mv_m2 (n := n) e0 hk0 _ (x + 1) (L ++ [60]) μ2 h (by simp; omega) (fun μ3 h3 => ?_)
  exact hK μ3 (by simpa [vM5, List.append_assoc] using h3)
theorem mv_ms {μ0 : sm_Mem} {n kd : Nat} {r : Int32 → Int32 × List Int32} (hk : kd ≤ 6) (h0 : ¬ kd = 0) (h1 : ¬ kd = 2) (h6 : ¬ kd = 5) (h : MV μ0 (wg_m n 0) (aN kd) r) : MV μ0 (wg_m (n + 1) 0) kd r := by
  intro K x L μ hx hl hK
  show w_M_meltsIn (wg_m n) K (nI kd) x μ
  unfold w_M_meltsIn
  have n0 : ¬ nI kd = 0 := kd_ne (c := 0) hk (by omega) h0
  have n1 : ¬ nI kd = 2 := kd_ne (c := 2) hk (by omega) h1
  have n6 : ¬ nI kd = 5 := kd_ne (c := 5) hk (by omega) h6
  rw [if_neg n0, if_neg n1, if_neg n6]
  apply M_above_eq
  rw [mab_tab kd (by omega) h0]
  exact h K x L μ hx hl hK
theorem mv_ma {μ0 : sm_Mem} {k kd : Nat} (e0 : μ0 61 25 = nI k) (hk0 : k ≤ 6) (hk : kd ≤ 6) : MV μ0 (wg_m 8 0) kd (vMa k kd (μ0 61 26) (μ0 61 27)) := by
  rcases (by omega : kd = 0 ∨ kd = 1 ∨ kd = 2 ∨ kd = 3 ∨ kd = 4 ∨ kd = 5 ∨ kd = 6) with rfl | rfl | rfl | rfl | rfl | rfl | rfl
  · exact mv_m0 e0 hk0
  · exact mv_ms (by omega) (by omega) (by omega) (by omega) (mv_m0 e0 hk0)
  · exact mv_m2 e0 hk0
  · exact mv_ms (by omega) (by omega) (by omega) (by omega) (mv_m0 e0 hk0)
  · exact mv_ms (by omega) (by omega) (by omega) (by omega) (mv_ms (by decide) (by decide) (by decide) (by decide) (mv_m0 e0 hk0))
  · exact mv_m5 e0 hk0
  · exact mv_ms (by omega) (by omega) (by omega) (by omega) (mv_ms (by decide) (by decide) (by decide) (by decide) (mv_m0 e0 hk0))
theorem mv_r0 {μ0 : sm_Mem} {n k : Nat} (e0 : μ0 61 25 = nI k) (hk0 : k ≤ 6) : MV μ0 (wg_r (n + 1) 0) 0 (vR0 k (μ0 61 26) (μ0 61 27)) := by
  intro K x L μ hx hl hK
  have hl : L.length + (((vMa k k (μ0 61 26) (μ0 61 27) x).2 ++ (vPa k (μ0 61 26) (μ0 61 27) x).2).length + 1) ≤ 40 := hl
  rw [List.length_append] at hl
  show w_M_ringsIn (wg_r n) K (nI 0) x μ
  unfold w_M_ringsIn
  rw [if_pos (show nI 0 = 0 from rfl)]
  refine m_ran hx (by omega) (fun μ2 h => ?_)
  rw [h.2.1 25 (by decide), e0]
  refine mv_ma e0 hk0 hk0 _ x (L ++ [13]) μ2 h (by simp; omega) (fun μ3 h3 => ?_)
  rw [h3.2.1 25 (by decide), e0]
  refine mv_pa hk0 _ x _ μ3 h3 (by simp; omega) (fun μ4 h4 => ?_)
  exact hK μ4 (by simpa [vR0, List.append_assoc] using h4)
theorem mv_rs {μ0 : sm_Mem} {n kd : Nat} {r : Int32 → Int32 × List Int32} (hk : kd ≤ 6) (h0 : ¬ kd = 0) (h1 : ¬ kd = 4) (h6 : ¬ kd = 6) (h : MV μ0 (wg_r n 0) (aN kd) r) : MV μ0 (wg_r (n + 1) 0) kd r := by
  intro K x L μ hx hl hK
  show w_M_ringsIn (wg_r n) K (nI kd) x μ
  unfold w_M_ringsIn
  have n0 : ¬ nI kd = 0 := kd_ne (c := 0) hk (by omega) h0
  have n1 : ¬ nI kd = 4 := kd_ne (c := 4) hk (by omega) h1
  have n6 : ¬ nI kd = 6 := kd_ne (c := 6) hk (by omega) h6
  rw [if_neg n0, if_neg n1, if_neg n6]
  apply M_above_eq
  rw [mab_tab kd (by omega) h0]
  exact h K x L μ hx hl hK
theorem mv_r4 {μ0 : sm_Mem} {n k : Nat} (e0 : μ0 61 25 = nI k) (hk0 : k ≤ 6) : MV μ0 (wg_r (n + 3) 0) 4 (vR4 k (μ0 61 26) (μ0 61 27)) := by
  intro K x L μ hx hl hK
  have hl : L.length + (((vR0 k (μ0 61 26) (μ0 61 27) x).2 ++ (vFa k (μ0 61 26) 2).2).length + 1) ≤ 40 := hl
  rw [List.length_append] at hl
  show w_M_ringsIn (wg_r (n + 2)) K (nI 4) x μ
  unfold w_M_ringsIn
  rw [if_neg (by decide), if_pos (show nI 4 = 4 from rfl)]
  refine m_ran hx (by omega) (fun μ2 h => ?_)
  have r1 : MV μ0 (wg_r (n + 2) 0) 1 (vR0 k (μ0 61 26) (μ0 61 27)) := mv_rs (by omega) (by omega) (by omega) (by omega) (mv_r0 e0 hk0)
  refine r1 _ x (L ++ [50]) μ2 h (by simp; omega) (fun μ3 h3 => ?_)
  rw [h3.2.1 25 (by decide), e0]
  refine mv_fa hk0 _ 2 _ μ3 h3 (by simp; omega) (fun μ4 h4 => ?_)
  exact hK μ4 (by simpa [vR4, List.append_assoc] using h4)
theorem mv_r6 {μ0 : sm_Mem} {n k : Nat} (e0 : μ0 61 25 = nI k) (hk0 : k ≤ 6) : MV μ0 (wg_r (n + 3) 0) 6 (vR6 k (μ0 61 26) (μ0 61 27)) := by
  intro K x L μ hx hl hK
  have hl : L.length + (((vMa k k (μ0 61 26) (μ0 61 27) x).2 ++ (vR0 k (μ0 61 26) (μ0 61 27) x).2).length + 1) ≤ 40 := hl
  rw [List.length_append] at hl
  show w_M_ringsIn (wg_r (n + 2)) K (nI 6) x μ
  unfold w_M_ringsIn
  rw [if_neg (by decide), if_neg (by decide), if_pos (show nI 6 = 6 from rfl)]
  refine m_ran hx (by omega) (fun μ2 h => ?_)
  rw [h.2.1 25 (by decide), e0]
  refine mv_ma e0 hk0 hk0 _ x (L ++ [71]) μ2 h (by simp; omega) (fun μ3 h3 => ?_)
  have r1 : MV μ0 (wg_r (n + 2) 0) 3 (vR0 k (μ0 61 26) (μ0 61 27)) := mv_rs (by omega) (by omega) (by omega) (by omega) (mv_r0 e0 hk0)
  refine r1 _ x _ μ3 h3 (by simp; omega) (fun μ4 h4 => ?_)
  exact hK μ4 (by simpa [vR6, List.append_assoc] using h4)
theorem mv_ra {μ0 : sm_Mem} {k kd : Nat} (e0 : μ0 61 25 = nI k) (hk0 : k ≤ 6) (hk : kd ≤ 6) : MV μ0 (wg_r 8 0) kd (vRa k kd (μ0 61 26) (μ0 61 27)) := by
  rcases (by omega : kd = 0 ∨ kd = 1 ∨ kd = 2 ∨ kd = 3 ∨ kd = 4 ∨ kd = 5 ∨ kd = 6) with rfl | rfl | rfl | rfl | rfl | rfl | rfl
  · exact mv_r0 e0 hk0
  · exact mv_rs (by omega) (by omega) (by omega) (by omega) (mv_r0 e0 hk0)
  · exact mv_rs (by omega) (by omega) (by omega) (by omega) (mv_r0 e0 hk0)
  · exact mv_rs (by omega) (by omega) (by omega) (by omega) (mv_r0 e0 hk0)
  · exact mv_r4 e0 hk0
  · exact mv_rs (by omega) (by omega) (by omega) (by omega) (mv_rs (by decide) (by decide) (by decide) (by decide) (mv_r0 e0 hk0))
  · exact mv_r6 e0 hk0
theorem RR_tr {n : Nat} {μ μ2 : sm_Mem} (h : RR n μ) (ff : ∀ q, q ≠ 49 → q ≠ 50 → q ≠ 61 → q ≠ 72 → μ2 q = μ q) (h61 : ∀ j, j ∉ [24, 25, 26, 27] → μ2 61 j = μ 61 j) (ht : rxTr μ2) : RR (n + 1) μ2 := by
  obtain ⟨⟨g, g1, g2, g3⟩, h15, a, b, c, d⟩ := h
  refine ⟨⟨g, g1, CA_fr g2 (fun k hk => ff k (by revert k; decide) (by revert k; decide) (by revert k; decide) (by revert k; decide)), MA_fr g3 (ff 62 (by decide) (by decide) (by decide) (by decide))⟩, by rw [h61 15 (by decide)]; exact h15, ?_, ht, ?_, ?_⟩
  · intro j hj
    rw [ff 66 (by decide) (by decide) (by decide) (by decide), ff 60 (by decide) (by decide) (by decide) (by decide)]
    exact a j hj
  · intro s hs
    obtain ⟨b, l, s1, s2, s3, s4, s5, s6, s7, s8⟩ := c s hs
    have e1 : μ2 (52 + 2 * s) = μ (52 + 2 * s) := ff _ (by omega) (by omega) (by omega) (by omega)
    have e2 : μ2 (53 + 2 * s) = μ (53 + 2 * s) := ff _ (by omega) (by omega) (by omega) (by omega)
    refine ⟨b, l, s1, s2, by rw [e1]; exact s3, by rw [ff 68 (by decide) (by decide) (by decide) (by decide)]; exact s4, by rw [e1]; exact s5, by rw [ff 69 (by decide) (by decide) (by decide) (by decide)]; exact s6, s7, fun i hi => ?_⟩
    rw [e2, ff 70 (by decide) (by decide) (by decide) (by decide)]
    exact s8 i hi
  · obtain ⟨c, c1, c2, c3, c4, c5⟩ := d
    refine ⟨c, by omega, by rw [ff 0 (by decide) (by decide) (by decide) (by decide)]; exact c2, by rw [h61 5 (by decide)]; exact c3, by rw [h61 4 (by decide)]; exact c4, fun hc => ?_⟩
    obtain ⟨g, g1, g2, g3⟩ := c5 hc
    exact ⟨g, g1, CA_fr g2 (fun k hk => ff k (by revert k; decide) (by revert k; decide) (by revert k; decide) (by revert k; decide)), MA_fr g3 (ff 63 (by decide) (by decide) (by decide) (by decide))⟩
theorem T_voice (n : Nat) (p0 p1 p2 : Int32) : Same n (fun K => w_X_voice K p0 p1 p2) (fun K => w_M_voice K p0 p1 p2) := by
  intro μ hR
  obtain ⟨⟨g, g1, g2, g3⟩, h15, _⟩ := id hR
  have h10 := g1.2.1
  have bad : ¬ ((0 ≤ p0 ∧ p0 < nI (gN g)) ∧ (0 ≤ p1 ∧ p1 ≤ 3)) → w_X_voice_20 (fun r1 μ1 => w_M_voice (fun r2 μ2 => r1 = r2 ∧ RR (n + 1) μ2) p0 p1 p2 μ1) p0 p1 p2 μ := by
    intro hb
    unfold w_X_voice_20
    refine X_err1 ?_
    have e30 : w_M_voice_17 (fun r2 μ2 => -1000000001 = r2 ∧ RR (n + 1) μ2) p0 p1 p2 (sm_st μ 60 1 (μ 60 1 + 1)) := by
      unfold w_M_voice_17
      exact M_err1 ⟨rfl, RR_err hR rfl rfl⟩
    show w_M_voice _ p0 p1 p2 _
    unfold w_M_voice
    refine m_isNote_eq g1.2.1 (by rw [st_ne _ _ _ _ _ (by decide)]; exact g3.1.2.1) (fun q0 => ?_) (fun _ => by rw [if_pos rfl]; exact e30)
    rw [if_neg (by decide)]
    exact M_in (fun q1 => absurd ⟨q0, q1⟩ hb) (fun _ => by rw [if_pos rfl]; exact e30)
  show w_X_voice _ p0 p1 p2 μ
  unfold w_X_voice
  refine x_hasNote_eq g2.1.2.1 (fun q0 => ?_) (fun q => by rw [if_pos rfl]; exact bad (fun z => q z.1))
  rw [if_neg (by decide)]
  refine X_in (fun q1 => ?_) (fun q => by rw [if_pos rfl]; exact bad (fun z => q z.2))
  rw [if_neg (by decide)]
  obtain ⟨i, hi, e⟩ := sm_of (by omega) q0.1 q0.2
  subst e
  obtain ⟨act, ha, e⟩ := sm_ofle (n := 3) (by omega) q1.1 q1.2
  subst e
  obtain ⟨k1, k2, k3, k4, k5⟩ := g1.2.2.2.2.2.2.1 i hi
  obtain ⟨c1, c2, _, _, _⟩ := g2.2.2.2.1 i hi
  have c1 : μ 4 i = nI (gKd g i) := c1
  have c2 : μ 5 i = nI (gMs g i) := c2
  refine ⟨(vin_iff (by omega)).mpr (by omega), (vin_iff (by omega)).mpr (by omega), ?_⟩
  rw [ix_nI (by omega), c1, c2]
  unfold w_V_begin
  intro μ1 e1 μ2 e2 μ3 e3 μ4 e4
  have r2 : μ4 49 2 = nI (gKd g i) := by rw [e4, st_same, if_neg (by decide), e3, st_same, if_neg (by decide), e2, st_same, if_neg (by decide), e1, st_same, if_pos rfl]
  have r3 : μ4 49 3 = nI i := by rw [e4, st_same, if_neg (by decide), e3, st_same, if_neg (by decide), e2, st_same, if_pos rfl]
  have r4 : μ4 49 4 = nI (gMs g i) := by rw [e4, st_same, if_neg (by decide), e3, st_same, if_pos rfl]
  have r1 : μ4 49 1 = nI ([] : List Int32).length := by rw [e4, st_same, if_pos rfl]; rfl
  have f4 : ∀ q, q ≠ 49 → μ4 q = μ q := fun q hq => by rw [e4, st_ne _ _ _ _ _ hq, e3, st_ne _ _ _ _ _ hq, e2, st_ne _ _ _ _ _ hq, e1, st_ne _ _ _ _ _ hq]
  rw [r2]
  have hall := vAll_len (act := act) k1 (nI i) (nI (gMs g i)) p2
  refine vc_all r2 k1 ha 40 0 _ p2 [] μ4 (by omega) (by omega) ⟨fr_rfl, fun _ _ => rfl, r1, fun z hz => absurd hz (by simp)⟩ (by rw [r3, r4]; simpa using hall) (fun μ5 hx5 => ?_)
  rw [r3, r4] at hx5 ⊢
  rw [List.nil_append] at hx5
  generalize hV : vAll (gKd g i) act (nI i) (nI (gMs g i)) p2 = V at hx5 hall ⊢
  obtain ⟨x1, x2, x3, x4⟩ := hx5
  have f5 : ∀ q, q ≠ 49 → q ≠ 50 → μ5 q = μ q := fun q h1 h2 => by rw [x1 q (by simp; omega), f4 q h1]
  show w_M_voice (fun r2 μ2 => V.1 = r2 ∧ RR (n + 1) μ2) (nI i) (nI act) p2 μ5
  unfold w_M_voice
  refine m_isNote_eq g1.2.1 (by rw [f5 62 (by decide) (by decide)]; exact g3.1.2.1) (fun _ => ?_) (fun z => absurd q0 z)
  rw [if_neg (by decide)]
  refine M_in (fun _ => ?_) (fun z => absurd q1 z)
  rw [if_neg (by decide)]
  intro ν1 d1
  have n1 : ∀ q, q ≠ 61 → ν1 q = μ5 q := fun q hq => by rw [d1, st_ne _ _ _ _ _ hq]
  have m1 : MA 62 g ν1 := MA_fr g3 (by rw [n1 62 (by decide), f5 62 (by decide) (by decide)])
  refine m_its (f := 0) (by omega) (by omega) ?_
  rw [show ν1 62 (51 + 5 * i + 0) = nI (gKd g i) from (m1.2.2.2.1 i hi).1]
  intro ν2 d2 ν3 d3
  have m3 : MA 62 g ν3 := MA_fr m1 (by rw [d3, d2, st_ne _ _ _ _ _ (by decide), st_ne _ _ _ _ _ (by decide)])
  refine m_its (f := 1) (by omega) (by omega) ?_
  rw [show ν3 62 (51 + 5 * i + 1) = nI (gMs g i) from (m3.2.2.2.1 i hi).2.1]
  intro ν4 d4
  have s5 : ν4 61 25 = nI (gKd g i) := by rw [d4, st_same, if_neg (by decide), d3, st_same, if_neg (by decide), d2, st_same, if_pos rfl]
  have s6 : ν4 61 26 = nI i := by rw [d4, st_same, if_neg (by decide), d3, st_same, if_pos rfl]
  have s7 : ν4 61 27 = nI (gMs g i) := by rw [d4, st_same, if_pos rfl]
  have s4 : ν4 61 24 = nI ([] : List Int32).length := by rw [d4, st_same, if_neg (by decide), d3, st_same, if_neg (by decide), d2, st_same, if_neg (by decide), d1, st_same, if_pos rfl]; rfl
  have n4 : ∀ q, q ≠ 61 → ν4 q = μ5 q := fun q hq => by rw [d4, st_ne _ _ _ _ _ hq, d3, st_ne _ _ _ _ _ hq, d2, st_ne _ _ _ _ _ hq, n1 q hq]
  have j4 : ∀ j, j ∉ [24, 25, 26, 27] → ν4 61 j = μ 61 j := fun j hj => by
    simp only [List.mem_cons, List.not_mem_nil, or_false, not_or] at hj
    rw [d4, st_same, if_neg hj.2.2.2, d3, st_same, if_neg hj.2.2.1, d2, st_same, if_neg hj.2.1, d1, st_same, if_neg hj.1, f5 61 (by decide) (by decide)]
  have fin : ∀ μ6, mx ν4 ([] ++ V.2) μ6 → V.1 = V.1 ∧ RR (n + 1) μ6 := by
    rintro μ6 ⟨y1, y2, y3, y4⟩
    rw [List.nil_append] at y3 y4
    refine ⟨rfl, RR_tr hR (fun q h1 h2 h3 h4 => by rw [y1 q (by simp; omega), n4 q h3, f5 q h1 h2]) (fun j hj => by rw [y2 j (fun e => hj (by rw [e]; decide)), j4 j hj]) ⟨V.2.length, hall, ?_, y3, fun z hz => ?_⟩⟩
    · rw [y1 49 (by decide), n4 49 (by decide)]
      exact x3
    · rw [y4 z hz, y1 50 (by decide), n4 50 (by decide)]
      exact (x4 z hz).symm
  have h0 : mx ν4 [] ν4 := ⟨fr_rfl, fun _ _ => rfl, s4, fun z hz => absurd hz (by simp)⟩
  intro v17 e17
  subst e17
  rw [s5]
  unfold vAll at hV
  rcases (by omega : act = 0 ∨ act = 1 ∨ act = 2 ∨ act = 3) with rfl | rfl | rfl | rfl
  · rw [if_pos (show nI 0 = 0 from rfl)]
    rw [if_pos rfl, ← s6] at hV
    refine mv_fa k1 _ p2 [] ν4 h0 (by rw [hV]; simpa using hall) (fun μ6 h6 => ?_)
    rw [hV] at h6 ⊢
    exact fin μ6 h6
  · rw [if_neg (by decide), if_pos (show nI 1 = 1 from rfl)]
    rw [if_neg (by decide), if_pos rfl, ← s6, ← s7] at hV
    refine mv_ma s5 k1 k1 _ p2 [] ν4 h0 (by rw [hV]; simpa using hall) (fun μ6 h6 => ?_)
    rw [hV] at h6 ⊢
    exact fin μ6 h6
  · rw [if_neg (by decide), if_neg (by decide), if_pos (show nI 2 = 2 from rfl)]
    rw [if_neg (by decide), if_neg (by decide), if_pos rfl, ← s6, ← s7] at hV
    refine mv_pa k1 _ p2 [] ν4 h0 (by rw [hV]; simpa using hall) (fun μ6 h6 => ?_)
    rw [hV] at h6 ⊢
    exact fin μ6 h6
  · rw [if_neg (by decide), if_neg (by decide), if_neg (by decide)]
    rw [if_neg (by decide), if_neg (by decide), if_neg (by decide), ← s6, ← s7] at hV
    refine mv_ra s5 k1 k1 _ p2 [] ν4 h0 (by rw [hV]; simpa using hall) (fun μ6 h6 => ?_)
    rw [hV] at h6 ⊢
    exact fin μ6 h6

/-! ===== the class reads a TEXT ===== -/
def xst (μ0 : sm_Mem) (u sz at_ : Nat) (cd : List (Int32 × Int32)) (μ : sm_Mem) : Prop := fr [43, 44, 45, 46] μ0 μ ∧ μ 43 2 = nI sz ∧ μ 43 3 = nI at_ ∧ μ 43 4 = nI (u + 1) ∧ μ 44 3 = nI cd.length ∧ cdOf μ 44 cd.length = cd
theorem t44 : isText 44 := ⟨sm_l44, sm_l45, sm_l46, sm_l47⟩
theorem xst_at {μ0 : sm_Mem} {u sz at_ : Nat} {cd : List (Int32 × Int32)} {μ : sm_Mem} (h : xst μ0 u sz at_ cd μ) (z : Nat) : xst μ0 u sz z cd (sm_st μ 43 3 (nI z)) := by
  obtain ⟨h1, h2, h3, h4, h5, h6⟩ := h
  refine ⟨fr_st h1 (by simp), ?_, ?_, ?_, ?_, ?_⟩
  · rw [st_same, if_neg (by decide)]; exact h2
  · rw [st_same, if_pos rfl]
  · rw [st_same, if_neg (by decide)]; exact h4
  · rw [st_ne _ _ _ _ _ (by decide)]; exact h5
  · rw [cd_fr (k := 44) (st_ne _ _ _ _ _ (by decide)) (st_ne _ _ _ _ _ (by decide))]; exact h6
theorem x_next {K : Int32 → sm_Mem → Prop} {μ0 : sm_Mem} {B : Nat → Int32} {u sz at_ : Nat} {cd : List (Int32 × Int32)} {μ : sm_Mem} (hB : ∀ i, i < sz → μ0 48 i = B i) (hz : sz ≤ 50) (ha : at_ ≤ sz) (h : xst μ0 u sz at_ cd μ) (hK : K (nxt B sz at_) μ) : w_R_next K μ := by
  obtain ⟨h1, h2, h3, h4, h5, h6⟩ := h
  unfold w_R_next
  unfold nxt at hK
  have n0 : ¬ nI at_ < 0 := nI_lt_no (b := 0) (by omega) (by omega) (by omega)
  rw [h3, h2, if_neg n0]
  by_cases q : at_ < sz
  · rw [if_pos q] at hK
    rw [if_neg (nI_le_no (by omega) (by omega) q), ix_nI (by omega), h1 48 (by decide), hB _ q]
    exact ⟨(vin_iff (by omega)).mpr (by omega), hK⟩
  · rw [if_neg q] at hK
    rw [if_pos (nI_le_yes (by omega) (by omega) (by omega))]
    exact hK
theorem x_add {K : sm_Mem → Prop} {μ0 : sm_Mem} {u sz at_ : Nat} {s v : Int32} {cd : List (Int32 × Int32)} {μ : sm_Mem} (h : xst μ0 u sz at_ cd μ) (hl : cd.length < 50) (hK : ∀ μ2, xst μ0 u sz at_ (cd ++ [(s, v)]) μ2 → K μ2) : w_T_add K 44 s v μ := by
  obtain ⟨h1, h2, h3, h4, h5, h6⟩ := h
  unfold w_T_add
  refine ⟨t44, ?_⟩
  rw [h5]
  have n50 : ¬ (50 : Int32) ≤ nI cd.length := nI_le_no (a := 50) (by omega) (by omega) (by omega)
  rw [if_neg n50]
  refine ⟨(vin_iff (by omega)).mpr (by omega), ?_⟩
  intro μ3 e3
  rw [ix_nI (by omega)] at e3
  have e34 : μ3 44 3 = nI cd.length := by rw [e3, st_ne _ _ _ _ _ (by decide)]; exact h5
  rw [e34]
  refine ⟨(vin_iff (by omega)).mpr (by omega), ?_⟩
  intro μ5 e5 μ6 e6
  rw [ix_nI (by omega)] at e5
  have e54 : μ5 44 3 = nI cd.length := by rw [e5, st_ne _ _ _ _ _ (by decide)]; exact e34
  rw [e54, ← nI_succ] at e6
  have r43 : μ6 43 = μ 43 := by rw [e6, st_ne _ _ _ _ _ (by decide), e5, st_ne _ _ _ _ _ (by decide), e3, st_ne _ _ _ _ _ (by decide)]
  refine hK μ6 ⟨?_, by rw [r43]; exact h2, by rw [r43]; exact h3, by rw [r43]; exact h4, ?_, ?_⟩
  · rw [e6, e5, e3]
    exact fr_st (fr_st (fr_st h1 (by simp)) (by simp)) (by simp)
  · rw [e6, st_same, if_pos rfl]
    simp
  · have r45 : ∀ i, μ6 45 i = if i = cd.length then s else μ 45 i := fun i => by
      rw [e6, st_ne _ _ _ _ _ (by decide), e5, st_ne _ _ _ _ _ (by decide), e3, st_same]
    have r46 : ∀ i, μ6 46 i = if i = cd.length then v else μ 46 i := fun i => by
      rw [e6, st_ne _ _ _ _ _ (by decide), e5, st_same, e3, st_ne _ _ _ _ 46 (by decide)]
    have hle : (cd ++ [(s, v)]).length = cd.length + 1 := by simp
    rw [hle]
    unfold cdOf at h6 ⊢
    rw [List.range_succ, List.map_append]
    congr 1
    · rw [← h6]
      simp only [List.length_map, List.length_range]
      apply List.map_congr_left
      intro i hi
      have hi : i < cd.length := by
        have := List.mem_range.mp hi
        exact this
      rw [r45 i, r46 i, if_neg (by omega), if_neg (by omega)]
    · simp only [List.map_cons, List.map_nil]
      rw [r45, r46, if_pos rfl, if_pos rfl]
/-- part i of the reading at level n, with d more open at most, is Pa -/
def XC (μ0 : sm_Mem) (u sz n i : Nat) (Pa : Nat → PR) (d : Nat) : Prop := ∀ (K : Int32 → sm_Mem → Prop) (at_ : Nat) (cd : List (Int32 × Int32)) (μ : sm_Mem), at_ ≤ sz → cd.length ≤ at_ → xst μ0 u sz at_ cd μ → (∀ μ2, xst μ0 u sz (Pa at_).2.1 (cd ++ (Pa at_).2.2.1) μ2 → K (bI (Pa at_).1) μ2) → wg_R n i K (nI (5 - d)) μ
theorem bI01 (b : Bool) : bI b = 0 ∨ bI b = 1 := by cases b <;> simp [bI]
theorem x_or {μ0 : sm_Mem} {B : Nat → Int32} {u sz n d : Nat} {sub : Nat → PR} (hB : ∀ i, i < sz → μ0 48 i = B i) (hz : sz ≤ 50) (hok : ∀ i, i ≤ sz → pOk sz i (sub i)) (hs : XC μ0 u sz n 1 sub d) : XC μ0 u sz (n + 1) 0 (fun i => ch B sz sub isOr sz (sub i)) d := by
  intro K at_ cd μ hat hcd hx hK
  show w_R_readOr (wg_R n) K (nI (5 - d)) μ
  unfold w_R_readOr
  refine hs _ at_ cd μ hat hcd hx (fun μ1 hx1 => ?_)
  obtain ⟨o1, o2, o3, o4, o5⟩ := hok at_ hat
  unfold w_R_readOr_8
  refine ⟨fun z x2 x3 μ2 => ∃ (r : PR) (j : Nat), z = sz - j ∧ j ≤ sz ∧ x3 = nI j ∧ x2 = bI r.1 ∧ r.2.1 ≤ sz ∧ r.2.2.1.length + at_ ≤ r.2.1 ∧ xst μ0 u sz r.2.1 (cd ++ r.2.2.1) μ2 ∧ ch B sz sub isOr (sz - j) r = ch B sz sub isOr sz (sub at_), ⟨sz, sub at_, 0, rfl, Nat.zero_le _, rfl, rfl, o2, o3, hx1, rfl⟩, ?_⟩
  rintro z x2 x3 μ2 ⟨r, j, rfl, hj, rfl, rfl, h1, h2, hx2, he⟩
  dsimp only
  have out : ch B sz sub isOr (sz - j) r = r → (bI r.1 = 0 ∨ bI r.1 = 1) ∧ K (bI r.1) μ2 := fun e => by
    refine ⟨bI01 _, ?_⟩
    have h3 := hK μ2
    dsimp only at h3
    rw [← he, e] at h3
    exact h3 hx2
  rw [hx2.2.1]
  by_cases hjs : j = sz
  · rw [if_pos (nI_le_yes (by omega) (by omega) (by omega))]
    exact out (by rw [hjs, Nat.sub_self]; rfl)
  · rw [if_neg (nI_le_no (by omega) (by omega) (by omega))]
    by_cases hg : r.1 = true
    · rw [if_neg (by rw [hg]; decide)]
      have go : ∀ s : Int32, nxt B sz r.2.1 = s → isOr s = true → ∀ μ7 : sm_Mem, μ7 = sm_st μ2 43 3 (μ2 43 3 + 1) → wg_R n 1 (fun r13 μ12 => w_T_add (fun μ14 => (fun a0 a1 μ_1 => ∃ k, k < sz - j ∧ ∃ (r : PR) (j : Nat), k = sz - j ∧ j ≤ sz ∧ a1 = nI j ∧ a0 = bI r.1 ∧ r.2.1 ≤ sz ∧ r.2.2.1.length + at_ ≤ r.2.1 ∧ xst μ0 u sz r.2.1 (cd ++ r.2.2.1) μ_1 ∧ ch B sz sub isOr (sz - j) r = ch B sz sub isOr sz (sub at_)) r13 (nI j + 1) μ14) 44 s 0 μ12) (nI (5 - d)) μ7 := by
        intro s es hss μ7 e7
        have hlt : r.2.1 < sz := nxt_lt (fun e => by rw [es] at e; rw [e] at hss; exact absurd hss (by decide))
        rw [hx2.2.2.1, ← nI_succ] at e7
        have hx7 : xst μ0 u sz (r.2.1 + 1) (cd ++ r.2.2.1) μ7 := by rw [e7]; exact xst_at hx2 _
        obtain ⟨b1, b2, b3, b4, b5⟩ := hok (r.2.1 + 1) hlt
        refine hs _ (r.2.1 + 1) (cd ++ r.2.2.1) μ7 hlt (by rw [List.length_append]; omega) hx7 (fun μ8 hx8 => ?_)
        refine x_add hx8 (by simp only [List.length_append]; omega) (fun μ9 hx9 => ?_)
        refine ⟨sz - (j + 1), by omega, ((sub (r.2.1 + 1)).1, (sub (r.2.1 + 1)).2.1, r.2.2.1 ++ (sub (r.2.1 + 1)).2.2.1 ++ [(nxt B sz r.2.1, 0)], fun a b c => pj (nxt B sz r.2.1) (r.2.2.2 a b c) ((sub (r.2.1 + 1)).2.2.2 a b c)), j + 1, rfl, by omega, (nI_succ j).symm, rfl, b2, ?_, ?_, ?_⟩
        · show (r.2.2.1 ++ (sub (r.2.1 + 1)).2.2.1 ++ [(nxt B sz r.2.1, 0)]).length + at_ ≤ (sub (r.2.1 + 1)).2.1
          simp only [List.length_append, List.length_cons, List.length_nil]
          omega
        · show xst μ0 u sz (sub (r.2.1 + 1)).2.1 (cd ++ (r.2.2.1 ++ (sub (r.2.1 + 1)).2.2.1 ++ [(nxt B sz r.2.1, 0)])) μ9
          rw [es, ← List.append_assoc, ← List.append_assoc]
          exact hx9
        · rw [← he, show sz - j = (sz - (j + 1)) + 1 by omega, ch, if_pos ⟨hg, by rw [es]; exact hss⟩]
      refine x_next hB hz h1 hx2 ?_
      by_cases c0 : nxt B sz r.2.1 = 124
      · rw [if_pos c0]
        exact go 124 c0 (by decide)
      · rw [if_neg c0]
        exact out (ch_exit (fun q => by have := q.2; unfold isOr at this; simp [c0] at this))
    · rw [if_pos (by rw [Bool.eq_false_iff.mpr hg]; rfl)]
      exact out (ch_exit (fun q => hg q.1))
theorem x_and {μ0 : sm_Mem} {B : Nat → Int32} {u sz n d : Nat} {sub : Nat → PR} (hB : ∀ i, i < sz → μ0 48 i = B i) (hz : sz ≤ 50) (hok : ∀ i, i ≤ sz → pOk sz i (sub i)) (hs : XC μ0 u sz n 2 sub d) : XC μ0 u sz (n + 1) 1 (fun i => ch B sz sub isAnd sz (sub i)) d := by
  intro K at_ cd μ hat hcd hx hK
  show w_R_readAnd (wg_R n) K (nI (5 - d)) μ
  unfold w_R_readAnd
  refine hs _ at_ cd μ hat hcd hx (fun μ1 hx1 => ?_)
  obtain ⟨o1, o2, o3, o4, o5⟩ := hok at_ hat
  unfold w_R_readAnd_8
  refine ⟨fun z x2 x3 μ2 => ∃ (r : PR) (j : Nat), z = sz - j ∧ j ≤ sz ∧ x3 = nI j ∧ x2 = bI r.1 ∧ r.2.1 ≤ sz ∧ r.2.2.1.length + at_ ≤ r.2.1 ∧ xst μ0 u sz r.2.1 (cd ++ r.2.2.1) μ2 ∧ ch B sz sub isAnd (sz - j) r = ch B sz sub isAnd sz (sub at_), ⟨sz, sub at_, 0, rfl, Nat.zero_le _, rfl, rfl, o2, o3, hx1, rfl⟩, ?_⟩
  rintro z x2 x3 μ2 ⟨r, j, rfl, hj, rfl, rfl, h1, h2, hx2, he⟩
  dsimp only
  have out : ch B sz sub isAnd (sz - j) r = r → (bI r.1 = 0 ∨ bI r.1 = 1) ∧ K (bI r.1) μ2 := fun e => by
    refine ⟨bI01 _, ?_⟩
    have h3 := hK μ2
    dsimp only at h3
    rw [← he, e] at h3
    exact h3 hx2
  rw [hx2.2.1]
  by_cases hjs : j = sz
  · rw [if_pos (nI_le_yes (by omega) (by omega) (by omega))]
    exact out (by rw [hjs, Nat.sub_self]; rfl)
  · rw [if_neg (nI_le_no (by omega) (by omega) (by omega))]
    by_cases hg : r.1 = true
    · rw [if_neg (by rw [hg]; decide)]
      have go : ∀ s : Int32, nxt B sz r.2.1 = s → isAnd s = true → ∀ μ7 : sm_Mem, μ7 = sm_st μ2 43 3 (μ2 43 3 + 1) → wg_R n 2 (fun r13 μ12 => w_T_add (fun μ14 => (fun a0 a1 μ_1 => ∃ k, k < sz - j ∧ ∃ (r : PR) (j : Nat), k = sz - j ∧ j ≤ sz ∧ a1 = nI j ∧ a0 = bI r.1 ∧ r.2.1 ≤ sz ∧ r.2.2.1.length + at_ ≤ r.2.1 ∧ xst μ0 u sz r.2.1 (cd ++ r.2.2.1) μ_1 ∧ ch B sz sub isAnd (sz - j) r = ch B sz sub isAnd sz (sub at_)) r13 (nI j + 1) μ14) 44 s 0 μ12) (nI (5 - d)) μ7 := by
        intro s es hss μ7 e7
        have hlt : r.2.1 < sz := nxt_lt (fun e => by rw [es] at e; rw [e] at hss; exact absurd hss (by decide))
        rw [hx2.2.2.1, ← nI_succ] at e7
        have hx7 : xst μ0 u sz (r.2.1 + 1) (cd ++ r.2.2.1) μ7 := by rw [e7]; exact xst_at hx2 _
        obtain ⟨b1, b2, b3, b4, b5⟩ := hok (r.2.1 + 1) hlt
        refine hs _ (r.2.1 + 1) (cd ++ r.2.2.1) μ7 hlt (by rw [List.length_append]; omega) hx7 (fun μ8 hx8 => ?_)
        refine x_add hx8 (by simp only [List.length_append]; omega) (fun μ9 hx9 => ?_)
        refine ⟨sz - (j + 1), by omega, ((sub (r.2.1 + 1)).1, (sub (r.2.1 + 1)).2.1, r.2.2.1 ++ (sub (r.2.1 + 1)).2.2.1 ++ [(nxt B sz r.2.1, 0)], fun a b c => pj (nxt B sz r.2.1) (r.2.2.2 a b c) ((sub (r.2.1 + 1)).2.2.2 a b c)), j + 1, rfl, by omega, (nI_succ j).symm, rfl, b2, ?_, ?_, ?_⟩
        · show (r.2.2.1 ++ (sub (r.2.1 + 1)).2.2.1 ++ [(nxt B sz r.2.1, 0)]).length + at_ ≤ (sub (r.2.1 + 1)).2.1
          simp only [List.length_append, List.length_cons, List.length_nil]
          omega
        · show xst μ0 u sz (sub (r.2.1 + 1)).2.1 (cd ++ (r.2.2.1 ++ (sub (r.2.1 + 1)).2.2.1 ++ [(nxt B sz r.2.1, 0)])) μ9
          rw [es, ← List.append_assoc, ← List.append_assoc]
          exact hx9
        · rw [← he, show sz - j = (sz - (j + 1)) + 1 by omega, ch, if_pos ⟨hg, by rw [es]; exact hss⟩]
      refine x_next hB hz h1 hx2 ?_
      by_cases c0 : nxt B sz r.2.1 = 38
      · rw [if_pos c0]
        exact go 38 c0 (by decide)
      · rw [if_neg c0]
        exact out (ch_exit (fun q => by have := q.2; unfold isAnd at this; simp [c0] at this))
    · rw [if_pos (by rw [Bool.eq_false_iff.mpr hg]; rfl)]
      exact out (ch_exit (fun q => hg q.1))
theorem x_sum {μ0 : sm_Mem} {B : Nat → Int32} {u sz n d : Nat} {sub : Nat → PR} (hB : ∀ i, i < sz → μ0 48 i = B i) (hz : sz ≤ 50) (hok : ∀ i, i ≤ sz → pOk sz i (sub i)) (hs : XC μ0 u sz n 4 sub d) : XC μ0 u sz (n + 1) 3 (fun i => ch B sz sub isAdd sz (sub i)) d := by
  intro K at_ cd μ hat hcd hx hK
  show w_R_readSum (wg_R n) K (nI (5 - d)) μ
  unfold w_R_readSum
  refine hs _ at_ cd μ hat hcd hx (fun μ1 hx1 => ?_)
  obtain ⟨o1, o2, o3, o4, o5⟩ := hok at_ hat
  unfold w_R_readSum_8
  refine ⟨fun z x2 x3 μ2 => ∃ (r : PR) (j : Nat), z = sz - j ∧ j ≤ sz ∧ x3 = nI j ∧ x2 = bI r.1 ∧ r.2.1 ≤ sz ∧ r.2.2.1.length + at_ ≤ r.2.1 ∧ xst μ0 u sz r.2.1 (cd ++ r.2.2.1) μ2 ∧ ch B sz sub isAdd (sz - j) r = ch B sz sub isAdd sz (sub at_), ⟨sz, sub at_, 0, rfl, Nat.zero_le _, rfl, rfl, o2, o3, hx1, rfl⟩, ?_⟩
  rintro z x2 x3 μ2 ⟨r, j, rfl, hj, rfl, rfl, h1, h2, hx2, he⟩
  dsimp only
  have out : ch B sz sub isAdd (sz - j) r = r → (bI r.1 = 0 ∨ bI r.1 = 1) ∧ K (bI r.1) μ2 := fun e => by
    refine ⟨bI01 _, ?_⟩
    have h3 := hK μ2
    dsimp only at h3
    rw [← he, e] at h3
    exact h3 hx2
  rw [hx2.2.1]
  by_cases hjs : j = sz
  · rw [if_pos (nI_le_yes (by omega) (by omega) (by omega))]
    exact out (by rw [hjs, Nat.sub_self]; rfl)
  · rw [if_neg (nI_le_no (by omega) (by omega) (by omega))]
    by_cases hg : r.1 = true
    · rw [if_neg (by rw [hg]; decide)]
      have go : ∀ s : Int32, nxt B sz r.2.1 = s → isAdd s = true → ∀ μ7 : sm_Mem, μ7 = sm_st μ2 43 3 (μ2 43 3 + 1) → wg_R n 4 (fun r13 μ12 => w_T_add (fun μ14 => (fun a0 a1 μ_1 => ∃ k, k < sz - j ∧ ∃ (r : PR) (j : Nat), k = sz - j ∧ j ≤ sz ∧ a1 = nI j ∧ a0 = bI r.1 ∧ r.2.1 ≤ sz ∧ r.2.2.1.length + at_ ≤ r.2.1 ∧ xst μ0 u sz r.2.1 (cd ++ r.2.2.1) μ_1 ∧ ch B sz sub isAdd (sz - j) r = ch B sz sub isAdd sz (sub at_)) r13 (nI j + 1) μ14) 44 s 0 μ12) (nI (5 - d)) μ7 := by
        intro s es hss μ7 e7
        have hlt : r.2.1 < sz := nxt_lt (fun e => by rw [es] at e; rw [e] at hss; exact absurd hss (by decide))
        rw [hx2.2.2.1, ← nI_succ] at e7
        have hx7 : xst μ0 u sz (r.2.1 + 1) (cd ++ r.2.2.1) μ7 := by rw [e7]; exact xst_at hx2 _
        obtain ⟨b1, b2, b3, b4, b5⟩ := hok (r.2.1 + 1) hlt
        refine hs _ (r.2.1 + 1) (cd ++ r.2.2.1) μ7 hlt (by rw [List.length_append]; omega) hx7 (fun μ8 hx8 => ?_)
        refine x_add hx8 (by simp only [List.length_append]; omega) (fun μ9 hx9 => ?_)
        refine ⟨sz - (j + 1), by omega, ((sub (r.2.1 + 1)).1, (sub (r.2.1 + 1)).2.1, r.2.2.1 ++ (sub (r.2.1 + 1)).2.2.1 ++ [(nxt B sz r.2.1, 0)], fun a b c => pj (nxt B sz r.2.1) (r.2.2.2 a b c) ((sub (r.2.1 + 1)).2.2.2 a b c)), j + 1, rfl, by omega, (nI_succ j).symm, rfl, b2, ?_, ?_, ?_⟩
        · show (r.2.2.1 ++ (sub (r.2.1 + 1)).2.2.1 ++ [(nxt B sz r.2.1, 0)]).length + at_ ≤ (sub (r.2.1 + 1)).2.1
          simp only [List.length_append, List.length_cons, List.length_nil]
          omega
        · show xst μ0 u sz (sub (r.2.1 + 1)).2.1 (cd ++ (r.2.2.1 ++ (sub (r.2.1 + 1)).2.2.1 ++ [(nxt B sz r.2.1, 0)])) μ9
          rw [es, ← List.append_assoc, ← List.append_assoc]
          exact hx9
        · rw [← he, show sz - j = (sz - (j + 1)) + 1 by omega, ch, if_pos ⟨hg, by rw [es]; exact hss⟩]
      have blk : ∀ s : Int32, nxt B sz r.2.1 = s → isAdd s = true → w_R_readSum_38 (wg_R n) K (fun a0 a1 μ_1 => ∃ k, k < sz - j ∧ ∃ (r : PR) (j : Nat), k = sz - j ∧ j ≤ sz ∧ a1 = nI j ∧ a0 = bI r.1 ∧ r.2.1 ≤ sz ∧ r.2.2.1.length + at_ ≤ r.2.1 ∧ xst μ0 u sz r.2.1 (cd ++ r.2.2.1) μ_1 ∧ ch B sz sub isAdd (sz - j) r = ch B sz sub isAdd sz (sub at_)) (nI (5 - d)) (nI j) μ2 := by
        intro s es hss
        unfold w_R_readSum_38
        refine x_next hB hz h1 hx2 ?_
        intro μ12 e12
        rw [es]
        exact go s es hss μ12 e12
      refine x_next hB hz h1 hx2 ?_
      by_cases c0 : nxt B sz r.2.1 = 43
      · rw [if_pos c0]
        exact blk 43 c0 (by decide)
      · rw [if_neg c0]
        refine x_next hB hz h1 hx2 ?_
        by_cases c1 : nxt B sz r.2.1 = 45
        · rw [if_pos c1]
          exact blk 45 c1 (by decide)
        · rw [if_neg c1]
          exact out (ch_exit (fun q => by have := q.2; unfold isAdd at this; simp [c0, c1] at this))
    · rw [if_pos (by rw [Bool.eq_false_iff.mpr hg]; rfl)]
      exact out (ch_exit (fun q => hg q.1))
theorem x_prod {μ0 : sm_Mem} {B : Nat → Int32} {u sz n d : Nat} {sub : Nat → PR} (hB : ∀ i, i < sz → μ0 48 i = B i) (hz : sz ≤ 50) (hok : ∀ i, i ≤ sz → pOk sz i (sub i)) (hs : XC μ0 u sz n 5 sub d) : XC μ0 u sz (n + 1) 4 (fun i => ch B sz sub isMul sz (sub i)) d := by
  intro K at_ cd μ hat hcd hx hK
  show w_R_readProduct (wg_R n) K (nI (5 - d)) μ
  unfold w_R_readProduct
  refine hs _ at_ cd μ hat hcd hx (fun μ1 hx1 => ?_)
  obtain ⟨o1, o2, o3, o4, o5⟩ := hok at_ hat
  unfold w_R_readProduct_8
  refine ⟨fun z x2 x3 μ2 => ∃ (r : PR) (j : Nat), z = sz - j ∧ j ≤ sz ∧ x3 = nI j ∧ x2 = bI r.1 ∧ r.2.1 ≤ sz ∧ r.2.2.1.length + at_ ≤ r.2.1 ∧ xst μ0 u sz r.2.1 (cd ++ r.2.2.1) μ2 ∧ ch B sz sub isMul (sz - j) r = ch B sz sub isMul sz (sub at_), ⟨sz, sub at_, 0, rfl, Nat.zero_le _, rfl, rfl, o2, o3, hx1, rfl⟩, ?_⟩
  rintro z x2 x3 μ2 ⟨r, j, rfl, hj, rfl, rfl, h1, h2, hx2, he⟩
  dsimp only
  have out : ch B sz sub isMul (sz - j) r = r → (bI r.1 = 0 ∨ bI r.1 = 1) ∧ K (bI r.1) μ2 := fun e => by
    refine ⟨bI01 _, ?_⟩
    have h3 := hK μ2
    dsimp only at h3
    rw [← he, e] at h3
    exact h3 hx2
  rw [hx2.2.1]
  by_cases hjs : j = sz
  · rw [if_pos (nI_le_yes (by omega) (by omega) (by omega))]
    exact out (by rw [hjs, Nat.sub_self]; rfl)
  · rw [if_neg (nI_le_no (by omega) (by omega) (by omega))]
    by_cases hg : r.1 = true
    · rw [if_neg (by rw [hg]; decide)]
      have go : ∀ s : Int32, nxt B sz r.2.1 = s → isMul s = true → ∀ μ7 : sm_Mem, μ7 = sm_st μ2 43 3 (μ2 43 3 + 1) → wg_R n 5 (fun r13 μ12 => w_T_add (fun μ14 => (fun a0 a1 μ_1 => ∃ k, k < sz - j ∧ ∃ (r : PR) (j : Nat), k = sz - j ∧ j ≤ sz ∧ a1 = nI j ∧ a0 = bI r.1 ∧ r.2.1 ≤ sz ∧ r.2.2.1.length + at_ ≤ r.2.1 ∧ xst μ0 u sz r.2.1 (cd ++ r.2.2.1) μ_1 ∧ ch B sz sub isMul (sz - j) r = ch B sz sub isMul sz (sub at_)) r13 (nI j + 1) μ14) 44 s 0 μ12) (nI (5 - d)) μ7 := by
        intro s es hss μ7 e7
        have hlt : r.2.1 < sz := nxt_lt (fun e => by rw [es] at e; rw [e] at hss; exact absurd hss (by decide))
        rw [hx2.2.2.1, ← nI_succ] at e7
        have hx7 : xst μ0 u sz (r.2.1 + 1) (cd ++ r.2.2.1) μ7 := by rw [e7]; exact xst_at hx2 _
        obtain ⟨b1, b2, b3, b4, b5⟩ := hok (r.2.1 + 1) hlt
        refine hs _ (r.2.1 + 1) (cd ++ r.2.2.1) μ7 hlt (by rw [List.length_append]; omega) hx7 (fun μ8 hx8 => ?_)
        refine x_add hx8 (by simp only [List.length_append]; omega) (fun μ9 hx9 => ?_)
        refine ⟨sz - (j + 1), by omega, ((sub (r.2.1 + 1)).1, (sub (r.2.1 + 1)).2.1, r.2.2.1 ++ (sub (r.2.1 + 1)).2.2.1 ++ [(nxt B sz r.2.1, 0)], fun a b c => pj (nxt B sz r.2.1) (r.2.2.2 a b c) ((sub (r.2.1 + 1)).2.2.2 a b c)), j + 1, rfl, by omega, (nI_succ j).symm, rfl, b2, ?_, ?_, ?_⟩
        · show (r.2.2.1 ++ (sub (r.2.1 + 1)).2.2.1 ++ [(nxt B sz r.2.1, 0)]).length + at_ ≤ (sub (r.2.1 + 1)).2.1
          simp only [List.length_append, List.length_cons, List.length_nil]
          omega
        · show xst μ0 u sz (sub (r.2.1 + 1)).2.1 (cd ++ (r.2.2.1 ++ (sub (r.2.1 + 1)).2.2.1 ++ [(nxt B sz r.2.1, 0)])) μ9
          rw [es, ← List.append_assoc, ← List.append_assoc]
          exact hx9
        · rw [← he, show sz - j = (sz - (j + 1)) + 1 by omega, ch, if_pos ⟨hg, by rw [es]; exact hss⟩]
      have blk : ∀ s : Int32, nxt B sz r.2.1 = s → isMul s = true → w_R_readProduct_47 (wg_R n) K (fun a0 a1 μ_1 => ∃ k, k < sz - j ∧ ∃ (r : PR) (j : Nat), k = sz - j ∧ j ≤ sz ∧ a1 = nI j ∧ a0 = bI r.1 ∧ r.2.1 ≤ sz ∧ r.2.2.1.length + at_ ≤ r.2.1 ∧ xst μ0 u sz r.2.1 (cd ++ r.2.2.1) μ_1 ∧ ch B sz sub isMul (sz - j) r = ch B sz sub isMul sz (sub at_)) (nI (5 - d)) (nI j) μ2 := by
        intro s es hss
        unfold w_R_readProduct_47
        refine x_next hB hz h1 hx2 ?_
        intro μ12 e12
        rw [es]
        exact go s es hss μ12 e12
      refine x_next hB hz h1 hx2 ?_
      by_cases c0 : nxt B sz r.2.1 = 42
      · rw [if_pos c0]
        exact blk 42 c0 (by decide)
      · rw [if_neg c0]
        refine x_next hB hz h1 hx2 ?_
        by_cases c1 : nxt B sz r.2.1 = 47
        · rw [if_pos c1]
          exact blk 47 c1 (by decide)
        · rw [if_neg c1]
          refine x_next hB hz h1 hx2 ?_
          by_cases c2 : nxt B sz r.2.1 = 37
          · rw [if_pos c2]
            exact blk 37 c2 (by decide)
          · rw [if_neg c2]
            exact out (ch_exit (fun q => by have := q.2; unfold isMul at this; simp [c0, c1, c2] at this))
    · rw [if_pos (by rw [Bool.eq_false_iff.mpr hg]; rfl)]
      exact out (ch_exit (fun q => hg q.1))
theorem x_cmp {μ0 : sm_Mem} {B : Nat → Int32} {u sz n d : Nat} {sub : Nat → PR} (hB : ∀ i, i < sz → μ0 48 i = B i) (hz : sz ≤ 50) (hok : ∀ i, i ≤ sz → pOk sz i (sub i)) (hs : XC μ0 u sz n 3 sub d) : XC μ0 u sz (n + 1) 2 (fun i => ch B sz sub isCmp 1 (sub i)) d := by
  intro K at_ cd μ hat hcd hx hK
  show w_R_readComparison (wg_R n) K (nI (5 - d)) μ
  unfold w_R_readComparison
  refine hs _ at_ cd μ hat hcd hx (fun μ1 hx1 => ?_)
  obtain ⟨o1, o2, o3, o4, o5⟩ := hok at_ hat
  have out : ¬ ((sub at_).1 = true ∧ isCmp (nxt B sz (sub at_).2.1) = true) → K (bI (sub at_).1) μ1 := by
    intro q
    have h3 := hK μ1
    dsimp only at h3
    rw [ch_exit q] at h3
    exact h3 hx1
  by_cases hg : (sub at_).1 = true
  · rw [if_neg (by rw [hg]; decide)]
    refine x_next hB hz o2 hx1 ?_
    have go : isCmp (nxt B sz (sub at_).2.1) = true → w_R_readComparison_35 (wg_R n) K (nI (5 - d)) (nxt B sz (sub at_).2.1) μ1 := by
      intro hss
      unfold w_R_readComparison_35
      intro μ7 e7
      have hlt : (sub at_).2.1 < sz := nxt_lt (fun e => by rw [e] at hss; exact absurd hss (by decide))
      rw [hx1.2.2.1, ← nI_succ] at e7
      have hx7 : xst μ0 u sz ((sub at_).2.1 + 1) (cd ++ (sub at_).2.2.1) μ7 := by rw [e7]; exact xst_at hx1 _
      obtain ⟨b1, b2, b3, b4, b5⟩ := hok ((sub at_).2.1 + 1) hlt
      refine hs _ ((sub at_).2.1 + 1) (cd ++ (sub at_).2.2.1) μ7 hlt (by rw [List.length_append]; omega) hx7 (fun μ8 hx8 => ?_)
      refine x_add hx8 (by simp only [List.length_append]; omega) (fun μ9 hx9 => ?_)
      refine ⟨bI01 _, ?_⟩
      have h3 := hK μ9
      dsimp only at h3
      rw [ch, if_pos ⟨hg, hss⟩, ch] at h3
      refine h3 ?_
      show xst μ0 u sz (sub ((sub at_).2.1 + 1)).2.1 (cd ++ ((sub at_).2.2.1 ++ (sub ((sub at_).2.1 + 1)).2.2.1 ++ [(nxt B sz (sub at_).2.1, 0)])) μ9
      rw [← List.append_assoc, ← List.append_assoc]
      exact hx9
    by_cases c0 : nxt B sz (sub at_).2.1 = 60
    · rw [if_pos c0]
      exact go (by rw [c0]; decide)
    · rw [if_neg c0]
      by_cases c1 : nxt B sz (sub at_).2.1 = 61
      · rw [if_pos c1]
        exact go (by rw [c1]; decide)
      · rw [if_neg c1]
        by_cases c2 : nxt B sz (sub at_).2.1 = 62
        · rw [if_pos c2]
          exact go (by rw [c2]; decide)
        · rw [if_neg c2]
          have h3 := out (fun q => by have := q.2; unfold isCmp at this; simp [c0, c1, c2] at this)
          rw [hg] at h3
          exact h3
  · rw [if_pos (by rw [Bool.eq_false_iff.mpr hg]; rfl)]
    have h3 := out (fun q => hg q.1)
    rw [Bool.eq_false_iff.mpr hg] at h3
    exact h3
theorem x_isDigit {K : Int32 → sm_Mem → Prop} {x : Int32} {μ : sm_Mem} (hK : K (if 48 ≤ x ∧ x ≤ 57 then 1 else 0) μ) : w_R_isDigit K x μ := by
  unfold w_R_isDigit
  by_cases h1 : x < 48
  · rw [if_neg (fun q => absurd h1 (Int32.not_lt.mpr q.1))] at hK
    rw [if_pos h1]
    exact hK
  · rw [if_neg h1]
    by_cases h2 : 57 < x
    · rw [if_neg (fun q => absurd h2 (Int32.not_lt.mpr q.2))] at hK
      rw [if_pos h2]
      exact hK
    · rw [if_pos ⟨Int32.not_lt.mp h1, Int32.not_lt.mp h2⟩] at hK
      rw [if_neg h2]
      exact hK
theorem x_number {K : sm_Mem → Prop} {μ0 : sm_Mem} {B : Nat → Int32} {u sz at_ : Nat} {cd : List (Int32 × Int32)} {μ : sm_Mem} (hB : ∀ i, i < sz → μ0 48 i = B i) (hz : sz ≤ 50) (ha : at_ ≤ sz) (hcd : cd.length < 50) (hx : xst μ0 u sz at_ cd μ) (hK : ∀ μ2, xst μ0 u sz (pn B sz 4 at_ 0).1 (cd ++ [(110, (pn B sz 4 at_ 0).2)]) μ2 → K μ2) : w_R_readNumber K μ := by
  unfold w_R_readNumber w_R_readNumber_4
  refine ⟨fun m x1 x2 μ3 => ∃ (j p : Nat), m = 4 - j ∧ j ≤ 4 ∧ x2 = nI j ∧ p ≤ sz ∧ xst μ0 u sz p cd μ3 ∧ pn B sz (4 - j) p x1 = pn B sz 4 at_ 0, ⟨4, 0, at_, rfl, by omega, rfl, ha, hx, rfl⟩, ?_⟩
  rintro m x1 x2 μ3 ⟨j, p, rfl, hj, rfl, hp, hx3, he⟩
  dsimp only
  have out : pn B sz (4 - j) p x1 = (p, x1) → w_R_readNumber_48 K x1 μ3 := by
    intro e
    unfold w_R_readNumber_48
    refine x_add hx3 hcd (fun μ4 hx4 => ?_)
    rw [← he, e] at hK
    exact hK μ4 hx4
  by_cases j4 : j = 4
  · rw [if_pos (by rw [j4]; decide)]
    exact out (by rw [j4, Nat.sub_self]; rfl)
  · have n4 : ¬ (4 : Int32) ≤ nI j := nI_le_no (a := 4) (by omega) (by omega) (by omega)
    rw [if_neg n4]
    refine x_next hB hz hp hx3 ?_
    refine x_isDigit ?_
    obtain ⟨k, ek⟩ : ∃ k, 4 - j = k + 1 := ⟨4 - j - 1, by omega⟩
    by_cases q : 48 ≤ nxt B sz p ∧ nxt B sz p ≤ 57
    · rw [if_pos q, if_neg (by decide)]
      refine x_next hB hz hp hx3 ?_
      intro v10 e10 μ11 e11
      have hlt : p < sz := nxt_lt (fun e => by rw [e] at q; exact absurd q.1 (by decide))
      rw [hx3.2.2.1, ← nI_succ] at e11
      rw [ek, pn, if_pos q] at he
      refine ⟨4 - (j + 1), by omega, j + 1, p + 1, rfl, by omega, (nI_succ j).symm, hlt, by rw [e11]; exact xst_at hx3 _, ?_⟩
      rw [e10, show 4 - (j + 1) = k by omega]
      exact he
    · rw [if_neg q, if_pos rfl]
      exact out (by rw [ek, pn, if_neg q])
theorem ch_tab : ∀ b, b < 256 → ((nI b).toUInt32 % 65536).toInt32 = nI b := by decide +kernel
theorem idx_tab : ∀ u, u < 2 → ∀ b, b < 256 → sm_idx (u + 1) (nI b) = if nI b = pName u 0 then 0 else if nI b = pName u 1 then 1 else if nI b = pName u 2 then 2 else -1 := by decide +kernel
theorem m1_name : ∀ u, u < 2 → ∀ i, i < 3 → ¬ (-1 : Int32) = pName u i := by decide +kernel
theorem x_part {μ0 : sm_Mem} {B : Nat → Int32} {u sz n d : Nat} (hB : ∀ i, i < sz → μ0 48 i = B i) (hz : sz ≤ 50) (hb : ∀ i, i < sz → ∃ b : Nat, b ≤ 255 ∧ B i = nI b) (hu : u ≤ 1) (hd : d ≤ 5) (hs : ∀ d2, d = d2 + 1 → XC μ0 u sz n 5 (pPart B sz u d2) d2 ∧ XC μ0 u sz n 0 (pOr B sz (pPart B sz u d2)) d2) : XC μ0 u sz (n + 2) 5 (pPart B sz u d) d := by
  intro K at_ cd μ hat hcd hx hK
  show w_R_readPart (wg_R (n + 1)) K (nI (5 - d)) μ
  unfold w_R_readPart
  refine x_next hB hz hat hx ?_
  refine x_isDigit ?_
  by_cases q : 48 ≤ nxt B sz at_ ∧ nxt B sz at_ ≤ 57
  · rw [if_pos q, if_neg (by decide)]
    rw [pPart_dig q] at hK
    have hlt : at_ < sz := nxt_lt (fun e => by rw [e] at q; exact absurd q.1 (by decide))
    exact x_number hB hz hat (by omega) hx (fun μ2 hx2 => hK μ2 hx2)
  · rw [if_neg q, if_pos rfl]
    obtain ⟨p0, p1, p2, p3⟩ := pPart_nm (u := u) (d := d) q
    have f74 : (nxt B sz at_ = 33 ∨ nxt B sz at_ = 40) → w_R_readPart_74 (wg_R (n + 1)) K (nI (5 - d)) (nxt B sz at_) μ := by
      intro hc
      have hlt : at_ < sz := nxt_lt (fun e => by rw [e] at hc; revert hc; decide)
      unfold w_R_readPart_74
      cases d with
      | zero =>
        have hne : ∀ i, i ≤ 2 → ¬ nxt B sz at_ = pName u i := fun i hi e => by
          rcases hc with hc | hc
          · exact (pName_ne hu hi).1 (hc.symm.trans e)
          · exact (pName_ne hu hi).2 (hc.symm.trans e)
        rw [p3 (hne 0 (by omega)) (hne 1 (by omega)) (hne 2 (by omega)) (Or.inl rfl)] at hK
        rw [if_neg (by decide)]
        exact hK μ (by rw [List.append_nil]; exact hx)
      | succ d2 =>
        obtain ⟨hs5, hs0⟩ := hs d2 rfl
        have q5 : nI (5 - (d2 + 1)) < 5 := nI_lt_yes (b := 5) (by omega) (by omega) (by omega)
        rw [if_pos q5]
        intro μ12 e12
        rw [hx.2.2.1, ← nI_succ] at e12
        have hx12 : xst μ0 u sz (at_ + 1) cd μ12 := by rw [e12]; exact xst_at hx _
        have ep : nI (5 - (d2 + 1)) + 1 = nI (5 - d2) := by rw [← nI_succ]; congr 1; omega
        rw [ep]
        have hpo := pPart_ok B sz u d2 (at_ + 1) hlt
        by_cases c1 : nxt B sz at_ = 33
        · rw [if_pos c1]
          rw [pPart_33 hu c1] at hK
          show w_R_readDenied (wg_R n) _ (nI (5 - d2)) μ12
          unfold w_R_readDenied
          refine hs5 _ (at_ + 1) cd μ12 hlt (by omega) hx12 (fun μ2 hx2 => ?_)
          refine x_add hx2 (by have := hpo.2.2.1; have := hpo.2.1; rw [List.length_append]; omega) (fun μ3 hx3 => ?_)
          refine ⟨bI01 _, bI01 _, ?_⟩
          exact hK μ3 (by rw [← List.append_assoc]; exact hx3)
        · rw [if_neg c1]
          have c2 : nxt B sz at_ = 40 := by
            rcases hc with hc | hc
            · exact absurd hc c1
            · exact hc
          rw [pPart_40 hu c2] at hK
          have hok := (pOr_ok (B := B) (pPart_ok B sz u d2)).2.2.2.2 (at_ + 1) hlt
          show w_R_readClosed (wg_R n) (fun r15 μ14 => (r15 = 0 ∨ r15 = 1) ∧ K r15 μ14) (nI (5 - d2)) μ12
          unfold w_R_readClosed
          refine hs0 _ (at_ + 1) cd μ12 hlt (by omega) hx12 (fun μ2 hx2 => ?_)
          by_cases hg : (pOr B sz (pPart B sz u d2) (at_ + 1)).1 = true
          · rw [if_neg (by rw [hg]; decide)]
            refine x_next hB hz hok.2.1 hx2 ?_
            by_cases c3 : nxt B sz (pOr B sz (pPart B sz u d2) (at_ + 1)).2.1 = 41
            · rw [if_pos c3]
              rw [if_pos ⟨hg, c3⟩] at hK
              intro μ7 e7
              rw [hx2.2.2.1, ← nI_succ] at e7
              exact ⟨Or.inr rfl, hK μ7 (by rw [e7]; exact xst_at hx2 _)⟩
            · rw [if_neg c3]
              rw [if_neg (fun z => c3 z.2)] at hK
              exact ⟨Or.inl rfl, hK μ2 hx2⟩
          · rw [if_pos (by rw [Bool.eq_false_iff.mpr hg]; rfl)]
            rw [if_neg (fun z => hg z.1)] at hK
            exact ⟨Or.inl rfl, hK μ2 hx2⟩
    have neg35 : (¬ nxt B sz at_ = pName u 0) → (¬ nxt B sz at_ = pName u 1) → (¬ nxt B sz at_ = pName u 2) → w_R_readPart_35 (wg_R (n + 1)) K (nI (5 - d)) (nxt B sz at_) (-1) μ := by
      intro g0 g1 g2
      unfold w_R_readPart_35
      rw [if_pos (by decide)]
      by_cases c1 : nxt B sz at_ = 33
      · rw [if_pos c1]
        exact f74 (Or.inl c1)
      · rw [if_neg c1]
        by_cases c2 : nxt B sz at_ = 40
        · rw [if_pos c2]
          exact f74 (Or.inr c2)
        · rw [if_neg c2]
          rw [p3 g0 g1 g2 (Or.inr ⟨c1, c2⟩)] at hK
          exact hK μ (by rw [List.append_nil]; exact hx)
    by_cases hlt : at_ < sz
    · obtain ⟨b, hb1, hb2⟩ := hb at_ hlt
      have hn : nxt B sz at_ = nI b := by
        unfold nxt
        rw [if_pos hlt]
        exact hb2
      have ge : (0 : Int32) ≤ nxt B sz at_ := by
        rw [hn]
        exact nI_le_yes (a := 0) (by omega) (by omega) (by omega)
      rw [if_pos ge]
      have ec : ((nxt B sz at_).toUInt32 % 65536).toInt32 = nxt B sz at_ := by
        rw [hn]
        exact ch_tab b (by omega)
      rw [ec, hx.2.2.2.1, ix_nI (by omega)]
      refine ⟨by omega, ⟨ge, ?_⟩, ?_⟩
      · rw [hn]
        exact nI_lt_yes (b := 65536) (by omega) (by omega) (by omega)
      have ei := idx_tab u (by omega) b (by omega)
      rw [← hn] at ei
      rw [ei]
      have nm : ∀ (i : Nat) (v : pV), i ≤ 2 → pPart B sz u d at_ = (true, at_ + 1, [(97, nI i)], v) → w_R_readPart_35 (wg_R (n + 1)) K (nI (5 - d)) (nxt B sz at_) (nI i) μ := by
        intro i v hi e
        unfold w_R_readPart_35
        have n0 : ¬ nI i < 0 := nI_lt_no (b := 0) (by omega) (by omega) (by omega)
        rw [if_neg n0]
        intro μ21 e21
        rw [hx.2.2.1, ← nI_succ] at e21
        have hx21 : xst μ0 u sz (at_ + 1) cd μ21 := by rw [e21]; exact xst_at hx _
        refine x_add hx21 (by omega) (fun μ2 hx2 => ?_)
        rw [e] at hK
        exact hK μ2 hx2
      by_cases g0 : nxt B sz at_ = pName u 0
      · rw [if_pos g0]
        exact nm 0 _ (by omega) (p0 g0)
      · rw [if_neg g0]
        by_cases g1 : nxt B sz at_ = pName u 1
        · rw [if_pos g1]
          exact nm 1 _ (by omega) (p1 g0 g1)
        · rw [if_neg g1]
          by_cases g2 : nxt B sz at_ = pName u 2
          · rw [if_pos g2]
            exact nm 2 _ (by omega) (p2 g0 g1 g2)
          · rw [if_neg g2]
            exact neg35 g0 g1 g2
    · have hn : nxt B sz at_ = -1 := by
        unfold nxt
        rw [if_neg hlt]
      have ng : ¬ (0 : Int32) ≤ nxt B sz at_ := by
        rw [hn]
        decide
      rw [if_neg ng]
      refine neg35 ?_ ?_ ?_ <;> rw [hn]
      · exact m1_name u (by omega) 0 (by omega)
      · exact m1_name u (by omega) 1 (by omega)
      · exact m1_name u (by omega) 2 (by omega)
theorem x_all {μ0 : sm_Mem} {B : Nat → Int32} {u sz : Nat} (hB : ∀ i, i < sz → μ0 48 i = B i) (hz : sz ≤ 50) (hb : ∀ i, i < sz → ∃ b : Nat, b ≤ 255 ∧ B i = nI b) (hu : u ≤ 1) : ∀ d, d ≤ 5 → ∀ n, 7 * d + 2 ≤ n → XC μ0 u sz n 5 (pPart B sz u d) d := by
  have up : ∀ d n, (∀ n, 7 * d + 2 ≤ n → XC μ0 u sz n 5 (pPart B sz u d) d) → 7 * d + 7 ≤ n → XC μ0 u sz n 0 (pOr B sz (pPart B sz u d)) d := by
    intro d n h hn
    obtain ⟨o1, o2, o3, o4, o5⟩ := pOr_ok (B := B) (pPart_ok B sz u d)
    obtain ⟨k, rfl⟩ : ∃ k, n = k + 5 := ⟨n - 5, by omega⟩
    exact x_or hB hz o4 (x_and hB hz o3 (x_cmp hB hz o2 (x_sum hB hz o1 (x_prod hB hz (pPart_ok B sz u d) (h k (by omega))))))
  intro d
  induction d with
  | zero =>
    intro _ n hn
    obtain ⟨k, rfl⟩ : ∃ k, n = k + 2 := ⟨n - 2, by omega⟩
    exact x_part hB hz hb hu (by omega) (fun d2 e => by omega)
  | succ d ih =>
    intro hd n hn
    obtain ⟨k, rfl⟩ : ∃ k, n = k + 2 := ⟨n - 2, by omega⟩
    refine x_part hB hz hb hu hd (fun d2 e => ?_)
    have e2 : d2 = d := by omega
    subst e2
    exact ⟨ih (by omega) k (by omega), up d2 k (ih (by omega)) (by omega)⟩
theorem x_text {μ0 : sm_Mem} {B : Nat → Int32} {u sz : Nat} (hB : ∀ i, i < sz → μ0 48 i = B i) (hz : sz ≤ 50) (hb : ∀ i, i < sz → ∃ b : Nat, b ≤ 255 ∧ B i = nI b) (hu : u ≤ 1) : XC μ0 u sz 50 0 (fun i => pOr B sz (pPart B sz u 5) i) 5 := by
  obtain ⟨o1, o2, o3, o4, o5⟩ := pOr_ok (B := B) (pPart_ok B sz u 5)
  exact x_or (n := 49) hB hz o4 (x_and hB hz o3 (x_cmp hB hz o2 (x_sum hB hz o1 (x_prod hB hz (pPart_ok B sz u 5) (x_all hB hz hb hu 5 (by omega) 45 (by omega))))))

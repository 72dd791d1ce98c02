/-! ===== the model reads a TEXT as it works it out ===== -/
def mst (μ0 : sm_Mem) (u sz at_ op : Nat) (a b c gd : Int32) (μ : sm_Mem) : Prop := fr [61] μ0 μ ∧ (∀ j, j ∉ [7, 8, 9, 10, 11, 12, 13, 14] → μ 61 j = μ0 61 j) ∧ μ 61 7 = nI u ∧ μ 61 8 = nI at_ ∧ μ 61 9 = nI sz ∧ μ 61 10 = nI op ∧ μ 61 11 = a ∧ μ 61 12 = b ∧ μ 61 13 = c ∧ μ 61 14 = gd
def mB (μ0 : sm_Mem) (u : Nat) : Nat → Int32 := bys (μ0 62) u
theorem mst_at {μ0 : sm_Mem} {u sz at_ op : Nat} {a b c gd : Int32} {μ : sm_Mem} (h : mst μ0 u sz at_ op a b c gd μ) (z : Nat) : mst μ0 u sz z op a b c gd (sm_st μ 61 8 (nI z)) := by
  obtain ⟨h0, h1, h2, h3, h4, h5, h6, h7, h8, h9⟩ := h
  refine ⟨fr_st h0 (by simp), fun j hj => ?_, ?_, ?_, ?_, ?_, ?_, ?_, ?_, ?_⟩
  · rw [st_same, if_neg (fun e => hj (by rw [e]; decide))]
    exact h1 j hj
  all_goals rw [st_same]
  all_goals first | rw [if_pos rfl] | (rw [if_neg (by decide)]; assumption)
theorem mst_op {μ0 : sm_Mem} {u sz at_ op : Nat} {a b c gd : Int32} {μ : sm_Mem} (h : mst μ0 u sz at_ op a b c gd μ) (z : Nat) : mst μ0 u sz at_ z a b c gd (sm_st μ 61 10 (nI z)) := by
  obtain ⟨h0, h1, h2, h3, h4, h5, h6, h7, h8, h9⟩ := h
  refine ⟨fr_st h0 (by simp), fun j hj => ?_, ?_, ?_, ?_, ?_, ?_, ?_, ?_, ?_⟩
  · rw [st_same, if_neg (fun e => hj (by rw [e]; decide))]
    exact h1 j hj
  all_goals rw [st_same]
  all_goals first | rw [if_pos rfl] | (rw [if_neg (by decide)]; assumption)
theorem mst_gd {μ0 : sm_Mem} {u sz at_ op : Nat} {a b c gd : Int32} {μ : sm_Mem} (h : mst μ0 u sz at_ op a b c gd μ) (z : Int32) : mst μ0 u sz at_ op a b c z (sm_st μ 61 14 z) := by
  obtain ⟨h0, h1, h2, h3, h4, h5, h6, h7, h8, h9⟩ := h
  refine ⟨fr_st h0 (by simp), fun j hj => ?_, ?_, ?_, ?_, ?_, ?_, ?_, ?_, ?_⟩
  · rw [st_same, if_neg (fun e => hj (by rw [e]; decide))]
    exact h1 j hj
  all_goals rw [st_same]
  all_goals first | rw [if_pos rfl] | (rw [if_neg (by decide)]; assumption)
theorem m_byteAt {K : Int32 → sm_Mem → Prop} {μ0 : sm_Mem} {u sz at_ op : Nat} {a b c gd : Int32} {μ : sm_Mem} (hu : u ≤ 1) (hz : sz ≤ 50) (ha : at_ ≤ sz) (h : mst μ0 u sz at_ op a b c gd μ) (hK : K (nxt (mB μ0 u) sz at_) μ) : w_M_byteAt K (μ 61 8) μ := by
  obtain ⟨h0, h1, h2, h3, h4, h5, h6, h7, h8, h9⟩ := h
  unfold w_M_byteAt
  rw [h2, h3, h4]
  unfold nxt at hK
  by_cases q : at_ < sz
  · rw [if_pos q] at hK
    rw [if_neg (nI_le_no (by omega) (by omega) q)]
    have e : (171 + (50 * nI u)) + nI at_ = nI (171 + 50 * u + at_) := by
      rw [show (50 : Int32) * nI u = nI (50 * u) from nI_mul 50 u, show (171 : Int32) + nI (50 * u) = nI (171 + 50 * u) from nI_add 171 (50 * u), nI_add]
    rw [e]
    refine ⟨(vin_iff (by omega)).mpr (by omega), ?_⟩
    have eB : mB μ0 u at_ = μ0 62 (171 + 50 * u + at_) := by
      unfold mB bys
      rw [if_pos (by omega)]
    rw [ix_nI (by omega), h0 62 (by decide), ← eB]
    exact hK
  · rw [if_neg q] at hK
    rw [if_pos (nI_le_yes (by omega) (by omega) (by omega))]
    exact hK
theorem m_isDigit {K : Int32 → sm_Mem → Prop} {x : Int32} {μ : sm_Mem} (hK : K (if 48 ≤ x ∧ x ≤ 57 then 1 else 0) μ) : w_M_isDigit K x μ := by
  unfold w_M_isDigit
  rw [M_in_eq]
  by_cases q : 48 ≤ x ∧ x ≤ 57
  · rw [if_pos q] at hK ⊢
    exact ⟨Or.inr rfl, hK⟩
  · rw [if_neg q] at hK ⊢
    exact ⟨Or.inl rfl, hK⟩
theorem m_number {K : Int32 → sm_Mem → Prop} {μ0 : sm_Mem} {u sz at_ op : Nat} {a b c : Int32} {μ : sm_Mem} (hu : u ≤ 1) (hz : sz ≤ 50) (ha : at_ ≤ sz) (h : mst μ0 u sz at_ op a b c 1 μ) (hK : ∀ μ2, mst μ0 u sz (pn (mB μ0 u) sz 4 at_ 0).1 op a b c 1 μ2 → K (pn (mB μ0 u) sz 4 at_ 0).2 μ2) : w_M_number K μ := by
  unfold w_M_number w_M_number_4
  refine ⟨fun z x1 x2 μ2 => ∃ p, z ≤ 4 ∧ x2 = nI (4 - z) ∧ p ≤ sz ∧ mst μ0 u sz p op a b c 1 μ2 ∧ pn (mB μ0 u) sz z p x1 = pn (mB μ0 u) sz 4 at_ 0, ⟨4, at_, by omega, rfl, ha, h, rfl⟩, ?_⟩
  rintro z x1 x2 μ2 ⟨p, hz4, rfl, hp, hm, he⟩
  dsimp only
  match z, hz4, he with
  | 0, _, he =>
    have he : (p, x1) = pn (mB μ0 u) sz 4 at_ 0 := he
    rw [if_pos (by decide)]
    have h2 := hK μ2
    rw [← he] at h2
    exact h2 hm
  | z + 1, hz4, he =>
    have q4 : ¬ (4 : Int32) ≤ nI (4 - (z + 1)) := nI_le_no (a := 4) (by omega) (by omega) (by omega)
    rw [if_neg q4]
    refine m_byteAt hu hz hp hm ?_
    refine m_isDigit ?_
    rw [pn] at he
    by_cases q : 48 ≤ nxt (mB μ0 u) sz p ∧ nxt (mB μ0 u) sz p ≤ 57
    · rw [if_pos q] at he ⊢
      rw [if_neg (by decide)]
      refine m_byteAt hu hz hp hm ?_
      intro v9 e9 μ10 e10
      have hlt : p < sz := nxt_lt (fun e => by rw [e] at q; exact absurd q.1 (by decide))
      have e8 : μ2 61 8 + 1 = nI (p + 1) := by rw [hm.2.2.2.1, nI_succ]
      rw [e8] at e10
      refine ⟨z, by omega, p + 1, by omega, ?_, hlt, by rw [e10]; exact mst_at hm (p + 1), ?_⟩
      · show nI (4 - (z + 1)) + 1 = nI (4 - z)
        rw [← nI_succ]
        congr 1
        omega
      · rw [e9, Int32.mul_comm]
        exact he
    · rw [if_neg q] at he ⊢
      rw [if_pos rfl]
      have h2 := hK μ2
      rw [← he] at h2
      exact h2 hm
def bI : Bool → Int32
  | true => 1
  | false => 0
/-- part i of the model's reading at level n, with d more open at most, is P -/
def MC (μ0 : sm_Mem) (u sz : Nat) (a b c : Int32) (n i : Nat) (Pa : Nat → PR) (d : Nat) : Prop := ∀ (K : Int32 → sm_Mem → Prop) (at_ : Nat) (μ : sm_Mem), at_ ≤ sz → mst μ0 u sz at_ (5 - d) a b c 1 μ → (∀ (v : Int32) (μ2 : sm_Mem), mst μ0 u sz (Pa at_).2.1 (5 - d) a b c (bI (Pa at_).1) μ2 → ((Pa at_).1 = true → v = (Pa at_).2.2.2 a b c) → K v μ2) → wg_M n i K μ
theorem ch_exit {B : Nat → Int32} {sz : Nat} {sub : Nat → PR} {isS : Int32 → Bool} {f : Nat} {r : PR} (h : ¬ (r.1 = true ∧ isS (nxt B sz r.2.1) = true)) : ch B sz sub isS f r = r := by
  cases f with
  | zero => rfl
  | succ f => rw [ch, if_neg h]

theorem m_whole {μ0 : sm_Mem} {u sz n d : Nat} {a b c : Int32} {sub : Nat → PR} (hu : u ≤ 1) (hz : sz ≤ 50) (hok : ∀ i, i ≤ sz → pOk sz i (sub i)) (hs : MC μ0 u sz a b c n 1 sub d) : MC μ0 u sz a b c (n + 1) 0 (fun i => ch (mB μ0 u) sz sub isOr sz (sub i)) d := by
  intro K at_ μ hat hm hK
  show w_M_whole (wg_M n) K μ
  unfold w_M_whole
  refine hs _ at_ μ hat hm (fun v μ1 hm1 hv => ?_)
  unfold w_M_whole_5
  refine ⟨fun z x1 μ2 => ∃ r : PR, r.2.1 ≤ sz ∧ sz ≤ z + r.2.1 ∧ mst μ0 u sz r.2.1 (5 - d) a b c (bI r.1) μ2 ∧ (r.1 = true → x1 = r.2.2.2 a b c) ∧ ch (mB μ0 u) sz sub isOr z r = ch (mB μ0 u) sz sub isOr sz (sub at_), ⟨sz, sub at_, (hok at_ hat).2.1, by omega, hm1, hv, rfl⟩, ?_⟩
  rintro z x1 μ2 ⟨r, h1, h2, hm2, hx, he⟩
  dsimp only
  have out : ¬ (r.1 = true ∧ isOr (nxt (mB μ0 u) sz r.2.1) = true) → K x1 μ2 := by
    intro q
    rw [ch_exit q] at he
    have h3 := hK x1 μ2
    dsimp only at h3
    rw [← he] at h3
    exact h3 hm2 hx
  by_cases hg : r.1 = true
  · rw [hg] at hm2
    rw [if_neg (by rw [hm2.2.2.2.2.2.2.2.2.2]; decide)]
    have go : ∀ (s : Int32), s = nxt (mB μ0 u) sz r.2.1 → isOr s = true → ∀ (Kx : Int32 → Int32 → Int32), (∀ x y : Int32, Kx x y = pj s x y) → ∀ (J : Int32 → sm_Mem → Prop), (∀ (w : Int32) (μ3 : sm_Mem), (∃ k, k < z ∧ ∃ r : PR, r.2.1 ≤ sz ∧ sz ≤ k + r.2.1 ∧ mst μ0 u sz r.2.1 (5 - d) a b c (bI r.1) μ3 ∧ (r.1 = true → w = r.2.2.2 a b c) ∧ ch (mB μ0 u) sz sub isOr k r = ch (mB μ0 u) sz sub isOr sz (sub at_)) → J w μ3) → ∀ μ7 : sm_Mem, μ7 = sm_st μ2 61 8 (μ2 61 8 + 1) → ∀ (F : Int32 → sm_Mem → Prop), (∀ (w : Int32) (μ3 : sm_Mem), J (Kx x1 w) μ3 → F w μ3) → wg_M n 1 F μ7 := by
      intro s es hss Kx hKx J hJ μ7 e7 F hF
      have hlt : r.2.1 < sz := nxt_lt (fun e => by rw [es, e] at hss; exact absurd hss (by decide))
      have e8 : μ2 61 8 + 1 = nI (r.2.1 + 1) := by rw [hm2.2.2.2.1, nI_succ]
      rw [e8] at e7
      have hm7 : mst μ0 u sz (r.2.1 + 1) (5 - d) a b c 1 μ7 := by rw [e7]; exact mst_at hm2 _
      refine hs _ (r.2.1 + 1) μ7 hlt hm7 (fun w μ3 hm3 hw => ?_)
      refine hF w μ3 (hJ _ μ3 ?_)
      obtain ⟨b1, b2, b3, b4, b5⟩ := hok (r.2.1 + 1) hlt
      match z, h2, he with
      | 0, h2, he => exact absurd hlt (by omega)
      | z + 1, h2, he =>
        rw [ch, if_pos ⟨hg, by rw [← es]; exact hss⟩] at he
        refine ⟨z, Nat.lt_succ_self _, ((sub (r.2.1 + 1)).1, (sub (r.2.1 + 1)).2.1, r.2.2.1 ++ (sub (r.2.1 + 1)).2.2.1 ++ [(nxt (mB μ0 u) sz r.2.1, 0)], fun a b c => pj (nxt (mB μ0 u) sz r.2.1) (r.2.2.2 a b c) ((sub (r.2.1 + 1)).2.2.2 a b c)), b2, ?_, hm3, ?_, he⟩
        · show sz ≤ z + (sub (r.2.1 + 1)).2.1
          omega
        · intro hq
          show Kx x1 w = pj (nxt (mB μ0 u) sz r.2.1) (r.2.2.2 a b c) ((sub (r.2.1 + 1)).2.2.2 a b c)
          rw [hKx, es, hx hg, hw hq]
    refine m_byteAt hu hz h1 hm2 ?_
    by_cases c1 : nxt (mB μ0 u) sz r.2.1 = 124
    · rw [if_pos c1]
      intro μ7 e7
      refine go 124 c1.symm (by decide) (fun x y => if x = 0 then (if y = 0 then 0 else 1) else 1) (fun x y => rfl) _ (fun w μ3 hw => hw) μ7 e7 _ (fun w μ3 hJ => ?_)
      by_cases q1 : x1 = 0
      · rw [if_pos q1] at hJ ⊢
        by_cases q2 : w = 0
        · rw [if_pos q2] at hJ ⊢
          exact hJ
        · rw [if_neg q2] at hJ ⊢
          exact hJ
      · rw [if_neg q1] at hJ ⊢
        exact hJ
    · rw [if_neg c1]
      exact out (fun q => by have := q.2; unfold isOr at this; exact c1 (by simpa using this))
  · rw [Bool.eq_false_iff.mpr hg] at hm2
    rw [if_pos (show μ2 61 14 = 0 from hm2.2.2.2.2.2.2.2.2.2)]
    exact out (fun q => hg q.1)
theorem m_both {μ0 : sm_Mem} {u sz n d : Nat} {a b c : Int32} {sub : Nat → PR} (hu : u ≤ 1) (hz : sz ≤ 50) (hok : ∀ i, i ≤ sz → pOk sz i (sub i)) (hs : MC μ0 u sz a b c n 2 sub d) : MC μ0 u sz a b c (n + 1) 1 (fun i => ch (mB μ0 u) sz sub isAnd sz (sub i)) d := by
  intro K at_ μ hat hm hK
  show w_M_both (wg_M n) K μ
  unfold w_M_both
  refine hs _ at_ μ hat hm (fun v μ1 hm1 hv => ?_)
  unfold w_M_both_5
  refine ⟨fun z x1 μ2 => ∃ r : PR, r.2.1 ≤ sz ∧ sz ≤ z + r.2.1 ∧ mst μ0 u sz r.2.1 (5 - d) a b c (bI r.1) μ2 ∧ (r.1 = true → x1 = r.2.2.2 a b c) ∧ ch (mB μ0 u) sz sub isAnd z r = ch (mB μ0 u) sz sub isAnd sz (sub at_), ⟨sz, sub at_, (hok at_ hat).2.1, by omega, hm1, hv, rfl⟩, ?_⟩
  rintro z x1 μ2 ⟨r, h1, h2, hm2, hx, he⟩
  dsimp only
  have out : ¬ (r.1 = true ∧ isAnd (nxt (mB μ0 u) sz r.2.1) = true) → K x1 μ2 := by
    intro q
    rw [ch_exit q] at he
    have h3 := hK x1 μ2
    dsimp only at h3
    rw [← he] at h3
    exact h3 hm2 hx
  by_cases hg : r.1 = true
  · rw [hg] at hm2
    rw [if_neg (by rw [hm2.2.2.2.2.2.2.2.2.2]; decide)]
    have go : ∀ (s : Int32), s = nxt (mB μ0 u) sz r.2.1 → isAnd s = true → ∀ (Kx : Int32 → Int32 → Int32), (∀ x y : Int32, Kx x y = pj s x y) → ∀ (J : Int32 → sm_Mem → Prop), (∀ (w : Int32) (μ3 : sm_Mem), (∃ k, k < z ∧ ∃ r : PR, r.2.1 ≤ sz ∧ sz ≤ k + r.2.1 ∧ mst μ0 u sz r.2.1 (5 - d) a b c (bI r.1) μ3 ∧ (r.1 = true → w = r.2.2.2 a b c) ∧ ch (mB μ0 u) sz sub isAnd k r = ch (mB μ0 u) sz sub isAnd sz (sub at_)) → J w μ3) → ∀ μ7 : sm_Mem, μ7 = sm_st μ2 61 8 (μ2 61 8 + 1) → ∀ (F : Int32 → sm_Mem → Prop), (∀ (w : Int32) (μ3 : sm_Mem), J (Kx x1 w) μ3 → F w μ3) → wg_M n 2 F μ7 := by
      intro s es hss Kx hKx J hJ μ7 e7 F hF
      have hlt : r.2.1 < sz := nxt_lt (fun e => by rw [es, e] at hss; exact absurd hss (by decide))
      have e8 : μ2 61 8 + 1 = nI (r.2.1 + 1) := by rw [hm2.2.2.2.1, nI_succ]
      rw [e8] at e7
      have hm7 : mst μ0 u sz (r.2.1 + 1) (5 - d) a b c 1 μ7 := by rw [e7]; exact mst_at hm2 _
      refine hs _ (r.2.1 + 1) μ7 hlt hm7 (fun w μ3 hm3 hw => ?_)
      refine hF w μ3 (hJ _ μ3 ?_)
      obtain ⟨b1, b2, b3, b4, b5⟩ := hok (r.2.1 + 1) hlt
      match z, h2, he with
      | 0, h2, he => exact absurd hlt (by omega)
      | z + 1, h2, he =>
        rw [ch, if_pos ⟨hg, by rw [← es]; exact hss⟩] at he
        refine ⟨z, Nat.lt_succ_self _, ((sub (r.2.1 + 1)).1, (sub (r.2.1 + 1)).2.1, r.2.2.1 ++ (sub (r.2.1 + 1)).2.2.1 ++ [(nxt (mB μ0 u) sz r.2.1, 0)], fun a b c => pj (nxt (mB μ0 u) sz r.2.1) (r.2.2.2 a b c) ((sub (r.2.1 + 1)).2.2.2 a b c)), b2, ?_, hm3, ?_, he⟩
        · show sz ≤ z + (sub (r.2.1 + 1)).2.1
          omega
        · intro hq
          show Kx x1 w = pj (nxt (mB μ0 u) sz r.2.1) (r.2.2.2 a b c) ((sub (r.2.1 + 1)).2.2.2 a b c)
          rw [hKx, es, hx hg, hw hq]
    refine m_byteAt hu hz h1 hm2 ?_
    by_cases c1 : nxt (mB μ0 u) sz r.2.1 = 38
    · rw [if_pos c1]
      intro μ7 e7
      refine go 38 c1.symm (by decide) (fun x y => if x = 0 then 0 else if y = 0 then 0 else 1) (fun x y => rfl) _ (fun w μ3 hw => hw) μ7 e7 _ (fun w μ3 hJ => ?_)
      by_cases q1 : x1 = 0
      · rw [if_pos q1] at hJ ⊢
        exact hJ
      · rw [if_neg q1] at hJ ⊢
        by_cases q2 : w = 0
        · rw [if_pos q2] at hJ ⊢
          exact hJ
        · rw [if_neg q2] at hJ ⊢
          exact hJ
    · rw [if_neg c1]
      exact out (fun q => by have := q.2; unfold isAnd at this; exact c1 (by simpa using this))
  · rw [Bool.eq_false_iff.mpr hg] at hm2
    rw [if_pos (show μ2 61 14 = 0 from hm2.2.2.2.2.2.2.2.2.2)]
    exact out (fun q => hg q.1)
theorem m_sum {μ0 : sm_Mem} {u sz n d : Nat} {a b c : Int32} {sub : Nat → PR} (hu : u ≤ 1) (hz : sz ≤ 50) (hok : ∀ i, i ≤ sz → pOk sz i (sub i)) (hs : MC μ0 u sz a b c n 4 sub d) : MC μ0 u sz a b c (n + 1) 3 (fun i => ch (mB μ0 u) sz sub isAdd sz (sub i)) d := by
  intro K at_ μ hat hm hK
  show w_M_sum (wg_M n) K μ
  unfold w_M_sum
  refine hs _ at_ μ hat hm (fun v μ1 hm1 hv => ?_)
  unfold w_M_sum_5
  refine ⟨fun z x1 μ2 => ∃ r : PR, r.2.1 ≤ sz ∧ sz ≤ z + r.2.1 ∧ mst μ0 u sz r.2.1 (5 - d) a b c (bI r.1) μ2 ∧ (r.1 = true → x1 = r.2.2.2 a b c) ∧ ch (mB μ0 u) sz sub isAdd z r = ch (mB μ0 u) sz sub isAdd sz (sub at_), ⟨sz, sub at_, (hok at_ hat).2.1, by omega, hm1, hv, rfl⟩, ?_⟩
  rintro z x1 μ2 ⟨r, h1, h2, hm2, hx, he⟩
  dsimp only
  have out : ¬ (r.1 = true ∧ isAdd (nxt (mB μ0 u) sz r.2.1) = true) → K x1 μ2 := by
    intro q
    rw [ch_exit q] at he
    have h3 := hK x1 μ2
    dsimp only at h3
    rw [← he] at h3
    exact h3 hm2 hx
  by_cases hg : r.1 = true
  · rw [hg] at hm2
    rw [if_neg (by rw [hm2.2.2.2.2.2.2.2.2.2]; decide)]
    have go : ∀ (s : Int32), s = nxt (mB μ0 u) sz r.2.1 → isAdd s = true → ∀ (Kx : Int32 → Int32 → Int32), (∀ x y : Int32, Kx x y = pj s x y) → ∀ (J : Int32 → sm_Mem → Prop), (∀ (w : Int32) (μ3 : sm_Mem), (∃ k, k < z ∧ ∃ r : PR, r.2.1 ≤ sz ∧ sz ≤ k + r.2.1 ∧ mst μ0 u sz r.2.1 (5 - d) a b c (bI r.1) μ3 ∧ (r.1 = true → w = r.2.2.2 a b c) ∧ ch (mB μ0 u) sz sub isAdd k r = ch (mB μ0 u) sz sub isAdd sz (sub at_)) → J w μ3) → ∀ μ7 : sm_Mem, μ7 = sm_st μ2 61 8 (μ2 61 8 + 1) → ∀ (F : Int32 → sm_Mem → Prop), (∀ (w : Int32) (μ3 : sm_Mem), J (Kx x1 w) μ3 → F w μ3) → wg_M n 4 F μ7 := by
      intro s es hss Kx hKx J hJ μ7 e7 F hF
      have hlt : r.2.1 < sz := nxt_lt (fun e => by rw [es, e] at hss; exact absurd hss (by decide))
      have e8 : μ2 61 8 + 1 = nI (r.2.1 + 1) := by rw [hm2.2.2.2.1, nI_succ]
      rw [e8] at e7
      have hm7 : mst μ0 u sz (r.2.1 + 1) (5 - d) a b c 1 μ7 := by rw [e7]; exact mst_at hm2 _
      refine hs _ (r.2.1 + 1) μ7 hlt hm7 (fun w μ3 hm3 hw => ?_)
      refine hF w μ3 (hJ _ μ3 ?_)
      obtain ⟨b1, b2, b3, b4, b5⟩ := hok (r.2.1 + 1) hlt
      match z, h2, he with
      | 0, h2, he => exact absurd hlt (by omega)
      | z + 1, h2, he =>
        rw [ch, if_pos ⟨hg, by rw [← es]; exact hss⟩] at he
        refine ⟨z, Nat.lt_succ_self _, ((sub (r.2.1 + 1)).1, (sub (r.2.1 + 1)).2.1, r.2.2.1 ++ (sub (r.2.1 + 1)).2.2.1 ++ [(nxt (mB μ0 u) sz r.2.1, 0)], fun a b c => pj (nxt (mB μ0 u) sz r.2.1) (r.2.2.2 a b c) ((sub (r.2.1 + 1)).2.2.2 a b c)), b2, ?_, hm3, ?_, he⟩
        · show sz ≤ z + (sub (r.2.1 + 1)).2.1
          omega
        · intro hq
          show Kx x1 w = pj (nxt (mB μ0 u) sz r.2.1) (r.2.2.2 a b c) ((sub (r.2.1 + 1)).2.2.2 a b c)
          rw [hKx, es, hx hg, hw hq]
    refine m_byteAt hu hz h1 hm2 ?_
    by_cases c1 : nxt (mB μ0 u) sz r.2.1 = 43
    · rw [if_pos c1]
      unfold w_M_sum_38
      refine m_byteAt hu hz h1 hm2 ?_
      intro μ7 e7
      refine go 43 c1.symm (by decide) (fun x y => x + y) (fun x y => rfl) _ (fun w μ3 hw => hw) μ7 e7 _ (fun w μ3 hJ => ?_)
      rw [if_pos c1]
      exact hJ
    · rw [if_neg c1]
      refine m_byteAt hu hz h1 hm2 ?_
      by_cases c2 : nxt (mB μ0 u) sz r.2.1 = 45
      · rw [if_pos c2]
        unfold w_M_sum_38
        refine m_byteAt hu hz h1 hm2 ?_
        intro μ7 e7
        refine go 45 c2.symm (by decide) (fun x y => x - y) (fun x y => rfl) _ (fun w μ3 hw => hw) μ7 e7 _ (fun w μ3 hJ => ?_)
        rw [if_neg c1]
        exact hJ
      · rw [if_neg c2]
        exact out (fun q => by have := q.2; unfold isAdd at this; simp [c1, c2] at this)
  · rw [Bool.eq_false_iff.mpr hg] at hm2
    rw [if_pos (show μ2 61 14 = 0 from hm2.2.2.2.2.2.2.2.2.2)]
    exact out (fun q => hg q.1)
theorem m_product {μ0 : sm_Mem} {u sz n d : Nat} {a b c : Int32} {sub : Nat → PR} (hu : u ≤ 1) (hz : sz ≤ 50) (hok : ∀ i, i ≤ sz → pOk sz i (sub i)) (hs : MC μ0 u sz a b c n 5 sub d) : MC μ0 u sz a b c (n + 1) 4 (fun i => ch (mB μ0 u) sz sub isMul sz (sub i)) d := by
  intro K at_ μ hat hm hK
  show w_M_product (wg_M n) K μ
  unfold w_M_product
  refine hs _ at_ μ hat hm (fun v μ1 hm1 hv => ?_)
  unfold w_M_product_5
  refine ⟨fun z x1 μ2 => ∃ r : PR, r.2.1 ≤ sz ∧ sz ≤ z + r.2.1 ∧ mst μ0 u sz r.2.1 (5 - d) a b c (bI r.1) μ2 ∧ (r.1 = true → x1 = r.2.2.2 a b c) ∧ ch (mB μ0 u) sz sub isMul z r = ch (mB μ0 u) sz sub isMul sz (sub at_), ⟨sz, sub at_, (hok at_ hat).2.1, by omega, hm1, hv, rfl⟩, ?_⟩
  rintro z x1 μ2 ⟨r, h1, h2, hm2, hx, he⟩
  dsimp only
  have out : ¬ (r.1 = true ∧ isMul (nxt (mB μ0 u) sz r.2.1) = true) → K x1 μ2 := by
    intro q
    rw [ch_exit q] at he
    have h3 := hK x1 μ2
    dsimp only at h3
    rw [← he] at h3
    exact h3 hm2 hx
  by_cases hg : r.1 = true
  · rw [hg] at hm2
    rw [if_neg (by rw [hm2.2.2.2.2.2.2.2.2.2]; decide)]
    have go : ∀ (s : Int32), s = nxt (mB μ0 u) sz r.2.1 → isMul s = true → ∀ (Kx : Int32 → Int32 → Int32), (∀ x y : Int32, Kx x y = pj s x y) → ∀ (J : Int32 → sm_Mem → Prop), (∀ (w : Int32) (μ3 : sm_Mem), (∃ k, k < z ∧ ∃ r : PR, r.2.1 ≤ sz ∧ sz ≤ k + r.2.1 ∧ mst μ0 u sz r.2.1 (5 - d) a b c (bI r.1) μ3 ∧ (r.1 = true → w = r.2.2.2 a b c) ∧ ch (mB μ0 u) sz sub isMul k r = ch (mB μ0 u) sz sub isMul sz (sub at_)) → J w μ3) → ∀ μ7 : sm_Mem, μ7 = sm_st μ2 61 8 (μ2 61 8 + 1) → ∀ (F : Int32 → sm_Mem → Prop), (∀ (w : Int32) (μ3 : sm_Mem), J (Kx x1 w) μ3 → F w μ3) → wg_M n 5 F μ7 := by
      intro s es hss Kx hKx J hJ μ7 e7 F hF
      have hlt : r.2.1 < sz := nxt_lt (fun e => by rw [es, e] at hss; exact absurd hss (by decide))
      have e8 : μ2 61 8 + 1 = nI (r.2.1 + 1) := by rw [hm2.2.2.2.1, nI_succ]
      rw [e8] at e7
      have hm7 : mst μ0 u sz (r.2.1 + 1) (5 - d) a b c 1 μ7 := by rw [e7]; exact mst_at hm2 _
      refine hs _ (r.2.1 + 1) μ7 hlt hm7 (fun w μ3 hm3 hw => ?_)
      refine hF w μ3 (hJ _ μ3 ?_)
      obtain ⟨b1, b2, b3, b4, b5⟩ := hok (r.2.1 + 1) hlt
      match z, h2, he with
      | 0, h2, he => exact absurd hlt (by omega)
      | z + 1, h2, he =>
        rw [ch, if_pos ⟨hg, by rw [← es]; exact hss⟩] at he
        refine ⟨z, Nat.lt_succ_self _, ((sub (r.2.1 + 1)).1, (sub (r.2.1 + 1)).2.1, r.2.2.1 ++ (sub (r.2.1 + 1)).2.2.1 ++ [(nxt (mB μ0 u) sz r.2.1, 0)], fun a b c => pj (nxt (mB μ0 u) sz r.2.1) (r.2.2.2 a b c) ((sub (r.2.1 + 1)).2.2.2 a b c)), b2, ?_, hm3, ?_, he⟩
        · show sz ≤ z + (sub (r.2.1 + 1)).2.1
          omega
        · intro hq
          show Kx x1 w = pj (nxt (mB μ0 u) sz r.2.1) (r.2.2.2 a b c) ((sub (r.2.1 + 1)).2.2.2 a b c)
          rw [hKx, es, hx hg, hw hq]
    have mul : ∀ s : Int32, nxt (mB μ0 u) sz r.2.1 = s → (s = 42 ∨ s = 47 ∨ s = 37) → ∀ (J : Int32 → sm_Mem → Prop), (∀ (w : Int32) (μ3 : sm_Mem), (∃ k, k < z ∧ ∃ r : PR, r.2.1 ≤ sz ∧ sz ≤ k + r.2.1 ∧ mst μ0 u sz r.2.1 (5 - d) a b c (bI r.1) μ3 ∧ (r.1 = true → w = r.2.2.2 a b c) ∧ ch (mB μ0 u) sz sub isMul k r = ch (mB μ0 u) sz sub isMul sz (sub at_)) → J w μ3) → w_M_product_51 (wg_M n) K J x1 μ2 := by
      intro s es hs3 J hJ
      unfold w_M_product_51
      refine m_byteAt hu hz h1 hm2 ?_
      intro μ7 e7
      refine go s es.symm (by rcases hs3 with rfl | rfl | rfl <;> decide) (fun x y => pj s x y) (fun x y => rfl) J hJ μ7 e7 _ (fun w μ3 hJ => ?_)
      rw [es]
      rcases hs3 with rfl | rfl | rfl
      · rw [if_pos rfl]
        exact hJ
      · rw [if_neg (by decide)]
        have hJ : J (if w = 0 then 0 else x1 / w) μ3 := hJ
        by_cases q : w = 0
        · rw [if_pos q] at hJ ⊢
          exact hJ
        · rw [if_neg q] at hJ ⊢
          rw [if_pos rfl]
          exact ⟨q, hJ⟩
      · rw [if_neg (by decide)]
        have hJ : J (if w = 0 then 0 else x1 % w) μ3 := hJ
        by_cases q : w = 0
        · rw [if_pos q] at hJ ⊢
          exact hJ
        · rw [if_neg q] at hJ ⊢
          rw [if_neg (by decide)]
          exact ⟨q, hJ⟩
    refine m_byteAt hu hz h1 hm2 ?_
    by_cases c1 : nxt (mB μ0 u) sz r.2.1 = 42
    · rw [if_pos c1]
      exact mul _ rfl (Or.inl c1) _ (fun w μ3 hw => hw)
    · rw [if_neg c1]
      refine m_byteAt hu hz h1 hm2 ?_
      by_cases c2 : nxt (mB μ0 u) sz r.2.1 = 47
      · rw [if_pos c2]
        exact mul _ rfl (Or.inr (Or.inl c2)) _ (fun w μ3 hw => hw)
      · rw [if_neg c2]
        refine m_byteAt hu hz h1 hm2 ?_
        by_cases c3 : nxt (mB μ0 u) sz r.2.1 = 37
        · rw [if_pos c3]
          exact mul _ rfl (Or.inr (Or.inr c3)) _ (fun w μ3 hw => hw)
        · rw [if_neg c3]
          exact out (fun q => by have := q.2; unfold isMul at this; simp [c1, c2, c3] at this)
  · rw [Bool.eq_false_iff.mpr hg] at hm2
    rw [if_pos (show μ2 61 14 = 0 from hm2.2.2.2.2.2.2.2.2.2)]
    exact out (fun q => hg q.1)
theorem m_compared {μ0 : sm_Mem} {u sz n d : Nat} {a b c : Int32} {sub : Nat → PR} (hu : u ≤ 1) (hz : sz ≤ 50) (hok : ∀ i, i ≤ sz → pOk sz i (sub i)) (hs : MC μ0 u sz a b c n 3 sub d) : MC μ0 u sz a b c (n + 1) 2 (fun i => ch (mB μ0 u) sz sub isCmp 1 (sub i)) d := by
  intro K at_ μ hat hm hK
  show w_M_compared (wg_M n) K μ
  unfold w_M_compared
  refine hs _ at_ μ hat hm (fun v μ1 hm1 hv => ?_)
  have h1 := (hok at_ hat).2.1
  have out : ¬ ((sub at_).1 = true ∧ isCmp (nxt (mB μ0 u) sz (sub at_).2.1) = true) → K v μ1 := by
    intro q
    have h3 := hK v μ1
    dsimp only at h3
    rw [ch_exit q] at h3
    exact h3 hm1 hv
  by_cases hg : (sub at_).1 = true
  · rw [hg] at hm1
    rw [if_neg (by rw [hm1.2.2.2.2.2.2.2.2.2]; decide)]
    refine m_byteAt hu hz h1 hm1 ?_
    unfold w_M_compared_24
    have go : isCmp (nxt (mB μ0 u) sz (sub at_).2.1) = true → w_M_compared_45 (wg_M n) K v (nxt (mB μ0 u) sz (sub at_).2.1) μ1 := by
      intro hss
      unfold w_M_compared_45
      intro μ5 e5
      have hlt : (sub at_).2.1 < sz := nxt_lt (fun e => by rw [e] at hss; exact absurd hss (by decide))
      have e8 : μ1 61 8 + 1 = nI ((sub at_).2.1 + 1) := by rw [hm1.2.2.2.1, nI_succ]
      rw [e8] at e5
      have hm5 : mst μ0 u sz ((sub at_).2.1 + 1) (5 - d) a b c 1 μ5 := by rw [e5]; exact mst_at hm1 _
      refine hs _ _ μ5 hlt hm5 (fun w μ3 hm3 hw => ?_)
      have h3 : ∀ x : Int32, x = pj (nxt (mB μ0 u) sz (sub at_).2.1) v w → K x μ3 := by
        intro x ex
        have h3 := hK x μ3
        dsimp only at h3
        rw [ch, if_pos ⟨hg, hss⟩, ch] at h3
        refine h3 hm3 (fun hq => ?_)
        show x = pj (nxt (mB μ0 u) sz (sub at_).2.1) ((sub at_).2.2.2 a b c) ((sub ((sub at_).2.1 + 1)).2.2.2 a b c)
        rw [ex, hv hg, hw hq]
      have f0 : K 0 μ3 → w_M_compared_108 (wg_M n) K 0 μ3 := fun q => by unfold w_M_compared_108; rw [if_pos rfl]; exact q
      have f1 : K 1 μ3 → w_M_compared_108 (wg_M n) K 1 μ3 := fun q => by unfold w_M_compared_108; rw [if_neg (by decide)]; exact q
      by_cases c1 : nxt (mB μ0 u) sz (sub at_).2.1 = 60
      · rw [if_pos c1]
        rw [c1] at h3
        by_cases q : w ≤ v
        · rw [if_pos q]
          exact f0 (h3 0 (by show (0 : Int32) = if w ≤ v then 0 else 1; rw [if_pos q]))
        · rw [if_neg q]
          exact f1 (h3 1 (by show (1 : Int32) = if w ≤ v then 0 else 1; rw [if_neg q]))
      · rw [if_neg c1]
        by_cases c2 : nxt (mB μ0 u) sz (sub at_).2.1 = 61
        · rw [if_pos c2]
          rw [c2] at h3
          by_cases q : v = w
          · rw [if_pos q]
            exact f1 (h3 1 (by show (1 : Int32) = if v = w then 1 else 0; rw [if_pos q]))
          · rw [if_neg q]
            exact f0 (h3 0 (by show (0 : Int32) = if v = w then 1 else 0; rw [if_neg q]))
        · rw [if_neg c2]
          have c3 : nxt (mB μ0 u) sz (sub at_).2.1 = 62 := by unfold isCmp at hss; simpa [c1, c2] using hss
          rw [c3] at h3
          by_cases q : v ≤ w
          · rw [if_pos q]
            exact f0 (h3 0 (by show (0 : Int32) = if v ≤ w then 0 else 1; rw [if_pos q]))
          · rw [if_neg q]
            exact f1 (h3 1 (by show (1 : Int32) = if v ≤ w then 0 else 1; rw [if_neg q]))
    by_cases c1 : nxt (mB μ0 u) sz (sub at_).2.1 = 60
    · rw [if_pos c1]
      exact go (by rw [c1]; decide)
    · rw [if_neg c1]
      by_cases c2 : nxt (mB μ0 u) sz (sub at_).2.1 = 61
      · rw [if_pos c2]
        exact go (by rw [c2]; decide)
      · rw [if_neg c2]
        by_cases c3 : nxt (mB μ0 u) sz (sub at_).2.1 = 62
        · rw [if_pos c3]
          exact go (by rw [c3]; decide)
        · rw [if_neg c3]
          exact out (fun q => by have := q.2; unfold isCmp at this; simp [c1, c2, c3] at this)
  · rw [Bool.eq_false_iff.mpr hg] at hm1
    rw [if_pos (show μ1 61 14 = 0 from hm1.2.2.2.2.2.2.2.2.2)]
    unfold w_M_compared_24
    rw [if_neg (by decide), if_neg (by decide), if_neg (by decide)]
    exact out (fun q => hg q.1)


/-! ===== the class: what would be ===== -/
def sumN (f : Nat → Nat) : Nat → Nat
  | 0 => 0
  | n + 1 => sumN f n + f n
def leftI (g : GH) (w y : Int32) (i n : Nat) : Nat := lfN (gHt g) (gKd g i) (gMs g i) w y (gHo g) (gSn g i) n
def leftA (g : GH) (i n : Nat) : Nat := leftI g (nI (gWa g (gAt g i))) (nI (gY g)) i n
def payA (g : GH) (i s : Nat) : Nat := pN (gFd g) (gKd g i) (gMs g i) (gOw g i) s
def worN (g : GH) (o n : Nat) : Nat := sumN (fun i => if gOw g i = o then payA g i (leftA g i n) else 0) (gN g)
def allN (g : GH) (v n : Nat) : Nat := sumN (fun i => leftI g (nI (gWa g (gAt g i) + v)) (nI (gY g)) i n) (gN g)
/-- the first greatest of f 0 .. -/
def scI (f : Nat → Int32) : Nat → Int32 × Int32
  | 0 => (-1, 0)
  | p + 1 => if (scI f p).1 < f p then (f p, nI p) else scI f p
def cntN (f : Nat → Nat) : Nat → Nat
  | 0 => 0
  | n + 1 => cntN f n + (if 0 < f n then 1 else 0)
abbrev SX : List Nat := [14, 18, 37, 38, 39, 40, 41, 42]
theorem CA_of {g : GH} {μ μ2 : sm_Mem} (h : CA 1 g μ) (hf : fr SX μ μ2) : CA 1 g μ2 := CA_fr h fun k hk => hf k (by revert k; decide)
theorem leftI_le {g : GH} {w y : Int32} {i n : Nat} (hg : gOk g) (hi : i < gN g) : leftI g w y i n ≤ 999 := Nat.le_trans (lfN_le n) (hg.2.2.2.2.2.2.1 i hi).2.2.1
theorem x_left {K : Int32 → sm_Mem → Prop} {g : GH} {i n : Nat} {w y : Int32} {μ : sm_Mem} (hg : gOk g) (hc : CA 1 g μ) (hi : i < gN g) (hn : n ≤ 60) (hK : ∀ μ2, fr SX μ μ2 → μ2 37 = μ 37 → μ2 40 = μ 40 → (∀ t, t ≤ n → μ2 39 t = nI (leftI g w y i t)) → K (nI (leftI g w y i n)) μ2) : w_F_leftBy K (nI i) w y (nI n) μ :=
  x_leftBy hg hc hi hn (fun μ2 hf hs => hK μ2 (fr_mono hf (by simp)) (hf 37 (by decide)) (hf 40 (by decide)) hs)
theorem x_pays {K : Int32 → sm_Mem → Prop} {g : GH} {i s : Nat} {μ : sm_Mem} (hg : gOk g) (hc : CA 1 g μ) (hi : i < gN g) (hs : s ≤ 999) (hK : ∀ μ2, fr SX μ μ2 → μ2 37 = μ 37 → μ2 39 = μ 39 → μ2 40 = μ 40 → μ2 41 = μ 41 → K (nI (payA g i s)) μ2) : w_D_paysWith K (nI i) (nI s) μ :=
  x_paysWith hg hc hi hs (fun μ2 hf => hK μ2 (fr_mono hf (by simp)) (hf 37 (by decide)) (hf 39 (by decide)) (hf 40 (by decide)) (hf 41 (by decide)))
theorem nI_le_no {a b : Nat} (ha : a < 2 ^ 31) (hb : b < 2 ^ 31) (h : b < a) : ¬ nI a ≤ nI b := fun q => absurd ((nI_le_iff ha hb).mp q) (by omega)
theorem nI_lt_no {a b : Nat} (ha : a < 2 ^ 31) (hb : b < 2 ^ 31) (h : b ≤ a) : ¬ nI a < nI b := fun q => absurd ((nI_lt_iff ha hb).mp q) (by omega)
theorem nI_le_yes {a b : Nat} (ha : a < 2 ^ 31) (hb : b < 2 ^ 31) (h : a ≤ b) : nI a ≤ nI b := (nI_le_iff ha hb).mpr h
theorem nI_lt_yes {a b : Nat} (ha : a < 2 ^ 31) (hb : b < 2 ^ 31) (h : a < b) : nI a < nI b := (nI_lt_iff ha hb).mpr h
theorem x_worthBehind {K : Int32 → sm_Mem → Prop} {g : GH} {o n : Nat} {μ : sm_Mem} (hg : gOk g) (hc : CA 1 g μ) (ho : o ≤ 3) (hn : n ≤ 60) (hK : ∀ μ2, fr SX μ μ2 → μ2 37 = μ 37 → K (nI (worN g o n)) μ2) : w_F_worthBehind K (nI o) (nI n) μ := by
  have h10 := hg.2.1
  unfold w_F_worthBehind w_F_worthBehind_5
  refine ⟨fun m x3 x4 μ2 => ∃ i, m = gN g - i ∧ i ≤ gN g ∧ x4 = nI i ∧ x3 = nI (sumN (fun i => if gOw g i = o then payA g i (leftA g i n) else 0) i) ∧ fr SX μ μ2 ∧ μ2 37 = μ 37, ⟨gN g, 0, rfl, Nat.zero_le _, rfl, rfl, fr_rfl, rfl⟩, ?_⟩
  rintro m x3 x4 μ2 ⟨i, rfl, hi, rfl, rfl, hf, h37⟩
  dsimp only
  have hc2 := CA_of hc hf
  rw [hc2.1.2.1]
  by_cases hin : i = gN g
  · subst hin
    rw [if_pos (nI_le_yes (by omega) (by omega) (Nat.le_refl _))]
    exact hK μ2 hf h37
  · rw [if_neg (nI_le_no (by omega) (by omega) (by omega))]
    have hlt : i < gN g := by omega
    refine ⟨(vin_iff (by omega)).mpr (by omega), ?_⟩
    have hw := (hg.2.2.2.2.2.2.1 i hlt).2.2.2.2
    rw [ix_nI (by omega), show μ2 8 i = _ from (hc2.2.2.2.1 i hlt).2.2.2.2]
    by_cases q : gOw g i = o
    · rw [if_pos (by rw [q])]
      refine x_warmthAround hg hc2 hlt ?_
      rw [hc2.1.2.2.1]
      refine x_left hg hc2 hlt hn (fun μ3 hf3 h373 _ _ => ?_)
      have hc3 := CA_of hc2 hf3
      refine x_pays hg hc3 hlt (leftI_le hg hlt) (fun μ4 hf4 h374 _ _ _ => ?_)
      intro v10 e10
      rw [nI_add] at e10
      refine ⟨gN g - (i + 1), by omega, i + 1, rfl, by omega, (nI_succ i).symm, ?_, fr_trans hf (fr_trans hf3 hf4), h374.trans (h373.trans h37)⟩
      rw [e10]
      show _ = nI (sumN _ i + (if gOw g i = o then payA g i (leftA g i n) else 0))
      rw [if_pos q]
      rfl
    · rw [if_neg (fun z => q ((nI_inj (by omega) (by omega)).mp z))]
      refine ⟨gN g - (i + 1), by omega, i + 1, rfl, by omega, (nI_succ i).symm, ?_, hf, h37⟩
      show _ = nI (sumN _ i + (if gOw g i = o then payA g i (leftA g i n) else 0))
      rw [if_neg q]
      rfl
theorem x_leftOfAll {K : Int32 → sm_Mem → Prop} {g : GH} {v n : Nat} {μ : sm_Mem} (hg : gOk g) (hc : CA 1 g μ) (hn : n ≤ 60) (hK : ∀ μ2, fr SX μ μ2 → K (nI (allN g v n)) μ2) : w_F_leftOfAll K (nI v) (nI n) μ := by
  have h10 := hg.2.1
  unfold w_F_leftOfAll w_F_leftOfAll_5
  refine ⟨fun m x3 x4 μ2 => ∃ i, m = gN g - i ∧ i ≤ gN g ∧ x4 = nI i ∧ x3 = nI (sumN (fun i => leftI g (nI (gWa g (gAt g i) + v)) (nI (gY g)) i n) i) ∧ fr SX μ μ2, ⟨gN g, 0, rfl, Nat.zero_le _, rfl, rfl, fr_rfl⟩, ?_⟩
  rintro m x3 x4 μ2 ⟨i, rfl, hi, rfl, rfl, hf⟩
  dsimp only
  have hc2 := CA_of hc hf
  rw [hc2.1.2.1]
  by_cases hin : i = gN g
  · subst hin
    rw [if_pos (nI_le_yes (by omega) (by omega) (Nat.le_refl _))]
    exact hK μ2 hf
  · rw [if_neg (nI_le_no (by omega) (by omega) (by omega))]
    have hlt : i < gN g := by omega
    refine x_warmthAround hg hc2 hlt ?_
    rw [hc2.1.2.2.1, nI_add]
    refine x_left hg hc2 hlt hn (fun μ3 hf3 _ _ _ => ?_)
    intro v6 e6
    rw [nI_add] at e6
    exact ⟨gN g - (i + 1), by omega, i + 1, rfl, by omega, (nI_succ i).symm, e6, fr_trans hf hf3⟩
theorem x_findColdest {K : sm_Mem → Prop} {g : GH} {i n : Nat} {μ : sm_Mem} (hg : gOk g) (hc : CA 1 g μ) (hi : i < gN g) (hn : n ≤ 60) (hK : ∀ μ2, fr SX μ μ2 → μ2 37 7 = (scI (fun p => nI (leftI g (nI (gWa g p)) (nI (gY g)) i n)) (gP g)).1 → μ2 37 8 = (scI (fun p => nI (leftI g (nI (gWa g p)) (nI (gY g)) i n)) (gP g)).2 → K μ2) : w_F_findColdest K (nI i) (nI n) μ := by
  have h6 := hg.1
  unfold w_F_findColdest
  intro μ1 e1 μ2 e2
  have hf2 : fr SX μ μ2 := by
    rw [e2, e1]
    exact fr_st (fr_st fr_rfl (by simp)) (by simp)
  have v7 : μ2 37 7 = -1 := by rw [e2, e1, st_same, if_neg (by decide), st_same, if_pos rfl]
  have v8 : μ2 37 8 = 0 := by rw [e2, st_same, if_pos rfl]
  unfold w_F_findColdest_12
  refine ⟨fun m x3 μ3 => ∃ p, m = gP g - p ∧ p ≤ gP g ∧ x3 = nI p ∧ fr SX μ μ3 ∧ μ3 37 7 = (scI (fun p => nI (leftI g (nI (gWa g p)) (nI (gY g)) i n)) p).1 ∧ μ3 37 8 = (scI (fun p => nI (leftI g (nI (gWa g p)) (nI (gY g)) i n)) p).2, ⟨gP g, 0, rfl, Nat.zero_le _, rfl, hf2, v7, v8⟩, ?_⟩
  rintro m x3 μ3 ⟨p, rfl, hp, rfl, hf, g7, g8⟩
  dsimp only
  have hc3 := CA_of hc hf
  rw [hc3.1.1]
  by_cases hin : p = gP g
  · subst hin
    rw [if_pos (nI_le_yes (by omega) (by omega) (Nat.le_refl _))]
    exact hK μ3 hf g7 g8
  · rw [if_neg (nI_le_no (by omega) (by omega) (by omega))]
    have hlt : p < gP g := by omega
    refine x_warmthOf hg hc3 hlt ?_
    rw [hc3.1.2.2.1]
    refine x_left hg hc3 hi hn (fun μ4 hf4 h37 _ _ => ?_)
    rw [h37, g7]
    by_cases q : (scI (fun p => nI (leftI g (nI (gWa g p)) (nI (gY g)) i n)) p).1 < nI (leftI g (nI (gWa g p)) (nI (gY g)) i n)
    · rw [if_neg (Int32.not_le.mpr q)]
      intro μ5 e5 μ6 e6
      refine ⟨gP g - (p + 1), by omega, p + 1, rfl, by omega, (nI_succ p).symm, ?_, ?_, ?_⟩
      · rw [e6, e5]
        exact fr_st (fr_st (fr_trans hf hf4) (by simp)) (by simp)
      · rw [e6, e5, st_same, if_neg (by decide), st_same, if_pos rfl]
        show _ = (if _ then _ else _ : Int32 × Int32).1
        rw [if_pos q]
      · rw [e6, st_same, if_pos rfl]
        show _ = (if _ then _ else _ : Int32 × Int32).2
        rw [if_pos q]
    · rw [if_pos (Int32.not_lt.mp q)]
      refine ⟨gP g - (p + 1), by omega, p + 1, rfl, by omega, (nI_succ p).symm, fr_trans hf hf4, ?_, ?_⟩
      · rw [h37, g7]
        show _ = (if _ then _ else _ : Int32 × Int32).1
        rw [if_neg q]
      · rw [h37, g8]
        show _ = (if _ then _ else _ : Int32 × Int32).2
        rw [if_neg q]
theorem x_findRichest {K : sm_Mem → Prop} {g : GH} {n : Nat} {μ : sm_Mem} (hg : gOk g) (hc : CA 1 g μ) (hn : n ≤ 60) (hK : ∀ μ2, fr SX μ μ2 → μ2 37 7 = (scI (fun o => nI (worN g o n)) 4).1 → μ2 37 8 = (scI (fun o => nI (worN g o n)) 4).2 → K μ2) : w_F_findRichest K (nI n) 3 μ := by
  unfold w_F_findRichest
  intro μ1 e1 μ2 e2
  have hf2 : fr SX μ μ2 := by
    rw [e2, e1]
    exact fr_st (fr_st fr_rfl (by simp)) (by simp)
  have v7 : μ2 37 7 = -1 := by rw [e2, e1, st_same, if_neg (by decide), st_same, if_pos rfl]
  have v8 : μ2 37 8 = 0 := by rw [e2, st_same, if_pos rfl]
  unfold w_F_findRichest_12
  refine ⟨fun m x3 μ3 => ∃ p, m = 4 - p ∧ p ≤ 4 ∧ x3 = nI p ∧ fr SX μ μ3 ∧ μ3 37 7 = (scI (fun o => nI (worN g o n)) p).1 ∧ μ3 37 8 = (scI (fun o => nI (worN g o n)) p).2, ⟨4, 0, rfl, by omega, rfl, hf2, v7, v8⟩, ?_⟩
  rintro m x3 μ3 ⟨p, rfl, hp, rfl, hf, g7, g8⟩
  dsimp only
  have hc3 := CA_of hc hf
  by_cases hin : p = 4
  · subst hin
    rw [if_pos (by decide)]
    exact hK μ3 hf g7 g8
  · have q3 : ¬ (3 : Int32) < nI p := nI_lt_no (a := 3) (by omega) (by omega) (by omega)
    rw [if_neg q3]
    refine x_worthBehind hg hc3 (by omega) hn (fun μ4 hf4 h37 => ?_)
    rw [h37, g7]
    by_cases q : (scI (fun o => nI (worN g o n)) p).1 < nI (worN g p n)
    · rw [if_neg (Int32.not_le.mpr q)]
      intro μ5 e5 μ6 e6
      refine ⟨4 - (p + 1), by omega, p + 1, rfl, by omega, (nI_succ p).symm, ?_, ?_, ?_⟩
      · rw [e6, e5]
        exact fr_st (fr_st (fr_trans hf hf4) (by simp)) (by simp)
      · rw [e6, e5, st_same, if_neg (by decide), st_same, if_pos rfl]
        show _ = (if _ then _ else _ : Int32 × Int32).1
        rw [if_pos q]
      · rw [e6, st_same, if_pos rfl]
        show _ = (if _ then _ else _ : Int32 × Int32).2
        rw [if_pos q]
    · rw [if_pos (Int32.not_lt.mp q)]
      refine ⟨4 - (p + 1), by omega, p + 1, rfl, by omega, (nI_succ p).symm, fr_trans hf hf4, ?_, ?_⟩
      · rw [h37, g7]
        show _ = (if _ then _ else _ : Int32 × Int32).1
        rw [if_neg q]
      · rw [h37, g8]
        show _ = (if _ then _ else _ : Int32 × Int32).2
        rw [if_neg q]
theorem x_weathers {K : Int32 → sm_Mem → Prop} {g : GH} {i n : Nat} {μ : sm_Mem} (hg : gOk g) (hc : CA 1 g μ) (hi : i < gN g) (hn : n ≤ 60) (hK : ∀ μ2, fr SX μ μ2 → K (nI (cntN (fun y => leftI g (nI (gWa g (gAt g i))) (nI y) i n) 10)) μ2) : w_F_weathersThatLeave K (nI i) (nI n) μ := by
  unfold w_F_weathersThatLeave w_F_weathersThatLeave_5
  refine ⟨fun m x3 x4 μ2 => ∃ y, m = 10 - y ∧ y ≤ 10 ∧ x4 = nI y ∧ x3 = nI (cntN (fun y => leftI g (nI (gWa g (gAt g i))) (nI y) i n) y) ∧ fr SX μ μ2, ⟨10, 0, rfl, by omega, rfl, rfl, fr_rfl⟩, ?_⟩
  rintro m x3 x4 μ2 ⟨y, rfl, hy, rfl, rfl, hf⟩
  dsimp only
  have hc2 := CA_of hc hf
  by_cases hin : y = 10
  · subst hin
    rw [if_pos (by decide)]
    exact hK μ2 hf
  · have q9 : ¬ (9 : Int32) < nI y := nI_lt_no (a := 9) (by omega) (by omega) (by omega)
    rw [if_neg q9]
    refine x_warmthAround hg hc2 hi ?_
    refine x_left hg hc2 hi hn (fun μ3 hf3 _ _ _ => ?_)
    have hle := leftI_le (w := nI (gWa g (gAt g i))) (y := nI y) (n := n) hg hi
    by_cases q : 0 < leftI g (nI (gWa g (gAt g i))) (nI y) i n
    · have q0 : ¬ nI (leftI g (nI (gWa g (gAt g i))) (nI y) i n) ≤ 0 := nI_le_no (b := 0) (by omega) (by omega) q
      rw [if_neg q0]
      refine ⟨10 - (y + 1), by omega, y + 1, rfl, by omega, (nI_succ y).symm, ?_, fr_trans hf hf3⟩
      show nI _ + 1 = nI (cntN _ y + (if 0 < leftI g (nI (gWa g (gAt g i))) (nI y) i n then 1 else 0))
      rw [if_pos q, nI_succ]
    · have q0 : nI (leftI g (nI (gWa g (gAt g i))) (nI y) i n) ≤ 0 := nI_le_yes (b := 0) (by omega) (by omega) (by omega)
      rw [if_pos q0]
      refine ⟨10 - (y + 1), by omega, y + 1, rfl, by omega, (nI_succ y).symm, ?_, fr_trans hf hf3⟩
      show _ = nI (cntN _ y + (if 0 < leftI g (nI (gWa g (gAt g i))) (nI y) i n then 1 else 0))
      rw [if_neg q]
      rfl

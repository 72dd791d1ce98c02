/-! ===== the model's way ===== -/
def loW (ro : Nat → Nat → Nat) (st : Nat → Nat) (nd : Nat → Nat) : Nat → Nat
  | 0 => 0
  | r + 1 => loW ro st nd r + ro (nd r) (nd (r + 1)) * st (nd r)
def beW (nd : Nat → Nat) : Nat → Nat
  | 0 => 2 ^ nd 0
  | r + 1 => beW nd r ||| 2 ^ nd (r + 1)
def suW (u0 : Int32) (nd : Nat → Nat) (r : Nat) : Int32 := if r = 0 then u0 else nI (nd 1)
theorem loW_eq {ro : Nat → Nat → Nat} {st : Nat → Nat} {nd nd2 : Nat → Nat} : ∀ r, (∀ j, j ≤ r → nd2 j = nd j) → loW ro st nd2 r = loW ro st nd r
  | 0, _ => rfl
  | r + 1, h => by
    show loW ro st nd2 r + ro (nd2 r) (nd2 (r + 1)) * st (nd2 r) = loW ro st nd r + ro (nd r) (nd (r + 1)) * st (nd r)
    rw [loW_eq r (fun j hj => h j (by omega)), h r (by omega), h (r + 1) (by omega)]
theorem beW_eq {nd nd2 : Nat → Nat} : ∀ r, (∀ j, j ≤ r → nd2 j = nd j) → beW nd2 r = beW nd r
  | 0, h => by
    show 2 ^ nd2 0 = 2 ^ nd 0
    rw [h 0 (by omega)]
  | r + 1, h => by
    show beW nd2 r ||| 2 ^ nd2 (r + 1) = beW nd r ||| 2 ^ nd (r + 1)
    rw [beW_eq r (fun j hj => h j (by omega)), h (r + 1) (by omega)]
theorem beW_lt {nd : Nat → Nat} : ∀ r, (∀ j, j ≤ r → nd j < 6) → beW nd r < 64
  | 0, h => (un_root (nd 0) (h 0 (by omega))).1
  | r + 1, h => (un_tab (beW nd r) (beW_lt r (fun j hj => h j (by omega))) (nd (r + 1)) (h (r + 1) (by omega))).1
theorem loW_le {ro : Nat → Nat → Nat} {st : Nat → Nat} {nd : Nat → Nat} (h1 : ∀ a b, ro a b ≤ 9) (h2 : ∀ a, st a ≤ 202) : ∀ r, loW ro st nd r ≤ 1818 * r
  | 0 => Nat.le_refl _
  | r + 1 => by
    have h := loW_le (nd := nd) h1 h2 r
    have hm : ro (nd r) (nd (r + 1)) * st (nd r) ≤ 9 * 202 := Nat.mul_le_mul (h1 _ _) (h2 _)
    show loW ro st nd r + ro (nd r) (nd (r + 1)) * st (nd r) ≤ 1818 * (r + 1)
    omega
/-- what a place on the path does with one place more -/
def fW (P : Nat) (ro : Nat → Nat → Nat) (st : Nat → Nat) (aim s0 : Nat) (u0 : Int32) (nd : Nat → Nat) (r : Nat) : Nat → BB → BB := wf P ro st aim (4 - r) (nd r) (s0 - loW ro st nd r) (beW nd r) (suW u0 nd r)
/-- what is left to do for those below on the path -/
def suS (P : Nat) (ro : Nat → Nat → Nat) (st : Nat → Nat) (aim s0 : Nat) (u0 : Int32) (nd : Nat → Nat) : Nat → BB → BB
  | 0, b => b
  | r + 1, b => suS P ro st aim s0 u0 nd r (fld (fW P ro st aim s0 u0 nd r) (P - (nd (r + 1) + 1)) (nd (r + 1) + 1) b)
theorem fW_eq {P : Nat} {ro : Nat → Nat → Nat} {st : Nat → Nat} {aim s0 : Nat} {u0 : Int32} {nd nd2 : Nat → Nat} {r : Nat} (h : ∀ j, j ≤ r → nd2 j = nd j) : fW P ro st aim s0 u0 nd2 r = fW P ro st aim s0 u0 nd r := by
  have hs : suW u0 nd2 r = suW u0 nd r := by
    unfold suW
    by_cases r0 : r = 0
    · rw [if_pos r0, if_pos r0]
    · rw [if_neg r0, if_neg r0, h 1 (by omega)]
  unfold fW
  rw [loW_eq r h, beW_eq r h, h r (Nat.le_refl _), hs]
theorem suS_eq {P : Nat} {ro : Nat → Nat → Nat} {st : Nat → Nat} {aim s0 : Nat} {u0 : Int32} {nd nd2 : Nat → Nat} : ∀ r, (∀ j, j ≤ r → nd2 j = nd j) → ∀ b, suS P ro st aim s0 u0 nd2 r b = suS P ro st aim s0 u0 nd r b
  | 0, _, _ => rfl
  | r + 1, h, b => by
    show suS P ro st aim s0 u0 nd2 r (fld (fW P ro st aim s0 u0 nd2 r) (P - (nd2 (r + 1) + 1)) (nd2 (r + 1) + 1) b) = suS P ro st aim s0 u0 nd r (fld (fW P ro st aim s0 u0 nd r) (P - (nd (r + 1) + 1)) (nd (r + 1) + 1) b)
    rw [suS_eq r (fun j hj => h j (by omega)), fW_eq (fun j hj => h j (by omega)), h (r + 1) (by omega)]
def xW : Nat → Nat
  | 0 => 1
  | d + 1 => 2 + 6 * xW d
def msW (nd : Nat → Nat) : Nat → Nat
  | 0 => 0
  | r + 1 => msW nd r + (1 + (6 - (nd (r + 1) + 1)) * xW (5 - r))
theorem msW_eq {nd nd2 : Nat → Nat} : ∀ r, (∀ j, j ≤ r → nd2 j = nd j) → msW nd2 r = msW nd r
  | 0, _ => rfl
  | r + 1, h => by
    show msW nd2 r + (1 + (6 - (nd2 (r + 1) + 1)) * xW (5 - r)) = msW nd r + (1 + (6 - (nd (r + 1) + 1)) * xW (5 - r))
    rw [msW_eq r (fun j hj => h j (by omega)), h (r + 1) (by omega)]
theorem m_measures {K : sm_Mem → Prop} {g : GH} {i p r : Nat} {nd : Nat → Nat} {μ : sm_Mem} (hg : gOk g) (hc : MA 62 g μ) (h15 : μ 61 15 = 0) (hi : i < gN g) (hp : p < gP g) (hr : r ≤ 5) (h0 : nd 0 = gAt g i) (hnd : ∀ j, j ≤ r → nd j < gP g) (hpa : ∀ j, j < r → μ 67 j = nI (nd (j + 1))) (hu0 : r = 0 → nd 0 = p → wayU g i p = nI p) (hK : ∀ μ2, fr [61] μ μ2 → (∀ j, j ∉ [7, 8, 9, 10, 11, 12, 13, 14, 17, 18] → μ2 61 j = μ 61 j) → (μ2 61 17, μ2 61 18) = (if nd r = p then wup (gSn g i - loW (gRo g) (mA g i) nd r) (suW (wayU g i p) nd r) (μ 61 17, μ 61 18) else (μ 61 17, μ 61 18)) → K μ2) : w_M_measures K (nI i) (nI p) (nI r) μ := by
  have h6 := hg.1
  have h10 := hg.2.1
  have hsn := (hg.2.2.2.2.2.2.1 i hi).2.2.1
  have hlo := loW_le (nd := nd) (ro := gRo g) (st := mA g i) hg.2.2.2.2.2.1 (fun a => mA_le hg hi)
  unfold w_M_measures
  refine m_its (f := 3) (by omega) (by omega) ?_
  rw [(hc.2.2.2.1 i hi).2.2.2.1, ← h0]
  unfold w_M_measures_14
  refine ⟨fun m x4 x5 x6 μ3 => ∃ j, m = r - j ∧ j ≤ r ∧ x6 = nI j ∧ x4 = nI (nd j) ∧ x5 = nI (loW (gRo g) (mA g i) nd j) ∧ frm μ μ3, ⟨r, 0, rfl, Nat.zero_le _, rfl, rfl, rfl, frm_rfl⟩, ?_⟩
  rintro m x4 x5 x6 μ3 ⟨j, rfl, hj, rfl, rfl, rfl, hf⟩
  dsimp only
  have m3 := MA_of hc hf
  have hlj := hlo j
  by_cases hjr : j = r
  · subst hjr
    rw [if_pos (nI_le_yes (by omega) (by omega) (Nat.le_refl _))]
    have lim : ∀ k, k ∉ [7, 8, 9, 10, 11, 12, 13, 14, 17, 18] → k ∉ [7, 8, 9, 10, 11, 12, 13, 14] := fun k hk z => hk (by revert z; simp; omega)
    have fin : w_M_measures_85 K (nI i) (nI p) (nI j) (nI (nd j)) (nI (gSn g i - loW (gRo g) (mA g i) nd j)) μ3 := by
      unfold w_M_measures_85
      have e17 : μ3 61 17 = μ 61 17 := hf.2 17 (by decide)
      have e18 : μ3 61 18 = μ 61 18 := hf.2 18 (by decide)
      have hnj := hnd j (Nat.le_refl _)
      by_cases q : nd j = p
      · rw [if_pos q] at hK
        rw [if_pos (by rw [q]), e17]
        unfold wup at hK
        dsimp only at hK
        by_cases z : nI (gSn g i - loW (gRo g) (mA g i) nd j) ≤ μ 61 17
        · rw [if_pos z] at hK ⊢
          exact hK μ3 hf.1 (fun k hk => hf.2 k (lim k hk)) (by rw [e17, e18])
        · rw [if_neg z] at hK ⊢
          intro μ9 e9
          have last : ∀ (x : Int32) (μ10 : sm_Mem), μ10 = sm_st μ9 61 18 x → x = suW (wayU g i p) nd j → K μ10 := by
            intro x μ10 e10 ex
            refine hK μ10 ?_ (fun k hk => ?_) ?_
            · rw [e10, e9]
              exact fr_st (fr_st hf.1 (by simp)) (by simp)
            · rw [e10, st_same, if_neg (fun e => hk (by rw [e]; decide)), e9, st_same, if_neg (fun e => hk (by rw [e]; decide))]
              exact hf.2 k (lim k hk)
            · rw [e10, st_same, st_same, if_neg (by decide), if_pos rfl, e9, st_same, if_pos rfl, ex]
          by_cases j0 : j = 0
          · rw [if_pos (by rw [j0]; rfl)]
            intro μ12 e12
            refine last _ μ12 e12 ?_
            unfold suW
            rw [if_pos j0, hu0 j0 (by rw [← j0]; exact q)]
          · rw [if_neg (nI_ne0 (by omega) (by omega))]
            intro μ11 e11
            refine last _ μ11 e11 ?_
            unfold suW
            rw [if_neg j0, e9, st_ne _ _ _ _ _ (by decide), hf.1 67 (by decide)]
            exact hpa 0 (by omega)
      · rw [if_neg q] at hK
        rw [if_neg (fun z => q ((nI_inj (by omega) (by omega)).mp z))]
        exact hK μ3 hf.1 (fun k hk => hf.2 k (lim k hk)) (by rw [e17, e18])
    refine m_its (f := 2) (by omega) (by omega) ?_
    rw [show μ3 62 (51 + 5 * i + 2) = nI (gSn g i) from (m3.2.2.2.1 i hi).2.2.1]
    by_cases z : gSn g i ≤ loW (gRo g) (mA g i) nd j
    · rw [if_pos (nI_le_yes (by omega) (by omega) z)]
      rw [show gSn g i - loW (gRo g) (mA g i) nd j = 0 by omega] at fin
      exact fin
    · rw [if_neg (nI_le_no (by omega) (by omega) (by omega))]
      refine m_its (f := 2) (by omega) (by omega) ?_
      rw [show μ3 62 (51 + 5 * i + 2) = nI (gSn g i) from (m3.2.2.2.1 i hi).2.2.1, nI_sub (by omega)]
      exact fin
  · rw [if_neg (nI_le_no (by omega) (by omega) (by omega))]
    refine ⟨(vin_iff (by omega)).mpr (by omega), ?_⟩
    rw [ix_nI (by omega), hf.1 67 (by decide), hpa j (by omega)]
    refine m_roadOf h6 m3 (hnd j (by omega)) (hnd (j + 1) (by omega)) ?_
    refine m_meltsAt (wm := 0) hg.M m3 (by rw [hf.2 15 (by decide)]; exact h15) hi (hnd j (by omega)) (fun μ4 hf4 => ?_)
    intro v20 e20
    have e20' : v20 = nI (loW (gRo g) (mA g i) nd (j + 1)) := by
      rw [e20, nI_mul, nI_add]
      rfl
    refine ⟨(vin_iff (by omega)).mpr (by omega), ?_⟩
    intro v22 e22
    rw [hf4.1 67 (by decide), hf.1 67 (by decide), hpa j (by omega)] at e22
    exact ⟨r - (j + 1), by omega, j + 1, rfl, by omega, (nI_succ j).symm, e22, e20', frm_trans hf hf4⟩
/-- the model on its way: c is the next place to try at depth r -/
def stW (g : GH) (i p : Nat) (μ0 : sm_Mem) (T : BB) (m : Nat) (x3 x4 : Int32) (μ : sm_Mem) : Prop :=
  (fr [61, 67] μ0 μ ∧ ∀ j, j ∉ [7, 8, 9, 10, 11, 12, 13, 14, 17, 18] → μ 61 j = μ0 61 j) ∧
  ((x3 < 0 ∧ (μ 61 17, μ 61 18) = T) ∨
   ∃ (nd : Nat → Nat) (r c : Nat), r ≤ 5 ∧ x3 = nI r ∧ nd 0 = gAt g i ∧ (∀ j, j ≤ r → nd j < gP g) ∧ (∀ j, j < r → nd j ≠ p ∧ (beW nd j).testBit (nd (j + 1)) = false) ∧ (∀ j, j < r → μ 67 j = nI (nd (j + 1))) ∧ (∀ j, r < j → j < 6 → μ 67 j = -1) ∧ c ≤ gP g ∧ μ 67 r = nI c - 1 ∧ 1 + (6 - c) * xW (5 - r) + msW nd r ≤ m ∧
    ((c = 0 ∧ x4 = nI (beW nd r) ∧ suS (gP g) (gRo g) (mA g i) p (gSn g i) (wayU g i p) nd r (wk (gP g) (gRo g) (mA g i) p (5 - r) (nd r) (gSn g i - loW (gRo g) (mA g i) nd r) (beW nd r) (suW (wayU g i p) nd r) (μ 61 17, μ 61 18)) = T) ∨
     (0 < c ∧ nd r ≠ p ∧ r ≤ 4 ∧ (beW nd r).testBit (c - 1) = false ∧ x4 = nI (beW nd r ||| 2 ^ (c - 1)) ∧ suS (gP g) (gRo g) (mA g i) p (gSn g i) (wayU g i p) nd r (fld (fW (gP g) (gRo g) (mA g i) p (gSn g i) (wayU g i p) nd r) (gP g - c) c (μ 61 17, μ 61 18)) = T)))
theorem stW_pop {g : GH} {i p m r : Nat} {nd : Nat → Nat} {μ0 μ : sm_Mem} {T : BB} (hP : gP g ≤ 6) (hf : fr [61, 67] μ0 μ ∧ ∀ j, j ∉ [7, 8, 9, 10, 11, 12, 13, 14, 17, 18] → μ 61 j = μ0 61 j) (hr : r ≤ 5) (h0 : nd 0 = gAt g i) (hnd : ∀ j, j ≤ r → nd j < gP g) (hne : ∀ j, j < r → nd j ≠ p ∧ (beW nd j).testBit (nd (j + 1)) = false) (hpa : ∀ j, j < r → μ 67 j = nI (nd (j + 1))) (hpr : ∀ j, r ≤ j → j < 6 → μ 67 j = -1) (hm : msW nd r < m) (hT : suS (gP g) (gRo g) (mA g i) p (gSn g i) (wayU g i p) nd r (μ 61 17, μ 61 18) = T) : ∃ k, k < m ∧ stW g i p μ0 T k (nI r + (-1)) (nI (beW nd r)) μ := by
  cases r with
  | zero => exact ⟨0, by omega, hf, Or.inl ⟨by decide, hT⟩⟩
  | succ r =>
    have e : nI (r + 1) + (-1) = nI r := by
      rw [show (-1 : Int32) = -nI 1 from rfl, ← Int32.sub_eq_add_neg, nI_sub (by omega)]
      rfl
    have hn1 := hnd (r + 1) (Nat.le_refl _)
    obtain ⟨a1, a2⟩ := hne r (by omega)
    refine ⟨msW nd (r + 1), hm, hf, Or.inr ⟨nd, r, nd (r + 1) + 1, by omega, e, h0, fun j hj => hnd j (by omega), fun j hj => hne j (by omega), fun j hj => hpa j (by omega), fun j h1 h2 => hpr j (by omega) h2, by omega, ?_, ?_, Or.inr ⟨by omega, a1, by omega, a2, rfl, hT⟩⟩⟩
    · rw [hpa r (by omega), nI_succ, Int32.add_sub_cancel]
    · show 1 + (6 - (nd (r + 1) + 1)) * xW (5 - r) + msW nd r ≤ msW nd r + (1 + (6 - (nd (r + 1) + 1)) * xW (5 - r))
      omega
theorem m_findWay {K : sm_Mem → Prop} {g : GH} {i p : Nat} {μ : sm_Mem} (hg : gOk g) (hc : MA 62 g μ) (h15 : μ 61 15 = 0) (hi : i < gN g) (hp : p < gP g) (hK : ∀ μ2, frq μ μ2 → (μ2 61 17, μ2 61 18) = wayR g i p 5 → K μ2) : w_M_findWay K (nI i) (nI p) μ := by
  have h6 := hg.1
  have h10 := hg.2.1
  obtain ⟨k1, k2, k3, k4, k5⟩ := hg.2.2.2.2.2.2.1 i hi
  unfold w_M_findWay
  refine m_its (f := 3) (by omega) (by omega) ?_
  rw [(hc.2.2.2.1 i hi).2.2.2.1]
  intro v3 e3 μ4 e4 μ5 e5
  rw [shl_tab _ (by omega)] at e3
  subst e3
  have hf5 : fr [61, 67] μ μ5 ∧ ∀ j, j ∉ [7, 8, 9, 10, 11, 12, 13, 14, 17, 18] → μ5 61 j = μ 61 j := by
    refine ⟨by rw [e5, e4]; exact fr_st (fr_st fr_rfl (by simp)) (by simp), fun j hj => ?_⟩
    rw [e5, st_same, if_neg (fun e => hj (by rw [e]; decide)), e4, st_same, if_neg (fun e => hj (by rw [e]; decide))]
  have v17 : μ5 61 17 = -1 := by rw [e5, st_same, if_neg (by decide), e4, st_same, if_pos rfl]
  have v18 : μ5 61 18 = nI p := by rw [e5, st_same, if_pos rfl]
  unfold w_M_findWay_25
  refine ⟨fun m x5 μ6 => ∃ t, m = 6 - t ∧ t ≤ 6 ∧ x5 = nI t ∧ fr [67] μ5 μ6 ∧ ∀ j, j < t → μ6 67 j = -1, ⟨6, 0, rfl, by omega, rfl, fr_rfl, fun j hj => by omega⟩, ?_⟩
  rintro m x5 μ6 ⟨t, rfl, ht, rfl, hf6, hs6⟩
  dsimp only
  by_cases ht6 : t = 6
  · rw [if_pos (by rw [ht6]; decide)]
    have e61 : μ6 61 = μ5 61 := hf6 61 (by decide)
    have f6 : fr [61, 67] μ μ6 ∧ ∀ j, j ∉ [7, 8, 9, 10, 11, 12, 13, 14, 17, 18] → μ6 61 j = μ 61 j := ⟨fr_trans hf5.1 (fr_mono hf6 (by simp)), fun j hj => by rw [e61]; exact hf5.2 j hj⟩
    unfold w_M_findWay_46
    refine ⟨stW g i p μ (wayR g i p 5), ⟨1 + (6 - 0) * xW (5 - 0) + 0, f6, Or.inr ⟨fun _ => gAt g i, 0, 0, by omega, rfl, rfl, fun _ _ => k4, fun j hj => by omega, fun j hj => by omega, fun j h1 h2 => hs6 j (by omega), by omega, by rw [hs6 0 (by omega)]; rfl, Nat.le_refl _, Or.inl ⟨rfl, rfl, ?_⟩⟩⟩, ?_⟩
    · show wk (gP g) (gRo g) (mA g i) p 5 (gAt g i) (gSn g i - 0) (2 ^ gAt g i) (wayU g i p) (μ6 61 17, μ6 61 18) = wayR g i p 5
      rw [e61, v17, v18]
      rfl
    rintro m x3 x4 μ7 ⟨hf7, hcase⟩
    have m7 : MA 62 g μ7 := MA_fr hc (hf7.1 62 (by decide))
    rcases hcase with ⟨hneg, hT⟩ | ⟨nd, r, c, hr, rfl, h0, hnd, hne, hpa, hpr, hcP, hpc, hm, hv⟩
    · rw [if_pos hneg]
      refine hK μ7 ⟨fr_mono hf7.1 (by simp), fun j hj => hf7.2 j (fun z => hj (by revert z; simp; omega)), fun j _ => by rw [hf7.1 62 (by decide)]⟩ hT
    · have nneg : ¬ nI r < 0 := nI_lt_no (b := 0) (by omega) (by omega) (by omega)
      rw [if_neg nneg]
      have hbe := beW_lt (nd := nd) r (fun j hj => by have := hnd j hj; omega)
      have hxp : 0 < xW (5 - r) := by
        rcases (by omega : r = 0 ∨ r = 1 ∨ r = 2 ∨ r = 3 ∨ r = 4 ∨ r = 5) with rfl | rfl | rfl | rfl | rfl | rfl <;> decide
      have go71 : w_M_findWay_71 K (fun a0 a1 μ_1 => ∃ k, k < m ∧ stW g i p μ (wayR g i p 5) k a0 a1 μ_1) (nI i) (nI p) (nI r) x4 (nI (nd r)) μ7 := by
        unfold w_M_findWay_71
        have hnr := hnd r (Nat.le_refl _)
        have leaf : (nd r = p ∨ r = 5) → w_M_findWay_84 K (fun a0 a1 μ_1 => ∃ k, k < m ∧ stW g i p μ (wayR g i p 5) k a0 a1 μ_1) (nI i) (nI p) (nI r) x4 μ7 := by
          intro hl
          unfold w_M_findWay_84
          rcases hv with ⟨hc0, rfl, hT⟩ | ⟨_, hn, hr4, _⟩
          · refine m_measures (nd := nd) hg m7 (by rw [hf7.2 15 (by decide)]; exact h15) hi hp hr h0 hnd hpa (fun _ e => by unfold wayU; rw [if_pos (by rw [← h0]; exact e)]) (fun μ8 hf8 hj8 hb8 => ?_)
            unfold w_M_findWay_226
            have f8 : fr [61, 67] μ μ8 ∧ ∀ j, j ∉ [7, 8, 9, 10, 11, 12, 13, 14, 17, 18] → μ8 61 j = μ 61 j := ⟨fr_trans hf7.1 (fr_mono hf8 (by simp)), fun j hj => by rw [hj8 j hj]; exact hf7.2 j hj⟩
            refine stW_pop h6 f8 hr h0 hnd hne (fun j hj => by rw [hf8 67 (by decide)]; exact hpa j hj) (fun j h1 h2 => ?_) (by omega) ?_
            · rw [hf8 67 (by decide)]
              by_cases e : j = r
              · rw [e, hpc, hc0]
                rfl
              · exact hpr j (by omega) h2
            · rw [hb8]
              by_cases q : nd r = p
              · rw [if_pos q]
                rw [wk_aim q] at hT
                exact hT
              · rw [if_neg q]
                have r5 : r = 5 := by
                  rcases hl with z | z
                  · exact absurd z q
                  · exact z
                rw [r5] at hT ⊢
                rw [r5] at q
                rw [show 5 - 5 = 0 from rfl, wk, if_neg q] at hT
                exact hT
          · rcases hl with z | z
            · exact absurd z hn
            · omega
        by_cases q : nd r = p
        · rw [if_pos (by rw [q])]
          exact leaf (Or.inl q)
        · rw [if_neg (fun z => q ((nI_inj (by omega) (by omega)).mp z))]
          by_cases r5 : r = 5
          · rw [if_pos (by rw [r5]; rfl)]
            exact leaf (Or.inr r5)
          · have r5' : ¬ nI r = 5 := fun z => r5 ((nI_inj (a := r) (b := 5) (by omega) (by omega)).mp z)
            rw [if_neg r5']
            refine ⟨(vin_iff (by omega)).mpr (by omega), ?_⟩
            have hT : suS (gP g) (gRo g) (mA g i) p (gSn g i) (wayU g i p) nd r (fld (fW (gP g) (gRo g) (mA g i) p (gSn g i) (wayU g i p) nd r) (gP g - c) c (μ7 61 17, μ7 61 18)) = wayR g i p 5 := by
              rcases hv with ⟨hc0, _, hT⟩ | ⟨_, _, _, _, _, hT⟩
              · rw [show 5 - r = (4 - r) + 1 by omega, wk_go q] at hT
                rw [hc0]
                exact hT
              · exact hT
            have rest : ∀ mask : Int32, (x4 &&& mask) = nI (beW nd r) → w_M_findWay_122 K (fun a0 a1 μ_1 => ∃ k, k < m ∧ stW g i p μ (wayR g i p 5) k a0 a1 μ_1) (nI i) (nI p) (nI r) (nI (nd r)) mask x4 μ7 := by
              intro mask hmask
              unfold w_M_findWay_122
              intro v16 e16
              rw [hmask] at e16
              subst e16
              refine ⟨(vin_iff (by omega)).mpr (by omega), ?_⟩
              intro v18 e18
              rw [ix_nI (by omega), hpc, Int32.sub_add_cancel] at e18
              subst e18
              have go174 : ∀ y, c ≤ y → y ≤ gP g → (y < gP g → 0 < gRo g (nd r) y ∧ (beW nd r).testBit y = false) → suS (gP g) (gRo g) (mA g i) p (gSn g i) (wayU g i p) nd r (fld (fW (gP g) (gRo g) (mA g i) p (gSn g i) (wayU g i p) nd r) (gP g - y) y (μ7 61 17, μ7 61 18)) = wayR g i p 5 → w_M_findWay_174 K (fun a0 a1 μ_1 => ∃ k, k < m ∧ stW g i p μ (wayR g i p 5) k a0 a1 μ_1) (nI i) (nI p) (nI r) (nI (beW nd r)) (nI y) μ7 := by
                intro y hcy hyP hy hTy
                unfold w_M_findWay_174
                rw [m7.1.1]
                have f22 : ∀ (v : Int32) (μ22 : sm_Mem), μ22 = sm_st μ7 67 r v → fr [61, 67] μ μ22 ∧ ∀ j, j ∉ [7, 8, 9, 10, 11, 12, 13, 14, 17, 18] → μ22 61 j = μ 61 j := fun v μ22 e22 => ⟨by rw [e22]; exact fr_st hf7.1 (by simp), fun j hj => by rw [e22, st_ne _ _ _ _ _ (by decide)]; exact hf7.2 j hj⟩
                by_cases hyp : y = gP g
                · rw [if_pos (nI_le_yes (by omega) (by omega) (by omega))]
                  unfold w_M_findWay_196
                  refine ⟨(vin_iff (by omega)).mpr (by omega), ?_⟩
                  intro μ22 e22
                  rw [ix_nI (by omega)] at e22
                  have e62 : μ22 62 2 = nI (gP g) := by rw [e22, st_ne _ _ _ _ _ (by decide)]; exact m7.1.1
                  rw [e62, if_pos (nI_le_yes (by omega) (by omega) (by omega))]
                  unfold w_M_findWay_226
                  refine stW_pop h6 (f22 _ μ22 e22) hr h0 hnd hne (fun j hj => ?_) (fun j h1 h2 => ?_) (by omega) ?_
                  · rw [e22, st_same, if_neg (by omega)]
                    exact hpa j hj
                  · rw [e22, st_same]
                    by_cases e : j = r
                    · rw [if_pos e]
                    · rw [if_neg e]
                      exact hpr j (by omega) h2
                  · rw [hyp, Nat.sub_self] at hTy
                    rw [e22, st_ne _ _ _ _ _ (by decide)]
                    exact hTy
                · rw [if_neg (nI_le_no (by omega) (by omega) (by omega))]
                  have hyl : y < gP g := by omega
                  obtain ⟨y1, y2⟩ := hy hyl
                  unfold w_M_findWay_196
                  refine ⟨(vin_iff (by omega)).mpr (by omega), ?_⟩
                  intro μ22 e22
                  rw [ix_nI (by omega)] at e22
                  have e62 : μ22 62 2 = nI (gP g) := by rw [e22, st_ne _ _ _ _ _ (by decide)]; exact m7.1.1
                  rw [e62, if_neg (nI_le_no (by omega) (by omega) (by omega))]
                  intro v24 e24
                  rw [be_tab2 _ hbe y (by omega)] at e24
                  unfold w_M_findWay_226
                  have nde : ∀ j, j ≤ r → fup nd (r + 1) y j = nd j := fun j hj => by
                    unfold fup
                    rw [if_neg (by omega)]
                  have ndr : fup nd (r + 1) y (r + 1) = y := by
                    unfold fup
                    rw [if_pos rfl]
                  have xe : xW (5 - r) = 2 + 6 * xW (5 - (r + 1)) := by
                    rw [show 5 - r = (5 - (r + 1)) + 1 by omega]
                    rfl
                  have hx2 : (6 - y) * xW (5 - r) = (6 - (y + 1)) * xW (5 - r) + xW (5 - r) := by
                    rw [show 6 - y = (6 - (y + 1)) + 1 by omega, Nat.succ_mul]
                  have hx3 : (6 - y) * xW (5 - r) ≤ (6 - c) * xW (5 - r) := Nat.mul_le_mul_right _ (by omega)
                  have hms : msW (fup nd (r + 1) y) (r + 1) = msW nd r + (1 + (6 - (y + 1)) * xW (5 - r)) := by
                    show msW (fup nd (r + 1) y) r + (1 + (6 - (fup nd (r + 1) y (r + 1) + 1)) * xW (5 - r)) = _
                    rw [msW_eq r nde, ndr]
                  refine ⟨1 + (6 - 0) * xW (5 - (r + 1)) + msW (fup nd (r + 1) y) (r + 1), by omega, f22 _ μ22 e22, Or.inr ⟨fup nd (r + 1) y, r + 1, 0, by omega, (nI_succ r).symm, by rw [nde 0 (by omega)]; exact h0, fun j hj => ?_, fun j hj => ?_, fun j hj => ?_, fun j h1 h2 => ?_, by omega, ?_, Nat.le_refl _, Or.inl ⟨rfl, ?_, ?_⟩⟩⟩
                  · by_cases e : j = r + 1
                    · rw [e, ndr]
                      exact hyl
                    · rw [nde j (by omega)]
                      exact hnd j (by omega)
                  · by_cases e : j = r
                    · rw [e, nde r (Nat.le_refl _), ndr, beW_eq r nde]
                      exact ⟨q, y2⟩
                    · rw [nde j (by omega), nde (j + 1) (by omega), beW_eq j (fun z hz => nde z (by omega))]
                      exact hne j (by omega)
                  · rw [e22, st_same]
                    by_cases e : j = r
                    · rw [if_pos e, e, ndr]
                    · rw [if_neg e, nde (j + 1) (by omega)]
                      exact hpa j (by omega)
                  · rw [e22, st_same, if_neg (by omega)]
                    exact hpr j (by omega) h2
                  · rw [e22, st_same, if_neg (by omega), hpr (r + 1) (by omega) (by omega)]
                    rfl
                  · rw [e24]
                    show _ = nI (beW (fup nd (r + 1) y) r ||| 2 ^ fup nd (r + 1) y (r + 1))
                    rw [beW_eq r nde, ndr]
                  · rw [fld_s hyl] at hTy
                    have ef : fW (gP g) (gRo g) (mA g i) p (gSn g i) (wayU g i p) nd r y (μ7 61 17, μ7 61 18) = wk (gP g) (gRo g) (mA g i) p (4 - r) y (gSn g i - loW (gRo g) (mA g i) nd r - gRo g (nd r) y * mA g i (nd r)) (beW nd r ||| 2 ^ y) (if suW (wayU g i p) nd r < 0 then nI y else suW (wayU g i p) nd r) (μ7 61 17, μ7 61 18) := wf_yes ⟨y1, y2⟩
                    rw [ef] at hTy
                    have e61' : (μ22 61 17, μ22 61 18) = (μ7 61 17, μ7 61 18) := by rw [e22, st_ne _ _ _ _ _ (by decide)]
                    rw [e61']
                    show suS (gP g) (gRo g) (mA g i) p (gSn g i) (wayU g i p) (fup nd (r + 1) y) r (fld (fW (gP g) (gRo g) (mA g i) p (gSn g i) (wayU g i p) (fup nd (r + 1) y) r) (gP g - (fup nd (r + 1) y (r + 1) + 1)) (fup nd (r + 1) y (r + 1) + 1) (wk (gP g) (gRo g) (mA g i) p (5 - (r + 1)) (fup nd (r + 1) y (r + 1)) (gSn g i - (loW (gRo g) (mA g i) (fup nd (r + 1) y) r + gRo g (fup nd (r + 1) y r) (fup nd (r + 1) y (r + 1)) * mA g i (fup nd (r + 1) y r))) (beW (fup nd (r + 1) y) r ||| 2 ^ fup nd (r + 1) y (r + 1)) (suW (wayU g i p) (fup nd (r + 1) y) (r + 1)) (μ7 61 17, μ7 61 18))) = wayR g i p 5
                    have es : suW (wayU g i p) (fup nd (r + 1) y) (r + 1) = (if suW (wayU g i p) nd r < 0 then nI y else suW (wayU g i p) nd r) := by
                      unfold suW
                      rw [if_neg (by omega)]
                      by_cases r0 : r = 0
                      · have eu : wayU g i p = -1 := by
                          unfold wayU
                          rw [if_neg (by rw [← h0, ← r0]; exact q)]
                        rw [if_pos r0, eu, if_pos (by decide), r0]
                        rw [r0] at ndr
                        rw [ndr]
                      · have n1 := hnd 1 (by omega)
                        have nn : ¬ nI (nd 1) < 0 := nI_lt_no (b := 0) (by omega) (by omega) (by omega)
                        rw [if_neg r0, if_neg nn, nde 1 (by omega)]
                    rw [suS_eq r nde, fW_eq nde, ndr, loW_eq r nde, beW_eq r nde, nde r (Nat.le_refl _), es, show 5 - (r + 1) = 4 - r by omega]
                    rw [Nat.sub_sub (gSn g i)] at hTy
                    exact hTy
              unfold w_M_findWay_135
              refine ⟨fun m2 x6 μ8 => ∃ y, m2 = gP g - y ∧ c ≤ y ∧ y ≤ gP g ∧ x6 = nI y ∧ μ8 = μ7 ∧ suS (gP g) (gRo g) (mA g i) p (gSn g i) (wayU g i p) nd r (fld (fW (gP g) (gRo g) (mA g i) p (gSn g i) (wayU g i p) nd r) (gP g - y) y (μ7 61 17, μ7 61 18)) = wayR g i p 5, ⟨gP g - c, c, rfl, Nat.le_refl _, hcP, rfl, rfl, hT⟩, ?_⟩
              rintro m2 x6 μ8 ⟨y, rfl, hcy, hyP, rfl, rfl, hTy⟩
              dsimp only
              rw [m7.1.1]
              by_cases hyp : y = gP g
              · rw [if_pos (nI_le_yes (by omega) (by omega) (by omega))]
                exact go174 y hcy hyP (fun z => by omega) hTy
              · rw [if_neg (nI_le_no (by omega) (by omega) (by omega))]
                have hyl : y < gP g := by omega
                have hbt := bit_tab y (by omega) (beW nd r) (by omega)
                have skip : ¬ (0 < gRo g (nd r) y ∧ (beW nd r).testBit y = false) → w_M_findWay_168 K (fun a0 a1 μ_1 => ∃ k, k < m ∧ stW g i p μ (wayR g i p 5) k a0 a1 μ_1) (fun a0 μ => ∃ k, k < gP g - y ∧ ∃ y, k = gP g - y ∧ c ≤ y ∧ y ≤ gP g ∧ a0 = nI y ∧ μ = μ8 ∧ suS (gP g) (gRo g) (mA g i) p (gSn g i) (wayU g i p) nd r (fld (fW (gP g) (gRo g) (mA g i) p (gSn g i) (wayU g i p) nd r) (gP g - y) y (μ8 61 17, μ8 61 18)) = wayR g i p 5) (nI i) (nI p) (nI r) (nI (beW nd r)) (nI (nd r)) (nI y) μ8 := by
                  intro hno
                  unfold w_M_findWay_168
                  have ef : fW (gP g) (gRo g) (mA g i) p (gSn g i) (wayU g i p) nd r y (μ8 61 17, μ8 61 18) = (μ8 61 17, μ8 61 18) := wf_no hno
                  rw [fld_s hyl, ef] at hTy
                  exact ⟨gP g - (y + 1), by omega, y + 1, rfl, by omega, by omega, (nI_succ y).symm, rfl, hTy⟩
                by_cases z : ((nI (beW nd r) >>> (nI y &&& 31)) &&& 1) = 1
                · rw [if_pos z]
                  rw [decide_eq_true z] at hbt
                  exact skip (fun x => by rw [← hbt] at x; exact absurd x.2 (by decide))
                · rw [if_neg z]
                  rw [decide_eq_false z] at hbt
                  refine m_roadOf h6 m7 hnr hyl ?_
                  have hro : gRo g (nd r) y ≤ 9 := hg.2.2.2.2.2.1 _ _
                  by_cases r0 : gRo g (nd r) y = 0
                  · rw [if_pos (by rw [r0]; rfl)]
                    exact skip (fun x => by omega)
                  · rw [if_neg (nI_ne0 (by omega) (by omega))]
                    exact go174 y hcy hyP (fun _ => ⟨by omega, hbt.symm⟩) hTy
            rw [ix_nI (by omega), hpc]
            by_cases c0 : c = 0
            · subst c0
              rw [if_neg (by decide)]
              refine rest (-1) ?_
              rcases hv with ⟨_, e, _⟩ | ⟨hcp, _⟩
              · rw [e]
                exact Int32.and_neg_one
              · omega
            · have e1 : nI c - 1 = nI (c - 1) := nI_sub (a := c) (b := 1) (by omega)
              have p1 : (0 : Int32) ≤ nI (c - 1) := nI_le_yes (a := 0) (by omega) (by omega) (by omega)
              rw [e1, if_pos p1]
              refine ⟨(vin_iff (by omega)).mpr (by omega), ?_⟩
              refine rest _ ?_
              rcases hv with ⟨e, _⟩ | ⟨_, _, _, hb, e, _⟩
              · exact absurd e c0
              · rw [e]
                refine (be_tab3 _ hbe (c - 1) (by omega)).resolve_left ?_
                rw [hb]
                decide
      by_cases r0 : r = 0
      · rw [if_pos (by rw [r0]; rfl)]
        refine m_its (f := 3) (by omega) (by omega) ?_
        rw [(m7.2.2.2.1 i hi).2.2.2.1, ← h0]
        rw [r0] at go71 ⊢
        exact go71
      · rw [if_neg (nI_ne0 (by omega) (by omega)), show nI r - 1 = nI (r - 1) from nI_sub (a := r) (b := 1) (by omega)]
        refine ⟨(vin_iff (by omega)).mpr (by omega), ?_⟩
        rw [ix_nI (by omega), hpa (r - 1) (by omega), show r - 1 + 1 = r by omega]
        exact go71
  · have n6 : ¬ (6 : Int32) ≤ nI t := nI_le_no (a := 6) (by omega) (by omega) (by omega)
    rw [if_neg n6]
    refine ⟨(vin_iff (by omega)).mpr (by omega), ?_⟩
    intro μ32 e32
    rw [ix_nI (by omega)] at e32
    refine ⟨6 - (t + 1), by omega, t + 1, rfl, by omega, (nI_succ t).symm, by rw [e32]; exact fr_st hf6 (by simp), fun j hj => ?_⟩
    rw [e32, st_same]
    by_cases e : j = t
    · rw [if_pos e]
    · rw [if_neg e]
      exact hs6 j (by omega)
theorem T_way (n : Nat) (p0 p1 p2 : Int32) : Same n (fun K => w_X_way K p0 p1 p2) (fun K => w_M_way K p0 p1 p2) := by
  intro μ hR
  obtain ⟨⟨g, g1, g2, g3⟩, h15, _⟩ := id hR
  have h6 := g1.1
  have h10 := g1.2.1
  have bad : ¬ ((0 ≤ p0 ∧ p0 < nI (gN g)) ∧ (0 ≤ p1 ∧ p1 < nI (gP g)) ∧ (0 ≤ p2 ∧ p2 ≤ 1)) → w_X_way_31 (fun r1 μ1 => w_M_way (fun r2 μ2 => r1 = r2 ∧ RR (n + 1) μ2) p0 p1 p2 μ1) p0 p1 p2 μ := by
    intro hb
    unfold w_X_way_31
    refine X_err1 ?_
    have e30 : w_M_way_25 (fun r2 μ2 => -1000000001 = r2 ∧ RR (n + 1) μ2) p0 p1 p2 (sm_st μ 60 1 (μ 60 1 + 1)) := by
      unfold w_M_way_25
      exact M_err1 ⟨rfl, RR_err hR rfl rfl⟩
    show w_M_way _ p0 p1 p2 _
    unfold w_M_way
    refine m_isNote_eq g1.2.1 (by rw [st_ne _ _ _ _ _ (by decide)]; exact g3.1.2.1) (fun q0 => ?_) (fun _ => by rw [if_pos rfl]; exact e30)
    rw [if_neg (by decide)]
    refine m_isPlace_eq g1.1 (by rw [st_ne _ _ _ _ _ (by decide)]; exact g3.1.1) (fun q1 => ?_) (fun _ => by rw [if_pos rfl]; exact e30)
    rw [if_neg (by decide)]
    exact M_in (fun q2 => absurd ⟨q0, q1, q2⟩ hb) (fun _ => by rw [if_pos rfl]; exact e30)
  show w_X_way _ p0 p1 p2 μ
  unfold w_X_way
  refine x_hasNote_eq g2.1.2.1 (fun q0 => ?_) (fun q => by rw [if_pos rfl]; exact bad (fun z => q z.1))
  rw [if_neg (by decide)]
  refine x_hasPlace_eq g2.1.1 (fun q1 => ?_) (fun q => by rw [if_pos rfl]; exact bad (fun z => q z.2.1))
  rw [if_neg (by decide)]
  refine X_in (fun q2 => ?_) (fun q => by rw [if_pos rfl]; exact bad (fun z => q z.2.2))
  rw [if_neg (by decide)]
  obtain ⟨i, hi, e⟩ := sm_of (by omega) q0.1 q0.2
  subst e
  obtain ⟨p, hp, e⟩ := sm_of (by omega) q1.1 q1.2
  subst e
  refine x_findWay g1 g2 hi hp (fun μ1 hf1 v7 v8 => ?_)
  rw [wayR_65 g1 hi] at v7 v8 ⊢
  have hR1 := RR_sx hR hf1
  have m1 := MA_fr (μ2 := μ1) g3 (hf1 62 (by decide))
  have pre : ∀ (K : Int32 → sm_Mem → Prop) (μs : sm_Mem), MA 62 g μs → μs 61 15 = 0 → (∀ μ2, frq μs μ2 → (μ2 61 17, μ2 61 18) = wayR g i p 5 → (if 0 ≤ (μ2 61 17) then (if p2 = 0 then K (μ2 61 17) μ2 else K (μ2 61 18) μ2) else w_M_errs (fun r16 μ15 => K r16 μ15) (-1000000002) μ2)) → w_M_way K (nI i) (nI p) p2 μs := by
    intro K μs hm hs h
    unfold w_M_way
    refine m_isNote_eq g1.2.1 hm.1.2.1 (fun _ => ?_) (fun z => absurd q0 z)
    rw [if_neg (by decide)]
    refine m_isPlace_eq g1.1 hm.1.1 (fun _ => ?_) (fun z => absurd q1 z)
    rw [if_neg (by decide)]
    refine M_in (fun _ => ?_) (fun z => absurd q2 z)
    rw [if_neg (by decide)]
    exact m_findWay g1 hm hs hi hp h
  by_cases z : (wayR g i p 5).1 < 0
  · rw [if_pos z, if_pos rfl]
    refine X_err2 ?_
    show w_M_way (fun r2 μ2 => -1000000002 = r2 ∧ RR (n + 1) μ2) (nI i) (nI p) p2 (sm_st μ1 60 2 (μ1 60 2 + 1))
    refine pre _ _ (MA_fr m1 (st_ne _ _ _ _ _ (by decide))) (by rw [st_ne _ _ _ _ _ (by decide), hf1 61 (by decide)]; exact h15) (fun μ2 hq hb => ?_)
    have e17 : μ2 61 17 = (wayR g i p 5).1 := by rw [← hb]
    rw [e17, if_neg (Int32.not_le.mpr z)]
    exact M_err2 ⟨rfl, RR_errq hR1 rfl hq rfl⟩
  · rw [if_neg z, if_neg (by decide)]
    have mod : ∀ r1, r1 = (if p2 = 0 then (wayR g i p 5).1 else (wayR g i p 5).2) → w_M_way (fun r2 μ2 => r1 = r2 ∧ RR (n + 1) μ2) (nI i) (nI p) p2 μ1 := by
      intro r1 er
      refine pre _ _ m1 (by rw [hf1 61 (by decide)]; exact h15) (fun μ2 hq hb => ?_)
      have e17 : μ2 61 17 = (wayR g i p 5).1 := by rw [← hb]
      have e18 : μ2 61 18 = (wayR g i p 5).2 := by rw [← hb]
      rw [e17, e18, if_pos (Int32.not_lt.mp z)]
      by_cases y : p2 = 0
      · rw [if_pos y] at er ⊢
        exact ⟨er, RR_q hR1 hq⟩
      · rw [if_neg y] at er ⊢
        exact ⟨er, RR_q hR1 hq⟩
    by_cases y : p2 = 0
    · rw [if_pos y]
      exact mod _ (by rw [if_pos y]; exact v7)
    · rw [if_neg y]
      exact mod _ (by rw [if_neg y]; exact v8)

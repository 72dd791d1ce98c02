def goneP (g : GH) (i t : Nat) : Prop := 0 < gSn g i ∧ leftA g i t = 0
def isH (g : GH) (i h : Nat) : Prop := h ≤ 61 ∧ (h = 61 ∨ (h ≤ 60 ∧ goneP g i h)) ∧ ∀ n, n < h → n ≤ 60 → ¬ goneP g i n
theorem lfN_mono {o : Option pV} {kd m : Nat} {w y : Int32} {ho s : Nat} : ∀ (d t : Nat), lfN o kd m w y ho s (t + d) ≤ lfN o kd m w y ho s t
  | 0, _ => Nat.le_refl _
  | d + 1, t => Nat.le_trans (Nat.sub_le _ _) (lfN_mono d t)
theorem leftA_mono {g : GH} {i a b : Nat} (h : a ≤ b) : leftA g i b ≤ leftA g i a := by
  obtain ⟨d, rfl⟩ := Nat.le.dest h
  exact lfN_mono d a
theorem x_hours {K : Int32 → sm_Mem → Prop} {g : GH} {i : Nat} {μ : sm_Mem} (hg : gOk g) (hc : CA 1 g μ) (hi : i < gN g) (hK : ∀ h μ2, isH g i h → fr SX μ μ2 → μ2 37 = μ 37 → K (nI h) μ2) : w_F_hoursUntilGone K (nI i) μ := by
  unfold w_F_hoursUntilGone
  refine x_warmthAround hg hc hi ?_
  rw [hc.1.2.2.1]
  refine x_left (n := 60) hg hc hi (by omega) (fun μ2 hf h37 _ hcr => ?_)
  have l60 := leftI_le (w := nI (gWa g (gAt g i))) (y := nI (gY g)) (n := 60) hg hi
  have c0 : μ2 39 0 = nI (gSn g i) := hcr 0 (by omega)
  have hsn : gSn g i ≤ 999 := (hg.2.2.2.2.2.2.1 i hi).2.2.1
  by_cases q : 0 < leftI g (nI (gWa g (gAt g i))) (nI (gY g)) i 60
  · have q2 : (0 : Int32) < nI (leftI g (nI (gWa g (gAt g i))) (nI (gY g)) i 60) := nI_lt_yes (a := 0) (by omega) (by omega) q
    rw [if_pos q2]
    refine hK 61 μ2 ⟨by omega, Or.inl rfl, fun n _ hn z => ?_⟩ hf h37
    have h1 := leftA_mono (g := g) (i := i) hn
    have h2 : leftA g i 60 = leftI g (nI (gWa g (gAt g i))) (nI (gY g)) i 60 := rfl
    have h3 := z.2
    omega
  · have q2 : ¬ (0 : Int32) < nI (leftI g (nI (gWa g (gAt g i))) (nI (gY g)) i 60) := nI_lt_no (a := 0) (by omega) (by omega) (by omega)
    rw [if_neg q2, c0]
    by_cases s0 : gSn g i = 0
    · rw [if_pos (by rw [s0]; rfl)]
      exact hK 61 μ2 ⟨by omega, Or.inl rfl, fun n _ _ z => absurd z.1 (by omega)⟩ hf h37
    · have s1 : ¬ nI (gSn g i) = 0 := nI_ne0 (by omega) (by omega)
      rw [if_neg s1]
      unfold w_F_hoursUntilGone_44
      refine ⟨fun m x3 x4 μ3 => ∃ t, m = 60 - t ∧ 1 ≤ t ∧ t ≤ 60 ∧ x3 = nI t ∧ x4 = nI t ∧ μ3 = μ2 ∧ ∀ s, s < t → 0 < leftA g i s, ⟨59, 1, rfl, by omega, by omega, rfl, rfl, rfl, fun s hs => ?_⟩, ?_⟩
      · have : s = 0 := by omega
        subst this
        show 0 < gSn g i
        omega
      rintro m x3 x4 μ3 ⟨t, rfl, ht1, ht, rfl, rfl, rfl, hs⟩
      dsimp only
      have fin : leftA g i t = 0 → K (nI t) μ3 := fun z => hK t μ3 ⟨by omega, Or.inr ⟨ht, by omega, z⟩, fun n hn _ y => by
        have := hs n hn
        have := y.2
        omega⟩ hf h37
      by_cases c : t = 60
      · subst c
        rw [if_pos (by decide)]
        refine fin ?_
        show leftI g (nI (gWa g (gAt g i))) (nI (gY g)) i 60 = 0
        omega
      · have q60 : ¬ (60 : Int32) ≤ nI t := nI_le_no (a := 60) (by omega) (by omega) (by omega)
        rw [if_neg q60]
        refine ⟨(vin_iff (by omega)).mpr (by omega), ?_⟩
        have hl := leftI_le (w := nI (gWa g (gAt g i))) (y := nI (gY g)) (n := t) hg hi
        have hl : leftA g i t ≤ 999 := hl
        rw [ix_nI (by omega), show μ3 39 t = nI (leftA g i t) from hcr t ht]
        by_cases z : leftA g i t = 0
        · rw [if_pos (by rw [z]; decide)]
          exact fin z
        · have z2 : ¬ nI (leftA g i t) ≤ 0 := nI_le_no (b := 0) (by omega) (by omega) (by omega)
          rw [if_neg z2]
          intro v10 e10
          refine ⟨60 - (t + 1), by omega, t + 1, rfl, by omega, by omega, by rw [e10, nI_succ], (nI_succ t).symm, rfl, fun s hs2 => ?_⟩
          by_cases y : s < t
          · exact hs s y
          · have : s = t := by omega
            subst this
            omega
theorem x_findFirst {K : Int32 → sm_Mem → Prop} {g : GH} {μ : sm_Mem} (hg : gOk g) (hc : CA 1 g μ) (h0 : ∀ μ2, fr SX μ μ2 → (∀ j, j < gN g → ∀ t, t ≤ 60 → ¬ goneP g j t) → K 0 μ2) (h1 : ∀ h k μ2, fr SX μ μ2 → h ≤ 60 → k < gN g → goneP g k h → (∀ j, j < k → ¬ goneP g j h) → (∀ j, j < gN g → ∀ t, t < h → ¬ goneP g j t) → μ2 37 7 = nI h → μ2 37 8 = nI k → K 1 μ2) : w_F_findFirstGone K μ := by
  have h10 := hg.2.1
  unfold w_F_findFirstGone
  intro μ1 e1 μ2 e2
  have hf2 : fr SX μ μ2 := by
    rw [e2, e1]
    exact fr_st (fr_st fr_rfl (by simp)) (by simp)
  have v7 : μ2 37 7 = 61 := by rw [e2, e1, st_same, if_neg (by decide), st_same, if_pos rfl]
  have v8 : μ2 37 8 = -1 := by rw [e2, st_same, if_pos rfl]
  unfold w_F_findFirstGone_13
  refine ⟨fun m x1 μ3 => ∃ i, m = gN g - i ∧ i ≤ gN g ∧ x1 = nI i ∧ fr SX μ μ3 ∧ ((μ3 37 7 = 61 ∧ μ3 37 8 = -1 ∧ ∀ j, j < i → ∀ t, t ≤ 60 → ¬ goneP g j t) ∨ (∃ h k, h ≤ 60 ∧ k < i ∧ goneP g k h ∧ (∀ j, j < k → ¬ goneP g j h) ∧ (∀ j, j < i → ∀ t, t < h → ¬ goneP g j t) ∧ μ3 37 7 = nI h ∧ μ3 37 8 = nI k)), ⟨gN g, 0, rfl, Nat.zero_le _, rfl, hf2, Or.inl ⟨v7, v8, fun j hj => by omega⟩⟩, ?_⟩
  rintro m x1 μ3 ⟨i, rfl, hi, rfl, hf, hs⟩
  dsimp only
  have hc3 := CA_of hc hf
  rw [hc3.1.2.1]
  by_cases hin : i = gN g
  · subst hin
    rw [if_pos (nI_le_yes (by omega) (by omega) (Nat.le_refl _))]
    rcases hs with ⟨a1, a2, a3⟩ | ⟨h, k, b1, b2, b3, b4, b5, b6, b7⟩
    · rw [a2, if_pos (by decide)]
      exact h0 μ3 hf a3
    · have nk : ¬ nI k < 0 := nI_lt_no (b := 0) (by omega) (by omega) (by omega)
      rw [b7, if_neg nk]
      exact h1 h k μ3 hf b1 b2 b3 b4 b5 b6 b7
  · rw [if_neg (nI_le_no (by omega) (by omega) (by omega))]
    have hlt : i < gN g := by omega
    refine x_hours hg hc3 hlt (fun h μ4 hh hf4 h37 => ?_)
    obtain ⟨hh61, hh1, hh2⟩ := hh
    rw [h37]
    rcases hs with ⟨a1, a2, a3⟩ | ⟨h', k, b1, b2, b3, b4, b5, b6, b7⟩
    · rw [a1]
      by_cases c : h = 61
      · rw [if_pos (by rw [c]; decide)]
        unfold w_F_findFirstGone_48
        refine ⟨gN g - (i + 1), by omega, i + 1, rfl, by omega, (nI_succ i).symm, fr_trans hf hf4, Or.inl ⟨by rw [h37]; exact a1, by rw [h37]; exact a2, fun j hj t ht => ?_⟩⟩
        by_cases y : j < i
        · exact a3 j y t ht
        · have : j = i := by omega
          subst this
          exact hh2 t (by omega) ht
      · have c2 : ¬ (61 : Int32) ≤ nI h := nI_le_no (a := 61) (by omega) (by omega) (by omega)
        rw [if_neg c2]
        intro μ5 e5 μ6 e6
        unfold w_F_findFirstGone_48
        refine ⟨gN g - (i + 1), by omega, i + 1, rfl, by omega, (nI_succ i).symm, ?_, Or.inr ⟨h, i, by omega, by omega, ?_, fun j hj => a3 j hj h (by omega), fun j hj t ht => ?_, ?_, ?_⟩⟩
        · rw [e6, e5]
          exact fr_st (fr_st (fr_trans hf hf4) (by simp)) (by simp)
        · rcases hh1 with y | y
          · exact absurd y c
          · exact y.2
        · by_cases y : j < i
          · exact a3 j y t (by omega)
          · have : j = i := by omega
            subst this
            exact hh2 t ht (by omega)
        · rw [e6, e5, st_same, if_neg (by decide), st_same, if_pos rfl]
        · rw [e6, st_same, if_pos rfl]
    · rw [b6]
      by_cases c : h' ≤ h
      · rw [if_pos (nI_le_yes (by omega) (by omega) c)]
        unfold w_F_findFirstGone_48
        refine ⟨gN g - (i + 1), by omega, i + 1, rfl, by omega, (nI_succ i).symm, fr_trans hf hf4, Or.inr ⟨h', k, b1, by omega, b3, b4, fun j hj t ht => ?_, by rw [h37]; exact b6, by rw [h37]; exact b7⟩⟩
        by_cases y : j < i
        · exact b5 j y t ht
        · have : j = i := by omega
          subst this
          exact hh2 t (by omega) (by omega)
      · rw [if_neg (nI_le_no (by omega) (by omega) (by omega))]
        intro μ5 e5 μ6 e6
        unfold w_F_findFirstGone_48
        refine ⟨gN g - (i + 1), by omega, i + 1, rfl, by omega, (nI_succ i).symm, ?_, Or.inr ⟨h, i, by omega, by omega, ?_, fun j hj => b5 j hj h (by omega), fun j hj t ht => ?_, ?_, ?_⟩⟩
        · rw [e6, e5]
          exact fr_st (fr_st (fr_trans hf hf4) (by simp)) (by simp)
        · rcases hh1 with y | y
          · omega
          · exact y.2
        · by_cases y : j < i
          · exact b5 j y t (by omega)
          · have : j = i := by omega
            subst this
            exact hh2 t ht (by omega)
        · rw [e6, e5, st_same, if_neg (by decide), st_same, if_pos rfl]
        · rw [e6, st_same, if_pos rfl]
theorem nI_its {k f : Nat} : ((51 : Int32) + 5 * nI k) + nI f = nI (51 + 5 * k + f) := by
  rw [show (5 : Int32) * nI k = nI (5 * k) from nI_mul 5 k, show (51 : Int32) + nI (5 * k) = nI (51 + 5 * k) from nI_add 51 (5 * k)]
  exact nI_add (51 + 5 * k) f
theorem m_goneSince {K : Int32 → sm_Mem → Prop} {g : GH} {t : Nat} {μ0 μ : sm_Mem} (hg : gOk g) (h0 : MA 62 g μ0) (hc : MA 62 (gPs g 0 t) μ) (h64 : ∀ j, j < 271 → μ 64 j = μ0 62 j) (hK : ∀ k, k ≤ gN g → (∀ j, j < k → ¬ goneP g j t) → (k < gN g → goneP g k t) → K (nI k) μ) : w_M_goneSince K μ := by
  have h10 := hg.2.1
  unfold w_M_goneSince w_M_goneSince_2
  refine ⟨fun m x1 μ3 => ∃ i, m = gN g - i ∧ i ≤ gN g ∧ x1 = nI i ∧ μ3 = μ ∧ ∀ j, j < i → ¬ goneP g j t, ⟨gN g, 0, rfl, Nat.zero_le _, rfl, rfl, fun j hj => by omega⟩, ?_⟩
  rintro m x1 μ3 ⟨i, rfl, hi, rfl, rfl, hs⟩
  dsimp only
  rw [show μ3 62 7 = nI (gN g) from hc.1.2.1]
  by_cases hin : i = gN g
  · subst hin
    rw [if_pos (nI_le_yes (by omega) (by omega) (Nat.le_refl _))]
    exact hK (gN g) (Nat.le_refl _) hs (fun z => absurd z (by omega))
  · rw [if_neg (nI_le_no (by omega) (by omega) (by omega))]
    have hlt : i < gN g := by omega
    have nx : ¬ goneP g i t → w_M_goneSince_38 K (fun a0 μ => ∃ k, k < gN g - i ∧ ∃ i, k = gN g - i ∧ i ≤ gN g ∧ a0 = nI i ∧ μ = μ3 ∧ ∀ j, j < i → ¬ goneP g j t) (nI i) μ3 := by
      intro hng
      unfold w_M_goneSince_38
      refine ⟨gN g - (i + 1), by omega, i + 1, rfl, by omega, (nI_succ i).symm, rfl, fun j hj => ?_⟩
      by_cases y : j < i
      · exact hs j y
      · have : j = i := by omega
        subst this
        exact hng
    refine m_its (f := 2) (by omega) (by omega) ?_
    have hl : leftA g i t ≤ 999 := leftI_le hg hlt
    have hsn : gSn g i ≤ 999 := (hg.2.2.2.2.2.2.1 i hlt).2.2.1
    rw [show μ3 62 (51 + 5 * i + 2) = nI (leftA g i t) from (hc.2.2.2.1 i hlt).2.2.1]
    by_cases q : 0 < leftA g i t
    · have q2 : (0 : Int32) < nI (leftA g i t) := nI_lt_yes (a := 0) (by omega) (by omega) q
      rw [if_pos q2]
      exact nx (fun z => by have := z.2; omega)
    · have q2 : ¬ (0 : Int32) < nI (leftA g i t) := nI_lt_no (a := 0) (by omega) (by omega) (by omega)
      rw [if_neg q2, show ((51 : Int32) + 5 * nI i) + 2 = nI (51 + 5 * i + 2) from nI_its (f := 2)]
      refine ⟨(vin_iff (by omega)).mpr (by omega), ?_⟩
      rw [ix_nI (by omega), h64 _ (by omega), show μ0 62 (51 + 5 * i + 2) = nI (gSn g i) from (h0.2.2.2.1 i hlt).2.2.1]
      by_cases z : gSn g i = 0
      · rw [if_pos (by rw [z]; rfl)]
        exact nx (fun y => by have := y.1; omega)
      · rw [if_neg (nI_ne0 (by omega) (by omega))]
        exact hK i hi hs (fun _ => ⟨by omega, by omega⟩)
theorem m_first {K : Int32 → sm_Mem → Prop} {g : GH} {p0 : Int32} {h k : Nat} {μ : sm_Mem} (hg : gOk g) (hc : MA 62 g μ) (h15 : μ 61 15 = 0) (q : 0 ≤ p0 ∧ p0 ≤ 1) (hh : h ≤ 61) (hb : ∀ j, j < gN g → ∀ t, t < h → ¬ goneP g j t) (hk : h ≤ 60 → k < gN g ∧ goneP g k h ∧ ∀ j, j < k → ¬ goneP g j h) (k1 : h ≤ 60 → ∀ μ2, frq μ μ2 → K (if p0 = 0 then nI h else nI k) μ2) (k2 : h = 61 → ∀ μ2, frq μ μ2 → w_M_errs K (-1000000002) μ2) : w_M_first K p0 μ := by
  have h10 := hg.2.1
  have hho := hg.2.2.2.1
  unfold w_M_first
  refine M_in (fun _ => ?_) (fun z => absurd q z)
  rw [if_neg (by decide)]
  refine m_save (fun μ1 hf1 hs1 => ?_)
  unfold w_M_first_30
  refine ⟨fun m x2 μ3 => ∃ t, m = 61 - t ∧ t ≤ h ∧ x2 = nI t ∧ frz μ μ3 ∧ MA 62 (gPs g 0 t) μ3 ∧ ∀ j, j < 271 → μ3 64 j = μ 62 j, ⟨61, 0, rfl, by omega, rfl, frz_of hf1 (by decide), MA_fr hc (hf1 62 (by decide)), hs1⟩, ?_⟩
  rintro m x2 μ3 ⟨t, rfl, ht, rfl, z3, m3, h64⟩
  dsimp only
  have out : t = h → w_M_first_60 K p0 (nI t) μ3 := by
    intro et
    subst et
    unfold w_M_first_60
    refine m_goneSince hg hc m3 h64 (fun k' a1 a2 a3 => ?_)
    refine m_load (μ0 := μ) h64 (fun μ4 hf4 hr => ?_)
    have hq : frq μ μ4 := (frz_trans z3 (frz_of hf4 (by decide))).q hr
    by_cases c : t ≤ 60
    · have c2 : nI t ≤ 60 := nI_le_yes (b := 60) (by omega) (by omega) c
      rw [if_pos c2]
      obtain ⟨b1, b2, b3⟩ := hk c
      have ek : k' = k := by
        have x1 : ¬ k < k' := fun z => a2 k z b2
        have x2 : ¬ k' < k := fun z => b3 k' z (a3 (by omega))
        omega
      rw [ek]
      have h3 := k1 c μ4 hq
      by_cases qq : p0 = 0
      · rw [if_pos qq] at h3 ⊢
        exact h3
      · rw [if_neg qq] at h3 ⊢
        exact h3
    · have c2 : ¬ nI t ≤ 60 := nI_le_no (b := 60) (by omega) (by omega) (by omega)
      rw [if_neg c2]
      exact k2 (by omega) μ4 hq
  by_cases c61 : t = 61
  · rw [if_pos (by rw [c61]; decide)]
    exact out (by omega)
  · have c2 : ¬ (60 : Int32) < nI t := nI_lt_no (a := 60) (by omega) (by omega) (by omega)
    rw [if_neg c2]
    refine m_goneSince hg hc m3 h64 (fun k' a1 a2 a3 => ?_)
    rw [show μ3 62 7 = nI (gN g) from m3.1.2.1]
    by_cases cn : k' = gN g
    · rw [if_pos (by rw [cn])]
      have tlt : t < h := by
        have : ¬ t = h := fun e => by
          subst e
          obtain ⟨b1, b2, b3⟩ := hk (by omega)
          exact a2 k (by omega) b2
        omega
      refine m_oneHour (wm := 0) (gPs_ok hg.M (by omega)) m3 (by rw [z3.2 15 (by decide)]; exact h15) (fun μ4 hf4 m4 => ?_)
      exact ⟨61 - (t + 1), by omega, t + 1, rfl, by omega, (nI_succ t).symm, frz_trans z3 hf4.z, m4, fun j hj => by rw [hf4.1 64 (by decide)]; exact h64 j hj⟩
    · rw [if_neg (fun z => cn ((nI_inj (by omega) (by omega)).mp z))]
      refine out ?_
      have : ¬ t < h := fun z => hb k' (by omega) t z (a3 (by omega))
      omega
theorem T_first (n : Nat) (p0 : Int32) : Same n (fun K => w_X_first K p0) (fun K => w_M_first K p0) := by
  intro μ hR
  obtain ⟨⟨g, g1, g2, g3⟩, h15, _⟩ := id hR
  show w_X_first _ p0 μ
  unfold w_X_first
  refine X_in (fun q => ?_) (fun q => ?_)
  · rw [if_neg (by decide)]
    refine x_findFirst g1 g2 (fun μ1 hf1 hn => ?_) (fun h k μ1 hf1 b1 b2 b3 b4 b5 b6 b7 => ?_)
    · have hR1 := RR_sx hR hf1
      have m1 := MA_fr (μ2 := μ1) g3 (hf1 62 (by decide))
      rw [if_pos rfl]
      refine X_err2 ?_
      show w_M_first (fun r2 μ2 => -1000000002 = r2 ∧ RR (n + 1) μ2) p0 (sm_st μ1 60 2 (μ1 60 2 + 1))
      refine m_first (h := 61) (k := 0) g1 (MA_fr m1 (st_ne _ _ _ _ _ (by decide))) (by rw [st_ne _ _ _ _ _ (by decide), hf1 61 (by decide)]; exact h15) q (by omega) (fun j hj t ht => hn j hj t (by omega)) (fun z => absurd z (by omega)) (fun z => absurd z (by omega)) (fun _ μ2 hq => ?_)
      exact M_err2 ⟨rfl, RR_errq hR1 rfl hq rfl⟩
    · have hR1 := RR_sx hR hf1
      have m1 := MA_fr (μ2 := μ1) g3 (hf1 62 (by decide))
      rw [if_neg (by decide), b6, b7]
      have mod : ∀ r1, r1 = (if p0 = 0 then nI h else nI k) → w_M_first (fun r2 μ2 => r1 = r2 ∧ RR (n + 1) μ2) p0 μ1 := by
        intro r1 er
        refine m_first (h := h) (k := k) g1 m1 (by rw [hf1 61 (by decide)]; exact h15) q (by omega) b5 (fun _ => ⟨b2, b3, b4⟩) (fun _ μ2 hq => ⟨er, RR_q hR1 hq⟩) (fun z => absurd z (by omega))
      by_cases qq : p0 = 0
      · rw [if_pos qq]
        exact mod _ (by rw [if_pos qq])
      · rw [if_neg qq]
        exact mod _ (by rw [if_neg qq])
  · rw [if_pos rfl]
    refine X_err1 ?_
    show w_M_first (fun r2 μ2 => -1000000001 = r2 ∧ RR (n + 1) μ2) p0 (sm_st μ 60 1 (μ 60 1 + 1))
    unfold w_M_first
    refine M_in (fun z => absurd z q) (fun _ => ?_)
    rw [if_pos rfl]
    exact M_err1 ⟨rfl, RR_err hR rfl rfl⟩

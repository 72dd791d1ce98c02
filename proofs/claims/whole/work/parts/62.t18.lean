theorem MA_kd {g : GH} {μ : sm_Mem} {q v : Nat} (hq : q < gN g) (hP : gP g ≤ 6) (hN : gN g ≤ 10) (h : MA 62 g μ) : MA 62 (gMk g.1 (gP g) (gN g) (gY g) (gHo g) (gWa g) (gRo g) (fup (gKd g) q v) (gMs g) (gSn g) (gAt g) (gOw g) g.2.2.2.2.2.1 g.2.2.2.2.2.2.1 (gZ g)) (sm_st μ 62 (51 + 5 * q) (nI v)) := by
  obtain ⟨⟨b1, b2, b3, b4, b5, b6, b7⟩, a2, a3, a4, a5, a6, a7, a8⟩ := h
  refine ⟨⟨?_, ?_, ?_, ?_, ?_, ?_, ?_⟩, ?_, ?_, ?_, ?_, ?_, ?_, ?_⟩
  · show _ = nI (gP g)
    first | (simp only [st_rd, if_true, if_false]; done) | (simp only [st_rd, if_true, if_false]; (repeat' split) <;> first | (exfalso; omega) | assumption | rfl)
  · show _ = nI (gN g)
    first | (simp only [st_rd, if_true, if_false]; done) | (simp only [st_rd, if_true, if_false]; (repeat' split) <;> first | (exfalso; omega) | assumption | rfl)
  · show _ = nI (gY g)
    first | (simp only [st_rd, if_true, if_false]; done) | (simp only [st_rd, if_true, if_false]; (repeat' split) <;> first | (exfalso; omega) | assumption | rfl)
  · show _ = nI (gHo g)
    first | (simp only [st_rd, if_true, if_false]; done) | (simp only [st_rd, if_true, if_false]; (repeat' split) <;> first | (exfalso; omega) | assumption | rfl)
  · show _ = nI g.2.2.2.2.2.1.1
    first | (simp only [st_rd, if_true, if_false]; done) | (simp only [st_rd, if_true, if_false]; (repeat' split) <;> first | (exfalso; omega) | assumption | rfl)
  · show _ = nI g.2.2.2.2.2.2.1.1
    first | (simp only [st_rd, if_true, if_false]; done) | (simp only [st_rd, if_true, if_false]; (repeat' split) <;> first | (exfalso; omega) | assumption | rfl)
  · show _ = (gZ g)
    first | (simp only [st_rd, if_true, if_false]; done) | (simp only [st_rd, if_true, if_false]; (repeat' split) <;> first | (exfalso; omega) | assumption | rfl)
  · intro p hp
    have hp : p < (gP g) := hp
    show _ = nI ((gWa g) p)
    skip
    first | (simp only [st_rd, if_true, if_false]; done) | (simp only [st_rd, if_true, if_false]; (repeat' split) <;> first | (exfalso; omega) | rfl | exact a2 p (by omega))
  · intro a b ha hb
    have ha : a < (gP g) := ha
    have hb : b < (gP g) := hb
    show _ = nI ((gRo g) a b)
    first | (simp only [st_rd, if_true, if_false]; done) | (simp only [st_rd, if_true, if_false]; (repeat' split) <;> first | (exfalso; omega) | rfl | exact a3 a b (by omega) (by omega))
  · intro i hi
    have hi : i < (gN g) := hi
    refine ⟨?_, ?_, ?_, ?_, ?_⟩
    · show _ = nI ((fup (gKd g) q v) i)
      unfold fup
      first | (simp only [st_rd, if_true, if_false]; done) | (simp only [st_rd, if_true, if_false]; (repeat' split) <;> first | (exfalso; omega) | rfl | exact (a4 i (by omega)).1)
    · show _ = nI ((gMs g) i)
      skip
      first | (simp only [st_rd, if_true, if_false]; done) | (simp only [st_rd, if_true, if_false]; (repeat' split) <;> first | (exfalso; omega) | rfl | exact (a4 i (by omega)).2.1)
    · show _ = nI ((gSn g) i)
      skip
      first | (simp only [st_rd, if_true, if_false]; done) | (simp only [st_rd, if_true, if_false]; (repeat' split) <;> first | (exfalso; omega) | rfl | exact (a4 i (by omega)).2.2.1)
    · show _ = nI ((gAt g) i)
      skip
      first | (simp only [st_rd, if_true, if_false]; done) | (simp only [st_rd, if_true, if_false]; (repeat' split) <;> first | (exfalso; omega) | rfl | exact (a4 i (by omega)).2.2.2.1)
    · show _ = nI ((gOw g) i)
      skip
      first | (simp only [st_rd, if_true, if_false]; done) | (simp only [st_rd, if_true, if_false]; (repeat' split) <;> first | (exfalso; omega) | rfl | exact (a4 i (by omega)).2.2.2.2)
  · intro i hi
    have hi : i < g.2.2.2.2.2.1.1 := hi
    show _ = nI (g.2.2.2.2.2.1.2 i)
    first | (simp only [st_rd, if_true, if_false]; done) | (simp only [st_rd, if_true, if_false]; (repeat' split) <;> first | (exfalso; omega) | rfl | exact a5 i (by omega))
  · intro i hi
    have hi : i < g.2.2.2.2.2.2.1.1 := hi
    show _ = g.2.2.2.2.2.2.1.2 i
    first | (simp only [st_rd, if_true, if_false]; done) | (simp only [st_rd, if_true, if_false]; (repeat' split) <;> first | (exfalso; omega) | rfl | exact a6 i (by omega))
  · exact TM_st (by omega) (a7) (by omega) (by omega)
  · exact TM_st (by omega) (a8) (by omega) (by omega)
/-! ===== methods alike: forgers ===== -/
/-- SNOW of a note behind t hours, were it of another KIND -/
def kF (g : GH) (i kd t : Nat) : Nat := lfN (gHt g) kd (gMs g i) (nI (gWa g (gAt g i))) (nI (gY g)) (gHo g) (gSn g i) t
def fB (c : Nat → Bool) : Nat → Nat
  | 0 => 0
  | k + 1 => fB c k + (if c k = true then 2 ^ k else 0)
def cnB (c : Nat → Bool) : Nat → Nat
  | 0 => 0
  | k + 1 => cnB c k + (if c k = true then 1 else 0)
theorem fB_lt (c : Nat → Bool) : ∀ k, fB c k < 2 ^ k
  | 0 => by show 0 < 1; omega
  | k + 1 => by
    have h := fB_lt c k
    have h2 := pow_dbl k
    show fB c k + (if c k = true then 2 ^ k else 0) < 2 ^ (k + 1)
    split <;> omega
theorem cnB_le (c : Nat → Bool) : ∀ k, cnB c k ≤ k
  | 0 => Nat.le_refl _
  | k + 1 => by
    have h := cnB_le c k
    show cnB c k + (if c k = true then 1 else 0) ≤ k + 1
    split <;> omega
theorem or_tab : ∀ k, k < 7 → ∀ b, b < 128 → 2 ^ k ≤ b ∨ (nI b ||| ((1 : Int32) <<< (nI k &&& 31))) = nI (b + 2 ^ k) := by decide +kernel
def fB7 (a0 a1 a2 a3 a4 a5 a6 : Bool) : Nat := 0 + (if a0 = true then 1 else 0) + (if a1 = true then 2 else 0) + (if a2 = true then 4 else 0) + (if a3 = true then 8 else 0) + (if a4 = true then 16 else 0) + (if a5 = true then 32 else 0) + (if a6 = true then 64 else 0)
def cn7 (a0 a1 a2 a3 a4 a5 a6 : Bool) : Nat := 0 + (if a0 = true then 1 else 0) + (if a1 = true then 1 else 0) + (if a2 = true then 1 else 0) + (if a3 = true then 1 else 0) + (if a4 = true then 1 else 0) + (if a5 = true then 1 else 0) + (if a6 = true then 1 else 0)
theorem fB_7 (c : Nat → Bool) : fB c 7 = fB7 (c 0) (c 1) (c 2) (c 3) (c 4) (c 5) (c 6) := rfl
theorem cnB_7 (c : Nat → Bool) : cnB c 7 = cn7 (c 0) (c 1) (c 2) (c 3) (c 4) (c 5) (c 6) := rfl
theorem fB_tab : ∀ a0 a1 a2 a3 a4 a5 a6 : Bool, decide (nI (fB7 a0 a1 a2 a3 a4 a5 a6) &&& 36 = 0) = !(a2 || a5) ∧ pc (fB7 a0 a1 a2 a3 a4 a5 a6) = cn7 a0 a1 a2 a3 a4 a5 a6 := by decide +kernel
def fitC (g : GH) (t : Nat) (w : Nat → Int32) (i : Nat) : Nat → Bool := fun kd => decide (nI (kF g i kd t) = w i)
theorem x_kinds {K : Int32 → sm_Mem → Prop} {g : GH} {i t : Nat} {w : Nat → Int32} {μ : sm_Mem} (hg : gOk g) (hc : CA 1 g μ) (hi : i < gN g) (ht : t ≤ 60) (hK : ∀ μ2, fr SX μ μ2 → μ2 37 = μ 37 → K (nI (fB (fitC g t w i) 7)) μ2) : w_F_kindsThatLeave K (nI i) (nI t) (w i) μ := by
  have h10 := hg.2.1
  obtain ⟨k1, k2, k3, k4, k5⟩ := hg.2.2.2.2.2.2.1 i hi
  obtain ⟨c1, c2, c3, c4, c5⟩ := hc.2.2.2.1 i hi
  have c2 : μ 5 i = nI (gMs g i) := c2
  have c3 : μ 6 i = nI (gSn g i) := c3
  have vi : vp_in (nI i) 10 := (vin_iff (by omega)).mpr (by omega)
  unfold w_F_kindsThatLeave
  refine hasNote_yes hc.1.2.1 hg.2.1 hi ?_
  rw [if_neg (by decide)]
  refine x_warmthAround hg hc hi ?_
  rw [hc.1.2.2.1]
  refine x_feel (o := gHt g) ht hc.1.2.2.2.1 hg.2.2.2.1 hc.2.2.2.2.2.2.1 (fun μ2 hf hs => ?_)
  unfold w_F_kindsThatLeave_39
  refine ⟨fun m x4 x5 μ3 => ∃ kd, m = 7 - kd ∧ kd ≤ 7 ∧ x5 = nI kd ∧ x4 = nI (fB (fitC g t w i) kd) ∧ fr [39] μ2 μ3, ⟨7, 0, rfl, by omega, rfl, rfl, fr_rfl⟩, ?_⟩
  rintro m x4 x5 μ3 ⟨kd, rfl, hkd, rfl, rfl, hf3⟩
  dsimp only
  have hfx : fr SX μ μ3 := fr_trans (fr_mono hf (by simp)) (fr_mono hf3 (by simp))
  by_cases h7 : kd = 7
  · rw [if_pos (by rw [h7]; decide), h7]
    refine hK μ3 hfx ?_
    rw [hf3 37 (by decide), hf 37 (by decide)]
  · have n7 : ¬ (7 : Int32) ≤ nI kd := nI_le_no (a := 7) (by omega) (by omega) (by omega)
    rw [if_neg n7]
    refine ⟨vi, vi, ?_⟩
    rw [ix_nI (by omega), hfx 5 (by decide), hfx 6 (by decide), c2, c3]
    refine x_melt (o := gHt g) (w := nI (gWa g (gAt g i))) (y := nI (gY g)) (kd := kd) (by omega) k2 k3 ht (by rw [hfx 1 (by decide)]; exact hc.1.2.2.2.1) hg.2.2.2.1 (fun z hz => by rw [hf3 38 (by decide)]; exact hs z hz) (fun μ4 hf4 _ => ?_)
    have hb := fB_lt (fitC g t w i) kd
    have hp : 2 ^ kd ≤ 64 := by
      have := Nat.pow_le_pow_right (n := 2) (by omega) (show kd ≤ 6 by omega)
      omega
    by_cases q : nI (kF g i kd t) = w i
    · have q' : nI (lfN (gHt g) kd (gMs g i) (nI (gWa g (gAt g i))) (nI (gY g)) (gHo g) (gSn g i) t) = w i := q
      rw [if_pos q']
      intro v13 e13
      unfold w_F_kindsThatLeave_84
      refine ⟨7 - (kd + 1), by omega, kd + 1, rfl, by omega, (nI_succ kd).symm, ?_, fr_trans hf3 hf4⟩
      rw [e13, (or_tab kd (by omega) _ (by omega)).resolve_left (by omega)]
      show _ = nI (fB _ kd + (if fitC g t w i kd = true then 2 ^ kd else 0))
      rw [if_pos (by unfold fitC; exact decide_eq_true q)]
    · have q' : ¬ nI (lfN (gHt g) kd (gMs g i) (nI (gWa g (gAt g i))) (nI (gY g)) (gHo g) (gSn g i) t) = w i := q
      rw [if_neg q']
      unfold w_F_kindsThatLeave_84
      refine ⟨7 - (kd + 1), by omega, kd + 1, rfl, by omega, (nI_succ kd).symm, ?_, fr_trans hf3 hf4⟩
      show _ = nI (fB _ kd + (if fitC g t w i kd = true then 2 ^ kd else 0))
      rw [if_neg (by unfold fitC; simp [q])]
      rfl
def lC (ct : Nat → Nat) : Nat → Nat
  | 0 => 7
  | i + 1 => if ct i < lC ct i then ct i else lC ct i
def lM (ct : Nat → Nat) : Nat → Nat
  | 0 => 8
  | i + 1 => if lM ct i ≤ ct i then lM ct i else ct i
theorem lCM {ct : Nat → Nat} (h : ∀ i, ct i ≤ 7) : ∀ i, lC ct i ≤ 7 ∧ lM ct i ≤ 8 ∧ (lC ct i = lM ct i ∨ (lC ct i = 7 ∧ lM ct i = 8))
  | 0 => ⟨by show 7 ≤ 7; omega, by show 8 ≤ 8; omega, Or.inr ⟨rfl, rfl⟩⟩
  | i + 1 => by
    obtain ⟨h1, h2, h3⟩ := lCM h i
    have h4 := h i
    show (if ct i < lC ct i then ct i else lC ct i) ≤ 7 ∧ (if lM ct i ≤ ct i then lM ct i else ct i) ≤ 8 ∧ ((if ct i < lC ct i then ct i else lC ct i) = (if lM ct i ≤ ct i then lM ct i else ct i) ∨ ((if ct i < lC ct i then ct i else lC ct i) = 7 ∧ (if lM ct i ≤ ct i then lM ct i else ct i) = 8))
    (repeat' split) <;> omega
theorem lCM_s {ct : Nat → Nat} (h : ∀ i, ct i ≤ 7) {n : Nat} (hn : ¬ n = 0) : lC ct n = lM ct n := by
  obtain ⟨i, rfl⟩ : ∃ i, n = i + 1 := ⟨n - 1, by omega⟩
  obtain ⟨h1, h2, h3⟩ := lCM h i
  have h4 := h i
  show (if ct i < lC ct i then ct i else lC ct i) = (if lM ct i ≤ ct i then lM ct i else ct i)
  (repeat' split) <;> omega
def ctC (g : GH) (t : Nat) (w : Nat → Int32) (i : Nat) : Nat := cnB (fitC g t w i) 7
def seC (g : GH) (t : Nat) (w : Nat → Int32) (i : Nat) : Bool := fitC g t w i 2 || fitC g t w i 5
theorem x_numberAt {K : Int32 → sm_Mem → Prop} {s l i : Nat} {μ : sm_Mem} (hs : s < 4) (hl : l ≤ 40) (h : μ (52 + 2 * s) 2 = nI l) (hi : i < l) (hK : K (μ (53 + 2 * s) i) μ) : w_S_numberAt K (52 + 2 * s) (nI i) μ := by
  unfold w_S_numberAt
  refine ⟨isSh s hs, ?_⟩
  have n0 : ¬ nI i < 0 := nI_lt_no (b := 0) (by omega) (by omega) (by omega)
  rw [if_neg n0, h, if_neg (nI_le_no (by omega) (by omega) hi), ix_nI (by omega)]
  refine ⟨(vin_iff (by omega)).mpr (by omega), ?_⟩
  rw [show 52 + 2 * s + 1 = 53 + 2 * s by omega]
  exact hK
theorem x_findForged {K : sm_Mem → Prop} {g : GH} {s t : Nat} {w : Nat → Int32} {μ : sm_Mem} (hg : gOk g) (hc : CA 1 g μ) (hs : s < 4) (hl : μ (52 + 2 * s) 2 = nI (gN g + 1)) (hw : ∀ i, i < gN g → μ (53 + 2 * s) i = w i) (hwn : μ (53 + 2 * s) (gN g) = nI t) (ht : t ≤ 60) (hK : ∀ μ2, fr SX μ μ2 → μ2 37 7 = nI (lC (ctC g t w) (gN g)) → μ2 37 8 = bsI (seC g t w) (gN g) → K μ2) : w_F_findForged K (52 + 2 * s) μ := by
  have h10 := hg.2.1
  have sx : ∀ k, k ∈ SX → k ≠ 52 + 2 * s ∧ k ≠ 53 + 2 * s := fun k hk => by
    have h : ∀ k, k ∈ SX → k < 52 := by decide
    have := h k hk
    omega
  unfold w_F_findForged
  refine ⟨isSh s hs, ?_⟩
  rw [hc.1.2.1]
  refine x_numberAt hs (by omega) hl (by omega) ?_
  rw [hwn]
  intro μ3 e3 μ4 e4
  have hf4 : fr SX μ μ4 := by
    rw [e4, e3]
    exact fr_st (fr_st fr_rfl (by simp)) (by simp)
  have v7 : μ4 37 7 = nI 7 := by rw [e4, e3, st_same, if_neg (by decide), st_same, if_pos rfl]; rfl
  have v8 : μ4 37 8 = 0 := by rw [e4, st_same, if_pos rfl]
  unfold w_F_findForged_25
  refine ⟨fun m x3 μ5 => ∃ i, m = gN g - i ∧ i ≤ gN g ∧ x3 = nI i ∧ fr SX μ μ5 ∧ μ5 37 7 = nI (lC (ctC g t w) i) ∧ μ5 37 8 = bsI (seC g t w) i, ⟨gN g, 0, rfl, Nat.zero_le _, rfl, hf4, v7, v8⟩, ?_⟩
  rintro m x3 μ5 ⟨i, rfl, hi, rfl, hf5, g7, g8⟩
  dsimp only
  have hc5 := CA_of hc hf5
  rw [hc5.1.2.1]
  by_cases hin : i = gN g
  · subst hin
    rw [if_pos (nI_le_yes (by omega) (by omega) (Nat.le_refl _))]
    exact hK μ5 hf5 g7 g8
  · rw [if_neg (nI_le_no (by omega) (by omega) (by omega))]
    have hlt : i < gN g := by omega
    have e52 : μ5 (52 + 2 * s) = μ (52 + 2 * s) := hf5 _ (fun z => (sx _ z).1 rfl)
    have e53 : μ5 (53 + 2 * s) = μ (53 + 2 * s) := hf5 _ (fun z => (sx _ z).2 rfl)
    refine x_numberAt (l := gN g + 1) hs (by omega) (by rw [e52]; exact hl) (by omega) ?_
    rw [e53, hw i hlt]
    refine x_kinds hg hc5 hlt ht (fun μ6 hf6 h37 => ?_)
    have hb := fB_lt (fitC g t w i) 7
    have hb : fB (fitC g t w i) 7 < 128 := hb
    refine x_bitCount (by omega) ?_
    obtain ⟨t1, t2⟩ := fB_tab (fitC g t w i 0) (fitC g t w i 1) (fitC g t w i 2) (fitC g t w i 3) (fitC g t w i 4) (fitC g t w i 5) (fitC g t w i 6)
    rw [← fB_7] at t1 t2
    rw [← cnB_7] at t2
    have hct : cnB (fitC g t w i) 7 ≤ 7 := cnB_le _ 7
    have hlc := (lCM (ct := ctC g t w) (fun j => cnB_le _ 7) i).1
    rw [t2, h37, g7]
    intro μ12 e12
    have v12 : μ12 37 7 = nI (lC (ctC g t w) (i + 1)) := by
      rw [e12, st_same, if_pos rfl]
      show _ = nI (if ctC g t w i < lC (ctC g t w) i then ctC g t w i else lC (ctC g t w) i)
      by_cases z : ctC g t w i < lC (ctC g t w) i
      · rw [if_pos z]
        have z2 : nI (cnB (fitC g t w i) 7) < nI (lC (ctC g t w) i) := nI_lt_yes (by omega) (by omega) z
        rw [if_pos z2]
        rfl
      · rw [if_neg z]
        have z3 : lC (ctC g t w) i ≤ cnB (fitC g t w i) 7 := Nat.not_lt.mp z
        have z2 : ¬ nI (cnB (fitC g t w i) 7) < nI (lC (ctC g t w) i) := nI_lt_no (by omega) (by omega) z3
        rw [if_neg z2]
    have v8 : μ12 37 8 = bsI (seC g t w) i := by rw [e12, st_same, if_neg (by decide), h37, g8]
    have f12 : fr SX μ μ12 := by
      rw [e12]
      exact fr_st (fr_trans hf5 hf6) (by simp)
    by_cases q : seC g t w i = true
    · have q2 : ¬ nI (fB (fitC g t w i) 7) &&& 36 = 0 := by
        intro z
        rw [decide_eq_true z] at t1
        have q' : (fitC g t w i 2 || fitC g t w i 5) = true := q
        rw [q'] at t1
        exact absurd t1 (by decide)
      rw [if_neg q2]
      intro μ14 e14
      unfold w_F_findForged_85
      refine ⟨gN g - (i + 1), by omega, i + 1, rfl, by omega, (nI_succ i).symm, ?_, ?_, ?_⟩
      · rw [e14]
        exact fr_st f12 (by simp)
      · rw [e14, st_same, if_neg (by decide)]
        exact v12
      · rw [e14, st_same, if_pos rfl, v8, bsI, if_pos q]
    · have q2 : nI (fB (fitC g t w i) 7) &&& 36 = 0 := by
        have q' : (fitC g t w i 2 || fitC g t w i 5) = false := Bool.eq_false_iff.mpr q
        rw [q'] at t1
        exact of_decide_eq_true t1
      rw [if_pos q2]
      unfold w_F_findForged_85
      refine ⟨gN g - (i + 1), by omega, i + 1, rfl, by omega, (nI_succ i).symm, f12, v12, ?_⟩
      rw [v8, bsI, if_neg q]
theorem frq_trans {a b c : sm_Mem} (h : frq a b) (g : frq b c) : frq a c := ⟨fr_trans h.1 g.1, fun j hj => (g.2.1 j hj).trans (h.2.1 j hj), fun j hj => (g.2.2 j hj).trans (h.2.2 j hj)⟩
theorem MA_q {g : GH} {μ μ2 : sm_Mem} (hg : gOk g) (h : MA 62 g μ) (hf : frq μ μ2) : MA 62 g μ2 := MA_lt hg.1 hg.2.1 hg.2.2.2.2.2.2.2.1 hg.2.2.2.2.2.2.2.2.2 h hf.2.2
theorem m_hasThen {K : Int32 → sm_Mem → Prop} {g : GH} {i kd t : Nat} {w : Int32} {μ : sm_Mem} (hg : gOk g) (hc : MA 62 g μ) (h15 : μ 61 15 = 0) (hi : i < gN g) (hkd : kd ≤ 6) (ht : t ≤ 60) (hK : ∀ μ2, frq μ μ2 → K (if nI (kF g i kd t) = w then 1 else 0) μ2) : w_M_hasThen K (nI i) (nI kd) (nI t) w μ := by
  have h10 := hg.2.1
  have hho := hg.2.2.2.1
  unfold w_M_hasThen
  refine m_save (fun μ1 hf1 hs => ?_)
  have m1 := MA_fr (μ2 := μ1) hc (hf1 62 (by decide))
  refine m_gets (f := 0) (by omega) (by omega) ?_
  have m2 := MA_kd (v := kd) hi hg.1 hg.2.1 m1
  have ok2 : gOk (gMk g.1 (gP g) (gN g) (gY g) (gHo g) (gWa g) (gRo g) (fup (gKd g) i kd) (gMs g) (gSn g) (gAt g) (gOw g) g.2.2.2.2.2.1 g.2.2.2.2.2.2.1 (gZ g)) := ⟨hg.1, hg.2.1, hg.2.2.1, hg.2.2.2.1, hg.2.2.2.2.1, hg.2.2.2.2.2.1, fun k hk => by
    obtain ⟨y1, y2, y3, y4, y5⟩ := hg.2.2.2.2.2.2.1 k hk
    refine ⟨?_, y2, y3, y4, y5⟩
    show fup (gKd g) i kd k ≤ 6
    unfold fup
    split
    · exact hkd
    · exact y1, hg.2.2.2.2.2.2.2⟩
  refine m_passes (wm := 0) ok2.M m2 (by rw [st_ne _ _ _ _ _ (by decide), hf1 61 (by decide)]; exact h15) ht (by show gHo g + t ≤ 20000; omega) (fun μ3 hf3 m3 => ?_)
  refine m_its (f := 2) (by omega) (by omega) ?_
  have ev : μ3 62 (51 + 5 * i + 2) = nI (kF g i kd t) := by
    rw [show μ3 62 (51 + 5 * i + 2) = _ from (m3.2.2.2.1 i hi).2.2.1]
    show nI (lfN (gHt g) (fup (gKd g) i kd i) (gMs g i) (nI (gWa g (gAt g i) + 0)) (nI (gY g)) (gHo g) (gSn g i) t) = _
    unfold fup
    rw [if_pos rfl]
    rfl
  rw [ev]
  have z13 : frz μ1 μ3 := frz_trans (frw_st frw_rfl).z hf3.z
  have fin : ∀ b : Int32, (b = 0 ∨ b = 1) → b = (if nI (kF g i kd t) = w then 1 else 0) → w_M_hasThen_40 K (nI i) (nI kd) (nI t) w b μ3 := by
    intro b hb eb
    unfold w_M_hasThen_40
    refine m_load (μ0 := μ) (fun j hj => by rw [hf3.1 64 (by decide), st_ne _ _ _ _ _ (by decide)]; exact hs j hj) (fun μ4 hf4 hr => ?_)
    refine ⟨hb, ?_⟩
    rw [eb]
    exact hK μ4 ((frz_trans (frz_of hf1 (by decide)) (frz_trans z13 (frz_of hf4 (by decide)))).q hr)
  by_cases q : nI (kF g i kd t) = w
  · rw [if_pos q]
    exact fin 1 (Or.inr rfl) (by rw [if_pos q])
  · rw [if_neg q]
    exact fin 0 (Or.inl rfl) (by rw [if_neg q])
/-- the model's set within a note -/
def mSe (c : Nat → Bool) (b s : Int32) (kd : Nat) : Int32 := if (c 2 = true ∧ 2 < kd) ∨ (c 5 = true ∧ 5 < kd) then s ||| b else s
theorem mSe_s {c : Nat → Bool} {b s : Int32} {kd : Nat} (z : Int32) (hz : z = if c kd = true ∧ (kd = 2 ∨ kd = 5) then b else 0) : mSe c b s kd ||| z = mSe c b s (kd + 1) := by
  have hor : (s ||| b) ||| b = s ||| b := by rw [Int32.or_assoc, Int32.or_self]
  unfold mSe
  by_cases h2 : kd = 2
  · subst h2
    by_cases c2 : c 2 = true
    · rw [if_pos ⟨c2, Or.inl rfl⟩] at hz
      rw [if_neg (by omega), if_pos (Or.inl ⟨c2, by omega⟩), hz]
    · rw [if_neg (fun y => c2 y.1)] at hz
      rw [if_neg (by omega), if_neg (by rintro (y | y); exact c2 y.1; omega), hz, Int32.or_zero]
  · by_cases h5 : kd = 5
    · subst h5
      by_cases c5 : c 5 = true
      · rw [if_pos ⟨c5, Or.inr rfl⟩] at hz
        rw [if_pos (show (c 2 = true ∧ 2 < 5 + 1) ∨ (c 5 = true ∧ 5 < 5 + 1) from Or.inr ⟨c5, by omega⟩), hz]
        split
        · exact hor
        · rfl
      · rw [if_neg (fun y => c5 y.1)] at hz
        rw [hz, Int32.or_zero]
        by_cases c2 : c 2 = true
        · rw [if_pos (Or.inl ⟨c2, by omega⟩), if_pos (Or.inl ⟨c2, by omega⟩)]
        · rw [if_neg (by rintro (y | y); exact c2 y.1; exact c5 y.1), if_neg (by rintro (y | y); exact c2 y.1; exact c5 y.1)]
    · rw [if_neg (fun y => by omega)] at hz
      rw [hz, Int32.or_zero]
      by_cases y : (c 2 = true ∧ 2 < kd) ∨ (c 5 = true ∧ 5 < kd)
      · rw [if_pos y, if_pos (by rcases y with y | y; exact Or.inl ⟨y.1, by omega⟩; exact Or.inr ⟨y.1, by omega⟩)]
      · rw [if_neg y, if_neg (fun x => y (by rcases x with x | x; exact Or.inl ⟨x.1, by omega⟩; exact Or.inr ⟨x.1, by omega⟩))]
theorem m_forged {K : Int32 → sm_Mem → Prop} {g : GH} {s t : Nat} {p1 : Int32} {w : Nat → Int32} {μ : sm_Mem} (hg : gOk g) (hc : MA 62 g μ) (h15 : μ 61 15 = 0) (hs : s < 4) (hN : ¬ gN g = 0) (hw : ∀ i, i < gN g → μ 70 (40 * s + i) = w i) (hwn : μ 70 (40 * s + gN g) = nI t) (ht : t ≤ 60) (hK : ∀ μ2, frq μ μ2 → K (if p1 = 0 then nI (lM (ctC g t w) (gN g)) else bsI (seC g t w) (gN g)) μ2) : w_M_forgers_93 K (nI s) p1 (nI (gN g)) 8 0 0 μ := by
  have h10 := hg.2.1
  have ix40 : ∀ i, i ≤ 10 → ((40 : Int32) * nI s) + nI i = nI (40 * s + i) := fun i _ => by
    rw [show (40 : Int32) * nI s = nI (40 * s) from nI_mul 40 s, nI_add]
  unfold w_M_forgers_93
  refine ⟨fun m x4 x5 x6 μ3 => ∃ i, m = gN g - i ∧ i ≤ gN g ∧ x6 = nI i ∧ x4 = nI (lM (ctC g t w) i) ∧ x5 = bsI (seC g t w) i ∧ frq μ μ3, ⟨gN g, 0, rfl, Nat.zero_le _, rfl, rfl, rfl, frq_rfl⟩, ?_⟩
  rintro m x4 x5 x6 μ3 ⟨i, rfl, hi, rfl, rfl, rfl, hq3⟩
  dsimp only
  by_cases hin : i = gN g
  · subst hin
    rw [if_pos (nI_le_yes (by omega) (by omega) (Nat.le_refl _))]
    have h3 := hK μ3 hq3
    by_cases z : p1 = 0
    · rw [if_pos z] at h3 ⊢
      exact h3
    · rw [if_neg z] at h3 ⊢
      exact h3
  · rw [if_neg (nI_le_no (by omega) (by omega) (by omega))]
    have hlt : i < gN g := by omega
    have hlm := (lCM (ct := ctC g t w) (fun j => cnB_le _ 7) i).2.1
    unfold w_M_forgers_105
    refine ⟨fun m x5 x7 x8 μ4 => ∃ kd, m = 7 - kd ∧ kd ≤ 7 ∧ x8 = nI kd ∧ x7 = nI (cnB (fitC g t w i) kd) ∧ x5 = mSe (fitC g t w i) (1 <<< (nI i &&& 31)) (bsI (seC g t w) i) kd ∧ frq μ μ4, ⟨7, 0, rfl, by omega, rfl, rfl, ?_, hq3⟩, ?_⟩
    · unfold mSe
      rw [if_neg (by omega)]
    rintro m x5 x7 x8 μ4 ⟨kd, rfl, hkd, rfl, rfl, rfl, hq4⟩
    dsimp only
    have hcn := cnB_le (fitC g t w i) kd
    by_cases h7 : kd = 7
    · subst h7
      rw [if_pos (by decide)]
      have es : mSe (fitC g t w i) (1 <<< (nI i &&& 31)) (bsI (seC g t w) i) 7 = bsI (seC g t w) (i + 1) := by
        unfold mSe
        rw [bsI]
        by_cases z : seC g t w i = true
        · rw [if_pos z, if_pos]
          have z' : (fitC g t w i 2 || fitC g t w i 5) = true := z
          rcases Bool.or_eq_true_iff.mp z' with y | y
          · exact Or.inl ⟨y, by omega⟩
          · exact Or.inr ⟨y, by omega⟩
        · rw [if_neg z, if_neg]
          rintro (y | y)
          · exact z (by unfold seC; rw [y.1]; rfl)
          · exact z (by unfold seC; rw [y.1, Bool.or_true])
      have go : ∀ x : Int32, x = nI (lM (ctC g t w) (i + 1)) → w_M_forgers_210 K (fun a0 a1 a2 μ_1 => ∃ k, k < gN g - i ∧ ∃ i, k = gN g - i ∧ i ≤ gN g ∧ a2 = nI i ∧ a0 = nI (lM (ctC g t w) i) ∧ a1 = bsI (seC g t w) i ∧ frq μ μ_1) (nI s) p1 (nI (gN g)) (mSe (fitC g t w i) (1 <<< (nI i &&& 31)) (bsI (seC g t w) i) 7) (nI i) x μ4 := by
        intro x ex
        unfold w_M_forgers_210
        exact ⟨gN g - (i + 1), by omega, i + 1, rfl, by omega, (nI_succ i).symm, ex, es, hq4⟩
      by_cases z : lM (ctC g t w) i ≤ cnB (fitC g t w i) 7
      · rw [if_pos (nI_le_yes (by omega) (by omega) z)]
        refine go _ ?_
        show _ = nI (if lM (ctC g t w) i ≤ ctC g t w i then lM (ctC g t w) i else ctC g t w i)
        rw [if_pos (show lM (ctC g t w) i ≤ ctC g t w i from z)]
      · rw [if_neg (nI_le_no (by omega) (by omega) (by omega))]
        refine go _ ?_
        show _ = nI (if lM (ctC g t w) i ≤ ctC g t w i then lM (ctC g t w) i else ctC g t w i)
        rw [if_neg (show ¬ lM (ctC g t w) i ≤ ctC g t w i from z)]
        rfl
    · have n6 : ¬ (6 : Int32) < nI kd := nI_lt_no (a := 6) (by omega) (by omega) (by omega)
      rw [if_neg n6, ix40 (gN g) h10, ix40 i (by omega)]
      refine ⟨(vin_iff (by omega)).mpr (by omega), (vin_iff (by omega)).mpr (by omega), ?_⟩
      rw [ix_nI (by omega), ix_nI (by omega), hq4.1 70 (by decide), hwn, hw i hlt]
      refine m_hasThen hg (MA_q hg hc hq4) (by rw [hq4.2.1 15 (by decide)]; exact h15) hlt (by omega) ht (fun μ5 hq5 => ?_)
      have q5 := frq_trans hq4 hq5
      have nx : ∀ (v30 z : Int32), v30 = nI (cnB (fitC g t w i) (kd + 1)) → (z = if fitC g t w i kd = true ∧ (kd = 2 ∨ kd = 5) then (1 <<< (nI i &&& 31)) else 0) → w_M_forgers_187 K (fun a0 a1 a2 μ_1 => ∃ k, k < gN g - i ∧ ∃ i, k = gN g - i ∧ i ≤ gN g ∧ a2 = nI i ∧ a0 = nI (lM (ctC g t w) i) ∧ a1 = bsI (seC g t w) i ∧ frq μ μ_1) (fun a0 a1 a2 μ_1 => ∃ k, k < 7 - kd ∧ ∃ kd, k = 7 - kd ∧ kd ≤ 7 ∧ a2 = nI kd ∧ a1 = nI (cnB (fitC g t w i) kd) ∧ a0 = mSe (fitC g t w i) (1 <<< (nI i &&& 31)) (bsI (seC g t w) i) kd ∧ frq μ μ_1) (nI s) p1 (nI (gN g)) (nI (lM (ctC g t w) i)) (nI i) v30 (nI kd) z (mSe (fitC g t w i) (1 <<< (nI i &&& 31)) (bsI (seC g t w) i) kd) μ5 := by
        intro v30 z ev ez
        unfold w_M_forgers_187
        intro v32 e32
        exact ⟨7 - (kd + 1), by omega, kd + 1, rfl, by omega, (nI_succ kd).symm, ev, by rw [e32]; exact mSe_s z ez, q5⟩
      by_cases q : nI (kF g i kd t) = w i
      · have fc : fitC g t w i kd = true := decide_eq_true q
        rw [if_pos q, if_neg (by decide)]
        unfold w_M_forgers_157
        intro v30 e30
        have e30' : v30 = nI (cnB (fitC g t w i) (kd + 1)) := by
          rw [e30]
          show nI (cnB (fitC g t w i) kd) + 1 = nI (cnB (fitC g t w i) kd + (if fitC g t w i kd = true then 1 else 0))
          rw [if_pos fc, nI_succ]
        rw [if_neg (by decide)]
        by_cases k2 : kd = 2
        · rw [if_pos (by rw [k2]; rfl)]
          unfold w_M_forgers_179
          exact nx _ _ e30' (by rw [if_pos ⟨fc, Or.inl k2⟩])
        · have k2' : ¬ nI kd = 2 := kd_ne (c := 2) (by omega) (by omega) k2
          rw [if_neg k2']
          by_cases k5 : kd = 5
          · rw [if_pos (by rw [k5]; rfl)]
            unfold w_M_forgers_179
            exact nx _ _ e30' (by rw [if_pos ⟨fc, Or.inr k5⟩])
          · have k5' : ¬ nI kd = 5 := kd_ne (c := 5) (by omega) (by omega) k5
            rw [if_neg k5']
            unfold w_M_forgers_186
            exact nx _ _ e30' (by rw [if_neg (fun y => by omega)])
      · have fc : ¬ fitC g t w i kd = true := fun y => q (of_decide_eq_true y)
        rw [if_neg q, if_pos rfl]
        unfold w_M_forgers_157
        intro v30 e30
        have e30' : v30 = nI (cnB (fitC g t w i) (kd + 1)) := by
          rw [e30]
          show nI (cnB (fitC g t w i) kd) + 0 = nI (cnB (fitC g t w i) kd + (if fitC g t w i kd = true then 1 else 0))
          rw [if_neg fc]
          exact Int32.add_zero _
        rw [if_pos rfl]
        unfold w_M_forgers_186
        exact nx _ _ e30' (by rw [if_neg (fun y => fc y.1)])
theorem T_forgers (n : Nat) (p0 p1 : Int32) : Same n (fun K => w_X_forgers K p0 p1) (fun K => w_M_forgers K p0 p1) := by
  intro μ hR
  obtain ⟨⟨g, g1, g2, g3⟩, h15, hE, hT, hS, hI⟩ := id hR
  have h10 := g1.2.1
  have bad : ¬ ((0 ≤ p0 ∧ p0 ≤ 3) ∧ (0 ≤ p1 ∧ p1 ≤ 1)) → w_X_forgers_19 (fun r1 μ1 => w_M_forgers (fun r2 μ2 => r1 = r2 ∧ RR (n + 1) μ2) p0 p1 μ1) p0 p1 μ := by
    intro hb
    unfold w_X_forgers_19
    refine X_err1 ?_
    have e30 : w_M_forgers_16 (fun r2 μ2 => -1000000001 = r2 ∧ RR (n + 1) μ2) p0 p1 (sm_st μ 60 1 (μ 60 1 + 1)) := by
      unfold w_M_forgers_16
      exact M_err1 ⟨rfl, RR_err hR rfl rfl⟩
    show w_M_forgers _ p0 p1 _
    unfold w_M_forgers
    refine M_sh (fun q0 => ?_) (fun _ => by rw [if_pos rfl]; exact e30)
    rw [if_neg (by decide)]
    exact M_in (fun q1 => absurd ⟨q0, q1⟩ hb) (fun _ => by rw [if_pos rfl]; exact e30)
  show w_X_forgers _ p0 p1 μ
  unfold w_X_forgers
  refine x_rowOf (fun s hs e => ?_) (fun q => bad (fun z => q z.1))
  subst e
  have q0 := sh_in hs
  refine ⟨isSh s hs, ?_⟩
  refine X_in (fun q1 => ?_) (fun q => by rw [if_pos rfl]; exact bad (fun z => q z.2))
  rw [if_neg (by decide)]
  obtain ⟨b, l, hb, hl, b1, b2, l1, l2, bl, hnum⟩ := hS s hs
  have hb32 : b ≤ 32 := by rcases hb with h | h | h | h <;> omega
  have ix40 : ∀ i, ((40 : Int32) * nI s) + nI i = nI (40 * s + i) := fun i => by
    rw [show (40 : Int32) * nI s = nI (40 * s) from nI_mul 40 s, nI_add]
  have none : ¬ (¬ b = 0 ∧ l = gN g + 1 ∧ ¬ gN g = 0 ∧ (0 ≤ μ (53 + 2 * s) (gN g) ∧ μ (53 + 2 * s) (gN g) ≤ 60)) → w_X_forgers_78 (fun r1 μ1 => w_M_forgers (fun r2 μ2 => r1 = r2 ∧ RR (n + 1) μ2) (nI s) p1 μ1) (nI s) p1 μ := by
    intro hno
    unfold w_X_forgers_78
    refine X_err2 ?_
    have e76 : w_M_forgers_76 (fun r2 μ2 => -1000000002 = r2 ∧ RR (n + 1) μ2) (nI s) p1 (sm_st μ 60 2 (μ 60 2 + 1)) := by
      unfold w_M_forgers_76
      exact M_err2 ⟨rfl, RR_err hR rfl rfl⟩
    show w_M_forgers _ (nI s) p1 _
    unfold w_M_forgers
    refine M_sh (fun _ => ?_) (fun z => absurd q0 z)
    rw [if_neg (by decide)]
    refine M_in (fun _ => ?_) (fun z => absurd q1 z)
    rw [if_neg (by decide)]
    intro v9 e9
    rw [st_ne _ _ _ _ _ (by decide), g3.1.2.1] at e9
    subst e9
    refine ⟨(vin_iff (by omega)).mpr hs, ?_⟩
    rw [ix_nI (by omega), st_ne _ _ _ _ 68 (by decide), st_ne _ _ _ _ 69 (by decide), st_ne _ _ _ _ 70 (by decide), b2, l2]
    by_cases y0 : b = 0
    · rw [if_pos (by rw [y0]; rfl)]
      exact e76
    · rw [if_neg (nI_ne0 (by omega) (by omega))]
      refine ⟨(vin_iff (by omega)).mpr hs, ?_⟩
      rw [← nI_succ]
      by_cases y1 : l = gN g + 1
      · rw [if_pos (by rw [y1])]
        by_cases y2 : gN g = 0
        · rw [if_pos (by rw [y2]; rfl)]
          exact e76
        · rw [if_neg (nI_ne0 (by omega) (by omega)), ix40]
          refine ⟨(vin_iff (by omega)).mpr (by omega), ?_⟩
          rw [ix_nI (by omega), hnum _ (by omega)]
          refine M_in (fun z => absurd ⟨y0, y1, y2, z⟩ hno) (fun _ => by rw [if_pos rfl]; exact e76)
      · rw [if_neg (fun z => y1 ((nI_inj (by omega) (by omega)).mp z))]
        exact e76
  refine x_missing hs hb32 b1 (fun y0 => by rw [if_neg (by decide)]; exact none (fun z => z.1 y0)) (fun y0 => ?_)
  rw [if_pos rfl, g2.1.2.1]
  by_cases y2 : gN g = 0
  · rw [if_pos (by rw [y2]; rfl)]
    exact none (fun z => z.2.2.1 y2)
  · rw [if_neg (nI_ne0 (by omega) (by omega)), l1, ← nI_succ]
    by_cases y1 : l = gN g + 1
    · rw [if_pos (by rw [y1])]
      refine x_numberAt hs hl l1 (by omega) ?_
      refine X_in (fun y3 => ?_) (fun y3 => by rw [if_pos rfl]; exact none (fun z => y3 z.2.2.2))
      rw [if_neg (by decide)]
      obtain ⟨t, ht, et⟩ := sm_ofle (n := 60) (by omega) y3.1 y3.2
      subst y1
      refine x_findForged (w := fun i => μ (53 + 2 * s) i) g1 g2 hs l1 (fun _ _ => rfl) et ht (fun μ1 hf1 v7 v8 => ?_)
      generalize hw : (fun i => μ (53 + 2 * s) i) = w at v7 v8
      have hR1 := RR_sx hR hf1
      have m1 := MA_fr (μ2 := μ1) g3 (hf1 62 (by decide))
      have mod : ∀ r1, r1 = (if p1 = 0 then nI (lM (ctC g t w) (gN g)) else bsI (seC g t w) (gN g)) → w_M_forgers (fun r2 μ2 => r1 = r2 ∧ RR (n + 1) μ2) (nI s) p1 μ1 := by
        intro r1 er
        unfold w_M_forgers
        refine M_sh (fun _ => ?_) (fun z => absurd q0 z)
        rw [if_neg (by decide)]
        refine M_in (fun _ => ?_) (fun z => absurd q1 z)
        rw [if_neg (by decide)]
        intro v9 e9
        rw [m1.1.2.1] at e9
        subst e9
        refine ⟨(vin_iff (by omega)).mpr hs, ?_⟩
        rw [ix_nI (by omega), hf1 68 (by decide), hf1 69 (by decide), hf1 70 (by decide), b2, l2, if_neg (nI_ne0 (by omega) (by omega))]
        refine ⟨(vin_iff (by omega)).mpr hs, ?_⟩
        rw [← nI_succ, if_pos rfl, if_neg (nI_ne0 (by omega) (by omega)), ix40]
        refine ⟨(vin_iff (by omega)).mpr (by omega), ?_⟩
        rw [ix_nI (by omega), hnum _ (by omega)]
        refine M_in (fun _ => ?_) (fun z => absurd y3 z)
        rw [if_neg (by decide)]
        refine m_forged (t := t) (w := w) g1 m1 (by rw [hf1 61 (by decide)]; exact h15) hs y2 (fun i hi => ?_) ?_ ht (fun μ2 hq => ⟨er, RR_q hR1 hq⟩)
        · rw [hf1 70 (by decide), hnum _ (by omega), ← hw]
        · rw [hf1 70 (by decide), hnum _ (by omega)]
          exact et
      by_cases y : p1 = 0
      · rw [if_pos y]
        exact mod _ (by rw [if_pos y, v7, lCM_s (ct := ctC g t w) (fun j => cnB_le _ 7) y2])
      · rw [if_neg y]
        exact mod _ (by rw [if_neg y]; exact v8)
    · rw [if_neg (fun z => y1 ((nI_inj (by omega) (by omega)).mp z))]
      exact none (fun z => y1 z.2.1)

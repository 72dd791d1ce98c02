/-! ===== methods alike: lasts, first ===== -/
theorem RR_q0 {n : Nat} {μ μ2 : sm_Mem} (h : RR n μ) (hf : frq μ μ2) : RR n μ2 := by
  obtain ⟨⟨g, g1, g2, g3⟩, h15, hr⟩ := h
  refine ⟨⟨g, g1, CA_fr g2 (fun k hk => hf.1 k (by revert k; decide)), MA_lt g1.1 g1.2.1 g1.2.2.2.2.2.2.2.1 g1.2.2.2.2.2.2.2.2.2 g3 hf.2.2⟩, by rw [hf.2.1 15 (by decide)]; exact h15, ?_⟩
  exact rx_fr (Nat.le_refl _) hr (fun k hk => hf.1 k (by revert k; decide)) (hf.2.1 4 (by decide)) (hf.2.1 5 (by decide)) (hf.2.1 24 (by decide))
/-- the one counts an ERROR, the other asks on and counts it -/
theorem RR_errq {n k : Nat} {μ μ1 μ2 μ3 : sm_Mem} (h : RR n μ) (e1 : μ1 = sm_st μ 60 k (μ 60 k + 1)) (hq : frq μ1 μ2) (e3 : μ3 = sm_st μ2 66 k (μ2 66 k + 1)) : RR (n + 1) μ3 := by
  have n1 : ∀ q, q ≠ 60 → μ1 q = μ q := fun q hq => by rw [e1, st_ne _ _ _ _ _ hq]
  have hν : frq μ (fun q => if q ∈ [61, 62, 64, 65, 67, 71] then μ2 q else μ q) := by
    refine ⟨fun q hq => ?_, fun j hj => ?_, fun j hj => ?_⟩
    · show (if q ∈ [61, 62, 64, 65, 67, 71] then μ2 q else μ q) = μ q
      rw [if_neg hq]
    · show (if 61 ∈ [61, 62, 64, 65, 67, 71] then μ2 61 else μ 61) j = μ 61 j
      rw [if_pos (by decide), hq.2.1 j hj, n1 61 (by decide)]
    · show (if 62 ∈ [61, 62, 64, 65, 67, 71] then μ2 62 else μ 62) j = μ 62 j
      rw [if_pos (by decide), hq.2.2 j hj, n1 62 (by decide)]
  refine RR_err (RR_q0 h hν) (μ1 := μ2) ?_ e3
  funext q
  by_cases c : q ∈ [61, 62, 64, 65, 67, 71]
  · have c60 : q ≠ 60 := fun e => by rw [e] at c; revert c; decide
    rw [st_ne _ _ _ _ _ c60]
    show μ2 q = if q ∈ [61, 62, 64, 65, 67, 71] then μ2 q else μ q
    rw [if_pos c]
  · rw [hq.1 q c, e1]
    by_cases c60 : q = 60
    · subst c60
      funext i
      rw [st_same, st_same]
      show (if i = k then μ 60 k + 1 else μ 60 i) = if i = k then (if 60 ∈ [61, 62, 64, 65, 67, 71] then μ2 60 else μ 60) k + 1 else (if 60 ∈ [61, 62, 64, 65, 67, 71] then μ2 60 else μ 60) i
      rw [if_neg c]
    · rw [st_ne _ _ _ _ _ c60, st_ne _ _ _ _ _ c60]
      show μ q = if q ∈ [61, 62, 64, 65, 67, 71] then μ2 q else μ q
      rw [if_neg c]
theorem sumN_le {f : Nat → Nat} {c : Nat} : ∀ n, (∀ i, i < n → f i ≤ c) → sumN f n ≤ c * n
  | 0, _ => by show 0 ≤ _; omega
  | n + 1, h => by
    have h1 := sumN_le n (fun i hi => h i (by omega))
    have h2 := h n (by omega)
    show sumN f n + f n ≤ c * (n + 1)
    rw [Nat.mul_succ]
    omega
theorem payA_le {g : GH} {i s : Nat} (hg : gOk g) (hi : i < gN g) (hs : s ≤ 999) : payA g i s ≤ 2003 := pN_le (hg.2.2.2.2.2.2.1 i hi).2.1 hs
def worA (g : GH) (o i t : Nat) : Nat := sumN (fun j => if gOw g j = o then payA g j (leftA g j t) else 0) i
theorem worA_le {g : GH} {o i t : Nat} (hg : gOk g) (hi : i ≤ gN g) : worA g o i t ≤ 20030 := by
  have h := sumN_le (f := fun j => if gOw g j = o then payA g j (leftA g j t) else 0) (c := 2003) i (fun j hj => by
    split
    · exact payA_le hg (by omega) (leftI_le hg (by omega))
    · omega)
  have h10 := hg.2.1
  have h2 : 2003 * i ≤ 2003 * 10 := Nat.mul_le_mul_left _ (by omega)
  unfold worA
  omega
theorem x_lastHour {K : Int32 → sm_Mem → Prop} {g : GH} {o v : Nat} {μ : sm_Mem} (hg : gOk g) (hc : CA 1 g μ) (ho : o ≤ 3) (hv : v ≤ 9999) (hK : ∀ t μ2, t ≤ 61 → fr SX μ μ2 → (∀ s, s < t → v ≤ worN g o s) → (t < 61 → worN g o t < v) → K (nI t - 1) μ2) : w_F_lastHourWorth K (nI o) (nI v) μ := by
  have h10 := hg.2.1
  unfold w_F_lastHourWorth
  refine x_fill sm_l40 (by omega) (fun μ1 hf1 hz => ?_)
  have f1 : fr SX μ μ1 := fr_mono hf1 (by simp)
  unfold w_F_lastHourWorth_10
  refine ⟨fun m x3 μ2 => ∃ i, m = gN g - i ∧ i ≤ gN g ∧ x3 = nI i ∧ fr SX μ μ2 ∧ ∀ t, t ≤ 60 → μ2 40 t = nI (worA g o i t), ⟨gN g, 0, rfl, Nat.zero_le _, rfl, f1, fun t ht => hz t (by omega)⟩, ?_⟩
  rintro m x3 μ2 ⟨i, rfl, hi, rfl, hf, hs⟩
  dsimp only
  have hc2 := CA_of hc hf
  rw [hc2.1.2.1]
  by_cases hin : i = gN g
  · subst hin
    rw [if_pos (nI_le_yes (by omega) (by omega) (Nat.le_refl _))]
    unfold w_F_lastHourWorth_109
    refine ⟨fun m x3 x4 μ3 => ∃ t, m = 61 - t ∧ t ≤ 61 ∧ x4 = nI t ∧ x3 = nI t - 1 ∧ μ3 = μ2 ∧ ∀ s, s < t → v ≤ worN g o s, ⟨61, 0, rfl, by omega, rfl, by decide, rfl, fun s hs => by omega⟩, ?_⟩
    rintro m x3 x4 μ3 ⟨t, rfl, ht, rfl, rfl, e3, he⟩
    dsimp only
    by_cases h61 : t = 61
    · subst h61
      rw [if_pos (by decide), e3]
      exact hK 61 _ (by omega) hf he (fun z => absurd z (by omega))
    · have q : ¬ (60 : Int32) < nI t := nI_lt_no (a := 60) (by omega) (by omega) (by omega)
      rw [if_neg q]
      refine ⟨(vin_iff (by omega)).mpr (by omega), ?_⟩
      rw [ix_nI (by omega), e3, hs t (by omega)]
      have hw : worA g o (gN g) t ≤ 20030 := worA_le hg (Nat.le_refl _)
      by_cases z : worA g o (gN g) t < v
      · rw [if_pos (nI_lt_yes (by omega) (by omega) z)]
        exact hK t _ (by omega) hf he (fun _ => z)
      · rw [if_neg (nI_lt_no (by omega) (by omega) (by omega))]
        refine ⟨61 - (t + 1), by omega, t + 1, rfl, by omega, (nI_succ t).symm, by rw [nI_succ, Int32.add_sub_cancel], rfl, fun s hs2 => ?_⟩
        by_cases y : s < t
        · exact he s y
        · have : s = t := by omega
          subst this
          exact Nat.not_lt.mp z
  · rw [if_neg (nI_le_no (by omega) (by omega) (by omega))]
    have hlt : i < gN g := by omega
    have how := (hg.2.2.2.2.2.2.1 i hlt).2.2.2.2
    refine ⟨(vin_iff (by omega)).mpr (by omega), ?_⟩
    rw [ix_nI (by omega), show μ2 8 i = _ from (hc2.2.2.2.1 i hlt).2.2.2.2]
    by_cases qo : gOw g i = o
    · rw [if_pos (by rw [qo])]
      refine x_warmthAround hg hc2 hlt ?_
      rw [hc2.1.2.2.1]
      refine x_left (n := 60) hg hc2 hlt (by omega) (fun μ3 hf3 _ h40 hcr => ?_)
      have hf' := fr_trans hf hf3
      unfold w_F_lastHourWorth_60
      refine ⟨fun m x4 μ4 => ∃ t, m = 61 - t ∧ t ≤ 61 ∧ x4 = nI t ∧ fr SX μ μ4 ∧ (∀ s, s ≤ 60 → μ4 39 s = nI (leftA g i s)) ∧ ∀ s, s ≤ 60 → μ4 40 s = if s < t then nI (worA g o (i + 1) s) else nI (worA g o i s), ⟨61, 0, rfl, by omega, rfl, hf', hcr, fun s hs2 => ?_⟩, ?_⟩
      · rw [if_neg (by omega), h40]
        exact hs s hs2
      · rintro m x4 μ4 ⟨t, rfl, ht, rfl, hf4, hc39, ht4⟩
        dsimp only
        by_cases h61 : t = 61
        · subst h61
          rw [if_pos (by decide)]
          unfold w_F_lastHourWorth_98
          refine ⟨gN g - (i + 1), by omega, i + 1, rfl, by omega, (nI_succ i).symm, hf4, fun s hs2 => ?_⟩
          rw [ht4 s hs2, if_pos (by omega)]
        · have q : ¬ (60 : Int32) < nI t := nI_lt_no (a := 60) (by omega) (by omega) (by omega)
          rw [if_neg q]
          have v61 : vp_in (nI t) 61 := (vin_iff (by omega)).mpr (by omega)
          refine ⟨v61, v61, ?_⟩
          rw [ix_nI (by omega), hc39 t (by omega), ht4 t (by omega), if_neg (by omega)]
          refine x_pays hg (CA_of hc hf4) hlt (leftI_le hg hlt) (fun μ5 hf5 _ h39 h405 _ => ?_)
          refine ⟨v61, ?_⟩
          intro μ6 e6
          rw [nI_add] at e6
          refine ⟨61 - (t + 1), by omega, t + 1, rfl, by omega, (nI_succ t).symm, ?_, fun s hs2 => ?_, fun s hs2 => ?_⟩
          · rw [e6]
            exact fr_st (fr_trans hf4 hf5) (by simp)
          · rw [e6, st_ne _ _ _ _ _ (by decide), h39]
            exact hc39 s hs2
          · rw [e6, st_same]
            by_cases q2 : s = t
            · subst q2
              rw [if_pos rfl, if_pos (by omega)]
              show _ = nI (sumN _ i + (if gOw g i = o then payA g i (leftA g i s) else 0))
              rw [if_pos qo]
              rfl
            · rw [if_neg q2, h405, ht4 s hs2]
              by_cases z : s < t
              · rw [if_pos z, if_pos (by omega)]
              · rw [if_neg z, if_neg (by omega)]
    · rw [if_neg (fun z => qo ((nI_inj (by omega) (by omega)).mp z))]
      unfold w_F_lastHourWorth_98
      refine ⟨gN g - (i + 1), by omega, i + 1, rfl, by omega, (nI_succ i).symm, hf, fun s hs2 => ?_⟩
      rw [hs s hs2]
      show _ = nI (sumN _ i + (if gOw g i = o then payA g i (leftA g i s) else 0))
      rw [if_neg qo]
      rfl
theorem T_lasts (n : Nat) (p0 p1 : Int32) : Same n (fun K => w_X_lasts K p0 p1) (fun K => w_M_lasts K p0 p1) := by
  intro μ hR
  obtain ⟨⟨g, g1, g2, g3⟩, h15, _⟩ := id hR
  have hho := g1.2.2.2.1
  have bad : ¬ ((0 ≤ p0 ∧ p0 ≤ 3) ∧ (1 ≤ p1 ∧ p1 ≤ 9999)) → w_X_lasts_20 (fun r1 μ1 => w_M_lasts (fun r2 μ2 => r1 = r2 ∧ RR (n + 1) μ2) p0 p1 μ1) p0 p1 μ := by
    intro hb
    unfold w_X_lasts_20
    refine X_err1 ?_
    have e30 : w_M_lasts_18 (fun r2 μ2 => -1000000001 = r2 ∧ RR (n + 1) μ2) p0 p1 (sm_st μ 60 1 (μ 60 1 + 1)) := by
      unfold w_M_lasts_18
      exact M_err1 ⟨rfl, RR_err hR rfl rfl⟩
    show w_M_lasts _ p0 p1 _
    unfold w_M_lasts
    refine M_own (fun q0 => ?_) (fun _ => by rw [if_pos rfl]; exact e30)
    rw [if_neg (by decide)]
    exact M_in (fun q1 => absurd ⟨q0, q1⟩ hb) (fun _ => by rw [if_pos rfl]; exact e30)
  show w_X_lasts _ p0 p1 μ
  unfold w_X_lasts
  refine X_in (fun q0 => ?_) (fun q => by rw [if_pos rfl]; exact bad (fun z => q z.1))
  rw [if_neg (by decide)]
  refine X_in (fun q1 => ?_) (fun q => by rw [if_pos rfl]; exact bad (fun z => q z.2))
  rw [if_neg (by decide)]
  obtain ⟨o, ho, e⟩ := sm_ofle (n := 3) (by omega) q0.1 q0.2
  subst e
  obtain ⟨v, hv, e⟩ := sm_ofle (n := 9999) (by omega) (Int32.le_trans (by decide) q1.1) q1.2
  subst e
  refine x_lastHour g1 g2 ho hv (fun t μ1 ht hf1 he hlt => ?_)
  have hR1 := RR_sx hR hf1
  have m1 := MA_fr (μ2 := μ1) g3 (hf1 62 (by decide))
  by_cases t0 : t = 0
  · subst t0
    have l0 := hlt (by omega)
    have hw : worN g o 0 ≤ 20030 := worA_le (i := gN g) g1 (Nat.le_refl _)
    rw [if_neg (by decide)]
    refine X_err2 ?_
    show w_M_lasts (fun r2 μ2 => -1000000002 = r2 ∧ RR (n + 1) μ2) (nI o) (nI v) (sm_st μ1 60 2 (μ1 60 2 + 1))
    unfold w_M_lasts
    refine M_own (fun _ => ?_) (fun z => absurd q0 z)
    rw [if_neg (by decide)]
    refine M_in (fun _ => ?_) (fun z => absurd q1 z)
    rw [if_neg (by decide)]
    refine m_worthOf (g := g) g1.M (MA_fr m1 (st_ne _ _ _ _ _ (by decide))) ho (fun μ2 hf2 => ?_)
    have ng : ¬ nI v ≤ nI (sumN (fun i => if gOw g i = o then payA g i (gSn g i) else 0) (gN g)) := nI_le_no (by omega) (Nat.lt_of_le_of_lt hw (by omega)) l0
    rw [if_neg ng]
    exact M_err2 ⟨rfl, RR_errq hR1 rfl hf2.q rfl⟩
  · obtain ⟨s1, rfl⟩ : ∃ s1, t = s1 + 1 := ⟨t - 1, by omega⟩
    have e0 : nI (s1 + 1) - 1 = nI s1 := by rw [nI_succ, Int32.add_sub_cancel]
    have p0' : (0 : Int32) ≤ nI s1 := nI_le_yes (a := 0) (by omega) (by omega) (by omega)
    rw [e0, if_pos p0']
    show w_M_lasts (fun r2 μ2 => nI s1 = r2 ∧ RR (n + 1) μ2) (nI o) (nI v) μ1
    unfold w_M_lasts
    refine M_own (fun _ => ?_) (fun z => absurd q0 z)
    rw [if_neg (by decide)]
    refine M_in (fun _ => ?_) (fun z => absurd q1 z)
    rw [if_neg (by decide)]
    refine m_worthOf (g := g) g1.M m1 ho (fun μ2 hf2 => ?_)
    have hw0 : worN g o 0 ≤ 20030 := worA_le (i := gN g) g1 (Nat.le_refl _)
    have yg : nI v ≤ nI (sumN (fun i => if gOw g i = o then payA g i (gSn g i) else 0) (gN g)) := nI_le_yes (by omega) (Nat.lt_of_le_of_lt hw0 (by omega)) (he 0 (by omega))
    rw [if_pos yg]
    refine m_save (fun μ3 hf3 hs => ?_)
    have m3 := MA_fr (μ2 := μ3) (MA_of m1 hf2) (hf3 62 (by decide))
    refine m_oneHour (wm := 0) g1.M m3 (by rw [hf3 61 (by decide), hf2.2 15 (by decide), hf1 61 (by decide)]; exact h15) (fun μ4 hf4 m4 => ?_)
    have z14 : frz μ1 μ4 := frz_trans hf2.z (frz_trans (frz_of hf3 (by decide)) hf4.z)
    unfold w_M_lasts_59
    refine ⟨fun m x3 μ5 => ∃ s, m = 60 - s ∧ s ≤ 60 ∧ x3 = nI s ∧ frz μ1 μ5 ∧ MA 62 (gPs g 0 (s + 1)) μ5 ∧ (∀ j, j < 271 → μ5 64 j = μ1 62 j) ∧ ∀ r, r ≤ s → v ≤ worN g o r, ⟨60, 0, rfl, by omega, rfl, z14, m4, fun j hj => by rw [hf4.1 64 (by decide), hs j hj, hf2.1 62 (by decide)], fun r hr => he r (by omega)⟩, ?_⟩
    rintro m x3 μ5 ⟨s, rfl, hs60, rfl, z5, m5, h64, hr⟩
    dsimp only
    have fin : ∀ μ6 : sm_Mem, frm μ5 μ6 → s = s1 → w_M_lasts_84 (fun r2 μ2 => nI s1 = r2 ∧ RR (n + 1) μ2) (nI o) (nI v) (nI s) μ6 := by
      intro μ6 hf6 es
      unfold w_M_lasts_84
      refine m_load (μ0 := μ1) (fun j hj => by rw [hf6.1 64 (by decide)]; exact h64 j hj) (fun μ7 hf7 hr7 => ?_)
      exact ⟨by rw [es], RR_q hR1 ((frz_trans z5 (frz_trans hf6.z (frz_of hf7 (by decide)))).q hr7)⟩
    by_cases c60 : s = 60
    · subst c60
      rw [if_pos (by decide)]
      refine fin μ5 frm_rfl ?_
      by_cases y : s1 + 1 < 61
      · have := hlt y
        have := hr (s1 + 1) (by omega)
        omega
      · omega
    · have q60 : ¬ (60 : Int32) ≤ nI s := nI_le_no (a := 60) (by omega) (by omega) (by omega)
      rw [if_neg q60]
      refine m_worthOf (g := gPs g 0 (s + 1)) (gPs_ok g1.M (by omega)) m5 ho (fun μ6 hf6 => ?_)
      have hws : worN g o (s + 1) ≤ 20030 := worA_le (i := gN g) g1 (Nat.le_refl _)
      have ev : nI (sumN (fun i => if gOw (gPs g 0 (s + 1)) i = o then payA (gPs g 0 (s + 1)) i (gSn (gPs g 0 (s + 1)) i) else 0) (gN (gPs g 0 (s + 1)))) = nI (worN g o (s + 1)) := rfl
      rw [ev]
      by_cases y : worN g o (s + 1) < v
      · rw [if_pos (nI_lt_yes (by omega) (by omega) y)]
        refine fin μ6 hf6 ?_
        have h1 : ¬ s + 1 < s1 + 1 := fun z => absurd (he (s + 1) z) (by omega)
        have h2 : ¬ s1 + 1 ≤ s := fun z => by
          have := hr (s1 + 1) z
          have := hlt (by omega)
          omega
        omega
      · rw [if_neg (nI_lt_no (by omega) (by omega) (by omega))]
        refine m_oneHour (wm := 0) (gPs_ok g1.M (by omega)) (MA_of m5 hf6) (by rw [hf6.2 15 (by decide), z5.2 15 (by decide), hf1 61 (by decide)]; exact h15) (fun μ7 hf7 m7 => ?_)
        refine ⟨60 - (s + 1), by omega, s + 1, rfl, by omega, (nI_succ s).symm, frz_trans z5 (frz_trans hf6.z hf7.z), m7, fun j hj => by rw [hf7.1 64 (by decide), hf6.1 64 (by decide)]; exact h64 j hj, fun r hr2 => ?_⟩
        by_cases c : r ≤ s
        · exact hr r c
        · have : r = s + 1 := by omega
          subst this
          omega

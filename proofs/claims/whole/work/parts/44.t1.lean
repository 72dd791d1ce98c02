theorem nI0 : nI 0 = 0 := rfl
theorem T_then (n : Nat) (p0 p1 p2 : Int32) : Same n (fun K => w_X_then K p0 p1 p2) (fun K => w_M_then K p0 p1 p2) := by
  intro μ hR
  obtain ⟨⟨g, g1, g2, g3⟩, h15, _⟩ := id hR
  have N10 := g1.2.1
  have bad : ¬ ((0 ≤ p0 ∧ p0 ≤ 60) ∧ (0 ≤ p1 ∧ p1 < nI (gN g)) ∧ (0 ≤ p2 ∧ p2 ≤ 1)) → w_X_then_30 (fun r1 μ1 => w_M_then (fun r2 μ2 => r1 = r2 ∧ RR (n + 1) μ2) p0 p1 p2 μ1) p0 p1 p2 μ := by
    intro hb
    unfold w_X_then_30
    refine X_err1 ?_
    have e30 : w_M_then_27 (fun r2 μ2 => -1000000001 = r2 ∧ RR (n + 1) μ2) p0 p1 p2 (sm_st μ 60 1 (μ 60 1 + 1)) := by
      unfold w_M_then_27
      exact M_err1 ⟨rfl, RR_err hR rfl rfl⟩
    unfold w_M_then
    refine M_in (fun q0 => ?_) (fun q0 => ?_)
    · rw [if_neg (by decide)]
      refine m_isNote_eq N10 (by rw [st_ne _ _ _ _ _ (by decide)]; exact g3.1.2.1) (fun q1 => ?_) (fun q1 => ?_)
      · rw [if_neg (by decide)]
        refine M_in (fun q2 => absurd ⟨q0, q1, q2⟩ hb) (fun q2 => ?_)
        rw [if_pos rfl]
        exact e30
      · rw [if_pos rfl]
        exact e30
    · rw [if_pos rfl]
      exact e30
  show w_X_then _ p0 p1 p2 μ
  unfold w_X_then
  refine X_in (fun q0 => ?_) (fun q0 => by rw [if_pos rfl]; exact bad (fun z => q0 z.1))
  rw [if_neg (by decide)]
  refine x_hasNote_eq g2.1.2.1 (fun q1 => ?_) (fun q1 => by rw [if_pos rfl]; exact bad (fun z => q1 z.2.1))
  rw [if_neg (by decide)]
  refine X_in (fun q2 => ?_) (fun q2 => by rw [if_pos rfl]; exact bad (fun z => q2 z.2.2))
  rw [if_neg (by decide)]
  obtain ⟨t, ht, e⟩ := sm_ofle (n := 60) (by omega) q0.1 q0.2
  subst e
  obtain ⟨i, hi, e⟩ := sm_of (by omega) q1.1 q1.2
  subst e
  refine x_warmthAround g1 g2 hi ?_
  rw [g2.1.2.2.1]
  refine x_left g1 g2 hi ht (fun μ1 hf1 _ _ _ => ?_)
  have mod : ∀ (r1 : Int32) (μ1 : sm_Mem), fr SX μ μ1 → r1 = (if p2 = 0 then nI (leftA g i t) else nI (payA g i (leftA g i t))) → w_M_then (fun r2 μ2 => r1 = r2 ∧ RR (n + 1) μ2) (nI t) (nI i) p2 μ1 := by
    intro r1 μ1 hf er
    have hR1 := RR_sx hR hf
    have m1 := MA_fr (μ2 := μ1) g3 (hf 62 (by decide))
    unfold w_M_then
    refine M_in (fun _ => ?_) (fun z => absurd q0 z)
    rw [if_neg (by decide)]
    refine m_isNote_eq N10 m1.1.2.1 (fun _ => ?_) (fun z => absurd q1 z)
    rw [if_neg (by decide)]
    refine M_in (fun _ => ?_) (fun z => absurd q2 z)
    rw [if_neg (by decide)]
    refine m_save (fun μ2 hf2 hs => ?_)
    have m2 := MA_fr (μ2 := μ2) m1 (hf2 62 (by decide))
    refine m_passes (wm := 0) g1.M m2 (by rw [hf2 61 (by decide), hf 61 (by decide)]; exact h15) ht (by have := g1.2.2.2.1; omega) (fun μ3 hf3 m3 => ?_)
    have z13 : frz μ1 μ3 := frz_trans (frz_of hf2 (by decide)) hf3.z
    have fin : ∀ (v : Int32) (μ4 : sm_Mem), frm μ3 μ4 → r1 = v → w_M_then_69 (fun r2 μ2 => r1 = r2 ∧ RR (n + 1) μ2) (nI t) (nI i) p2 v μ4 := by
      intro v μ4 hf4 ev
      unfold w_M_then_69
      refine m_load (μ0 := μ1) (fun j hj => by rw [hf4.1 64 (by decide), hf3.1 64 (by decide)]; exact hs j hj) (fun μ5 hf5 hr => ?_)
      exact ⟨ev, RR_q hR1 ((frz_trans z13 (frz_trans hf4.z (frz_of hf5 (by decide)))).q hr)⟩
    by_cases q : p2 = 0
    · rw [if_pos q]
      rw [if_pos q] at er
      refine m_its (f := 2) (by omega) (by omega) ?_
      rw [(m3.2.2.2.1 i hi).2.2.1]
      exact fin _ μ3 frm_rfl er
    · rw [if_neg q]
      rw [if_neg q] at er
      exact m_pays (gPs_ok g1.M (by have := g1.2.2.2.1; omega)) m3 hi (fun μ4 hf4 => fin _ μ4 hf4 er)
  by_cases q : p2 = 0
  · rw [if_pos q]
    exact mod _ μ1 hf1 (by rw [if_pos q]; rfl)
  · rw [if_neg q]
    refine x_pays g1 (CA_of g2 hf1) hi (leftI_le g1 hi) (fun μ2 hf2 _ _ _ _ => ?_)
    exact mod _ μ2 (fr_trans hf1 hf2) (by rw [if_neg q]; rfl)
theorem T_warmer (n : Nat) (p0 p1 : Int32) : Same n (fun K => w_X_warmer K p0 p1) (fun K => w_M_warmer K p0 p1) := by
  intro μ hR
  obtain ⟨⟨g, g1, g2, g3⟩, h15, _⟩ := id hR
  have bad : ¬ ((0 ≤ p0 ∧ p0 ≤ 9) ∧ (0 ≤ p1 ∧ p1 ≤ 60)) → w_X_warmer_20 (fun r1 μ1 => w_M_warmer (fun r2 μ2 => r1 = r2 ∧ RR (n + 1) μ2) p0 p1 μ1) p0 p1 μ := by
    intro hb
    unfold w_X_warmer_20
    refine X_err1 ?_
    have e30 : w_M_warmer_20 (fun r2 μ2 => -1000000001 = r2 ∧ RR (n + 1) μ2) p0 p1 (sm_st μ 60 1 (μ 60 1 + 1)) := by
      unfold w_M_warmer_20
      exact M_err1 ⟨rfl, RR_err hR rfl rfl⟩
    unfold w_M_warmer
    refine M_in (fun q0 => ?_) (fun q0 => by rw [if_pos rfl]; exact e30)
    rw [if_neg (by decide)]
    refine M_in (fun q1 => absurd ⟨q0, q1⟩ hb) (fun q1 => by rw [if_pos rfl]; exact e30)
  show w_X_warmer _ p0 p1 μ
  unfold w_X_warmer
  refine X_in (fun q0 => ?_) (fun q0 => by rw [if_pos rfl]; exact bad (fun z => q0 z.1))
  rw [if_neg (by decide)]
  refine X_in (fun q1 => ?_) (fun q1 => by rw [if_pos rfl]; exact bad (fun z => q1 z.2))
  rw [if_neg (by decide)]
  obtain ⟨v, hv, e⟩ := sm_ofle (n := 9) (by omega) q0.1 q0.2
  subst e
  obtain ⟨t, ht, e⟩ := sm_ofle (n := 60) (by omega) q1.1 q1.2
  subst e
  refine x_leftOfAll g1 g2 ht (fun μ1 hf1 => ?_)
  have hR1 := RR_sx hR hf1
  have m1 := MA_fr (μ2 := μ1) g3 (hf1 62 (by decide))
  unfold w_M_warmer
  refine M_in (fun _ => ?_) (fun z => absurd q0 z)
  rw [if_neg (by decide)]
  refine M_in (fun _ => ?_) (fun z => absurd q1 z)
  rw [if_neg (by decide)]
  refine m_save (fun μ2 hf2 hs => ?_)
  have m2 := MA_fr (μ2 := μ2) m1 (hf2 62 (by decide))
  intro μ3 e3
  have m3 : MA 62 g μ3 := MA_fr m2 (by rw [e3]; exact st_ne _ _ _ _ _ (by decide))
  refine m_passes (wm := v) g1.M m3 (by rw [e3, st_same, if_pos rfl]) ht (by have := g1.2.2.2.1; omega) (fun μ4 hf4 m4 => ?_)
  intro μ5 e5
  have m5 : MA 62 (gPs g v t) μ5 := MA_fr m4 (by rw [e5]; exact st_ne _ _ _ _ _ (by decide))
  refine m_snowOfAll (gPs_ok g1.M (by have := g1.2.2.2.1; omega)) m5 ?_
  refine m_load (μ0 := μ1) (fun j hj => by rw [e5, st_ne _ _ _ _ _ (by decide), hf4.1 64 (by decide), e3, st_ne _ _ _ _ _ (by decide)]; exact hs j hj) (fun μ6 hf6 hr => ?_)
  refine ⟨rfl, RR_q hR1 ⟨fun k hk => ?_, fun j hj => ?_, hr⟩⟩
  · have k61 : k ≠ 61 := fun e => hk (by rw [e]; decide)
    have k62 : k ∉ [61, 62] := fun e => hk (by revert e; simp; omega)
    have k64 : k ∉ [64] := fun e => hk (by revert e; simp; omega)
    have k622 : k ∉ [62] := fun e => hk (by revert e; simp; omega)
    rw [hf6 k k622, e5, st_ne _ _ _ _ _ k61, hf4.1 k k62, e3, st_ne _ _ _ _ _ k61, hf2 k k64]
  · rw [hf6 61 (by decide), e5, st_same]
    by_cases q : j = 15
    · rw [if_pos q, q, hf1 61 (by decide), h15]
    · rw [if_neg q, hf4.2 j (fun z => hj (by revert z; simp; omega)), e3, st_same, if_neg q, hf2 61 (by decide)]
theorem T_richest (n : Nat) (p0 p1 : Int32) : Same n (fun K => w_X_richest K p0 p1) (fun K => w_M_richest K p0 p1) := by
  intro μ hR
  obtain ⟨⟨g, g1, g2, g3⟩, h15, _⟩ := id hR
  have bad : ¬ ((0 ≤ p0 ∧ p0 ≤ 60) ∧ (0 ≤ p1 ∧ p1 ≤ 1)) → w_X_richest_19 (fun r1 μ1 => w_M_richest (fun r2 μ2 => r1 = r2 ∧ RR (n + 1) μ2) p0 p1 μ1) p0 p1 μ := by
    intro hb
    unfold w_X_richest_19
    refine X_err1 ?_
    have e30 : w_M_richest_19 (fun r2 μ2 => -1000000001 = r2 ∧ RR (n + 1) μ2) p0 p1 (sm_st μ 60 1 (μ 60 1 + 1)) := by
      unfold w_M_richest_19
      exact M_err1 ⟨rfl, RR_err hR rfl rfl⟩
    unfold w_M_richest
    refine M_in (fun q0 => ?_) (fun q0 => by rw [if_pos rfl]; exact e30)
    rw [if_neg (by decide)]
    refine M_in (fun q1 => absurd ⟨q0, q1⟩ hb) (fun q1 => by rw [if_pos rfl]; exact e30)
  show w_X_richest _ p0 p1 μ
  unfold w_X_richest
  refine X_in (fun q0 => ?_) (fun q0 => by rw [if_pos rfl]; exact bad (fun z => q0 z.1))
  rw [if_neg (by decide)]
  refine X_in (fun q1 => ?_) (fun q1 => by rw [if_pos rfl]; exact bad (fun z => q1 z.2))
  rw [if_neg (by decide)]
  obtain ⟨t, ht, e⟩ := sm_ofle (n := 60) (by omega) q0.1 q0.2
  subst e
  refine x_findRichest g1 g2 ht (fun μ1 hf1 v7 v8 => ?_)
  have hR1 := RR_sx hR hf1
  have m1 := MA_fr (μ2 := μ1) g3 (hf1 62 (by decide))
  have mod : ∀ r1, r1 = (if p1 = 0 then (scI (fun o => nI (worN g o t)) 4).2 else (scI (fun o => nI (worN g o t)) 4).1) → w_M_richest (fun r2 μ2 => r1 = r2 ∧ RR (n + 1) μ2) (nI t) p1 μ1 := by
    intro r1 er
    unfold w_M_richest
    refine M_in (fun _ => ?_) (fun z => absurd q0 z)
    rw [if_neg (by decide)]
    refine M_in (fun _ => ?_) (fun z => absurd q1 z)
    rw [if_neg (by decide)]
    refine m_save (fun μ2 hf2 hs => ?_)
    have m2 := MA_fr (μ2 := μ2) m1 (hf2 62 (by decide))
    refine m_passes (wm := 0) g1.M m2 (by rw [hf2 61 (by decide), hf1 61 (by decide)]; exact h15) ht (by have := g1.2.2.2.1; omega) (fun μ3 hf3 m3 => ?_)
    have z13 : frz μ1 μ3 := frz_trans (frz_of hf2 (by decide)) hf3.z
    unfold w_M_richest_51
    refine ⟨fun m x3 x4 x5 μ4 => ∃ o, m = 4 - o ∧ o ≤ 4 ∧ x5 = nI o ∧ x4 = (scI (fun o => nI (worN g o t)) o).1 ∧ x3 = (scI (fun o => nI (worN g o t)) o).2 ∧ frm μ3 μ4, ⟨4, 0, rfl, by omega, rfl, rfl, rfl, frm_rfl⟩, ?_⟩
    rintro m x3 x4 x5 μ4 ⟨o, rfl, ho, rfl, rfl, rfl, hf4⟩
    dsimp only
    by_cases hin : o = 4
    · subst hin
      rw [if_pos (by decide)]
      refine m_load (μ0 := μ1) (fun j hj => by rw [hf4.1 64 (by decide), hf3.1 64 (by decide)]; exact hs j hj) (fun μ5 hf5 hr => ?_)
      have hq := RR_q hR1 ((frz_trans z13 (frz_trans hf4.z (frz_of hf5 (by decide)))).q hr)
      by_cases q : p1 = 0
      · rw [if_pos q] at er ⊢
        exact ⟨er, hq⟩
      · rw [if_neg q] at er ⊢
        exact ⟨er, hq⟩
    · have q4 : ¬ (4 : Int32) ≤ nI o := nI_le_no (a := 4) (by omega) (by omega) (by omega)
      rw [if_neg q4]
      refine m_worthOf (gPs_ok g1.M (by have := g1.2.2.2.1; omega)) (MA_of m3 hf4) (by omega) (fun μ5 hf5 => ?_)
      have ev : nI (sumN (fun i => if gOw (gPs g 0 t) i = o then payA (gPs g 0 t) i (gSn (gPs g 0 t) i) else 0) (gN (gPs g 0 t))) = nI (worN g o t) := rfl
      rw [ev]
      by_cases q : (scI (fun o => nI (worN g o t)) o).1 < nI (worN g o t)
      · rw [if_neg (Int32.not_le.mpr q)]
        unfold w_M_richest_78
        rw [if_neg (Int32.not_le.mpr q)]
        unfold w_M_richest_93
        refine ⟨4 - (o + 1), by omega, o + 1, rfl, by omega, (nI_succ o).symm, ?_, ?_, frm_trans hf4 hf5⟩
        · show _ = (if _ then _ else _ : Int32 × Int32).1
          rw [if_pos q]
        · show _ = (if _ then _ else _ : Int32 × Int32).2
          rw [if_pos q]
      · rw [if_pos (Int32.not_lt.mp q)]
        unfold w_M_richest_78
        rw [if_pos (Int32.not_lt.mp q)]
        unfold w_M_richest_93
        refine ⟨4 - (o + 1), by omega, o + 1, rfl, by omega, (nI_succ o).symm, ?_, ?_, frm_trans hf4 hf5⟩
        · show _ = (if _ then _ else _ : Int32 × Int32).1
          rw [if_neg q]
        · show _ = (if _ then _ else _ : Int32 × Int32).2
          rw [if_neg q]
  by_cases q : p1 = 0
  · rw [if_pos q]
    exact mod _ (by rw [if_pos q]; exact v8)
  · rw [if_neg q]
    exact mod _ (by rw [if_neg q]; exact v7)

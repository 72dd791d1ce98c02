/-! ===== methods alike: count, check ===== -/
def goneC (f : Nat → Nat) : Nat → Nat
  | 0 => 0
  | i + 1 => goneC f i + (if f i = 0 then 1 else 0)
theorem x_gone {K : Int32 → sm_Mem → Prop} {g : GH} {μ : sm_Mem} (hg : gOk g) (hc : CA 1 g μ) (hK : K (nI (goneC (gSn g) (gN g))) μ) : w_D_gone K μ := by
  have h10 := hg.2.1
  unfold w_D_gone w_D_gone_4
  refine ⟨fun m x1 x2 μ2 => ∃ i, m = gN g - i ∧ i ≤ gN g ∧ x2 = nI i ∧ x1 = nI (goneC (gSn g) i) ∧ μ2 = μ, ⟨gN g, 0, rfl, Nat.zero_le _, rfl, rfl, rfl⟩, ?_⟩
  rintro m x1 x2 μ2 ⟨i, rfl, hi, rfl, rfl, rfl⟩
  dsimp only
  rw [hc.1.2.1]
  by_cases hin : i = gN g
  · subst hin
    rw [if_pos (nI_le_yes (by omega) (by omega) (Nat.le_refl _))]
    exact hK
  · rw [if_neg (nI_le_no (by omega) (by omega) (by omega))]
    have hlt : i < gN g := by omega
    have h3 := (hg.2.2.2.2.2.2.1 i hlt).2.2.1
    refine ⟨(vin_iff (by omega)).mpr (by omega), ?_⟩
    rw [ix_nI (by omega), show μ2 6 i = _ from (hc.2.2.2.1 i hlt).2.2.1]
    unfold w_D_gone_24
    by_cases q : gSn g i = 0
    · rw [if_pos (by rw [q]; rfl)]
      refine ⟨gN g - (i + 1), by omega, i + 1, rfl, by omega, (nI_succ i).symm, ?_, rfl⟩
      rw [goneC, if_pos q, nI_succ]
    · rw [if_neg (nI_ne0 (by omega) (by omega))]
      refine ⟨gN g - (i + 1), by omega, i + 1, rfl, by omega, (nI_succ i).symm, ?_, rfl⟩
      rw [goneC, if_neg q]
      rfl
theorem m_gone {K : Int32 → sm_Mem → Prop} {g : GH} {μ : sm_Mem} (hg : gOk g) (hc : MA 62 g μ) (hK : K (nI (goneC (gSn g) (gN g))) μ) : w_M_gone K μ := by
  have h10 := hg.2.1
  unfold w_M_gone w_M_gone_4
  refine ⟨fun m x1 x2 μ2 => ∃ i, m = gN g - i ∧ i ≤ gN g ∧ x2 = nI i ∧ x1 = nI (goneC (gSn g) i) ∧ μ2 = μ, ⟨gN g, 0, rfl, Nat.zero_le _, rfl, rfl, rfl⟩, ?_⟩
  rintro m x1 x2 μ2 ⟨i, rfl, hi, rfl, rfl, rfl⟩
  dsimp only
  rw [hc.1.2.1]
  by_cases hin : i = gN g
  · subst hin
    rw [if_pos (nI_le_yes (by omega) (by omega) (Nat.le_refl _))]
    exact hK
  · rw [if_neg (nI_le_no (by omega) (by omega) (by omega))]
    have hlt : i < gN g := by omega
    have h3 := (hg.2.2.2.2.2.2.1 i hlt).2.2.1
    refine m_its (f := 2) (by omega) (by omega) ?_
    rw [(hc.2.2.2.1 i hlt).2.2.1]
    unfold w_M_gone_30
    by_cases q : gSn g i = 0
    · rw [if_pos (by rw [q]; rfl)]
      intro v e
      refine ⟨gN g - (i + 1), by omega, i + 1, rfl, by omega, (nI_succ i).symm, ?_, rfl⟩
      rw [e, goneC, if_pos q, nI_succ]
    · rw [if_neg (nI_ne0 (by omega) (by omega))]
      intro v e
      refine ⟨gN g - (i + 1), by omega, i + 1, rfl, by omega, (nI_succ i).symm, ?_, rfl⟩
      rw [e, goneC, if_neg q]
      exact Int32.add_zero _
theorem T_count (n : Nat) (p0 : Int32) : Same n (fun K => w_X_count K p0) (fun K => w_M_count K p0) := by
  intro μ hR
  obtain ⟨⟨g, g1, g2, g3⟩, h15, hE, ⟨t, t1, t2, t3, t4⟩, _⟩ := id hR
  show w_X_count _ p0 μ
  unfold w_X_count
  intro v1 e1
  subst e1
  by_cases q0 : v1 = 0
  · rw [if_pos q0]
    show w_M_count _ v1 μ
    unfold w_M_count
    intro v2 e2
    subst e2
    rw [if_pos q0]
    exact ⟨(g2.1.1).trans (g3.1.1).symm, RR_q hR frq_rfl⟩
  rw [if_neg q0]
  by_cases q1 : v1 = 1
  · rw [if_pos q1]
    show w_M_count _ v1 μ
    unfold w_M_count
    intro v2 e2
    subst e2
    rw [if_neg q0, if_pos q1]
    exact ⟨(g2.1.2.1).trans (g3.1.2.1).symm, RR_q hR frq_rfl⟩
  rw [if_neg q1]
  by_cases q2 : v1 = 2
  · rw [if_pos q2]
    show w_M_count _ v1 μ
    unfold w_M_count
    intro v2 e2
    subst e2
    rw [if_neg q0, if_neg q1, if_pos q2]
    exact ⟨(g2.1.2.2.2.1).trans (g3.1.2.2.2.1).symm, RR_q hR frq_rfl⟩
  rw [if_neg q2]
  by_cases q3 : v1 = 3
  · rw [if_pos q3]
    show w_M_count _ v1 μ
    unfold w_M_count
    intro v2 e2
    subst e2
    rw [if_neg q0, if_neg q1, if_neg q2, if_pos q3]
    exact ⟨(g2.1.2.2.1).trans (g3.1.2.2.1).symm, RR_q hR frq_rfl⟩
  rw [if_neg q3]
  by_cases q4 : v1 = 4
  · rw [if_pos q4]
    refine x_snowOfAll g1.2.1 g2 ?_
    show w_M_count _ v1 μ
    unfold w_M_count
    intro v2 e2
    subst e2
    rw [if_neg q0, if_neg q1, if_neg q2, if_neg q3, if_pos q4]
    exact m_snowOfAll g1.M g3 ⟨rfl, RR_q hR frq_rfl⟩
  rw [if_neg q4]
  by_cases q5 : v1 = 5
  · rw [if_pos q5]
    refine x_gone g1 g2 ?_
    show w_M_count _ v1 μ
    unfold w_M_count
    intro v2 e2
    subst e2
    rw [if_neg q0, if_neg q1, if_neg q2, if_neg q3, if_neg q4, if_pos q5]
    exact m_gone g1 g3 ⟨rfl, RR_q hR frq_rfl⟩
  rw [if_neg q5]
  by_cases q6 : v1 = 6
  · rw [if_pos q6]
    show w_M_count _ v1 μ
    unfold w_M_count
    intro v2 e2
    subst e2
    rw [if_neg q0, if_neg q1, if_neg q2, if_neg q3, if_neg q4, if_neg q5, if_pos q6]
    exact ⟨(g2.1.2.2.2.2.1).trans (g3.1.2.2.2.2.1).symm, RR_q hR frq_rfl⟩
  rw [if_neg q6]
  by_cases q7 : v1 = 7
  · rw [if_pos q7]
    show w_M_count _ v1 μ
    unfold w_M_count
    intro v2 e2
    subst e2
    rw [if_neg q0, if_neg q1, if_neg q2, if_neg q3, if_neg q4, if_neg q5, if_neg q6, if_pos q7]
    exact ⟨(g2.1.2.2.2.2.2.1).trans (g3.1.2.2.2.2.2.1).symm, RR_q hR frq_rfl⟩
  rw [if_neg q7]
  by_cases q8 : v1 = 8
  · rw [if_pos q8]
    show w_M_count _ v1 μ
    unfold w_M_count
    intro v2 e2
    subst e2
    rw [if_neg q0, if_neg q1, if_neg q2, if_neg q3, if_neg q4, if_neg q5, if_neg q6, if_neg q7, if_pos q8]
    exact ⟨(t2).trans (t3).symm, RR_q hR frq_rfl⟩
  rw [if_neg q8]
  by_cases q9 : v1 = 9
  · rw [if_pos q9]
    show w_M_count _ v1 μ
    unfold w_M_count
    intro v2 e2
    subst e2
    rw [if_neg q0, if_neg q1, if_neg q2, if_neg q3, if_neg q4, if_neg q5, if_neg q6, if_neg q7, if_neg q8, if_pos q9]
    exact ⟨(g2.1.2.2.2.2.2.2).trans (g3.1.2.2.2.2.2.2).symm, RR_q hR frq_rfl⟩
  rw [if_neg q9]
  refine X_err1 ?_
  show w_M_count (fun r2 μ2 => -1000000001 = r2 ∧ RR (n + 1) μ2) v1 (sm_st μ 60 1 (μ 60 1 + 1))
  unfold w_M_count
  intro v2 e2
  subst e2
  rw [if_neg q0, if_neg q1, if_neg q2, if_neg q3, if_neg q4, if_neg q5, if_neg q6, if_neg q7, if_neg q8, if_neg q9]
  exact M_err1 ⟨rfl, RR_err hR rfl rfl⟩
theorem x_fill {K : sm_Mem → Prop} {a n : Nat} {v : Int32} {μ : sm_Mem} (ha : isArr a n) (hn : n < 2 ^ 31) (hK : ∀ μ2, fr [a] μ μ2 → (∀ j, j < n → μ2 a j = v) → K μ2) : w_JA_fill K a v n μ := by
  refine ⟨ha, ?_⟩
  intro v1 e1
  have e1 : v1 = nI n := e1
  subst e1
  unfold w_JA_fill_5
  refine ⟨fun m x2 μ2 => ∃ i, m = n - i ∧ i ≤ n ∧ x2 = nI i ∧ fr [a] μ μ2 ∧ ∀ j, j < i → μ2 a j = v, ⟨n, 0, rfl, Nat.zero_le _, rfl, fr_rfl, fun j hj => by omega⟩, ?_⟩
  rintro m x2 μ2 ⟨i, rfl, hi, rfl, hf, hs⟩
  dsimp only
  by_cases hin : i = n
  · subst hin
    rw [if_pos (nI_le_yes hn hn (Nat.le_refl _))]
    exact hK μ2 hf hs
  · rw [if_neg (nI_le_no (by omega) (by omega) (by omega))]
    refine ⟨(vin_iff (by omega)).mpr (by omega), ?_⟩
    intro μ4 e4
    rw [ix_nI (by omega)] at e4
    refine ⟨n - (i + 1), by omega, i + 1, rfl, by omega, (nI_succ i).symm, by rw [e4]; exact fr_st hf (by simp), fun j hj => ?_⟩
    rw [e4, st_same]
    by_cases q : j = i
    · rw [if_pos q]
    · rw [if_neg q]
      exact hs j (by omega)
def totA (g : GH) (i t : Nat) : Nat := sumN (fun j => leftA g j t) i
theorem x_firstWrong {K : Int32 → sm_Mem → Prop} {g : GH} {μ : sm_Mem} (hg : gOk g) (hc : CA 1 g μ) (hy : ∀ μ2, fr SX μ μ2 → (∀ s, s < gWn g → gWt g s = nI (totA g (gN g) (s + 1))) → K (-1) μ2) (hn : ∀ t μ2, t < gWn g → fr SX μ μ2 → (∀ s, s < t → gWt g s = nI (totA g (gN g) (s + 1))) → ¬ gWt g t = nI (totA g (gN g) (t + 1)) → K (nI t) μ2) : w_F_firstWrongTold K μ := by
  have h10 := hg.2.1
  have hW : gWn g ≤ 20 := hg.2.2.2.2.2.2.2.2.2
  unfold w_F_firstWrongTold
  refine x_fill sm_l40 (by omega) (fun μ1 hf1 hz => ?_)
  have f1 : fr SX μ μ1 := fr_mono hf1 (by simp)
  unfold w_F_firstWrongTold_10
  refine ⟨fun m x1 μ2 => ∃ i, m = gN g - i ∧ i ≤ gN g ∧ x1 = nI i ∧ fr SX μ μ2 ∧ ∀ t, t ≤ gWn g → μ2 40 t = nI (totA g i t), ⟨gN g, 0, rfl, Nat.zero_le _, rfl, f1, fun t ht => hz t (by omega)⟩, ?_⟩
  rintro m x1 μ2 ⟨i, rfl, hi, rfl, hf, hs⟩
  dsimp only
  have hc2 := CA_of hc hf
  rw [hc2.1.2.1]
  by_cases hin : i = gN g
  · subst hin
    rw [if_pos (nI_le_yes (by omega) (by omega) (Nat.le_refl _))]
    unfold w_F_firstWrongTold_91
    refine ⟨fun m x1 μ3 => ∃ t, m = gWn g - t ∧ t ≤ gWn g ∧ x1 = nI t ∧ μ3 = μ2 ∧ ∀ s, s < t → gWt g s = nI (totA g (gN g) (s + 1)), ⟨gWn g, 0, rfl, Nat.zero_le _, rfl, rfl, fun s hs => by omega⟩, ?_⟩
    rintro m x1 μ3 ⟨t, rfl, ht, rfl, rfl, he⟩
    dsimp only
    rw [hc2.1.2.2.2.2.2.1]
    by_cases hit : t = gWn g
    · subst hit
      rw [if_pos (nI_le_yes (by omega) (by omega) (Nat.le_refl _))]
      exact hy _ hf he
    · rw [if_neg (nI_le_no (by omega) (by omega) (by omega)), ← nI_succ]
      refine ⟨(vin_iff (by omega)).mpr (by omega), (vin_iff (by omega)).mpr (by omega), ?_⟩
      rw [ix_nI (by omega), ix_nI (by omega), show μ3 10 t = _ from hc2.2.2.2.2.2.1 t (by omega), hs (t + 1) (by omega)]
      by_cases q : gWt g t = nI (totA g (gN g) (t + 1))
      · rw [if_pos q]
        refine ⟨gWn g - (t + 1), by omega, t + 1, rfl, by omega, rfl, rfl, fun s hs2 => ?_⟩
        by_cases z : s < t
        · exact he s z
        · have : s = t := by omega
          subst this
          exact q
      · rw [if_neg q]
        exact hn t _ (by omega) hf he q
  · rw [if_neg (nI_le_no (by omega) (by omega) (by omega))]
    have hlt : i < gN g := by omega
    refine x_warmthAround hg hc2 hlt ?_
    rw [hc2.1.2.2.1, hc2.1.2.2.2.2.2.1]
    refine x_left hg hc2 hlt (by omega) (fun μ3 hf3 _ h40 hcr => ?_)
    have hf' := fr_trans hf hf3
    unfold w_F_firstWrongTold_51
    refine ⟨fun m x2 μ4 => ∃ t, m = gWn g + 1 - t ∧ t ≤ gWn g + 1 ∧ x2 = nI t ∧ fr [40] μ3 μ4 ∧ ∀ s, s ≤ gWn g → μ4 40 s = if s < t then nI (totA g (i + 1) s) else nI (totA g i s), ⟨gWn g + 1, 0, rfl, Nat.zero_le _, rfl, fr_rfl, fun s hs2 => ?_⟩, ?_⟩
    · rw [if_neg (by omega), h40]
      exact hs s hs2
    · rintro m x2 μ4 ⟨t, rfl, ht, rfl, hf4, ht4⟩
      dsimp only
      have hc4 := CA_of hc (fr_trans hf' (fr_mono hf4 (by simp)))
      rw [hc4.1.2.2.2.2.2.1]
      by_cases hit : t = gWn g + 1
      · subst hit
        rw [if_pos (nI_lt_yes (by omega) (by omega) (by omega))]
        refine ⟨gN g - (i + 1), by omega, i + 1, rfl, by omega, (nI_succ i).symm, fr_trans hf' (fr_mono hf4 (by simp)), fun s hs2 => ?_⟩
        rw [ht4 s hs2, if_pos (by omega)]
      · rw [if_neg (nI_lt_no (by omega) (by omega) (by omega))]
        have v61 : vp_in (nI t) 61 := (vin_iff (by omega)).mpr (by omega)
        refine ⟨v61, v61, v61, ?_⟩
        intro μ5 e5
        rw [ix_nI (by omega), ht4 t (by omega), if_neg (by omega), hf4 39 (by decide), hcr t (by omega), nI_add] at e5
        refine ⟨gWn g + 1 - (t + 1), by omega, t + 1, rfl, by omega, (nI_succ t).symm, by rw [e5]; exact fr_st hf4 (by simp), fun s hs2 => ?_⟩
        rw [e5, st_same]
        by_cases q : s = t
        · subst q
          rw [if_pos rfl, if_pos (by omega)]
          rfl
        · rw [if_neg q, ht4 s hs2]
          by_cases z : s < t
          · rw [if_pos z, if_pos (by omega)]
          · rw [if_neg z, if_neg (by omega)]
theorem m_oneHourF {K : sm_Mem → Prop} {g : GH} {wm : Nat} {μ : sm_Mem} (hg : gOkM g) (hc : MA 62 g μ) (hw : μ 61 15 = nI wm) (hK : ∀ μ2, frw μ μ2 → MA 62 (gPs g wm 1) μ2 → (∀ j, 101 ≤ j → μ2 62 j = μ 62 j) → K μ2) : w_M_oneHour K μ := by
  have h6 := hg.1
  have h10 := hg.2.1
  unfold w_M_oneHour w_M_oneHour_2
  refine ⟨fun m x1 μ2 => ∃ i, m = gN g - i ∧ i ≤ gN g ∧ x1 = nI i ∧ frw μ μ2 ∧ MA 62 (gSt g (fun k => if k < i then gSn (gPs g wm 1) k else gSn g k)) μ2 ∧ (∀ j, 101 ≤ j → μ2 62 j = μ 62 j), ⟨gN g, 0, rfl, Nat.zero_le _, rfl, frw_rfl, ?_, fun _ _ => rfl⟩, ?_⟩
  · have e : (fun k => if k < 0 then gSn (gPs g wm 1) k else gSn g k) = gSn g := by
      funext k
      rw [if_neg (by omega)]
    rw [e]
    exact hc
  · rintro m x1 μ2 ⟨i, rfl, hi, rfl, hf, hc2, hfj⟩
    dsimp only
    have h7 : μ2 62 7 = nI (gN g) := hc2.1.2.1
    have hg2 : gOkM (gSt g (fun k => if k < i then gSn (gPs g wm 1) k else gSn g k)) := ⟨hg.1, hg.2.1, hg.2.2.1, hg.2.2.2.1, hg.2.2.2.2.1, hg.2.2.2.2.2.1, fun k hk => ⟨(hg.2.2.2.2.2.2 k hk).1, (hg.2.2.2.2.2.2 k hk).2.1, by
      show (if k < i then gSn (gPs g wm 1) k else gSn g k) ≤ 999
      split
      · exact Nat.le_trans (lfN_le 1) (hg.2.2.2.2.2.2 k hk).2.2.1
      · exact (hg.2.2.2.2.2.2 k hk).2.2.1, (hg.2.2.2.2.2.2 k hk).2.2.2⟩⟩
    rw [h7]
    by_cases hin : i = gN g
    · subst hin
      rw [if_pos (nI_le_yes (by omega) (by omega) (Nat.le_refl _))]
      intro μ3 e3
      have h0 : μ2 62 0 = nI (gHo g) := hc2.1.2.2.2.1
      rw [h0, ← nI_succ] at e3
      refine hK μ3 (by rw [e3]; exact frw_st hf) ?_ (fun j hj => by rw [e3, st_same, if_neg (by omega)]; exact hfj j hj)
      rw [e3]
      have hm := MA_hour (h2 := gHo g + 1) hc2
      obtain ⟨b, a2, a3, a4, a5, a6, a7, a8⟩ := hm
      refine ⟨b, a2, a3, fun k hk => ?_, a5, a6, a7, a8⟩
      have hk : k < gN g := hk
      have h := a4 k hk
      refine ⟨h.1, h.2.1, ?_, h.2.2.2.1, h.2.2.2.2⟩
      have h3 : _ = nI (if k < gN g then gSn (gPs g wm 1) k else gSn g k) := h.2.2.1
      rw [if_pos hk] at h3
      exact h3
    · rw [if_neg (nI_le_no (by omega) (by omega) (by omega))]
      have hlt : i < gN g := by omega
      refine m_melts hg2 hc2 (by rw [hf.2 15 (by decide)]; exact hw) hlt (fun μ3 hf3 => ?_)
      have hc3 := MA_of hc2 hf3
      have hm := mN_le (kd := gKd g i) (hg.2.2.2.2.2.2 i hlt).2.1 (hN_eq (gHt g) (nI (gWa g (gAt g i) + wm)) (nI (gY g)) (nI (gHo g % 24))).2
      refine m_loses hg2 hc3 hlt (by show mN (gKd g i) (gMs g i) (hN (gHt g) (nI (gWa g (gAt g i) + wm)) (nI (gY g)) (nI (gHo g % 24))) < 2 ^ 30; omega) ?_
      have hs := MA_snow (s := (if i < i then gSn (gPs g wm 1) i else gSn g i) - mN (gKd g i) (gMs g i) (hN (gHt g) (nI (gWa g (gAt g i) + wm)) (nI (gY g)) (nI (gHo g % 24)))) hg2.2.1 hg2.1 hlt hc3
      refine ⟨gN g - (i + 1), by omega, i + 1, rfl, by omega, (nI_succ i).symm, frw_st (frw_trans hf hf3.w), ?_, fun j hj => by rw [st_same, if_neg (by omega), hf3.1 62 (by decide)]; exact hfj j hj⟩
      have e : (fun k => if k = i then (if i < i then gSn (gPs g wm 1) i else gSn g i) - mN (gKd g i) (gMs g i) (hN (gHt g) (nI (gWa g (gAt g i) + wm)) (nI (gY g)) (nI (gHo g % 24))) else (if k < i then gSn (gPs g wm 1) k else gSn g k)) = (fun k => if k < i + 1 then gSn (gPs g wm 1) k else gSn g k) := by
        funext k
        by_cases q : k = i
        · subst q
          rw [if_pos rfl, if_neg (Nat.lt_irrefl _), if_pos (Nat.lt_succ_self _)]
          rfl
        · rw [if_neg q]
          by_cases q2 : k < i
          · rw [if_pos q2, if_pos (by omega)]
          · rw [if_neg q2, if_neg (by omega)]
      rw [← e]
      exact hs
def gWc (g : GH) : GH := gMk g.1 (gP g) (gN g) (gY g) (gHo g) (gWa g) (gRo g) (gKd g) (gMs g) (gSn g) (gAt g) (gOw g) g.2.2.2.2.2.1 (0, gWt g) (gZ g)
theorem T_check (n : Nat) : Same n (fun K => w_X_check K) (fun K => w_M_check K) := by
  intro μ hR
  obtain ⟨⟨g, g1, g2, g3⟩, h15, _⟩ := id hR
  have hW : gWn g ≤ 20 := g1.2.2.2.2.2.2.2.2.2
  have hho := g1.2.2.2.1
  have ok : gOk (gWc g) := ⟨g1.1, g1.2.1, g1.2.2.1, g1.2.2.2.1, g1.2.2.2.2.1, g1.2.2.2.2.2.1, g1.2.2.2.2.2.2.1, g1.2.2.2.2.2.2.2.1, g1.2.2.2.2.2.2.2.2.1, Nat.zero_le _⟩
  show w_X_check _ μ
  unfold w_X_check
  have mod : ∀ (r1 : Int32) (μ1 μ3 : sm_Mem), fr SX μ μ1 → μ3 = sm_st μ1 1 16 0 → ((∀ s, s < gWn g → gWt g s = nI (totA g (gN g) (s + 1))) → r1 = 0) → (∀ t, t < gWn g → (∀ s, s < t → gWt g s = nI (totA g (gN g) (s + 1))) → ¬ gWt g t = nI (totA g (gN g) (t + 1)) → r1 = nI (t + 1)) → w_M_check (fun r2 μ2 => r1 = r2 ∧ RR (n + 1) μ2) μ3 := by
    intro r1 μ1 μ3 hf e3 hy hn
    have f3 : fr UX μ μ3 := by rw [e3]; exact fr_st (fr_mono hf (by simp)) (by simp)
    have c3 : CA 1 (gWc g) μ3 := by rw [e3]; exact CA_wclr g1.1 g1.2.1 (CA_of g2 hf)
    have m3 : MA 62 g μ3 := MA_fr g3 (f3 62 (by decide))
    unfold w_M_check
    intro v1 ev
    rw [m3.1.2.2.2.2.2.1] at ev
    subst ev
    intro μ4 e4
    have m4 : MA 62 (gWc g) μ4 := by rw [e4]; exact MA_wclr g1.1 g1.2.1 m3
    have w4 : ∀ s, s < gWn g → μ4 62 (151 + s) = gWt g s := fun s hs => by rw [e4, st_same, if_neg (by omega)]; exact m3.2.2.2.2.2.1 s hs
    refine m_save (fun μ5 hf5 hs5 => ?_)
    have m5 : MA 62 (gWc g) μ5 := MA_fr m4 (hf5 62 (by decide))
    have z35 : frz μ3 μ5 := frz_trans (by rw [e4]; exact (frw_st frw_rfl).z) (frz_of hf5 (by decide))
    unfold w_M_check_30
    have fin : ∀ (x2 x3 : Int32) (μ6 : sm_Mem), frw μ5 μ6 → (x3 = 0 → r1 = 1 + x2) → (¬ x3 = 0 → r1 = 0) → w_M_check_81 (fun r2 μ2 => r1 = r2 ∧ RR (n + 1) μ2) x2 x3 μ6 := by
      intro x2 x3 μ6 hf6 h0 h1
      unfold w_M_check_81
      refine m_load (μ0 := μ4) (fun j hj => by rw [hf6.1 64 (by decide)]; exact hs5 j hj) (fun μ7 hf7 hr => ?_)
      have m7 : MA 62 (gWc g) μ7 := MA_lt ok.1 ok.2.1 ok.2.2.2.2.2.2.2.1 ok.2.2.2.2.2.2.2.2.2 m4 hr
      have hRR : RR (n + 1) μ7 := RR_up2 hR ok c3 m7 f3 (frz_trans z35 (frz_trans hf6.z (frz_of hf7 (by decide))))
      by_cases q : x3 = 0
      · rw [if_pos q]
        exact ⟨h0 q, hRR⟩
      · rw [if_neg q]
        exact ⟨h1 q, hRR⟩
    refine ⟨fun m x2 x3 μ6 => ∃ k, x2 = nI k ∧ k ≤ gWn g ∧ frw μ5 μ6 ∧ (∀ s, s < k → gWt g s = nI (totA g (gN g) (s + 1))) ∧ ((x3 = 1 ∧ m = gWn g - k + 1 ∧ MA 62 (gPs (gWc g) 0 k) μ6 ∧ (∀ s, s < gWn g → μ6 62 (151 + s) = gWt g s)) ∨ (x3 = 0 ∧ m = 0 ∧ k < gWn g ∧ ¬ gWt g k = nI (totA g (gN g) (k + 1)))), ⟨gWn g + 1, 0, rfl, Nat.zero_le _, frw_rfl, fun s hs => by omega, Or.inl ⟨rfl, by omega, m5, fun s hs => by rw [hf5 62 (by decide)]; exact w4 s hs⟩⟩, ?_⟩
    rintro m x2 x3 μ6 ⟨k, rfl, hk, hf6, he, h⟩
    dsimp only
    rcases h with ⟨rfl, rfl, m6, w6⟩ | ⟨rfl, rfl, hkl, hne⟩
    · by_cases q : k = gWn g
      · subst q
        rw [if_pos (nI_le_yes (by omega) (by omega) (Nat.le_refl _))]
        exact fin _ _ μ6 hf6 (fun z => absurd z (by decide)) (fun _ => hy he)
      · rw [if_neg (nI_le_no (by omega) (by omega) (by omega)), if_neg (by decide)]
        refine m_oneHourF (wm := 0) (gPs_ok ok.M (by show gHo g + k ≤ 20000; omega)) m6 (by rw [hf6.2 15 (by decide), z35.2 15 (by decide), f3 61 (by decide)]; exact h15) (fun μ7 hf7 m7 hj7 => ?_)
        rw [gPs_s] at m7
        refine m_snowOfAll (g := gPs (gWc g) 0 (k + 1)) (gPs_ok ok.M (by show gHo g + (k + 1) ≤ 20000; omega)) m7 ?_
        have ev : nI (sumN (gSn (gPs (gWc g) 0 (k + 1))) (gN (gPs (gWc g) 0 (k + 1)))) = nI (totA g (gN g) (k + 1)) := rfl
        rw [ev, show (151 : Int32) + nI k = nI (151 + k) from nI_add 151 k]
        refine ⟨(vin_iff (by omega)).mpr (by omega), ?_⟩
        have w7 : ∀ s, s < gWn g → μ7 62 (151 + s) = gWt g s := fun s hs => by rw [hj7 _ (by omega)]; exact w6 s hs
        rw [ix_nI (by omega), w7 k (by omega)]
        by_cases z : nI (totA g (gN g) (k + 1)) = gWt g k
        · rw [if_pos z]
          unfold w_M_check_65
          rw [if_neg (by decide)]
          unfold w_M_check_76
          intro v e
          rw [← nI_succ] at e
          subst e
          refine ⟨gWn g - (k + 1) + 1, by omega, k + 1, rfl, by omega, frw_trans hf6 hf7, fun s hs => ?_, Or.inl ⟨rfl, rfl, m7, w7⟩⟩
          by_cases y : s < k
          · exact he s y
          · have : s = k := by omega
            subst this
            exact z.symm
        · rw [if_neg z]
          unfold w_M_check_65
          rw [if_pos rfl]
          unfold w_M_check_76
          intro v e
          rw [Int32.add_zero] at e
          subst e
          exact ⟨0, by omega, k, rfl, by omega, frw_trans hf6 hf7, he, Or.inr ⟨rfl, rfl, by omega, fun y => z y.symm⟩⟩
    · rw [if_neg (nI_le_no (by omega) (by omega) (by omega)), if_pos rfl]
      refine fin _ _ μ6 hf6 (fun _ => ?_) (fun z => absurd rfl z)
      rw [hn k hkl he hne]
      exact (Int32.add_comm _ _).trans (nI_succ k).symm |>.symm
  refine x_firstWrong g1 g2 (fun μ1 hf he => ?_) (fun t μ1 ht hf he hne => ?_)
  · intro μ3 e3
    exact mod _ μ1 μ3 hf e3 (fun _ => rfl) (fun s hs he2 hne => absurd (he s hs) hne)
  · intro μ3 e3
    refine mod _ μ1 μ3 hf e3 (fun h => absurd (h t ht) hne) (fun s hs he2 hne2 => ?_)
    have : s = t := by
      rcases (by omega : s < t ∨ s = t ∨ t < s) with h | h | h
      · exact absurd (he s h) hne2
      · exact h
      · exact absurd (he2 t h) hne
    subst this
    exact (nI_succ s).symm

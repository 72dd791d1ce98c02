/-! ===== methods alike: hours ===== -/
abbrev UX : List Nat := [1, 2, 3, 4, 5, 6, 7, 8, 9, 10, 14, 18, 37, 38, 39, 40, 41, 42]
theorem RR_up2 {n : Nat} {μ μ1 μ2 : sm_Mem} {g2 : GH} (h : RR n μ) (hok : gOk g2) (hc : CA 1 g2 μ1) (hm : MA 62 g2 μ2) (hf : fr UX μ μ1) (hz : frz μ1 μ2) : RR (n + 1) μ2 := by
  obtain ⟨_, h15, hr⟩ := h
  have hc2 : CA 1 g2 μ2 := CA_fr hc (fun k hk => hz.1 k (by revert k; decide))
  have f : ∀ k, k ∈ rxCells → μ2 k = μ k := fun k hk => (hz.1 k (by revert k; decide)).trans (hf k (by revert k; decide))
  refine ⟨⟨g2, hok, hc2, hm⟩, by rw [hz.2 15 (by decide), hf 61 (by decide)]; exact h15, ?_⟩
  exact rx_fr (by omega) hr f (by rw [hz.2 4 (by decide), hf 61 (by decide)]) (by rw [hz.2 5 (by decide), hf 61 (by decide)]) (by rw [hz.2 24 (by decide), hf 61 (by decide)])
theorem CA_hour {g : GH} {μ : sm_Mem} {h2 : Nat} (h : CA 1 g μ) : CA 1 (g.1, (gP g, gN g, gY g, h2), g.2.2) (sm_st μ 1 14 (nI h2)) := by
  obtain ⟨⟨b1, b2, b3, b4, b5, b6, b7⟩, a2, a3, a4, a5, a6, a7, a8⟩ := h
  have e1 : ∀ j, j ≠ 14 → sm_st μ 1 14 (nI h2) 1 j = μ 1 j := fun j hj => by rw [st_same, if_neg hj]
  have e2 : ∀ k, k ≠ 1 → sm_st μ 1 14 (nI h2) k = μ k := fun k hk => st_ne _ _ _ _ _ hk
  refine ⟨⟨?_, ?_, ?_, ?_, ?_, ?_, ?_⟩, fun p hp => ?_, fun a b ha hb => ?_, fun i hi => ?_, fun i hi => ?_, fun i hi => ?_, TX_fr a7 (e2 _ (by decide)) (e2 _ (by decide)) (e2 _ (by decide)), TX_fr a8 (e2 _ (by decide)) (e2 _ (by decide)) (e2 _ (by decide))⟩
  · rw [e1 _ (by decide)]; exact b1
  · rw [e1 _ (by decide)]; exact b2
  · rw [e1 _ (by decide)]; exact b3
  · rw [st_same, if_pos rfl]
  · rw [e1 _ (by decide)]; exact b5
  · rw [e1 _ (by decide)]; exact b6
  · rw [e1 _ (by decide)]; exact b7
  · rw [e2 _ (by decide)]; exact a2 p hp
  · rw [e2 _ (by decide)]; exact a3 a b ha hb
  · rw [e2 _ (by decide), e2 _ (by decide), e2 _ (by decide), e2 _ (by decide), e2 _ (by decide)]; exact a4 i hi
  · rw [e2 _ (by decide)]; exact a5 i hi
  · rw [e2 _ (by decide)]; exact a6 i hi
theorem gSt_ok {g : GH} (h : gOk g) {f : Nat → Nat} (hf : ∀ i, i < gN g → f i ≤ 999) : gOk (gSt g f) :=
  ⟨h.1, h.2.1, h.2.2.1, h.2.2.2.1, h.2.2.2.2.1, h.2.2.2.2.2.1, fun i hi => ⟨(h.2.2.2.2.2.2.1 i hi).1, (h.2.2.2.2.2.2.1 i hi).2.1, hf i hi, (h.2.2.2.2.2.2.1 i hi).2.2.2⟩, h.2.2.2.2.2.2.2⟩
theorem gPs_gok {g : GH} (h : gOk g) {wm n : Nat} (hn : gHo g + n ≤ 9999) : gOk (gPs g wm n) :=
  ⟨h.1, h.2.1, h.2.2.1, hn, h.2.2.2.2.1, h.2.2.2.2.2.1, fun i hi => ⟨(h.2.2.2.2.2.2.1 i hi).1, (h.2.2.2.2.2.2.1 i hi).2.1, Nat.le_trans (lfN_le n) (h.2.2.2.2.2.2.1 i hi).2.2.1, (h.2.2.2.2.2.2.1 i hi).2.2.2⟩, h.2.2.2.2.2.2.2⟩
theorem x_pass {K : sm_Mem → Prop} {g : GH} {n : Nat} {μ : sm_Mem} (hg : gOk g) (hc : CA 1 g μ) (hn : n ≤ 60) (hK : ∀ μ2, fr UX μ μ2 → CA 1 (gPs g 0 n) μ2 → K μ2) : w_X_pass K (nI n) μ := by
  have h6 := hg.1
  have h10 := hg.2.1
  unfold w_X_pass w_X_pass_2
  refine ⟨fun m x2 μ2 => ∃ i, m = gN g - i ∧ i ≤ gN g ∧ x2 = nI i ∧ fr UX μ μ2 ∧ CA 1 (gSt g (fun k => if k < i then leftA g k n else gSn g k)) μ2, ⟨gN g, 0, rfl, Nat.zero_le _, rfl, fr_rfl, ?_⟩, ?_⟩
  · have e : (fun k => if k < 0 then leftA g k n else gSn g k) = gSn g := by
      funext k
      rw [if_neg (by omega)]
    rw [e]
    exact hc
  · rintro m x2 μ2 ⟨i, rfl, hi, rfl, hf, hc2⟩
    dsimp only
    have h12 : μ2 1 12 = nI (gN g) := hc2.1.2.1
    have hg2 : gOk (gSt g (fun k => if k < i then leftA g k n else gSn g k)) := gSt_ok hg (fun k hk => by
      show (if k < i then leftA g k n else gSn g k) ≤ 999
      split
      · exact leftI_le hg hk
      · exact (hg.2.2.2.2.2.2.1 k hk).2.2.1)
    rw [h12]
    by_cases hin : i = gN g
    · subst hin
      rw [if_pos (nI_le_yes (by omega) (by omega) (Nat.le_refl _))]
      intro μ3 e3
      have h14 : μ2 1 14 = nI (gHo g) := hc2.1.2.2.2.1
      rw [h14, nI_add] at e3
      refine hK μ3 (by rw [e3]; exact fr_st hf (by simp)) ?_
      rw [e3]
      obtain ⟨b, a2, a3, a4, a5, a6, a7, a8⟩ := CA_hour (h2 := gHo g + n) hc2
      refine ⟨b, a2, a3, fun k hk => ?_, a5, a6, a7, a8⟩
      have hk : k < gN g := hk
      have h := a4 k hk
      refine ⟨h.1, h.2.1, ?_, h.2.2.2.1, h.2.2.2.2⟩
      have h3 : _ = nI (if k < gN g then leftA g k n else gSn g k) := h.2.2.1
      rw [if_pos hk] at h3
      exact h3
    · rw [if_neg (nI_le_no (by omega) (by omega) (by omega))]
      have hlt : i < gN g := by omega
      refine x_warmthAround hg2 hc2 hlt ?_
      rw [hc2.1.2.2.1]
      refine x_left hg2 hc2 hlt hn (fun μ3 hf3 _ _ _ => ?_)
      refine ⟨(vin_iff (by omega)).mpr (by omega), ?_⟩
      intro μ8 e8
      have ev : leftI (gSt g (fun k => if k < i then leftA g k n else gSn g k)) (nI (gWa (gSt g (fun k => if k < i then leftA g k n else gSn g k)) (gAt (gSt g (fun k => if k < i then leftA g k n else gSn g k)) i))) (nI (gY (gSt g (fun k => if k < i then leftA g k n else gSn g k)))) i n = leftA g i n := by
        show lfN (gHt g) (gKd g i) (gMs g i) (nI (gWa g (gAt g i))) (nI (gY g)) (gHo g) (if i < i then leftA g i n else gSn g i) n = _
        rw [if_neg (Nat.lt_irrefl i)]
        rfl
      rw [ev, ix_nI (by omega)] at e8
      refine ⟨gN g - (i + 1), by omega, i + 1, rfl, by omega, (nI_succ i).symm, by rw [e8]; exact fr_st (fr_trans hf (fr_mono hf3 (by simp))) (by simp), ?_⟩
      have hs := CA_sn (g := gSt g (fun k => if k < i then leftA g k n else gSn g k)) (v := leftA g i n) hlt hg2.1 hg2.2.1 (CA_of hc2 hf3)
      rw [e8]
      have e : (fup (gSn (gSt g (fun k => if k < i then leftA g k n else gSn g k))) i (leftA g i n)) = (fun k => if k < i + 1 then leftA g k n else gSn g k) := by
        funext k
        show (if k = i then leftA g i n else if k < i then leftA g k n else gSn g k) = _
        by_cases q : k = i
        · subst q
          rw [if_pos rfl, if_pos (Nat.lt_succ_self _)]
        · rw [if_neg q]
          by_cases q2 : k < i
          · rw [if_pos q2, if_pos (by omega)]
          · rw [if_neg q2, if_neg (by omega)]
      rw [← e]
      exact hs
theorem T_hours (n : Nat) (p0 : Int32) : Same n (fun K => w_X_hours K p0) (fun K => w_M_hours K p0) := by
  intro μ hR
  obtain ⟨⟨g, g1, g2, g3⟩, h15, _⟩ := id hR
  have hho := g1.2.2.2.1
  show w_X_hours _ p0 μ
  unfold w_X_hours
  refine X_in (fun q => ?_) (fun q => ?_)
  · rw [if_neg (by decide)]
    obtain ⟨t, ht, e⟩ := sm_ofle (n := 60) (by omega) (Int32.le_trans (by decide) q.1) q.2
    subst e
    rw [g2.1.2.2.2.1, nI_add]
    by_cases z : gHo g + t ≤ 9999
    · have z2 : nI (gHo g + t) ≤ 9999 := nI_le_yes (b := 9999) (by omega) (by omega) z
      rw [if_pos z2]
      refine x_pass g1 g2 ht (fun μ1 hf c1 => ?_)
      refine x_snowOfAll (g := gPs g 0 t) g1.2.1 c1 ?_
      show w_M_hours _ (nI t) μ1
      unfold w_M_hours
      refine M_in (fun _ => ?_) (fun y => absurd q y)
      have m1 := MA_fr (μ2 := μ1) g3 (hf 62 (by decide))
      rw [if_neg (by decide), m1.1.2.2.2.1, nI_add, if_pos z2]
      refine m_passes (wm := 0) g1.M m1 (by rw [hf 61 (by decide)]; exact h15) ht (by omega) (fun μ2 hf2 m2 => ?_)
      refine m_snowOfAll (gPs_ok g1.M (by omega)) m2 ⟨rfl, ?_⟩
      exact RR_up2 hR (gPs_gok g1 z) c1 m2 hf hf2.z
    · have z2 : ¬ nI (gHo g + t) ≤ 9999 := nI_le_no (b := 9999) (by omega) (by omega) (by omega)
      rw [if_neg z2]
      refine X_err3 ?_
      show w_M_hours (fun r2 μ2 => -1000000003 = r2 ∧ RR (n + 1) μ2) (nI t) (sm_st μ 60 3 (μ 60 3 + 1))
      unfold w_M_hours
      refine M_in (fun _ => ?_) (fun y => absurd q y)
      rw [if_neg (by decide), st_ne _ _ _ _ _ (by decide), g3.1.2.2.2.1, nI_add, if_neg z2]
      exact M_err3 ⟨rfl, RR_err hR rfl rfl⟩
  · rw [if_pos rfl]
    refine X_err1 ?_
    unfold w_M_hours
    refine M_in (fun z => absurd z q) (fun _ => ?_)
    rw [if_pos rfl]
    exact M_err1 ⟨rfl, RR_err hR rfl rfl⟩

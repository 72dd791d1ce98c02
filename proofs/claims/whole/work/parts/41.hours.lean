/-! ===== the model: hours, sums, copies ===== -/
def gPs (g : GH) (wm n : Nat) : GH := (g.1, (gP g, gN g, gY g, gHo g + n), gWa g, gRo g, (gKd g, gMs g, fun i => leftI g (nI (gWa g (gAt g i) + wm)) (nI (gY g)) i n, gAt g, gOw g), g.2.2.2.2.2)
theorem gPs_0 (g : GH) (wm : Nat) : gPs g wm 0 = g := rfl
theorem gPs_s (g : GH) (wm n : Nat) : gPs (gPs g wm n) wm 1 = gPs g wm (n + 1) := rfl
theorem gPs_ok {g : GH} (h : gOkM g) {wm n : Nat} (hn : gHo g + n ≤ 20000) : gOkM (gPs g wm n) :=
  ⟨h.1, h.2.1, h.2.2.1, hn, h.2.2.2.2.1, h.2.2.2.2.2.1, fun i hi => ⟨(h.2.2.2.2.2.2 i hi).1, (h.2.2.2.2.2.2 i hi).2.1, Nat.le_trans (lfN_le n) (h.2.2.2.2.2.2 i hi).2.2.1, (h.2.2.2.2.2.2 i hi).2.2.2⟩⟩
/-- the model's own numbers and its row may have changed, nothing else -/
def frw (μ μ2 : sm_Mem) : Prop := fr [61, 62] μ μ2 ∧ ∀ j, j ∉ [7, 8, 9, 10, 11, 12, 13, 14] → μ2 61 j = μ 61 j
theorem frw_rfl {μ : sm_Mem} : frw μ μ := ⟨fr_rfl, fun _ _ => rfl⟩
theorem frw_trans {a b c : sm_Mem} (h : frw a b) (g : frw b c) : frw a c := ⟨fr_trans h.1 g.1, fun j hj => (g.2 j hj).trans (h.2 j hj)⟩
theorem frm.w {a b : sm_Mem} (h : frm a b) : frw a b := ⟨fr_mono h.1 (by simp), h.2⟩
theorem frw_st {a b : sm_Mem} (h : frw a b) {j : Nat} {v : Int32} : frw a (sm_st b 62 j v) := ⟨fr_st h.1 (by simp), fun i hi => by rw [st_ne _ _ _ _ _ (by decide)]; exact h.2 i hi⟩
/-- the SNOW of the first i notes as behind n HOURS -/
def gSt (g : GH) (f : Nat → Nat) : GH := (g.1, g.2.1, gWa g, gRo g, (gKd g, gMs g, f, gAt g, gOw g), g.2.2.2.2.2)
theorem TM_st {u : Nat} {j : Nat} {v : Int32} {μ : sm_Mem} {o : Option pV} (hu : u ≤ 1) (h : TM u 62 μ o) (h1 : j ≠ 5 + u) (h2 : j < 171) : TM u 62 (sm_st μ 62 j v) o := by
  cases o with
  | none => show sm_st μ 62 j v 62 (5 + u) = -1; rw [st_same, if_neg (fun e => h1 e.symm)]; exact h
  | some w =>
    obtain ⟨n, cd, a1, a2, a3⟩ := h
    refine ⟨n, cd, a1, by rw [st_same, if_neg (fun e => h1 e.symm)]; exact a2, ?_⟩
    have e : bys (sm_st μ 62 j v 62) u = bys (μ 62) u := by
      funext i
      unfold bys
      by_cases q : i < 50
      · rw [if_pos q, if_pos q, st_same, if_neg (by omega)]
      · rw [if_neg q, if_neg q]
    rw [e]
    exact a3
/-- a note's SNOW in the row -/
theorem MA_snow {g : GH} {μ : sm_Mem} {i s : Nat} (hN : gN g ≤ 10) (hP : gP g ≤ 6) (hi : i < gN g) (h : MA 62 g μ) : MA 62 (gSt g (fun k => if k = i then s else gSn g k)) (sm_st μ 62 (51 + 5 * i + 2) (nI s)) := by
  obtain ⟨⟨b1, b2, b3, b4, b5, b6, b7⟩, a2, a3, a4, a5, a6, a7, a8⟩ := h
  refine ⟨⟨?_, ?_, ?_, ?_, ?_, ?_, ?_⟩, fun p hp => ?_, fun a b ha hb => ?_, fun k hk => ⟨?_, ?_, ?_, ?_, ?_⟩, fun k hk => ?_, fun k hk => ?_, TM_st (by omega) a7 (by omega) (by omega), TM_st (by omega) a8 (by omega) (by omega)⟩
  · rw [st_same, if_neg (by omega)]; exact b1
  · rw [st_same, if_neg (by omega)]; exact b2
  · rw [st_same, if_neg (by omega)]; exact b3
  · rw [st_same, if_neg (by omega)]; exact b4
  · rw [st_same, if_neg (by omega)]; exact b5
  · rw [st_same, if_neg (by omega)]; exact b6
  · rw [st_same, if_neg (by omega)]; exact b7
  · have hp : p < gP g := hp
    rw [st_same, if_neg (by omega)]; exact a2 p hp
  · have ha : a < gP g := ha
    have hb : b < gP g := hb
    rw [st_same, if_neg (by omega)]; exact a3 a b ha hb
  · rw [st_same, if_neg (by omega)]; exact (a4 k hk).1
  · rw [st_same, if_neg (by omega)]; exact (a4 k hk).2.1
  · rw [st_same]
    show _ = nI (if k = i then s else gSn g k)
    by_cases q : k = i
    · rw [if_pos (by omega), if_pos q]
    · rw [if_neg (by omega), if_neg q]; exact (a4 k hk).2.2.1
  · rw [st_same, if_neg (by omega)]; exact (a4 k hk).2.2.2.1
  · rw [st_same, if_neg (by omega)]; exact (a4 k hk).2.2.2.2
  · rw [st_same, if_neg (by omega)]; exact a5 k hk
  · rw [st_same, if_neg (by omega)]; exact a6 k hk
theorem MA_hour {g : GH} {μ : sm_Mem} {h2 : Nat} (h : MA 62 g μ) : MA 62 (g.1, (gP g, gN g, gY g, h2), g.2.2) (sm_st μ 62 0 (nI h2)) := by
  obtain ⟨⟨b1, b2, b3, b4, b5, b6, b7⟩, a2, a3, a4, a5, a6, a7, a8⟩ := h
  refine ⟨⟨?_, ?_, ?_, ?_, ?_, ?_, ?_⟩, fun p hp => ?_, fun a b ha hb => ?_, fun k hk => ?_, fun k hk => ?_, fun k hk => ?_, TM_st (by omega) a7 (by omega) (by omega), TM_st (by omega) a8 (by omega) (by omega)⟩
  · rw [st_same, if_neg (by omega)]; exact b1
  · rw [st_same, if_neg (by omega)]; exact b2
  · rw [st_same, if_neg (by omega)]; exact b3
  · rw [st_same, if_pos rfl]
  · rw [st_same, if_neg (by omega)]; exact b5
  · rw [st_same, if_neg (by omega)]; exact b6
  · rw [st_same, if_neg (by omega)]; exact b7
  · rw [st_same, if_neg (by omega)]; exact a2 p hp
  · rw [st_same, if_neg (by omega)]; exact a3 a b ha hb
  · rw [st_same, st_same, st_same, st_same, st_same, if_neg (by omega), if_neg (by omega), if_neg (by omega), if_neg (by omega), if_neg (by omega)]; exact a4 k hk
  · rw [st_same, if_neg (by omega)]; exact a5 k hk
  · rw [st_same, if_neg (by omega)]; exact a6 k hk
theorem m_loses {K : sm_Mem → Prop} {g : GH} {i v : Nat} {μ : sm_Mem} (hg : gOkM g) (hc : MA 62 g μ) (hi : i < gN g) (hv : v < 2 ^ 30) (hK : K (sm_st μ 62 (51 + 5 * i + 2) (nI (gSn g i - v)))) : w_M_loses K (nI i) (nI v) μ := by
  have h10 := hg.2.1
  have h3 := (hg.2.2.2.2.2.2 i hi).2.2.1
  have c3 := (hc.2.2.2.1 i hi).2.2.1
  unfold w_M_loses
  refine m_its (f := 2) (by omega) (by omega) ?_
  rw [c3]
  by_cases q : gSn g i ≤ v
  · rw [if_pos (nI_le_yes (by omega) (by omega) q)]
    unfold w_M_loses_25
    refine m_gets (f := 2) (by omega) (by omega) ?_
    rw [show gSn g i - v = 0 by omega] at hK
    exact hK
  · rw [if_neg (nI_le_no (by omega) (by omega) (by omega))]
    refine m_its (f := 2) (by omega) (by omega) ?_
    rw [c3, nI_sub (by omega)]
    unfold w_M_loses_25
    exact m_gets (f := 2) (by omega) (by omega) hK
theorem m_oneHour {K : sm_Mem → Prop} {g : GH} {wm : Nat} {μ : sm_Mem} (hg : gOkM g) (hc : MA 62 g μ) (hw : μ 61 15 = nI wm) (hK : ∀ μ2, frw μ μ2 → MA 62 (gPs g wm 1) μ2 → K μ2) : w_M_oneHour K μ := by
  have h6 := hg.1
  have h10 := hg.2.1
  unfold w_M_oneHour w_M_oneHour_2
  refine ⟨fun m x1 μ2 => ∃ i, m = gN g - i ∧ i ≤ gN g ∧ x1 = nI i ∧ frw μ μ2 ∧ MA 62 (gSt g (fun k => if k < i then gSn (gPs g wm 1) k else gSn g k)) μ2, ⟨gN g, 0, rfl, Nat.zero_le _, rfl, frw_rfl, ?_⟩, ?_⟩
  · have e : (fun k => if k < 0 then gSn (gPs g wm 1) k else gSn g k) = gSn g := by
      funext k
      rw [if_neg (by omega)]
    rw [e]
    exact hc
  · rintro m x1 μ2 ⟨i, rfl, hi, rfl, hf, hc2⟩
    dsimp only
    have h7 : μ2 62 7 = nI (gN g) := hc2.1.2.1
    have hg2 : gOkM (gSt g (fun k => if k < i then gSn (gPs g wm 1) k else gSn g k)) := ⟨hg.1, hg.2.1, hg.2.2.1, hg.2.2.2.1, hg.2.2.2.2.1, hg.2.2.2.2.2.1, fun k hk => ⟨(hg.2.2.2.2.2.2 k hk).1, (hg.2.2.2.2.2.2 k hk).2.1, by
      show (if k < i then gSn (gPs g wm 1) k else gSn g k) ≤ 999
      split
      · exact Nat.le_trans (lfN_le 1) (hg.2.2.2.2.2.2 k hk).2.2.1
      · exact (hg.2.2.2.2.2.2 k hk).2.2.1, (hg.2.2.2.2.2.2 k hk).2.2.2⟩⟩
    rw [h7]
    by_cases hin : i = gN g
    · subst hin
      rw [if_pos (nI_le_yes (by omega) (by omega) (Nat.le_refl _))]
      intro μ3 e3
      have h0 : μ2 62 0 = nI (gHo g) := hc2.1.2.2.2.1
      rw [h0, ← nI_succ] at e3
      refine hK μ3 (by rw [e3]; exact frw_st hf) ?_
      rw [e3]
      have hm := MA_hour (h2 := gHo g + 1) hc2
      obtain ⟨b, a2, a3, a4, a5, a6, a7, a8⟩ := hm
      refine ⟨b, a2, a3, fun k hk => ?_, a5, a6, a7, a8⟩
      have hk : k < gN g := hk
      have h := a4 k hk
      refine ⟨h.1, h.2.1, ?_, h.2.2.2.1, h.2.2.2.2⟩
      have h3 : _ = nI (if k < gN g then gSn (gPs g wm 1) k else gSn g k) := h.2.2.1
      rw [if_pos hk] at h3
      exact h3
    · rw [if_neg (nI_le_no (by omega) (by omega) (by omega))]
      have hlt : i < gN g := by omega
      refine m_melts hg2 hc2 (by rw [hf.2 15 (by decide)]; exact hw) hlt (fun μ3 hf3 => ?_)
      have hc3 := MA_of hc2 hf3
      have hm := mN_le (kd := gKd g i) (hg.2.2.2.2.2.2 i hlt).2.1 (hN_eq (gHt g) (nI (gWa g (gAt g i) + wm)) (nI (gY g)) (nI (gHo g % 24))).2
      refine m_loses hg2 hc3 hlt (by show mN (gKd g i) (gMs g i) (hN (gHt g) (nI (gWa g (gAt g i) + wm)) (nI (gY g)) (nI (gHo g % 24))) < 2 ^ 30; omega) ?_
      have hs := MA_snow (s := (if i < i then gSn (gPs g wm 1) i else gSn g i) - mN (gKd g i) (gMs g i) (hN (gHt g) (nI (gWa g (gAt g i) + wm)) (nI (gY g)) (nI (gHo g % 24)))) hg2.2.1 hg2.1 hlt hc3
      refine ⟨gN g - (i + 1), by omega, i + 1, rfl, by omega, (nI_succ i).symm, frw_st (frw_trans hf hf3.w), ?_⟩
      have e : (fun k => if k = i then (if i < i then gSn (gPs g wm 1) i else gSn g i) - mN (gKd g i) (gMs g i) (hN (gHt g) (nI (gWa g (gAt g i) + wm)) (nI (gY g)) (nI (gHo g % 24))) else (if k < i then gSn (gPs g wm 1) k else gSn g k)) = (fun k => if k < i + 1 then gSn (gPs g wm 1) k else gSn g k) := by
        funext k
        by_cases q : k = i
        · subst q
          rw [if_pos rfl, if_neg (Nat.lt_irrefl _), if_pos (Nat.lt_succ_self _)]
          rfl
        · rw [if_neg q]
          by_cases q2 : k < i
          · rw [if_pos q2, if_pos (by omega)]
          · rw [if_neg q2, if_neg (by omega)]
      rw [← e]
      exact hs
theorem m_passes {K : sm_Mem → Prop} {g : GH} {wm n : Nat} {μ : sm_Mem} (hg : gOkM g) (hc : MA 62 g μ) (hw : μ 61 15 = nI wm) (hn : n ≤ 60) (hh : gHo g + n ≤ 20000) (hK : ∀ μ2, frw μ μ2 → MA 62 (gPs g wm n) μ2 → K μ2) : w_M_passes K (nI n) μ := by
  unfold w_M_passes w_M_passes_2
  refine ⟨fun m x2 μ2 => ∃ t, m = n - t ∧ t ≤ n ∧ x2 = nI t ∧ frw μ μ2 ∧ MA 62 (gPs g wm t) μ2, ⟨n, 0, rfl, Nat.zero_le _, rfl, frw_rfl, hc⟩, ?_⟩
  rintro m x2 μ2 ⟨t, rfl, ht, rfl, hf, hc2⟩
  dsimp only
  by_cases hin : t = n
  · subst hin
    rw [if_pos (nI_le_yes (by omega) (by omega) (Nat.le_refl _))]
    exact hK μ2 hf hc2
  · rw [if_neg (nI_le_no (by omega) (by omega) (by omega))]
    refine m_oneHour (wm := wm) (gPs_ok hg (by omega)) hc2 (by rw [hf.2 15 (by decide)]; exact hw) (fun μ3 hf3 hc3 => ?_)
    exact ⟨n - (t + 1), by omega, t + 1, rfl, by omega, (nI_succ t).symm, frw_trans hf hf3, hc3⟩

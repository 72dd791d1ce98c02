/-! ===== methods alike: changes ===== -/
abbrev UC : List Nat := [1, 2, 3, 4, 5, 6, 7, 8, 9, 10, 62]
theorem RR_upd {n : Nat} {μ μ2 : sm_Mem} {g2 : GH} (h : RR n μ) (hok : gOk g2) (hc : CA 1 g2 μ2) (hm : MA 62 g2 μ2) (hf : fr UC μ μ2) : RR (n + 1) μ2 := by
  obtain ⟨_, h15, hr⟩ := h
  refine ⟨⟨g2, hok, hc, hm⟩, by rw [hf 61 (by decide)]; exact h15, ?_⟩
  exact rx_fr (by omega) hr (fun k hk => hf k (by revert k; decide)) (by rw [hf 61 (by decide)]) (by rw [hf 61 (by decide)]) (by rw [hf 61 (by decide)])
theorem CA_62 {g : GH} {μ : sm_Mem} {j : Nat} {v : Int32} (h : CA 1 g μ) : CA 1 g (sm_st μ 62 j v) := CA_fr h (fun k hk => st_ne _ _ _ _ _ (by revert k; decide))
theorem MA_ne {g : GH} {μ : sm_Mem} {c j : Nat} {v : Int32} (h : MA 62 g μ) (hc : c ≠ 62) : MA 62 g (sm_st μ c j v) := MA_fr h (st_ne _ _ _ _ _ (fun e => hc e.symm))
theorem m_becomes {K : Int32 → sm_Mem → Prop} {i : Nat} {v : Int32} {μ : sm_Mem} (hi : i < 271) (hK : K (μ 62 i) (sm_st μ 62 i v)) : w_M_becomes K (nI i) v μ := by
  unfold w_M_becomes
  refine ⟨(vin_iff (by omega)).mpr hi, ?_⟩
  intro v2 e2
  refine ⟨(vin_iff (by omega)).mpr hi, ?_⟩
  intro μ4 e4
  rw [ix_nI (by omega)] at e2 e4
  rw [e2, e4]
  exact hK
theorem T_weather (n : Nat) (p0 : Int32) : Same n (fun K => w_X_weather K p0) (fun K => w_M_weather K p0) := by
  intro μ hR
  obtain ⟨⟨g, g1, g2, g3⟩, h15, _⟩ := id hR
  show w_X_weather _ p0 μ
  unfold w_X_weather
  refine X_in (fun q => ?_) (fun q => ?_)
  · rw [if_neg (by decide)]
    intro v4 e4 μ5 e5
    obtain ⟨a, ha, e⟩ := sm_ofle (n := 9) (by omega) q.1 q.2
    subst e
    unfold w_M_weather
    refine M_in (fun _ => ?_) (fun z => absurd q z)
    rw [if_neg (by decide)]
    refine m_becomes (i := 8) (by omega) ?_
    have m1 : MA 62 g μ5 := by rw [e5]; exact MA_ne g3 (by decide)
    refine ⟨?_, RR_upd hR (g2 := gMk g.1 (gP g) (gN g) a (gHo g) (gWa g) (gRo g) (gKd g) (gMs g) (gSn g) (gAt g) (gOw g) g.2.2.2.2.2.1 g.2.2.2.2.2.2.1 (gZ g)) ⟨g1.1, g1.2.1, ha, g1.2.2.2⟩ (CA_62 (by rw [e5]; exact CA_y g1.1 g1.2.1 g2)) (MA_y g1.1 g1.2.1 m1) (fr_st (by rw [e5]; exact fr_st fr_rfl (by simp)) (by simp))⟩
    rw [e4, m1.1.2.2.1]
    exact g2.1.2.2.1
  · rw [if_pos rfl]
    refine X_err1 ?_
    unfold w_M_weather
    refine M_in (fun z => absurd z q) (fun _ => ?_)
    rw [if_pos rfl]
    exact M_err1 ⟨rfl, RR_err hR rfl rfl⟩
theorem T_seed (n : Nat) (p0 : Int32) : Same n (fun K => w_X_seed K p0) (fun K => w_M_seed K p0) := by
  intro μ hR
  obtain ⟨⟨g, g1, g2, g3⟩, h15, _⟩ := id hR
  show w_X_seed _ p0 μ
  unfold w_X_seed
  intro v1 e1 μ2 e2
  unfold w_M_seed
  intro v3 e3 μ4 e4
  have m1 : MA 62 g μ2 := by rw [e2]; exact MA_ne g3 (by decide)
  refine ⟨?_, ?_⟩
  · rw [e1, e3, m1.1.2.2.2.2.2.2]
    exact g2.1.2.2.2.2.2.2
  · rw [e4]
    exact RR_upd hR (g2 := gMk g.1 (gP g) (gN g) (gY g) (gHo g) (gWa g) (gRo g) (gKd g) (gMs g) (gSn g) (gAt g) (gOw g) g.2.2.2.2.2.1 g.2.2.2.2.2.2.1 p0) g1 (CA_62 (by rw [e2]; exact CA_z g1.1 g1.2.1 g2)) (MA_z g1.1 g1.2.1 m1) (fr_st (by rw [e2]; exact fr_st fr_rfl (by simp)) (by simp))
theorem T_warm (n : Nat) (p0 p1 : Int32) : Same n (fun K => w_X_warm K p0 p1) (fun K => w_M_warm K p0 p1) := by
  intro μ hR
  obtain ⟨⟨g, g1, g2, g3⟩, h15, _⟩ := id hR
  have h6 := g1.1
  have bad : ¬ ((0 ≤ p0 ∧ p0 < nI (gP g)) ∧ (0 ≤ p1 ∧ p1 ≤ 9)) → w_X_warm_21 (fun r1 μ1 => w_M_warm (fun r2 μ2 => r1 = r2 ∧ RR (n + 1) μ2) p0 p1 μ1) p0 p1 μ := by
    intro hb
    unfold w_X_warm_21
    refine X_err1 ?_
    have e30 : w_M_warm_30 (fun r2 μ2 => -1000000001 = r2 ∧ RR (n + 1) μ2) p0 p1 (sm_st μ 60 1 (μ 60 1 + 1)) := by
      unfold w_M_warm_30
      exact M_err1 ⟨rfl, RR_err hR rfl rfl⟩
    unfold w_M_warm
    refine m_isPlace_eq g1.1 (by rw [st_ne _ _ _ _ _ (by decide)]; exact g3.1.1) (fun q0 => ?_) (fun q0 => by rw [if_pos rfl]; exact e30)
    rw [if_neg (by decide)]
    refine M_in (fun q1 => absurd ⟨q0, q1⟩ hb) (fun q1 => by rw [if_pos rfl]; exact e30)
  show w_X_warm _ p0 p1 μ
  unfold w_X_warm
  refine x_hasPlace_eq g2.1.1 (fun q0 => ?_) (fun q0 => by rw [if_pos rfl]; exact bad (fun z => q0 z.1))
  rw [if_neg (by decide)]
  refine X_in (fun q1 => ?_) (fun q1 => by rw [if_pos rfl]; exact bad (fun z => q1 z.2))
  rw [if_neg (by decide)]
  obtain ⟨p, hp, e⟩ := sm_of (by omega) q0.1 q0.2
  subst e
  obtain ⟨v, hv, e⟩ := sm_ofle (n := 9) (by omega) q1.1 q1.2
  subst e
  refine ⟨(vin_iff (by omega)).mpr (by omega), ?_⟩
  intro v10 e10
  refine ⟨(vin_iff (by omega)).mpr (by omega), ?_⟩
  intro μ12 e12
  rw [ix_nI (by omega)] at e10 e12
  unfold w_M_warm
  have m1 : MA 62 g μ12 := by rw [e12]; exact MA_ne g3 (by decide)
  refine m_isPlace_eq g1.1 m1.1.1 (fun _ => ?_) (fun z => absurd q0 z)
  rw [if_neg (by decide)]
  refine M_in (fun _ => ?_) (fun z => absurd q1 z)
  rw [if_neg (by decide), show (9 : Int32) + nI p = nI (9 + p) from nI_add 9 p]
  refine m_becomes (by omega) ⟨?_, ?_⟩
  · rw [e10, m1.2.1 p hp]
    exact g2.2.1 p hp
  · refine RR_upd hR (g2 := gMk g.1 (gP g) (gN g) (gY g) (gHo g) (fup (gWa g) p v) (gRo g) (gKd g) (gMs g) (gSn g) (gAt g) (gOw g) g.2.2.2.2.2.1 g.2.2.2.2.2.2.1 (gZ g)) ⟨g1.1, g1.2.1, g1.2.2.1, g1.2.2.2.1, fun k hk => ?_, g1.2.2.2.2.2⟩ (CA_62 (by rw [e12]; exact CA_wa hp g1.1 g1.2.1 g2)) (MA_wa hp g1.1 g1.2.1 m1) (fr_st (by rw [e12]; exact fr_st fr_rfl (by simp)) (by simp))
    show fup (gWa g) p v k ≤ 9
    unfold fup
    split
    · exact hv
    · exact g1.2.2.2.2.1 k hk
theorem T_told (n : Nat) (p0 : Int32) : Same n (fun K => w_X_told K p0) (fun K => w_M_told K p0) := by
  intro μ hR
  obtain ⟨_, _, hE, _⟩ := id hR
  show w_X_told _ p0 μ
  unfold w_X_told
  refine X_in (fun q => ?_) (fun q => ?_)
  · rw [if_neg (by decide)]
    obtain ⟨a, ha, e⟩ := sm_ofle (n := 5) (by omega) (Int32.le_trans (by decide) q.1) q.2
    subst e
    refine ⟨(vin_iff (by omega)).mpr (by omega), ?_⟩
    unfold w_M_told
    refine M_in (fun _ => ?_) (fun z => absurd q z)
    rw [if_neg (by decide)]
    refine ⟨(vin_iff (by omega)).mpr (by omega), ?_⟩
    rw [ix_nI (by omega)]
    exact ⟨(hE a ha).symm, RR_q hR frq_rfl⟩
  · rw [if_pos rfl]
    refine X_err1 ?_
    unfold w_M_told
    refine M_in (fun z => absurd z q) (fun _ => ?_)
    rw [if_pos rfl]
    exact M_err1 ⟨rfl, RR_err hR rfl rfl⟩
theorem T_tell (n : Nat) (p0 : Int32) : Same n (fun K => w_X_tell K p0) (fun K => w_M_tell K p0) := by
  intro μ hR
  obtain ⟨⟨g, g1, g2, g3⟩, h15, _⟩ := id hR
  have hW := g1.2.2.2.2.2.2.2.2.2
  have hT := g1.2.2.2.2.2.2.2.1
  show w_X_tell _ p0 μ
  unfold w_X_tell
  rw [g2.1.2.2.2.2.2.1]
  by_cases q : gWn g < 20
  · have q20 : nI (gWn g) < 20 := nI_lt_yes (b := 20) (by omega) (by omega) q
    rw [if_pos q20]
    refine ⟨(vin_iff (by omega)).mpr (by omega), ?_⟩
    intro μ3 e3 μ4 e4
    rw [ix_nI (by omega)] at e3
    have w3 : μ3 1 16 = nI (gWn g) := by rw [e3, st_ne _ _ _ _ _ (by decide)]; exact g2.1.2.2.2.2.2.1
    rw [w3, ← nI_succ] at e4
    have m4 : MA 62 g μ4 := by rw [e4, e3]; exact MA_ne (MA_ne g3 (by decide)) (by decide)
    unfold w_M_tell
    have nq : ¬ nI (gWn g) = 20 := fun e => absurd ((nI_inj (b := 20) (by omega) (by omega)).mp e) (by omega)
    have e151 : (151 : Int32) + nI (gWn g) = nI (151 + gWn g) := nI_add 151 _
    rw [m4.1.2.2.2.2.2.1, if_neg nq, e151]
    refine ⟨(vin_iff (by omega)).mpr (by omega), ?_⟩
    intro μ5 e5 μ6 e6
    rw [ix_nI (by omega)] at e5
    have w5 : μ5 62 4 = nI (gWn g) := by rw [e5, st_same, if_neg (by omega)]; exact m4.1.2.2.2.2.2.1
    rw [w5, ← nI_succ] at e6
    refine ⟨?_, ?_⟩
    · rw [e6, st_same, if_pos rfl, e4, st_same, if_pos rfl]
    · rw [e6, e5]
      exact RR_upd hR (g2 := gMk g.1 (gP g) (gN g) (gY g) (gHo g) (gWa g) (gRo g) (gKd g) (gMs g) (gSn g) (gAt g) (gOw g) g.2.2.2.2.2.1 (gWn g + 1, fun k => if k = gWn g then p0 else gWt g k) (gZ g)) ⟨g1.1, g1.2.1, g1.2.2.1, g1.2.2.2.1, g1.2.2.2.2.1, g1.2.2.2.2.2.1, g1.2.2.2.2.2.2.1, hT, g1.2.2.2.2.2.2.2.2.1, by show gWn g + 1 ≤ 20; omega⟩ (CA_62 (CA_62 (by rw [e4, e3]; exact CA_tell g1.1 g1.2.1 q hT g2))) (MA_tell g1.1 g1.2.1 q hT m4) (fr_st (fr_st (by rw [e4, e3]; exact fr_st (fr_st fr_rfl (by simp)) (by simp)) (by simp)) (by simp))
  · have q20 : ¬ nI (gWn g) < 20 := nI_lt_no (b := 20) (by omega) (by omega) (by omega)
    rw [if_neg q20]
    refine X_err4 ?_
    show w_M_tell (fun r2 μ2 => -1000000004 = r2 ∧ RR (n + 1) μ2) p0 (sm_st μ 60 4 (μ 60 4 + 1))
    unfold w_M_tell
    have e20 : nI (gWn g) = 20 := by rw [show gWn g = 20 by omega]; rfl
    rw [st_ne _ _ _ _ _ (by decide), g3.1.2.2.2.2.2.1, if_pos e20]
    exact M_err4 ⟨rfl, RR_err hR rfl rfl⟩

theorem T_become (n : Nat) (p0 p1 : Int32) : Same n (fun K => w_X_become K p0 p1) (fun K => w_M_become K p0 p1) := by
  intro μ hR
  obtain ⟨⟨g, g1, g2, g3⟩, h15, _⟩ := id hR
  have h10 := g1.2.1
  have bad : ¬ ((0 ≤ p0 ∧ p0 < nI (gN g)) ∧ (0 ≤ p1 ∧ p1 ≤ 69)) → w_X_become_21 (fun r1 μ1 => w_M_become (fun r2 μ2 => r1 = r2 ∧ RR (n + 1) μ2) p0 p1 μ1) p0 p1 μ := by
    intro hb
    unfold w_X_become_21
    refine X_err1 ?_
    have e30 : w_M_become_18 (fun r2 μ2 => -1000000001 = r2 ∧ RR (n + 1) μ2) p0 p1 (sm_st μ 60 1 (μ 60 1 + 1)) := by
      unfold w_M_become_18
      exact M_err1 ⟨rfl, RR_err hR rfl rfl⟩
    unfold w_M_become
    refine m_isNote_eq g1.2.1 (by rw [st_ne _ _ _ _ _ (by decide)]; exact g3.1.2.1) (fun q0 => ?_) (fun q0 => by rw [if_pos rfl]; exact e30)
    rw [if_neg (by decide)]
    refine M_in (fun q1 => absurd ⟨q0, q1⟩ hb) (fun q1 => by rw [if_pos rfl]; exact e30)
  show w_X_become _ p0 p1 μ
  unfold w_X_become
  refine x_hasNote_eq g2.1.2.1 (fun q0 => ?_) (fun q0 => by rw [if_pos rfl]; exact bad (fun z => q0 z.1))
  rw [if_neg (by decide)]
  refine X_in (fun q1 => ?_) (fun q1 => by rw [if_pos rfl]; exact bad (fun z => q1 z.2))
  rw [if_neg (by decide)]
  obtain ⟨i, hi, e⟩ := sm_of (by omega) q0.1 q0.2
  subst e
  obtain ⟨v, hv, e⟩ := sm_ofle (n := 69) (by omega) q1.1 q1.2
  subst e
  have ed : nI v / (10 : Int32) = nI (v / 10) := nI_div (b := 10) (by omega) (by omega)
  have em : nI v % (10 : Int32) = nI (v % 10) := nI_mod (b := 10) (by omega) (by omega)
  have vi : vp_in (nI i) 10 := (vin_iff (by omega)).mpr (by omega)
  refine ⟨vi, ?_⟩
  intro v10 e10
  refine ⟨vi, ?_⟩
  intro μ12 e12
  refine ⟨vi, ?_⟩
  intro μ14 e14
  rw [ix_nI (by omega)] at e10 e12 e14
  rw [ed] at e12
  rw [em] at e14
  show w_M_become _ (nI i) (nI v) μ14
  unfold w_M_become
  have m1 : MA 62 g μ14 := by rw [e14, e12]; exact MA_ne (MA_ne g3 (by decide)) (by decide)
  refine m_isNote_eq g1.2.1 m1.1.2.1 (fun _ => ?_) (fun z => absurd q0 z)
  rw [if_neg (by decide)]
  refine M_in (fun _ => ?_) (fun z => absurd q1 z)
  rw [if_neg (by decide), ed, em]
  refine m_gets (f := 1) (by omega) (by omega) ?_
  rw [show (51 : Int32) + (5 * nI i) = nI (51 + 5 * i) by rw [show (5 : Int32) * nI i = nI (5 * i) from nI_mul 5 i]; exact nI_add 51 _]
  refine m_becomes (by omega) ⟨?_, ?_⟩
  · rw [e10, st_same, if_neg (by omega), (m1.2.2.2.1 i hi).1]
    exact (g2.2.2.2.1 i hi).1
  · refine RR_upd hR (g2 := gMk g.1 (gP g) (gN g) (gY g) (gHo g) (gWa g) (gRo g) (fup (gKd g) i (v / 10)) (fup (gMs g) i (v % 10)) (gSn g) (gAt g) (gOw g) g.2.2.2.2.2.1 g.2.2.2.2.2.2.1 (gZ g)) ⟨g1.1, g1.2.1, g1.2.2.1, g1.2.2.2.1, g1.2.2.2.2.1, g1.2.2.2.2.2.1, fun k hk => ?_, g1.2.2.2.2.2.2.2⟩ (CA_62 (CA_62 (by rw [e14, e12]; exact CA_become hi g1.1 g1.2.1 g2))) (MA_become hi g1.1 g1.2.1 m1) (fr_st (fr_st (by rw [e14, e12]; exact fr_st (fr_st fr_rfl (by simp)) (by simp)) (by simp)) (by simp))
    obtain ⟨k1, k2, k3, k4, k5⟩ := g1.2.2.2.2.2.2.1 k hk
    refine ⟨?_, ?_, k3, k4, k5⟩
    · show fup (gKd g) i (v / 10) k ≤ 6
      unfold fup
      split <;> omega
    · show fup (gMs g) i (v % 10) k ≤ 9
      unfold fup
      split <;> omega
theorem T_trace (n : Nat) (p0 : Int32) : Same n (fun K => w_X_trace K p0) (fun K => w_M_trace K p0) := by
  intro μ hR
  obtain ⟨_, _, _, ⟨t, t1, t2, t3, t4⟩, _⟩ := id hR
  show w_X_trace _ p0 μ
  unfold w_X_trace
  rw [t2]
  refine X_in (fun q => ?_) (fun q => ?_)
  · rw [if_neg (by decide)]
    obtain ⟨a, ha, e⟩ := sm_of (by omega) q.1 ((le_pred (by omega)).mp q.2)
    subst e
    refine ⟨(vin_iff (by omega)).mpr (by omega), ?_⟩
    show w_M_trace _ (nI a) μ
    unfold w_M_trace
    rw [t3]
    refine M_in (fun _ => ?_) (fun z => absurd q z)
    rw [if_neg (by decide)]
    refine ⟨(vin_iff (by omega)).mpr (by omega), ?_⟩
    rw [ix_nI (by omega)]
    exact ⟨(t4 a ha).symm, RR_q hR frq_rfl⟩
  · rw [if_pos rfl]
    refine X_err2 ?_
    show w_M_trace (fun r2 μ2 => -1000000002 = r2 ∧ RR (n + 1) μ2) p0 (sm_st μ 60 2 (μ 60 2 + 1))
    unfold w_M_trace
    rw [st_ne _ _ _ _ _ (by decide), t3]
    refine M_in (fun z => absurd z q) (fun _ => ?_)
    rw [if_pos rfl]
    exact M_err2 ⟨rfl, RR_err hR rfl rfl⟩
theorem x_roadBetween {K : Int32 → sm_Mem → Prop} {g : GH} {a b : Nat} {μ : sm_Mem} (hg : gOk g) (hc : CA 1 g μ) (ha : a < gP g) (hb : b < gP g) (hK : K (nI (gRo g a b)) μ) : w_D_roadBetween K (nI a) (nI b) μ := by
  have h6 := hg.1
  unfold w_D_roadBetween
  refine hasPlace_yes hc.1.1 hg.1 ha ?_
  rw [if_neg (by decide)]
  refine hasPlace_yes hc.1.1 hg.1 hb ?_
  rw [if_neg (by decide)]
  have e : (nI a * 6) + nI b = nI (a * 6 + b) := by
    rw [show nI a * (6 : Int32) = nI (a * 6) from nI_mul a 6, nI_add]
  rw [e]
  refine ⟨(vin_iff (by omega)).mpr (by omega), ?_⟩
  rw [ix_nI (by omega), show μ 3 (a * 6 + b) = _ from hc.2.2.1 a b (by omega) (by omega), if_pos ⟨ha, hb⟩]
  exact hK
theorem T_road (n : Nat) (p0 p1 p2 : Int32) : Same n (fun K => w_X_road K p0 p1 p2) (fun K => w_M_road K p0 p1 p2) := by
  intro μ hR
  obtain ⟨⟨g, g1, g2, g3⟩, h15, _⟩ := id hR
  have h6 := g1.1
  have bad : ¬ ((0 ≤ p0 ∧ p0 < nI (gP g)) ∧ (0 ≤ p1 ∧ p1 < nI (gP g)) ∧ ¬ p0 = p1 ∧ (0 ≤ p2 ∧ p2 ≤ 9)) → w_X_road_37 (fun r1 μ1 => w_M_road (fun r2 μ2 => r1 = r2 ∧ RR (n + 1) μ2) p0 p1 p2 μ1) p0 p1 p2 μ := by
    intro hb
    unfold w_X_road_37
    refine X_err1 ?_
    have e30 : w_M_road_31 (fun r2 μ2 => -1000000001 = r2 ∧ RR (n + 1) μ2) p0 p1 p2 (sm_st μ 60 1 (μ 60 1 + 1)) := by
      unfold w_M_road_31
      exact M_err1 ⟨rfl, RR_err hR rfl rfl⟩
    have hP : sm_st μ 60 1 (μ 60 1 + 1) 62 2 = nI (gP g) := by rw [st_ne _ _ _ _ _ (by decide)]; exact g3.1.1
    unfold w_M_road
    refine m_isPlace_eq g1.1 hP (fun q0 => ?_) (fun q0 => by rw [if_pos rfl]; exact e30)
    rw [if_neg (by decide)]
    refine m_isPlace_eq g1.1 hP (fun q1 => ?_) (fun q0 => by rw [if_pos rfl]; exact e30)
    rw [if_neg (by decide)]
    by_cases q2 : p0 = p1
    · rw [if_pos q2]
      exact e30
    · rw [if_neg q2]
      exact M_in (fun q3 => absurd ⟨q0, q1, q2, q3⟩ hb) (fun q1 => by rw [if_pos rfl]; exact e30)
  show w_X_road _ p0 p1 p2 μ
  unfold w_X_road
  refine x_hasPlace_eq g2.1.1 (fun q0 => ?_) (fun q0 => by rw [if_pos rfl]; exact bad (fun z => q0 z.1))
  rw [if_neg (by decide)]
  refine x_hasPlace_eq g2.1.1 (fun q1 => ?_) (fun q0 => by rw [if_pos rfl]; exact bad (fun z => q0 z.2.1))
  rw [if_neg (by decide)]
  by_cases q2 : p0 = p1
  · rw [if_pos q2]
    exact bad (fun z => z.2.2.1 q2)
  rw [if_neg q2]
  refine X_in (fun q3 => ?_) (fun q3 => by rw [if_pos rfl]; exact bad (fun z => q3 z.2.2.2))
  rw [if_neg (by decide)]
  obtain ⟨a, ha, e⟩ := sm_of (by omega) q0.1 q0.2
  subst e
  obtain ⟨b, hb, e⟩ := sm_of (by omega) q1.1 q1.2
  subst e
  obtain ⟨h, hh, e⟩ := sm_ofle (n := 9) (by omega) q3.1 q3.2
  subst e
  refine x_roadBetween g1 g2 ha hb ?_
  unfold w_D_setRoad
  refine hasPlace_yes g2.1.1 g1.1 ha ?_
  rw [if_neg (by decide)]
  refine hasPlace_yes g2.1.1 g1.1 hb ?_
  rw [if_neg (by decide)]
  have e6 : ∀ x y : Nat, (nI x * 6) + nI y = nI (x * 6 + y) := fun x y => by rw [show nI x * (6 : Int32) = nI (x * 6) from nI_mul x 6, nI_add]
  rw [e6, e6]
  refine ⟨(vin_iff (by omega)).mpr (by omega), ?_⟩
  intro μ8 e8
  refine ⟨(vin_iff (by omega)).mpr (by omega), ?_⟩
  intro μ10 e10
  rw [ix_nI (by omega)] at e8 e10
  show w_M_road _ (nI a) (nI b) (nI h) μ10
  have m1 : MA 62 g μ10 := by rw [e10, e8]; exact MA_ne (MA_ne g3 (by decide)) (by decide)
  unfold w_M_road
  refine m_isPlace_eq g1.1 m1.1.1 (fun _ => ?_) (fun z => absurd q0 z)
  rw [if_neg (by decide)]
  refine m_isPlace_eq g1.1 m1.1.1 (fun _ => ?_) (fun z => absurd q1 z)
  rw [if_neg (by decide), if_neg q2]
  refine M_in (fun _ => ?_) (fun z => absurd q3 z)
  rw [if_neg (by decide)]
  have e15 : ∀ x y : Nat, (15 + (6 * nI x)) + nI y = nI (15 + 6 * x + y) := fun x y => by rw [show (6 : Int32) * nI x = nI (6 * x) from nI_mul 6 x, show (15 : Int32) + nI (6 * x) = nI (15 + 6 * x) from nI_add 15 _, nI_add]
  rw [e15, e15]
  refine ⟨(vin_iff (by omega)).mpr (by omega), ?_⟩
  intro μ14 e14
  rw [ix_nI (by omega)] at e14
  have hne : ¬ a = b := fun e => q2 (by rw [e])
  refine m_becomes (by omega) ⟨?_, ?_⟩
  · rw [e14, st_same, if_neg (by omega)]
    exact (m1.2.2.1 a b ha hb).symm
  · rw [e14]
    refine RR_upd hR (g2 := gMk g.1 (gP g) (gN g) (gY g) (gHo g) (gWa g) (fun x y => if (x = a ∧ y = b) ∨ (x = b ∧ y = a) then h else gRo g x y) (gKd g) (gMs g) (gSn g) (gAt g) (gOw g) g.2.2.2.2.2.1 g.2.2.2.2.2.2.1 (gZ g)) ⟨g1.1, g1.2.1, g1.2.2.1, g1.2.2.2.1, g1.2.2.2.2.1, fun x y => ?_, g1.2.2.2.2.2.2⟩ (CA_62 (CA_62 (by rw [e10, e8]; exact CA_road ha hb g1.1 g1.2.1 g2))) (MA_road ha hb g1.1 g1.2.1 m1) (fr_st (fr_st (by rw [e10, e8]; exact fr_st (fr_st fr_rfl (by simp)) (by simp)) (by simp)) (by simp))
    show (if (x = a ∧ y = b) ∨ (x = b ∧ y = a) then h else gRo g x y) ≤ 9
    split
    · exact hh
    · exact g1.2.2.2.2.2.1 x y

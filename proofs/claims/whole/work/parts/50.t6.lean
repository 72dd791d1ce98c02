theorem T_note (n : Nat) (p0 p1 p2 p3 : Int32) : Same n (fun K => w_X_note K p0 p1 p2 p3) (fun K => w_M_note K p0 p1 p2 p3) := by
  intro μ hR
  obtain ⟨⟨g, g1, g2, g3⟩, h15, _⟩ := id hR
  have h10 := g1.2.1
  have h6 := g1.1
  have hN : ∀ j v, sm_st μ 60 j v 62 7 = nI (gN g) := fun j v => by rw [st_ne _ _ _ _ _ (by decide)]; exact g3.1.2.1
  have hP : ∀ j v, sm_st μ 60 j v 62 2 = nI (gP g) := fun j v => by rw [st_ne _ _ _ _ _ (by decide)]; exact g3.1.1
  have bad : ¬ ((0 ≤ p0 ∧ p0 ≤ 69) ∧ (1 ≤ p1 ∧ p1 ≤ 999) ∧ (0 ≤ p2 ∧ p2 < nI (gP g)) ∧ (0 ≤ p3 ∧ p3 ≤ 3)) → w_X_note_42 (fun r1 μ1 => w_M_note (fun r2 μ2 => r1 = r2 ∧ RR (n + 1) μ2) p0 p1 p2 p3 μ1) p0 p1 p2 p3 μ := by
    intro hb
    unfold w_X_note_42
    refine X_err1 ?_
    have e30 : w_M_note_37 (fun r2 μ2 => -1000000001 = r2 ∧ RR (n + 1) μ2) p0 p1 p2 p3 (sm_st μ 60 1 (μ 60 1 + 1)) := by
      unfold w_M_note_37
      exact M_err1 ⟨rfl, RR_err hR rfl rfl⟩
    show w_M_note _ p0 p1 p2 p3 _
    unfold w_M_note
    refine M_in (fun q0 => ?_) (fun _ => by rw [if_pos rfl]; exact e30)
    rw [if_neg (by decide)]
    refine M_in (fun q1 => ?_) (fun _ => by rw [if_pos rfl]; exact e30)
    rw [if_neg (by decide)]
    refine m_isPlace_eq g1.1 (hP _ _) (fun q2 => ?_) (fun _ => by rw [if_pos rfl]; exact e30)
    rw [if_neg (by decide)]
    exact M_own (fun q3 => absurd ⟨q0, q1, q2, q3⟩ hb) (fun _ => by rw [if_pos rfl]; exact e30)
  show w_X_note _ p0 p1 p2 p3 μ
  unfold w_X_note
  refine X_in (fun q0 => ?_) (fun q => by rw [if_pos rfl]; exact bad (fun z => q z.1))
  rw [if_neg (by decide)]
  refine X_in (fun q1 => ?_) (fun q => by rw [if_pos rfl]; exact bad (fun z => q z.2.1))
  rw [if_neg (by decide)]
  refine x_hasPlace_eq g2.1.1 (fun q2 => ?_) (fun q => by rw [if_pos rfl]; exact bad (fun z => q z.2.2.1))
  rw [if_neg (by decide)]
  refine X_in (fun q3 => ?_) (fun q => by rw [if_pos rfl]; exact bad (fun z => q z.2.2.2))
  rw [if_neg (by decide), g2.1.2.1]
  obtain ⟨k, hk, e⟩ := sm_ofle (n := 69) (by omega) q0.1 q0.2
  subst e
  obtain ⟨s, hs, e⟩ := sm_ofle (n := 999) (by omega) (Int32.le_trans (by decide) q1.1) q1.2
  subst e
  obtain ⟨p, hp, e⟩ := sm_of (by omega) q2.1 q2.2
  subst e
  obtain ⟨w, hw, e⟩ := sm_ofle (n := 3) (by omega) q3.1 q3.2
  subst e
  have ed : nI k / (10 : Int32) = nI (k / 10) := nI_div (b := 10) (by omega) (by omega)
  have em : nI k % (10 : Int32) = nI (k % 10) := nI_mod (b := 10) (by omega) (by omega)
  by_cases q : gN g < 10
  · have q10 : nI (gN g) < 10 := nI_lt_yes (b := 10) (by omega) (by omega) q
    rw [if_pos q10]
    intro v16 e16
    subst e16
    have vi : vp_in (nI (gN g)) 10 := (vin_iff (by omega)).mpr q
    have ei : (nI (gN g)).toNatClampNeg = gN g := ix_nI (by omega)
    refine ⟨vi, ?_⟩
    intro μ1 e1
    refine ⟨vi, ?_⟩
    intro μ2 e2
    refine ⟨vi, ?_⟩
    intro μ3 e3
    refine ⟨vi, ?_⟩
    intro μ4 e4
    refine ⟨vi, ?_⟩
    intro μ5 e5 μ6 e6
    rw [ei] at e1 e2 e3 e4 e5
    rw [ed] at e1
    rw [em] at e2
    have n5 : μ5 1 12 = nI (gN g) := by rw [e5, e4, e3, e2, e1, st_ne _ _ _ _ _ (by decide), st_ne _ _ _ _ _ (by decide), st_ne _ _ _ _ _ (by decide), st_ne _ _ _ _ _ (by decide), st_ne _ _ _ _ _ (by decide)]; exact g2.1.2.1
    rw [n5, ← nI_succ] at e6
    have m1 : MA 62 g μ6 := by rw [e6, e5, e4, e3, e2, e1]; exact MA_ne (MA_ne (MA_ne (MA_ne (MA_ne (MA_ne g3 (by decide)) (by decide)) (by decide)) (by decide)) (by decide)) (by decide)
    show w_M_note _ (nI k) (nI s) (nI p) (nI w) μ6
    unfold w_M_note
    refine M_in (fun _ => ?_) (fun z => absurd q0 z)
    rw [if_neg (by decide)]
    refine M_in (fun _ => ?_) (fun z => absurd q1 z)
    rw [if_neg (by decide)]
    refine m_isPlace_eq g1.1 m1.1.1 (fun _ => ?_) (fun z => absurd q2 z)
    rw [if_neg (by decide)]
    refine M_own (fun _ => ?_) (fun z => absurd q3 z)
    have nq : ¬ nI (gN g) = 10 := fun e => absurd ((nI_inj (b := 10) (by omega) (by omega)).mp e) (by omega)
    rw [if_neg (by decide), m1.1.2.1, if_neg nq, ed, em]
    intro v e
    subst e
    refine m_gets (f := 0) q (by omega) (m_gets (f := 1) q (by omega) (m_gets (f := 2) q (by omega) (m_gets (f := 3) q (by omega) (m_gets (f := 4) q (by omega) ?_))))
    intro μ22 e22
    have n22 : ∀ a b c d e, sm_st (sm_st (sm_st (sm_st (sm_st μ6 62 (51 + 5 * gN g + 0) a) 62 (51 + 5 * gN g + 1) b) 62 (51 + 5 * gN g + 2) c) 62 (51 + 5 * gN g + 3) d) 62 (51 + 5 * gN g + 4) e 62 7 = nI (gN g) := by
      intro a b c d e
      rw [st_same, if_neg (by omega), st_same, if_neg (by omega), st_same, if_neg (by omega), st_same, if_neg (by omega), st_same, if_neg (by omega)]
      exact m1.1.2.1
    rw [n22, ← nI_succ] at e22
    refine ⟨rfl, ?_⟩
    rw [e22]
    refine RR_upd hR (g2 := gMk g.1 (gP g) (gN g + 1) (gY g) (gHo g) (gWa g) (gRo g) (fup (gKd g) (gN g) (k / 10)) (fup (gMs g) (gN g) (k % 10)) (fup (gSn g) (gN g) s) (fup (gAt g) (gN g) p) (fup (gOw g) (gN g) w) g.2.2.2.2.2.1 g.2.2.2.2.2.2.1 (gZ g)) ⟨g1.1, q, g1.2.2.1, g1.2.2.2.1, g1.2.2.2.2.1, g1.2.2.2.2.2.1, fun j hj => ?_, g1.2.2.2.2.2.2.2⟩ (CA_62 (CA_62 (CA_62 (CA_62 (CA_62 (CA_62 (by rw [e6, e5, e4, e3, e2, e1]; exact CA_note g1.1 g1.2.1 q g2))))))) (MA_note g1.1 g1.2.1 q m1) (fr_st (fr_st (fr_st (fr_st (fr_st (fr_st (by rw [e6, e5, e4, e3, e2, e1]; exact fr_st (fr_st (fr_st (fr_st (fr_st (fr_st fr_rfl (by simp)) (by simp)) (by simp)) (by simp)) (by simp)) (by simp)) (by simp)) (by simp)) (by simp)) (by simp)) (by simp)) (by simp))
    have hj : j < gN g + 1 := hj
    show fup (gKd g) (gN g) (k / 10) j ≤ 6 ∧ fup (gMs g) (gN g) (k % 10) j ≤ 9 ∧ fup (gSn g) (gN g) s j ≤ 999 ∧ fup (gAt g) (gN g) p j < gP g ∧ fup (gOw g) (gN g) w j ≤ 3
    unfold fup
    by_cases z : j = gN g
    · rw [if_pos z, if_pos z, if_pos z, if_pos z, if_pos z]
      omega
    · rw [if_neg z, if_neg z, if_neg z, if_neg z, if_neg z]
      exact g1.2.2.2.2.2.2.1 j (by omega)
  · have q10 : ¬ nI (gN g) < 10 := nI_lt_no (b := 10) (by omega) (by omega) (by omega)
    rw [if_neg q10]
    refine X_err4 ?_
    show w_M_note (fun r2 μ2 => -1000000004 = r2 ∧ RR (n + 1) μ2) (nI k) (nI s) (nI p) (nI w) (sm_st μ 60 4 (μ 60 4 + 1))
    unfold w_M_note
    refine M_in (fun _ => ?_) (fun z => absurd q0 z)
    rw [if_neg (by decide)]
    refine M_in (fun _ => ?_) (fun z => absurd q1 z)
    rw [if_neg (by decide)]
    refine m_isPlace_eq g1.1 (hP _ _) (fun _ => ?_) (fun z => absurd q2 z)
    rw [if_neg (by decide)]
    refine M_own (fun _ => ?_) (fun z => absurd q3 z)
    have e10 : nI (gN g) = 10 := by rw [show gN g = 10 by omega]; rfl
    rw [if_neg (by decide), hN, if_pos e10]
    exact M_err4 ⟨rfl, RR_err hR rfl rfl⟩
theorem m_roadOf {K : Int32 → sm_Mem → Prop} {g : GH} {a b : Nat} {μ : sm_Mem} (h6 : gP g ≤ 6) (hc : MA 62 g μ) (ha : a < gP g) (hb : b < gP g) (hK : K (nI (gRo g a b)) μ) : w_M_roadOf K (nI a) (nI b) μ := by
  unfold w_M_roadOf
  have e : (15 + (6 * nI a)) + nI b = nI (15 + 6 * a + b) := by rw [show (6 : Int32) * nI a = nI (6 * a) from nI_mul 6 a, show (15 : Int32) + nI (6 * a) = nI (15 + 6 * a) from nI_add 15 _, nI_add]
  rw [e]
  refine ⟨(vin_iff (by omega)).mpr (by omega), ?_⟩
  rw [ix_nI (by omega), hc.2.2.1 a b ha hb]
  exact hK
theorem T_carry (n : Nat) (p0 p1 : Int32) : Same n (fun K => w_X_carry K p0 p1) (fun K => w_M_carry K p0 p1) := by
  intro μ hR
  obtain ⟨⟨g, g1, g2, g3⟩, h15, _⟩ := id hR
  have h10 := g1.2.1
  have h6 := g1.1
  have bad : ¬ ((0 ≤ p0 ∧ p0 < nI (gN g)) ∧ (0 ≤ p1 ∧ p1 < nI (gP g))) → w_X_carry_22 (fun r1 μ1 => w_M_carry (fun r2 μ2 => r1 = r2 ∧ RR (n + 1) μ2) p0 p1 μ1) p0 p1 μ := by
    intro hb
    unfold w_X_carry_22
    refine X_err1 ?_
    have e30 : w_M_carry_16 (fun r2 μ2 => -1000000001 = r2 ∧ RR (n + 1) μ2) p0 p1 (sm_st μ 60 1 (μ 60 1 + 1)) := by
      unfold w_M_carry_16
      exact M_err1 ⟨rfl, RR_err hR rfl rfl⟩
    show w_M_carry _ p0 p1 _
    unfold w_M_carry
    refine m_isNote_eq g1.2.1 (by rw [st_ne _ _ _ _ _ (by decide)]; exact g3.1.2.1) (fun q0 => ?_) (fun _ => by rw [if_pos rfl]; exact e30)
    rw [if_neg (by decide)]
    exact m_isPlace_eq g1.1 (by rw [st_ne _ _ _ _ _ (by decide)]; exact g3.1.1) (fun q1 => absurd ⟨q0, q1⟩ hb) (fun _ => by rw [if_pos rfl]; exact e30)
  show w_X_carry _ p0 p1 μ
  unfold w_X_carry
  refine x_hasNote_eq g2.1.2.1 (fun q0 => ?_) (fun q => by rw [if_pos rfl]; exact bad (fun z => q z.1))
  rw [if_neg (by decide)]
  refine x_hasPlace_eq g2.1.1 (fun q1 => ?_) (fun q => by rw [if_pos rfl]; exact bad (fun z => q z.2))
  rw [if_neg (by decide)]
  obtain ⟨i, hi, e⟩ := sm_of (by omega) q0.1 q0.2
  subst e
  obtain ⟨p, hp, e⟩ := sm_of (by omega) q1.1 q1.2
  subst e
  have vi : vp_in (nI i) 10 := (vin_iff (by omega)).mpr (by omega)
  have ei : (nI i).toNatClampNeg = i := ix_nI (by omega)
  obtain ⟨c1, c2, c3, c4, c5⟩ := g2.2.2.2.1 i hi
  obtain ⟨k1, k2, k3, k4, k5⟩ := g1.2.2.2.2.2.2.1 i hi
  refine ⟨vi, ?_⟩
  intro v10 e10
  rw [ei, show μ 7 i = _ from c4] at e10
  subst e10
  refine x_roadBetween g1 g2 k4 hp ?_
  have h9 := g1.2.2.2.2.2.1 (gAt g i) p
  by_cases q : gRo g (gAt g i) p = 0
  · rw [if_pos (by rw [q]; rfl)]
    refine X_err3 ?_
    have m1 : MA 62 g (sm_st μ 60 3 (μ 60 3 + 1)) := MA_ne g3 (by decide)
    show w_M_carry (fun r2 μ2 => -1000000003 = r2 ∧ RR (n + 1) μ2) (nI i) (nI p) (sm_st μ 60 3 (μ 60 3 + 1))
    unfold w_M_carry
    refine m_isNote_eq g1.2.1 m1.1.2.1 (fun _ => ?_) (fun z => absurd q0 z)
    rw [if_neg (by decide)]
    refine m_isPlace_eq g1.1 m1.1.1 (fun _ => ?_) (fun z => absurd q1 z)
    rw [if_neg (by decide)]
    refine m_its (f := 3) (by omega) (by omega) ?_
    rw [(m1.2.2.2.1 i hi).2.2.2.1]
    refine m_roadOf g1.1 m1 k4 hp ?_
    rw [if_pos (by rw [q]; rfl)]
    exact M_err3 ⟨rfl, RR_err hR rfl rfl⟩
  · have q2 : ¬ nI (gRo g (gAt g i) p) = 0 := nI_ne0 (by omega) (by omega)
    rw [if_neg q2]
    refine x_meltsNow g1 g2 hi k4 (fun μ1 hf => ?_)
    have c1' := CA_of g2 (fr_mono hf (by simp) : fr SX μ μ1)
    have hm := mN_le (kd := gKd g i) k2 (hN_eq (gHt g) (nI (gWa g (gAt g i))) (nI (gY g)) (nI (gHo g % 24))).2
    intro v16 e16
    rw [nI_mul] at e16
    refine ⟨vi, vi, ?_⟩
    intro μ2 e2
    refine ⟨vi, ?_⟩
    intro μ3 e3
    refine ⟨vi, ?_⟩
    have hmul : gRo g (gAt g i) p * mN (gKd g i) (gMs g i) (hN (gHt g) (nI (gWa g (gAt g i))) (nI (gY g)) (nI (gHo g % 24))) ≤ 9 * 202 := Nat.mul_le_mul h9 hm
    rw [ei, show μ1 6 i = _ from (c1'.2.2.2.1 i hi).2.2.1, e16, sub0 (by omega) (by omega)] at e2
    rw [ei] at e3
    rw [ei]
    generalize hL : gSn g i - gRo g (gAt g i) p * mN (gKd g i) (gMs g i) (hN (gHt g) (nI (gWa g (gAt g i))) (nI (gY g)) (nI (gHo g % 24))) = L at e2
    have r1 : μ3 6 i = nI L := by rw [e3, st_ne _ _ _ _ _ (by decide), e2, st_same, if_pos rfl]
    rw [r1]
    have m0 := MA_fr (μ2 := μ1) g3 (hf 62 (by decide))
    have m1 : MA 62 g μ3 := by rw [e3, e2]; exact MA_ne (MA_ne m0 (by decide)) (by decide)
    have f3 : fr UX μ μ3 := by rw [e3, e2]; exact fr_st (fr_st (fr_mono hf (by simp)) (by simp)) (by simp)
    show w_M_carry _ (nI i) (nI p) μ3
    unfold w_M_carry
    refine m_isNote_eq g1.2.1 m1.1.2.1 (fun _ => ?_) (fun z => absurd q0 z)
    rw [if_neg (by decide)]
    refine m_isPlace_eq g1.1 m1.1.1 (fun _ => ?_) (fun z => absurd q1 z)
    rw [if_neg (by decide)]
    refine m_its (f := 3) (by omega) (by omega) ?_
    rw [(m1.2.2.2.1 i hi).2.2.2.1]
    refine m_roadOf g1.1 m1 k4 hp ?_
    rw [if_neg q2]
    refine m_melts (wm := 0) g1.M m1 (by rw [f3 61 (by decide)]; exact h15) hi (fun μ4 hf4 => ?_)
    rw [nI_mul]
    have m4 := MA_of m1 hf4
    refine m_loses g1.M m4 hi (by show gRo g (gAt g i) p * mN (gKd g i) (gMs g i) (hN (gHt g) (nI (gWa g (gAt g i))) (nI (gY g)) (nI (gHo g % 24))) < 2 ^ 30; omega) ?_
    have eL : gSn g i - gRo g (gAt g i) p * mN (gKd g i) (gMs g i) (hN (gHt g) (nI (gWa g (gAt g i) + 0)) (nI (gY g)) (nI (gHo g % 24))) = L := hL
    rw [eL]
    refine m_gets (f := 3) (by omega) (by omega) ?_
    refine m_its (f := 2) (by omega) (by omega) ?_
    have m5 := MA_sn (v := L) hi g1.1 g1.2.1 m4
    have m6 := MA_at (g := gMk g.1 (gP g) (gN g) (gY g) (gHo g) (gWa g) (gRo g) (gKd g) (gMs g) (fup (gSn g) i L) (gAt g) (gOw g) g.2.2.2.2.2.1 g.2.2.2.2.2.2.1 (gZ g)) (v := p) hi g1.1 g1.2.1 m5
    have cc := CA_at (g := gMk g.1 (gP g) (gN g) (gY g) (gHo g) (gWa g) (gRo g) (gKd g) (gMs g) (fup (gSn g) i L) (gAt g) (gOw g) g.2.2.2.2.2.1 g.2.2.2.2.2.2.1 (gZ g)) (v := p) hi g1.1 g1.2.1 (CA_sn (v := L) hi g1.1 g1.2.1 c1')
    rw [← e2, ← e3] at cc
    refine ⟨?_, RR_up2 hR (g2 := gMk g.1 (gP g) (gN g) (gY g) (gHo g) (gWa g) (gRo g) (gKd g) (gMs g) (fup (gSn g) i L) (fup (gAt g) i p) (gOw g) g.2.2.2.2.2.1 g.2.2.2.2.2.2.1 (gZ g)) ⟨g1.1, g1.2.1, g1.2.2.1, g1.2.2.2.1, g1.2.2.2.2.1, g1.2.2.2.2.2.1, fun k hk => ?_, g1.2.2.2.2.2.2.2⟩ cc m6 f3 (frz_trans hf4.z (frw_st (frw_st frw_rfl)).z)⟩
    · rw [st_same, if_neg (by omega), st_same, if_pos rfl]
    · obtain ⟨y1, y2, y3, y4, y5⟩ := g1.2.2.2.2.2.2.1 k hk
      refine ⟨y1, y2, ?_, ?_, y5⟩
      · show fup (gSn g) i L k ≤ 999
        unfold fup
        split
        · omega
        · exact y3
      · show fup (gAt g) i p k < gP g
        unfold fup
        split
        · exact hp
        · exact y4

theorem T_ofNote (n : Nat) (p0 p1 : Int32) : Same n (fun K => w_X_ofNote K p0 p1) (fun K => w_M_ofNote K p0 p1) := by
  intro μ hR
  obtain ⟨⟨g, g1, g2, g3⟩, h15, _⟩ := id hR
  have h10 := g1.2.1
  have e30 : w_M_ofNote_18 (fun r2 μ2 => -1000000001 = r2 ∧ RR (n + 1) μ2) p0 p1 (sm_st μ 60 1 (μ 60 1 + 1)) := by
    unfold w_M_ofNote_18
    exact M_err1 ⟨rfl, RR_err hR rfl rfl⟩
  show w_X_ofNote _ p0 p1 μ
  unfold w_X_ofNote
  refine x_hasNote_eq g2.1.2.1 (fun q0 => ?_) (fun q0 => ?_)
  · rw [if_neg (by decide)]
    obtain ⟨i, hi, e⟩ := sm_of (by omega) q0.1 q0.2
    subst e
    have vi : vp_in (nI i) 10 := (vin_iff (by omega)).mpr (by omega)
    have ei : (nI i).toNatClampNeg = i := ix_nI (by omega)
    obtain ⟨c1, c2, c3, c4, c5⟩ := g2.2.2.2.1 i hi
    obtain ⟨d1, d2, d3, d4, d5⟩ := g3.2.2.2.1 i hi
    obtain ⟨k1, k2, k3, k4, k5⟩ := g1.2.2.2.2.2.2.1 i hi
    intro v4 ev
    subst ev
    have fld : ∀ (f : Nat) (r : Int32), f < 5 → v4 = nI f → μ 62 (51 + 5 * i + f) = r → w_M_ofNote (fun r2 μ2 => r = r2 ∧ RR (n + 1) μ2) (nI i) v4 μ := by
      intro f r hf ef er
      unfold w_M_ofNote
      refine m_isNote_eq g1.2.1 g3.1.2.1 (fun _ => ?_) (fun z => absurd q0 z)
      rw [if_neg (by decide)]
      refine M_in (fun _ => ?_) (fun z => absurd ⟨by rw [ef]; exact nI_pos' (by omega), by rw [ef]; exact nI_le_yes (b := 6) (by omega) (by omega) (by omega)⟩ z)
      have n5 : ¬ (5 : Int32) ≤ v4 := by rw [ef]; exact nI_le_no (a := 5) (by omega) (by omega) (by omega)
      rw [if_neg (by decide), if_neg n5, ef]
      refine m_its (by omega) hf ?_
      exact ⟨er.symm, RR_q hR frq_rfl⟩
    by_cases q : v4 = 0
    · rw [if_pos q]
      refine ⟨vi, ?_⟩
      rw [ei, show μ 4 i = _ from c1]
      exact fld 0 _ (by omega) q d1
    rw [if_neg q]
    by_cases q1 : v4 = 1
    · rw [if_pos q1]
      refine ⟨vi, ?_⟩
      rw [ei, show μ 5 i = _ from c2]
      exact fld 1 _ (by omega) q1 d2
    rw [if_neg q1]
    by_cases q2 : v4 = 2
    · rw [if_pos q2]
      refine ⟨vi, ?_⟩
      rw [ei, show μ 6 i = _ from c3]
      exact fld 2 _ (by omega) q2 d3
    rw [if_neg q2]
    by_cases q3 : v4 = 3
    · rw [if_pos q3]
      refine ⟨vi, ?_⟩
      rw [ei, show μ 7 i = _ from c4]
      exact fld 3 _ (by omega) q3 d4
    rw [if_neg q3]
    by_cases q4 : v4 = 4
    · rw [if_pos q4]
      refine ⟨vi, ?_⟩
      rw [ei, show μ 8 i = _ from c5]
      exact fld 4 _ (by omega) q4 d5
    rw [if_neg q4]
    by_cases q5 : v4 = 5
    · rw [if_pos q5]
      refine ⟨vi, ?_⟩
      rw [ei, show μ 7 i = _ from c4]
      refine x_meltsNow g1 g2 hi k4 (fun μ1 hf => ?_)
      have hR1 := RR_sx hR (fr_mono hf (by simp))
      have m1 := MA_fr (μ2 := μ1) g3 (hf 62 (by decide))
      show w_M_ofNote _ (nI i) v4 μ1
      unfold w_M_ofNote
      refine m_isNote_eq g1.2.1 m1.1.2.1 (fun _ => ?_) (fun z => absurd q0 z)
      rw [if_neg (by decide)]
      refine M_in (fun _ => ?_) (fun z => absurd (by rw [q5]; decide) z)
      rw [if_neg (by decide), if_pos (by rw [q5]; decide), if_pos q5]
      exact m_melts (wm := 0) g1.M m1 (by rw [hf 61 (by decide)]; exact h15) hi (fun μ2 hf2 => ⟨rfl, RR_q hR1 hf2.q⟩)
    rw [if_neg q5]
    by_cases q6 : v4 = 6
    · rw [if_pos q6]
      refine ⟨vi, ?_⟩
      rw [ei, show μ 6 i = _ from c3]
      refine x_pays g1 g2 hi k3 (fun μ1 hf _ _ _ _ => ?_)
      have hR1 := RR_sx hR hf
      have m1 := MA_fr (μ2 := μ1) g3 (hf 62 (by decide))
      show w_M_ofNote _ (nI i) v4 μ1
      unfold w_M_ofNote
      refine m_isNote_eq g1.2.1 m1.1.2.1 (fun _ => ?_) (fun z => absurd q0 z)
      rw [if_neg (by decide)]
      refine M_in (fun _ => ?_) (fun z => absurd (by rw [q6]; decide) z)
      rw [if_neg (by decide), if_pos (by rw [q6]; decide), if_neg (by rw [q6]; decide)]
      exact m_pays g1.M m1 hi (fun μ2 hf2 => ⟨rfl, RR_q hR1 hf2.q⟩)
    rw [if_neg q6]
    refine X_err1 ?_
    show w_M_ofNote _ (nI i) v4 (sm_st μ 60 1 (μ 60 1 + 1))
    unfold w_M_ofNote
    refine m_isNote_eq g1.2.1 (by rw [st_ne _ _ _ _ _ (by decide)]; exact g3.1.2.1) (fun _ => ?_) (fun z => absurd q0 z)
    rw [if_neg (by decide)]
    refine M_in (fun z => ?_) (fun _ => by rw [if_pos rfl]; exact e30)
    obtain ⟨k, hk, e⟩ := sm_ofle (n := 6) (by omega) z.1 z.2
    rcases (by omega : k = 0 ∨ k = 1 ∨ k = 2 ∨ k = 3 ∨ k = 4 ∨ k = 5 ∨ k = 6) with rfl | rfl | rfl | rfl | rfl | rfl | rfl
    · exact absurd e q
    · exact absurd e q1
    · exact absurd e q2
    · exact absurd e q3
    · exact absurd e q4
    · exact absurd e q5
    · exact absurd e q6
  · rw [if_pos rfl]
    refine X_err1 ?_
    show w_M_ofNote _ p0 p1 (sm_st μ 60 1 (μ 60 1 + 1))
    unfold w_M_ofNote
    refine m_isNote_eq g1.2.1 (by rw [st_ne _ _ _ _ _ (by decide)]; exact g3.1.2.1) (fun z => absurd z q0) (fun _ => by rw [if_pos rfl]; exact e30)
theorem T_change (n : Nat) (p0 p1 p2 : Int32) : Same n (fun K => w_X_change K p0 p1 p2) (fun K => w_M_change K p0 p1 p2) := by
  intro μ hR
  obtain ⟨⟨g, g1, g2, g3⟩, h15, _⟩ := id hR
  have h10 := g1.2.1
  have h6 := g1.1
  have e78 : w_M_change_78 (fun r2 μ2 => -1000000001 = r2 ∧ RR (n + 1) μ2) p0 p1 p2 (sm_st μ 60 1 (μ 60 1 + 1)) := by
    unfold w_M_change_78
    exact M_err1 ⟨rfl, RR_err hR rfl rfl⟩
  have hN : sm_st μ 60 1 (μ 60 1 + 1) 62 7 = nI (gN g) := by rw [st_ne _ _ _ _ _ (by decide)]; exact g3.1.2.1
  have hP : sm_st μ 60 1 (μ 60 1 + 1) 62 2 = nI (gP g) := by rw [st_ne _ _ _ _ _ (by decide)]; exact g3.1.1
  have bad : ∀ s0 : Int32, (s0 = 0 ∨ ¬ (0 ≤ p0 ∧ p0 < nI (gN g))) → w_M_change_45 (fun r2 μ2 => -1000000001 = r2 ∧ RR (n + 1) μ2) p0 p1 p2 s0 (sm_st μ 60 1 (μ 60 1 + 1)) := by
    intro s0 hs
    unfold w_M_change_45
    refine m_isNote_eq g1.2.1 hN (fun q => ?_) (fun q => by rw [if_pos rfl]; exact e78)
    rcases hs with hs | hs
    · rw [if_neg (by decide), if_pos hs]
      exact e78
    · exact absurd q hs
  have bad44 : w_M_change_44 (fun r2 μ2 => -1000000001 = r2 ∧ RR (n + 1) μ2) p0 p1 p2 (sm_st μ 60 1 (μ 60 1 + 1)) := by
    unfold w_M_change_44
    exact bad 0 (Or.inl rfl)
  have e51 : ∀ i f : Nat, (((51 + (5 * nI i)) + 2) + nI f) = nI (51 + 5 * i + 2 + f) := fun i f => by rw [show (5 : Int32) * nI i = nI (5 * i) from nI_mul 5 i, show (51 : Int32) + nI (5 * i) = nI (51 + 5 * i) from nI_add 51 _, show nI (51 + 5 * i) + 2 = nI (51 + 5 * i + 2) from nI_add _ 2, nI_add]
  show w_X_change _ p0 p1 p2 μ
  unfold w_X_change
  refine x_hasNote_eq g2.1.2.1 (fun q0 => ?_) (fun q0 => ?_)
  · rw [if_neg (by decide)]
    obtain ⟨i, hi, e⟩ := sm_of (by omega) q0.1 q0.2
    subst e
    have vi : vp_in (nI i) 10 := (vin_iff (by omega)).mpr (by omega)
    have ei : (nI i).toNatClampNeg = i := ix_nI (by omega)
    obtain ⟨c1, c2, c3, c4, c5⟩ := g2.2.2.2.1 i hi
    have ok : ∀ (f s0 : Nat) (v : Nat) (r : Int32) (c : Nat) (g4 : GH), c ∈ [6, 7, 8] → p1 = nI f → f ≤ 2 → (¬ nI s0 = 0) → p2 = nI v → μ 62 (51 + 5 * i + 2 + f) = r → gOk g4 → CA 1 g4 (sm_st μ c i (nI v)) → (∀ μ1, MA 62 g μ1 → MA 62 g4 (sm_st μ1 62 (51 + 5 * i + 2 + f) (nI v))) → w_M_change_45 (fun r2 μ2 => r = r2 ∧ RR (n + 1) μ2) (nI i) p1 p2 (nI s0) (sm_st μ c i (nI v)) := by
      intro f s0 v r c g4 hc6 ef hf hs ev er k1 k2 k3
      have hc : c ≠ 62 := fun e => by rw [e] at hc6; exact absurd hc6 (by decide)
      have m1 : MA 62 g (sm_st μ c i (nI v)) := MA_ne g3 hc
      unfold w_M_change_45
      refine m_isNote_eq g1.2.1 m1.1.2.1 (fun _ => ?_) (fun z => absurd q0 z)
      rw [if_neg (by decide), if_neg hs, ef, ev, e51]
      refine m_becomes (by omega) ⟨?_, ?_⟩
      · rw [st_ne _ _ _ _ _ (fun e => hc e.symm)]
        exact er.symm
      · exact RR_upd hR k1 (CA_62 k2) (k3 _ m1) (fr_st (fr_st fr_rfl (by revert hc6; simp; omega)) (by simp))
    have upd : ∀ f : Nat → Nat, ∀ x k : Nat, fup f i x k = if k = i then x else f k := fun f x k => rfl
    intro v4 e4
    subst e4
    obtain ⟨d1, d2, d3, d4, d5⟩ := g3.2.2.2.1 i hi
    by_cases q : v4 = 0
    · rw [if_pos q]
      refine X_in (fun z => ?_) (fun z => ?_)
      · rw [if_neg (by decide)]
        obtain ⟨v, hv, e⟩ := sm_ofle (n := 999) (by omega) z.1 z.2
        subst e
        refine ⟨sm_l6, vi, ?_⟩
        intro v2 e2
        refine ⟨vi, ?_⟩
        intro μ4 e4
        rw [ei] at e2 e4
        subst e4
        show w_M_change _ (nI i) v4 (nI v) _
        unfold w_M_change
        rw [if_pos q]
        refine M_in (fun _ => ?_) (fun y => absurd z y)
        refine ok 0 1 v v2 6 (gMk g.1 (gP g) (gN g) (gY g) (gHo g) (gWa g) (gRo g) (gKd g) (gMs g) (fup (gSn g) i v) (gAt g) (gOw g) g.2.2.2.2.2.1 g.2.2.2.2.2.2.1 (gZ g)) (by decide) q (by omega) (by decide) rfl (by rw [e2, show μ 6 i = _ from c3]; exact d3) ⟨g1.1, g1.2.1, g1.2.2.1, g1.2.2.2.1, g1.2.2.2.2.1, g1.2.2.2.2.2.1, fun k hk => ?_, g1.2.2.2.2.2.2.2⟩ (CA_sn hi g1.1 g1.2.1 g2) (fun μ1 h1 => MA_sn hi g1.1 g1.2.1 h1)
        obtain ⟨k1, k2, k3, k4, k5⟩ := g1.2.2.2.2.2.2.1 k hk
        refine ⟨k1, k2, ?_, k4, k5⟩
        show fup (gSn g) i v k ≤ 999
        rw [upd]
        split <;> omega
      · rw [if_pos rfl]
        refine X_err1 ?_
        show w_M_change _ (nI i) v4 p2 _
        unfold w_M_change
        rw [if_pos q]
        exact M_in (fun y => absurd y z) (fun _ => bad 0 (Or.inl rfl))
    rw [if_neg q]
    by_cases q1 : v4 = 1
    · rw [if_pos q1]
      refine x_hasPlace_eq g2.1.1 (fun z => ?_) (fun z => ?_)
      · rw [if_neg (by decide)]
        obtain ⟨v, hv, e⟩ := sm_of (by omega) z.1 z.2
        subst e
        refine ⟨sm_l7, vi, ?_⟩
        intro v2 e2
        refine ⟨vi, ?_⟩
        intro μ4 e4
        rw [ei] at e2 e4
        subst e4
        show w_M_change _ (nI i) v4 (nI v) _
        unfold w_M_change
        rw [if_neg q, if_pos q1]
        refine m_isPlace_eq g1.1 (by rw [st_ne _ _ _ _ _ (by decide)]; exact g3.1.1) (fun _ => ?_) (fun y => absurd z y)
        refine ok 1 1 v v2 7 (gMk g.1 (gP g) (gN g) (gY g) (gHo g) (gWa g) (gRo g) (gKd g) (gMs g) (gSn g) (fup (gAt g) i v) (gOw g) g.2.2.2.2.2.1 g.2.2.2.2.2.2.1 (gZ g)) (by decide) q1 (by omega) (by decide) rfl (by rw [e2, show μ 7 i = _ from c4]; exact d4) ⟨g1.1, g1.2.1, g1.2.2.1, g1.2.2.2.1, g1.2.2.2.2.1, g1.2.2.2.2.2.1, fun k hk => ?_, g1.2.2.2.2.2.2.2⟩ (CA_at hi g1.1 g1.2.1 g2) (fun μ1 h1 => MA_at hi g1.1 g1.2.1 h1)
        obtain ⟨k1, k2, k3, k4, k5⟩ := g1.2.2.2.2.2.2.1 k hk
        refine ⟨k1, k2, k3, ?_, k5⟩
        show fup (gAt g) i v k < gP g
        rw [upd]
        split <;> omega
      · rw [if_pos rfl]
        refine X_err1 ?_
        show w_M_change _ (nI i) v4 p2 _
        unfold w_M_change
        rw [if_neg q, if_pos q1]
        exact m_isPlace_eq g1.1 hP (fun y => absurd y z) (fun _ => bad 0 (Or.inl rfl))
    rw [if_neg q1]
    by_cases q2 : v4 = 2
    · rw [if_pos q2]
      refine X_in (fun z => ?_) (fun z => ?_)
      · rw [if_neg (by decide)]
        obtain ⟨v, hv, e⟩ := sm_ofle (n := 3) (by omega) z.1 z.2
        subst e
        refine ⟨sm_l8, vi, ?_⟩
        intro v2 e2
        refine ⟨vi, ?_⟩
        intro μ4 e4
        rw [ei] at e2 e4
        subst e4
        show w_M_change _ (nI i) v4 (nI v) _
        unfold w_M_change
        rw [if_neg q, if_neg q1, if_pos q2]
        refine M_own (fun _ => ?_) (fun y => absurd z y)
        rw [if_neg (by decide)]
        refine ok 2 1 v v2 8 (gMk g.1 (gP g) (gN g) (gY g) (gHo g) (gWa g) (gRo g) (gKd g) (gMs g) (gSn g) (gAt g) (fup (gOw g) i v) g.2.2.2.2.2.1 g.2.2.2.2.2.2.1 (gZ g)) (by decide) q2 (by omega) (by decide) rfl (by rw [e2, show μ 8 i = _ from c5]; exact d5) ⟨g1.1, g1.2.1, g1.2.2.1, g1.2.2.2.1, g1.2.2.2.2.1, g1.2.2.2.2.2.1, fun k hk => ?_, g1.2.2.2.2.2.2.2⟩ (CA_ow hi g1.1 g1.2.1 g2) (fun μ1 h1 => MA_ow hi g1.1 g1.2.1 h1)
        obtain ⟨k1, k2, k3, k4, k5⟩ := g1.2.2.2.2.2.2.1 k hk
        refine ⟨k1, k2, k3, k4, ?_⟩
        show fup (gOw g) i v k ≤ 3
        rw [upd]
        split <;> omega
      · rw [if_pos rfl]
        refine X_err1 ?_
        show w_M_change _ (nI i) v4 p2 _
        unfold w_M_change
        rw [if_neg q, if_neg q1, if_pos q2]
        exact M_own (fun y => absurd y z) (fun _ => by rw [if_pos rfl]; exact bad44)
    rw [if_neg q2]
    refine X_err1 ?_
    show w_M_change _ (nI i) v4 p2 _
    unfold w_M_change
    rw [if_neg q, if_neg q1, if_neg q2]
    exact bad44
  · rw [if_pos rfl]
    refine X_err1 ?_
    show w_M_change _ p0 p1 p2 _
    unfold w_M_change
    have any : ∀ s0, w_M_change_45 (fun r2 μ2 => -1000000001 = r2 ∧ RR (n + 1) μ2) p0 p1 p2 s0 (sm_st μ 60 1 (μ 60 1 + 1)) := fun s0 => bad s0 (Or.inr q0)
    by_cases q : p1 = 0
    · rw [if_pos q]
      exact M_in (fun _ => any 1) (fun _ => any 0)
    rw [if_neg q]
    by_cases q1 : p1 = 1
    · rw [if_pos q1]
      exact m_isPlace_eq g1.1 hP (fun _ => any 1) (fun _ => any 0)
    rw [if_neg q1]
    by_cases q2 : p1 = 2
    · rw [if_pos q2]
      exact M_own (fun _ => by rw [if_neg (by decide)]; exact any 1) (fun _ => by rw [if_pos rfl]; exact bad44)
    rw [if_neg q2]
    exact bad44

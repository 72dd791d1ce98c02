/-! ===== methods alike: loose, keep, odds ===== -/
def drI (z : Int32) : Int32 := ((z.toUInt32 >>> ((8 : Int32).toUInt32 &&& Int32.toUInt32 31)).toInt32) % 10
def drN (z : Int32) : Nat := ix (drI z)
theorem u32_nI (u : UInt32) : u.toInt32 = nI u.toNat := by
  apply Int32.toBitVec_inj.mp
  show u.toInt32.toBitVec = (Int32.ofNat u.toNat).toBitVec
  simp
theorem drI_eq (z : Int32) : drI z = nI (drN z) ∧ drN z ≤ 9 := by
  have e8 : ((8 : Int32).toUInt32 &&& Int32.toUInt32 31) = 8 := by decide
  have hlt : (z.toUInt32 >>> (8 : UInt32)).toNat < 2 ^ 24 := by
    rw [UInt32.toNat_shiftRight]
    have h := z.toUInt32.toNat_lt
    have : (8 : UInt32).toNat % 32 = 8 := by decide
    rw [this, Nat.shiftRight_eq_div_pow]
    omega
  have e : drI z = nI ((z.toUInt32 >>> (8 : UInt32)).toNat % 10) := by
    unfold drI
    rw [e8, u32_nI]
    exact nI_mod (b := 10) (by omega) (by omega)
  have h9 : (z.toUInt32 >>> (8 : UInt32)).toNat % 10 ≤ 9 := by omega
  exact bd_ix ⟨_, h9, e⟩ (by omega)
def zNx (z : Int32) : Int32 := (z * 1103515245) + 12345
def gDr (y : Int32 → Nat) (f : Int32 → Int32) (g : GH) : GH := gMk g.1 (gP g) (gN g) (y (f (gZ g))) (gHo g) (gWa g) (gRo g) (gKd g) (gMs g) (gSn g) (gAt g) (gOw g) g.2.2.2.2.2.1 g.2.2.2.2.2.2.1 (f (gZ g))
def gLs (y : Int32 → Nat) (f : Int32 → Int32) (g : GH) : Nat → GH
  | 0 => g
  | i + 1 => gPs (gDr y f (gLs y f g i)) 0 1
theorem gLs_ho (y : Int32 → Nat) (f : Int32 → Int32) (g : GH) : ∀ i, gHo (gLs y f g i) = gHo g + i
  | 0 => rfl
  | i + 1 => by
    show gHo (gLs y f g i) + 1 = gHo g + (i + 1)
    rw [gLs_ho y f g i]
    omega
theorem gDr_ok {y : Int32 → Nat} {f : Int32 → Int32} (hy : ∀ z, y z ≤ 9) {g : GH} (h : gOk g) : gOk (gDr y f g) := ⟨h.1, h.2.1, hy _, h.2.2.2⟩
theorem gLs_ok {y : Int32 → Nat} {f : Int32 → Int32} (hy : ∀ z, y z ≤ 9) {g : GH} (h : gOk g) : ∀ i, gHo g + i ≤ 9999 → gOk (gLs y f g i)
  | 0, _ => h
  | i + 1, hi => gPs_gok (gDr_ok hy (gLs_ok hy h i (by omega))) (by show gHo (gLs y f g i) + 1 ≤ 9999; rw [gLs_ho]; omega)
theorem CA_dr {y : Int32 → Nat} {f : Int32 → Int32} {g : GH} {μ : sm_Mem} (hP : gP g ≤ 6) (hN : gN g ≤ 10) (h : CA 1 g μ) : CA 1 (gDr y f g) (sm_st (sm_st μ 1 17 (f (gZ g))) 1 13 (nI (y (f (gZ g))))) := by
  have h1 := CA_z (v := f (gZ g)) hP hN h
  exact CA_y (v := y (f (gZ g))) (g := gMk g.1 (gP g) (gN g) (gY g) (gHo g) (gWa g) (gRo g) (gKd g) (gMs g) (gSn g) (gAt g) (gOw g) g.2.2.2.2.2.1 g.2.2.2.2.2.2.1 (f (gZ g))) hP hN h1
theorem MA_dr {y : Int32 → Nat} {f : Int32 → Int32} {g : GH} {μ : sm_Mem} (hP : gP g ≤ 6) (hN : gN g ≤ 10) (h : MA 62 g μ) : MA 62 (gDr y f g) (sm_st (sm_st μ 62 1 (f (gZ g))) 62 8 (nI (y (f (gZ g))))) := by
  have h1 := MA_z (v := f (gZ g)) hP hN h
  exact MA_y (v := y (f (gZ g))) (g := gMk g.1 (gP g) (gN g) (gY g) (gHo g) (gWa g) (gRo g) (gKd g) (gMs g) (gSn g) (gAt g) (gOw g) g.2.2.2.2.2.1 g.2.2.2.2.2.2.1 (f (gZ g))) hP hN h1
theorem T_loose (n : Nat) (p0 : Int32) : Same n (fun K => w_X_loose K p0) (fun K => w_M_loose K p0) := by
  intro μ hR
  obtain ⟨⟨g, g1, g2, g3⟩, h15, _⟩ := id hR
  have hho := g1.2.2.2.1
  obtain ⟨y, hy⟩ : ∃ y : Int32 → Nat, ∀ z, drI z = nI (y z) ∧ y z ≤ 9 := ⟨drN, drI_eq⟩
  obtain ⟨f, hfz⟩ : ∃ f : Int32 → Int32, ∀ z, f z = (z * 1103515245) + 12345 := ⟨fun z => (z * 1103515245) + 12345, fun _ => rfl⟩
  have hy9 : ∀ z, y z ≤ 9 := fun z => (hy z).2
  show w_X_loose _ p0 μ
  unfold w_X_loose
  refine X_in (fun q => ?_) (fun q => ?_)
  · rw [if_neg (by decide)]
    obtain ⟨t, ht, e⟩ := sm_ofle (n := 40) (by omega) (Int32.le_trans (by decide) q.1) q.2
    subst e
    rw [g2.1.2.2.2.1, nI_add]
    by_cases z : gHo g + t ≤ 9999
    · have z2 : nI (gHo g + t) ≤ 9999 := nI_le_yes (b := 9999) (by omega) (by omega) z
      rw [if_pos z2]
      unfold w_X_loose_39
      refine ⟨fun m x2 μ1 => ∃ i, m = t - i ∧ i ≤ t ∧ x2 = nI i ∧ fr UX μ μ1 ∧ CA 1 (gLs y f g i) μ1, ⟨t, 0, rfl, Nat.zero_le _, rfl, fr_rfl, g2⟩, ?_⟩
      rintro m x2 μ1 ⟨i, rfl, hi, rfl, hf, c1⟩
      dsimp only
      have oki := gLs_ok (f := f) hy9 g1 i (by omega)
      by_cases hit : i = t
      · subst hit
        rw [if_pos (nI_le_yes (by omega) (by omega) (Nat.le_refl _))]
        refine x_snowOfAll oki.2.1 c1 ?_
        show w_M_loose (fun r2 μ2 => nI (sumN (gSn (gLs y f g i)) (gN (gLs y f g i))) = r2 ∧ RR (n + 1) μ2) (nI i) μ1
        unfold w_M_loose
        refine M_in (fun _ => ?_) (fun y => absurd q y)
        have m1 := MA_fr (μ2 := μ1) g3 (hf 62 (by decide))
        rw [if_neg (by decide), m1.1.2.2.2.1, nI_add, if_pos z2]
        unfold w_M_loose_40
        refine ⟨fun m x2 μ2 => ∃ u, m = i - u ∧ u ≤ i ∧ x2 = nI u ∧ frz μ1 μ2 ∧ MA 62 (gLs y f g u) μ2, ⟨i, 0, rfl, Nat.zero_le _, rfl, frz_rfl, m1⟩, ?_⟩
        rintro m x2 μ2 ⟨u, rfl, hu, rfl, hf2, m2⟩
        dsimp only
        have oku := gLs_ok (f := f) hy9 g1 u (by omega)
        by_cases hui : u = i
        · subst hui
          rw [if_pos (nI_le_yes (by omega) (by omega) (Nat.le_refl _))]
          exact m_snowOfAll oku.M m2 ⟨rfl, RR_up2 hR oku c1 m2 hf hf2⟩
        · rw [if_neg (nI_le_no (by omega) (by omega) (by omega))]
          unfold w_M_drawn
          intro μ3 e3
          refine ⟨by decide, ?_⟩
          have e3' : μ3 = sm_st μ2 62 1 (f (gZ (gLs y f g u))) := by rw [e3, m2.1.2.2.2.2.2.2, ← hfz]
          have r3 : μ3 62 1 = f (gZ (gLs y f g u)) := by rw [e3', st_same, if_pos rfl]
          rw [r3]
          intro μ4 e4
          have e4' : μ4 = sm_st μ3 62 8 (nI (y (f (gZ (gLs y f g u))))) := by rw [← (hy _).1]; exact e4
          have m4 : MA 62 (gDr y f (gLs y f g u)) μ4 := by
            rw [e4', e3']
            exact MA_dr oku.1 oku.2.1 m2
          have z4 : frz μ2 μ4 := by rw [e4', e3']; exact (frw_st (frw_st frw_rfl)).z
          refine m_oneHour (wm := 0) (gDr_ok hy9 oku).M m4 (by rw [z4.2 15 (by decide), hf2.2 15 (by decide), hf 61 (by decide)]; exact h15) (fun μ5 hf5 m5 => ?_)
          exact ⟨i - (u + 1), by omega, u + 1, rfl, by omega, (nI_succ u).symm, frz_trans hf2 (frz_trans z4 hf5.z), m5⟩
      · rw [if_neg (nI_le_no (by omega) (by omega) (by omega))]
        unfold w_D_draw
        intro μ3 e3
        have e3' : μ3 = sm_st μ1 1 17 (f (gZ (gLs y f g i))) := by rw [e3, c1.1.2.2.2.2.2.2, ← hfz]
        have r3 : μ3 1 17 = f (gZ (gLs y f g i)) := by rw [e3', st_same, if_pos rfl]
        rw [r3]
        intro μ4 e4
        have e4' : μ4 = sm_st μ3 1 13 (nI (y (f (gZ (gLs y f g i))))) := by rw [← (hy _).1]; exact e4
        have c4 : CA 1 (gDr y f (gLs y f g i)) μ4 := by
          rw [e4', e3']
          exact CA_dr oki.1 oki.2.1 c1
        have f4 : fr UX μ1 μ4 := by rw [e4', e3']; exact fr_st (fr_st fr_rfl (by simp)) (by simp)
        refine x_pass (n := 1) (gDr_ok hy9 oki) c4 (by omega) (fun μ5 hf5 c5 => ?_)
        exact ⟨t - (i + 1), by omega, i + 1, rfl, by omega, (nI_succ i).symm, fr_trans hf (fr_trans f4 hf5), c5⟩
    · have z2 : ¬ nI (gHo g + t) ≤ 9999 := nI_le_no (b := 9999) (by omega) (by omega) (by omega)
      rw [if_neg z2]
      refine X_err3 ?_
      show w_M_loose (fun r2 μ2 => -1000000003 = r2 ∧ RR (n + 1) μ2) (nI t) (sm_st μ 60 3 (μ 60 3 + 1))
      unfold w_M_loose
      refine M_in (fun _ => ?_) (fun y => absurd q y)
      rw [if_neg (by decide), st_ne _ _ _ _ _ (by decide), g3.1.2.2.2.1, nI_add, if_neg z2]
      exact M_err3 ⟨rfl, RR_err hR rfl rfl⟩
  · rw [if_pos rfl]
    refine X_err1 ?_
    show w_M_loose (fun r2 μ2 => -1000000001 = r2 ∧ RR (n + 1) μ2) p0 (sm_st μ 60 1 (μ 60 1 + 1))
    unfold w_M_loose
    refine M_in (fun z => absurd z q) (fun _ => ?_)
    rw [if_pos rfl]
    exact M_err1 ⟨rfl, RR_err hR rfl rfl⟩
theorem T_keep (n : Nat) (p0 p1 p2 : Int32) : Same n (fun K => w_X_keep K p0 p1 p2) (fun K => w_M_keep K p0 p1 p2) := by
  intro μ hR
  obtain ⟨⟨g, g1, g2, g3⟩, h15, _⟩ := id hR
  have h10 := g1.2.1
  have h6 := g1.1
  have hho := g1.2.2.2.1
  have bad : ¬ ((0 ≤ p0 ∧ p0 < nI (gN g)) ∧ (0 ≤ p1 ∧ p1 ≤ 60) ∧ (0 ≤ p2 ∧ p2 ≤ 1)) → w_X_keep_30 (fun r1 μ1 => w_M_keep (fun r2 μ2 => r1 = r2 ∧ RR (n + 1) μ2) p0 p1 p2 μ1) p0 p1 p2 μ := by
    intro hb
    unfold w_X_keep_30
    refine X_err1 ?_
    have e30 : w_M_keep_27 (fun r2 μ2 => -1000000001 = r2 ∧ RR (n + 1) μ2) p0 p1 p2 (sm_st μ 60 1 (μ 60 1 + 1)) := by
      unfold w_M_keep_27
      exact M_err1 ⟨rfl, RR_err hR rfl rfl⟩
    show w_M_keep _ p0 p1 p2 _
    unfold w_M_keep
    refine m_isNote_eq g1.2.1 (by rw [st_ne _ _ _ _ _ (by decide)]; exact g3.1.2.1) (fun q0 => ?_) (fun _ => by rw [if_pos rfl]; exact e30)
    rw [if_neg (by decide)]
    refine M_in (fun q1 => ?_) (fun _ => by rw [if_pos rfl]; exact e30)
    rw [if_neg (by decide)]
    exact M_in (fun q2 => absurd ⟨q0, q1, q2⟩ hb) (fun _ => by rw [if_pos rfl]; exact e30)
  show w_X_keep _ p0 p1 p2 μ
  unfold w_X_keep
  refine x_hasNote_eq g2.1.2.1 (fun q0 => ?_) (fun q => by rw [if_pos rfl]; exact bad (fun z => q z.1))
  rw [if_neg (by decide)]
  refine X_in (fun q1 => ?_) (fun q => by rw [if_pos rfl]; exact bad (fun z => q z.2.1))
  rw [if_neg (by decide)]
  refine X_in (fun q2 => ?_) (fun q => by rw [if_pos rfl]; exact bad (fun z => q z.2.2))
  rw [if_neg (by decide)]
  obtain ⟨i, hi, e⟩ := sm_of (by omega) q0.1 q0.2
  subst e
  obtain ⟨t, ht, e⟩ := sm_ofle (n := 60) (by omega) q1.1 q1.2
  subst e
  refine x_findColdest g1 g2 hi ht (fun μ1 hf1 v7 v8 => ?_)
  have hR1 := RR_sx hR hf1
  have m1 := MA_fr (μ2 := μ1) g3 (hf1 62 (by decide))
  have mod : ∀ r1, r1 = (if p2 = 0 then (scI (fun p => nI (leftI g (nI (gWa g p)) (nI (gY g)) i t)) (gP g)).2 else (scI (fun p => nI (leftI g (nI (gWa g p)) (nI (gY g)) i t)) (gP g)).1) → w_M_keep (fun r2 μ2 => r1 = r2 ∧ RR (n + 1) μ2) (nI i) (nI t) p2 μ1 := by
    intro r1 er
    unfold w_M_keep
    refine m_isNote_eq g1.2.1 m1.1.2.1 (fun _ => ?_) (fun z => absurd q0 z)
    rw [if_neg (by decide)]
    refine M_in (fun _ => ?_) (fun z => absurd q1 z)
    rw [if_neg (by decide)]
    refine M_in (fun _ => ?_) (fun z => absurd q2 z)
    rw [if_neg (by decide)]
    refine m_save (fun μ2 hf2 hs => ?_)
    have m2 := MA_fr (μ2 := μ2) m1 (hf2 62 (by decide))
    unfold w_M_keep_55
    refine ⟨fun m x4 x5 x6 μ3 => ∃ p, m = gP g - p ∧ p ≤ gP g ∧ x6 = nI p ∧ x5 = (scI (fun p => nI (leftI g (nI (gWa g p)) (nI (gY g)) i t)) p).1 ∧ x4 = (scI (fun p => nI (leftI g (nI (gWa g p)) (nI (gY g)) i t)) p).2 ∧ frz μ1 μ3 ∧ (∀ j, j < 271 → μ3 62 j = μ1 62 j) ∧ (∀ j, j < 271 → μ3 64 j = μ1 62 j), ⟨gP g, 0, rfl, Nat.zero_le _, rfl, rfl, rfl, frz_of hf2 (by decide), fun j hj => by rw [hf2 62 (by decide)], hs⟩, ?_⟩
    rintro m x4 x5 x6 μ3 ⟨p, rfl, hp, rfl, rfl, rfl, hf3, h62, h64⟩
    dsimp only
    rw [h64 2 (by omega), m1.1.1]
    by_cases hin : p = gP g
    · subst hin
      rw [if_pos (nI_le_yes (by omega) (by omega) (Nat.le_refl _))]
      have hq := RR_q hR1 (hf3.q h62)
      by_cases q : p2 = 0
      · rw [if_pos q] at er ⊢
        exact ⟨er, hq⟩
      · rw [if_neg q] at er ⊢
        exact ⟨er, hq⟩
    · rw [if_neg (nI_le_no (by omega) (by omega) (by omega))]
      have hlt : p < gP g := by omega
      refine m_gets (f := 3) (by omega) (by omega) ?_
      have m3 : MA 62 g μ3 := MA_lt g1.1 g1.2.1 g1.2.2.2.2.2.2.2.1 g1.2.2.2.2.2.2.2.2.2 m1 h62
      have m4 := MA_at (v := p) hi g1.1 g1.2.1 m3
      have ok4 : gOk (gMk g.1 (gP g) (gN g) (gY g) (gHo g) (gWa g) (gRo g) (gKd g) (gMs g) (gSn g) (fup (gAt g) i p) (gOw g) g.2.2.2.2.2.1 g.2.2.2.2.2.2.1 (gZ g)) := ⟨g1.1, g1.2.1, g1.2.2.1, g1.2.2.2.1, g1.2.2.2.2.1, g1.2.2.2.2.2.1, fun k hk => by
        obtain ⟨y1, y2, y3, y4, y5⟩ := g1.2.2.2.2.2.2.1 k hk
        refine ⟨y1, y2, y3, ?_, y5⟩
        show fup (gAt g) i p k < gP g
        unfold fup
        split
        · exact hlt
        · exact y4, g1.2.2.2.2.2.2.2⟩
      refine m_passes (wm := 0) ok4.M m4 (by rw [st_ne _ _ _ _ _ (by decide), hf3.2 15 (by decide), hf1 61 (by decide)]; exact h15) ht (by show gHo g + t ≤ 20000; omega) (fun μ5 hf5 m5 => ?_)
      refine m_its (f := 2) (by omega) (by omega) ?_
      rw [show μ5 62 (51 + 5 * i + 2) = _ from (m5.2.2.2.1 i hi).2.2.1]
      have ev : nI (gSn (gPs (gMk g.1 (gP g) (gN g) (gY g) (gHo g) (gWa g) (gRo g) (gKd g) (gMs g) (gSn g) (fup (gAt g) i p) (gOw g) g.2.2.2.2.2.1 g.2.2.2.2.2.2.1 (gZ g)) 0 t) i) = nI (leftI g (nI (gWa g p)) (nI (gY g)) i t) := by
        show nI (leftI g (nI (gWa g (fup (gAt g) i p i))) (nI (gY g)) i t) = _
        unfold fup
        rw [if_pos rfl]
      rw [ev]
      have z35 : frz μ3 μ5 := frz_trans (frw_st frw_rfl).z hf5.z
      refine m_load (μ0 := μ1) (fun j hj => by rw [hf5.1 64 (by decide), st_ne _ _ _ _ _ (by decide)]; exact h64 j hj) (fun μ6 hf6 hr => ?_)
      have z6 : frz μ1 μ6 := frz_trans hf3 (frz_trans z35 (frz_of hf6 (by decide)))
      have h646 : ∀ j, j < 271 → μ6 64 j = μ1 62 j := fun j hj => by rw [hf6 64 (by decide), hf5.1 64 (by decide), st_ne _ _ _ _ _ (by decide)]; exact h64 j hj
      by_cases q : (scI (fun p => nI (leftI g (nI (gWa g p)) (nI (gY g)) i t)) p).1 < nI (leftI g (nI (gWa g p)) (nI (gY g)) i t)
      · rw [if_neg (Int32.not_le.mpr q)]
        unfold w_M_keep_113
        rw [if_neg (Int32.not_le.mpr q)]
        unfold w_M_keep_129
        refine ⟨gP g - (p + 1), by omega, p + 1, rfl, by omega, (nI_succ p).symm, ?_, ?_, z6, hr, h646⟩
        · show _ = (if _ then _ else _ : Int32 × Int32).1
          rw [if_pos q]
        · show _ = (if _ then _ else _ : Int32 × Int32).2
          rw [if_pos q]
      · rw [if_pos (Int32.not_lt.mp q)]
        unfold w_M_keep_113
        rw [if_pos (Int32.not_lt.mp q)]
        unfold w_M_keep_129
        refine ⟨gP g - (p + 1), by omega, p + 1, rfl, by omega, (nI_succ p).symm, ?_, ?_, z6, hr, h646⟩
        · show _ = (if _ then _ else _ : Int32 × Int32).1
          rw [if_neg q]
        · show _ = (if _ then _ else _ : Int32 × Int32).2
          rw [if_neg q]
  by_cases q : p2 = 0
  · rw [if_pos q]
    exact mod _ (by rw [if_pos q]; exact v8)
  · rw [if_neg q]
    exact mod _ (by rw [if_neg q]; exact v7)
theorem x_gd {K : Int32 → sm_Mem → Prop} {c : Nat} {μ : sm_Mem} (hc : c ≤ 10) (hK : K (nI (Nat.gcd c 10)) μ) : w_X_greatestDivisor K (nI c) 10 μ := by
  have g1 : Nat.gcd c 10 ∣ c := Nat.gcd_dvd_left c 10
  have g2 : Nat.gcd c 10 ∣ 10 := Nat.gcd_dvd_right c 10
  have g3 : Nat.gcd c 10 ≤ 10 := Nat.le_of_dvd (by omega) g2
  have g0 : 0 < Nat.gcd c 10 := Nat.gcd_pos_of_pos_right c (by omega)
  unfold w_X_greatestDivisor w_X_greatestDivisor_2
  refine ⟨fun m x2 μ2 => μ2 = μ ∧ x2 = nI m ∧ 1 ≤ m ∧ m ≤ 10 ∧ (Nat.gcd c 10 ≤ m), ⟨10, rfl, rfl, by omega, by omega, g3⟩, ?_⟩
  rintro m x2 μ2 ⟨rfl, rfl, hm1, hm2, hle⟩
  dsimp only
  by_cases q : m = 1
  · subst q
    rw [if_pos (by decide)]
    have : Nat.gcd c 10 = 1 := by omega
    rw [this] at hK
    exact hK
  · have n1 : ¬ nI m ≤ 1 := nI_le_no (b := 1) (by omega) (by omega) (by omega)
    rw [if_neg n1]
    have n0 : ¬ nI m = 0 := nI_ne0 (by omega) (by omega)
    have nx : ¬ Nat.gcd c 10 = m → w_X_greatestDivisor_21 K (fun a0 μ => ∃ k, k < m ∧ (μ = μ2 ∧ a0 = nI k ∧ 1 ≤ k ∧ k ≤ 10 ∧ Nat.gcd c 10 ≤ k)) (nI c) 10 (nI m) μ2 := by
      intro h
      unfold w_X_greatestDivisor_21
      exact ⟨m - 1, by omega, rfl, by rw [show (-1 : Int32) = -nI 1 from rfl, ← Int32.sub_eq_add_neg, nI_sub hm1], by omega, by omega, by omega⟩
    refine ⟨n0, ?_⟩
    rw [nI_mod (by omega) (by omega)]
    by_cases d1 : c % m = 0
    · rw [if_pos (by rw [d1]; rfl)]
      refine ⟨n0, ?_⟩
      rw [show (10 : Int32) % nI m = nI (10 % m) from nI_mod (a := 10) (by omega) (by omega)]
      by_cases d2 : 10 % m = 0
      · rw [if_pos (by rw [d2]; rfl)]
        have : m ∣ Nat.gcd c 10 := Nat.dvd_gcd (Nat.dvd_of_mod_eq_zero d1) (Nat.dvd_of_mod_eq_zero d2)
        have := Nat.le_of_dvd g0 this
        rw [show Nat.gcd c 10 = m by omega] at hK
        exact hK
      · have lt := Nat.mod_lt 10 (show m > 0 by omega)
        rw [if_neg (nI_ne0 (by omega) (by omega))]
        exact nx (fun e => d2 (by rw [e] at g2; exact Nat.mod_eq_zero_of_dvd g2))
    · have lt := Nat.mod_lt c (show m > 0 by omega)
      rw [if_neg (nI_ne0 (by omega) (by omega))]
      exact nx (fun e => d1 (by rw [e] at g1; exact Nat.mod_eq_zero_of_dvd g1))
theorem m_gd {K : Int32 → sm_Mem → Prop} {c : Nat} {μ : sm_Mem} (hc : c ≤ 10) (hK : K (nI (Nat.gcd c 10)) μ) : w_M_divisor K (nI c) 10 μ := by
  unfold w_M_divisor w_M_divisor_4
  refine ⟨fun m x2 x3 μ2 => μ2 = μ ∧ ∃ a, x2 = nI a ∧ x3 = nI m ∧ a ≤ 10 ∧ m ≤ 10 ∧ Nat.gcd a m = Nat.gcd c 10, ⟨10, rfl, c, rfl, rfl, hc, by omega, rfl⟩, ?_⟩
  rintro m x2 x3 μ2 ⟨rfl, a, rfl, rfl, ha, hm, hg⟩
  dsimp only
  by_cases q : m = 0
  · subst q
    rw [if_pos (show nI 0 = 0 from rfl)]
    rw [Nat.gcd_zero_right] at hg
    rw [← hg] at hK
    exact hK
  · have n0 : ¬ nI m = 0 := nI_ne0 (by omega) (by omega)
    rw [if_neg n0]
    refine ⟨n0, ?_⟩
    intro v3 e3
    rw [nI_mod (by omega) (by omega)] at e3
    have lt := Nat.mod_lt a (show m > 0 by omega)
    refine ⟨a % m, lt, rfl, m, rfl, e3, hm, by omega, ?_⟩
    rw [← hg, Nat.gcd_comm m (a % m), ← Nat.gcd_rec, Nat.gcd_comm]
theorem cntN_le (f : Nat → Nat) : ∀ n, cntN f n ≤ n
  | 0 => Nat.le_refl _
  | n + 1 => by
    have := cntN_le f n
    show cntN f n + (if 0 < f n then 1 else 0) ≤ n + 1
    split <;> omega
theorem T_odds (n : Nat) (p0 p1 p2 : Int32) : Same n (fun K => w_X_odds K p0 p1 p2) (fun K => w_M_odds K p0 p1 p2) := by
  intro μ hR
  obtain ⟨⟨g, g1, g2, g3⟩, h15, _⟩ := id hR
  have h10 := g1.2.1
  have h6 := g1.1
  have hho := g1.2.2.2.1
  have bad : ¬ ((0 ≤ p0 ∧ p0 < nI (gN g)) ∧ (0 ≤ p1 ∧ p1 ≤ 60) ∧ (0 ≤ p2 ∧ p2 ≤ 1)) → w_X_odds_30 (fun r1 μ1 => w_M_odds (fun r2 μ2 => r1 = r2 ∧ RR (n + 1) μ2) p0 p1 p2 μ1) p0 p1 p2 μ := by
    intro hb
    unfold w_X_odds_30
    refine X_err1 ?_
    have e30 : w_M_odds_27 (fun r2 μ2 => -1000000001 = r2 ∧ RR (n + 1) μ2) p0 p1 p2 (sm_st μ 60 1 (μ 60 1 + 1)) := by
      unfold w_M_odds_27
      exact M_err1 ⟨rfl, RR_err hR rfl rfl⟩
    show w_M_odds _ p0 p1 p2 _
    unfold w_M_odds
    refine m_isNote_eq g1.2.1 (by rw [st_ne _ _ _ _ _ (by decide)]; exact g3.1.2.1) (fun q0 => ?_) (fun _ => by rw [if_pos rfl]; exact e30)
    rw [if_neg (by decide)]
    refine M_in (fun q1 => ?_) (fun _ => by rw [if_pos rfl]; exact e30)
    rw [if_neg (by decide)]
    exact M_in (fun q2 => absurd ⟨q0, q1, q2⟩ hb) (fun _ => by rw [if_pos rfl]; exact e30)
  show w_X_odds _ p0 p1 p2 μ
  unfold w_X_odds
  refine x_hasNote_eq g2.1.2.1 (fun q0 => ?_) (fun q => by rw [if_pos rfl]; exact bad (fun z => q z.1))
  rw [if_neg (by decide)]
  refine X_in (fun q1 => ?_) (fun q => by rw [if_pos rfl]; exact bad (fun z => q z.2.1))
  rw [if_neg (by decide)]
  refine X_in (fun q2 => ?_) (fun q => by rw [if_pos rfl]; exact bad (fun z => q z.2.2))
  rw [if_neg (by decide)]
  obtain ⟨i, hi, e⟩ := sm_of (by omega) q0.1 q0.2
  subst e
  obtain ⟨t, ht, e⟩ := sm_ofle (n := 60) (by omega) q1.1 q1.2
  subst e
  refine x_weathers g1 g2 hi ht (fun μ1 hf1 => ?_)
  have hle := cntN_le (fun y => leftI g (nI (gWa g (gAt g i))) (nI y) i t) 10
  generalize hcn : cntN (fun y => leftI g (nI (gWa g (gAt g i))) (nI y) i t) 10 = cn at hle ⊢
  refine x_gd hle ?_
  have hR1 := RR_sx hR hf1
  have m1 := MA_fr (μ2 := μ1) g3 (hf1 62 (by decide))
  have gd0 : 0 < Nat.gcd cn 10 := Nat.gcd_pos_of_pos_right cn (by omega)
  have gd1 : Nat.gcd cn 10 ≤ 10 := Nat.le_of_dvd (by omega) (Nat.gcd_dvd_right cn 10)
  have ng : ¬ nI (Nat.gcd cn 10) = 0 := nI_ne0 gd0 (by omega)
  have mod : ∀ r1, r1 = (if p2 = 0 then nI cn / nI (Nat.gcd cn 10) else 10 / nI (Nat.gcd cn 10)) → w_M_odds (fun r2 μ2 => r1 = r2 ∧ RR (n + 1) μ2) (nI i) (nI t) p2 μ1 := by
    intro r1 er
    unfold w_M_odds
    refine m_isNote_eq g1.2.1 m1.1.2.1 (fun _ => ?_) (fun z => absurd q0 z)
    rw [if_neg (by decide)]
    refine M_in (fun _ => ?_) (fun z => absurd q1 z)
    rw [if_neg (by decide)]
    refine M_in (fun _ => ?_) (fun z => absurd q2 z)
    rw [if_neg (by decide)]
    refine m_save (fun μ2 hf2 hs => ?_)
    unfold w_M_odds_52
    refine ⟨fun m x4 x5 μ3 => ∃ y, m = 10 - y ∧ y ≤ 10 ∧ x5 = nI y ∧ x4 = nI (cntN (fun y => leftI g (nI (gWa g (gAt g i))) (nI y) i t) y) ∧ frz μ1 μ3 ∧ (∀ j, j < 271 → μ3 62 j = μ1 62 j) ∧ (∀ j, j < 271 → μ3 64 j = μ1 62 j), ⟨10, 0, rfl, Nat.zero_le _, rfl, rfl, frz_of hf2 (by decide), fun j hj => by rw [hf2 62 (by decide)], hs⟩, ?_⟩
    rintro m x4 x5 μ3 ⟨y, rfl, hy, rfl, rfl, hf3, h62, h64⟩
    dsimp only
    by_cases hin : y = 10
    · subst hin
      rw [if_pos (by decide), hcn]
      refine m_gd hle ?_
      have hq := RR_q hR1 (hf3.q h62)
      by_cases q : p2 = 0
      · rw [if_pos q] at er ⊢
        exact ⟨ng, er, hq⟩
      · rw [if_neg q] at er ⊢
        exact ⟨ng, er, hq⟩
    · have q9 : ¬ (9 : Int32) < nI y := nI_lt_no (a := 9) (by omega) (by omega) (by omega)
      rw [if_neg q9]
      intro μ4 e4
      have m3 : MA 62 g μ3 := MA_lt g1.1 g1.2.1 g1.2.2.2.2.2.2.2.1 g1.2.2.2.2.2.2.2.2.2 m1 h62
      have m4 : MA 62 (gMk g.1 (gP g) (gN g) y (gHo g) (gWa g) (gRo g) (gKd g) (gMs g) (gSn g) (gAt g) (gOw g) g.2.2.2.2.2.1 g.2.2.2.2.2.2.1 (gZ g)) μ4 := by rw [e4]; exact MA_y g1.1 g1.2.1 m3
      have ok4 : gOk (gMk g.1 (gP g) (gN g) y (gHo g) (gWa g) (gRo g) (gKd g) (gMs g) (gSn g) (gAt g) (gOw g) g.2.2.2.2.2.1 g.2.2.2.2.2.2.1 (gZ g)) := ⟨g1.1, g1.2.1, by show y ≤ 9; omega, g1.2.2.2⟩
      refine m_passes (wm := 0) ok4.M m4 (by rw [e4, st_ne _ _ _ _ _ (by decide), hf3.2 15 (by decide), hf1 61 (by decide)]; exact h15) ht (by show gHo g + t ≤ 20000; omega) (fun μ5 hf5 m5 => ?_)
      refine m_its (f := 2) (by omega) (by omega) ?_
      rw [show μ5 62 (51 + 5 * i + 2) = _ from (m5.2.2.2.1 i hi).2.2.1]
      have ev : nI (gSn (gPs (gMk g.1 (gP g) (gN g) y (gHo g) (gWa g) (gRo g) (gKd g) (gMs g) (gSn g) (gAt g) (gOw g) g.2.2.2.2.2.1 g.2.2.2.2.2.2.1 (gZ g)) 0 t) i) = nI (leftI g (nI (gWa g (gAt g i))) (nI y) i t) := rfl
      rw [ev]
      have z35 : frz μ3 μ5 := frz_trans (by rw [e4]; exact (frw_st frw_rfl).z) hf5.z
      have h999 := leftI_le (w := nI (gWa g (gAt g i))) (y := nI y) (n := t) g1 hi
      have fin : ∀ s0, nI (cntN (fun y => leftI g (nI (gWa g (gAt g i))) (nI y) i t) y) + s0 = nI (cntN (fun y => leftI g (nI (gWa g (gAt g i))) (nI y) i t) (y + 1)) → w_M_odds_89 (fun r2 μ2 => r1 = r2 ∧ RR (n + 1) μ2) (fun a0 a1 μ => ∃ k, k < 10 - y ∧ ∃ y, k = 10 - y ∧ y ≤ 10 ∧ a1 = nI y ∧ a0 = nI (cntN (fun y => leftI g (nI (gWa g (gAt g i))) (nI y) i t) y) ∧ frz μ1 μ ∧ (∀ j, j < 271 → μ 62 j = μ1 62 j) ∧ (∀ j, j < 271 → μ 64 j = μ1 62 j)) (nI i) (nI t) p2 (nI y) s0 (nI (cntN (fun y => leftI g (nI (gWa g (gAt g i))) (nI y) i t) y)) μ5 := by
        intro s0 es
        unfold w_M_odds_89
        intro v e
        rw [es] at e
        refine m_load (μ0 := μ1) (fun j hj => by rw [hf5.1 64 (by decide), e4, st_ne _ _ _ _ _ (by decide)]; exact h64 j hj) (fun μ6 hf6 hr => ?_)
        refine ⟨10 - (y + 1), by omega, y + 1, rfl, by omega, (nI_succ y).symm, e, frz_trans hf3 (frz_trans z35 (frz_of hf6 (by decide))), hr, fun j hj => by rw [hf6 64 (by decide), hf5.1 64 (by decide), e4, st_ne _ _ _ _ _ (by decide)]; exact h64 j hj⟩
      by_cases q : 0 < leftI g (nI (gWa g (gAt g i))) (nI y) i t
      · have q0 : ¬ nI (leftI g (nI (gWa g (gAt g i))) (nI y) i t) ≤ 0 := nI_le_no (b := 0) (by omega) (by omega) q
        rw [if_neg q0]
        refine fin 1 ?_
        show nI _ + 1 = nI (cntN _ y + (if 0 < leftI g (nI (gWa g (gAt g i))) (nI y) i t then 1 else 0))
        rw [if_pos q, nI_succ]
      · have q0 : nI (leftI g (nI (gWa g (gAt g i))) (nI y) i t) ≤ 0 := nI_le_yes (b := 0) (by omega) (by omega) (by omega)
        rw [if_pos q0]
        refine fin 0 ?_
        show nI _ + 0 = nI (cntN _ y + (if 0 < leftI g (nI (gWa g (gAt g i))) (nI y) i t then 1 else 0))
        rw [if_neg q]
        exact Int32.add_zero _
  by_cases q : p2 = 0
  · rw [if_pos q]
    exact ⟨ng, mod _ (by rw [if_pos q])⟩
  · rw [if_neg q]
    exact ⟨ng, mod _ (by rw [if_neg q])⟩

/-! ===== methods alike: place, ofPlace, as, count ===== -/
def gPlace (g : GH) (w : Nat) : GH := gMk g.1 (gP g + 1) (gN g) (gY g) (gHo g) (fup (gWa g) (gP g) w) (fun a b => if a < gP g ∧ b < gP g then gRo g a b else 0) (gKd g) (gMs g) (gSn g) (gAt g) (gOw g) g.2.2.2.2.2.1 g.2.2.2.2.2.2.1 (gZ g)
theorem CA_place {g : GH} {μ : sm_Mem} {w : Nat} (hP : gP g < 6) (h : CA 1 g μ) : CA 1 (gPlace g w) (sm_st (sm_st μ 2 (gP g) (nI w)) 1 11 (nI (gP g + 1))) := by
  obtain ⟨⟨b1, b2, b3, b4, b5, b6, b7⟩, a2, a3, a4, a5, a6, a7, a8⟩ := h
  have e1 : ∀ j, j ≠ 11 → sm_st (sm_st μ 2 (gP g) (nI w)) 1 11 (nI (gP g + 1)) 1 j = μ 1 j := fun j hj => by rw [st_same, if_neg hj, st_ne _ _ _ _ _ (by decide)]
  have e2 : ∀ k, k ≠ 1 → k ≠ 2 → sm_st (sm_st μ 2 (gP g) (nI w)) 1 11 (nI (gP g + 1)) k = μ k := fun k h1 h2 => by rw [st_ne _ _ _ _ _ h1, st_ne _ _ _ _ _ h2]
  refine ⟨⟨?_, ?_, ?_, ?_, ?_, ?_, ?_⟩, fun p hp => ?_, fun a b ha hb => ?_, fun i hi => ?_, fun i hi => ?_, fun i hi => ?_, TX_fr a7 (e2 _ (by decide) (by decide)) (e2 _ (by decide) (by decide)) (e2 _ (by decide) (by decide)), TX_fr a8 (e2 _ (by decide) (by decide)) (e2 _ (by decide) (by decide)) (e2 _ (by decide) (by decide))⟩
  · rw [st_same, if_pos rfl]; rfl
  · rw [e1 _ (by decide)]; exact b2
  · rw [e1 _ (by decide)]; exact b3
  · rw [e1 _ (by decide)]; exact b4
  · rw [e1 _ (by decide)]; exact b5
  · rw [e1 _ (by decide)]; exact b6
  · rw [e1 _ (by decide)]; exact b7
  · have hp : p < gP g + 1 := hp
    show sm_st (sm_st μ 2 (gP g) (nI w)) 1 11 (nI (gP g + 1)) 2 p = nI (fup (gWa g) (gP g) w p)
    rw [st_ne _ _ _ _ _ (by decide), st_same]
    unfold fup
    by_cases q : p = gP g
    · rw [if_pos q, if_pos q]
    · rw [if_neg q, if_neg q]
      exact a2 p (by omega)
  · show sm_st (sm_st μ 2 (gP g) (nI w)) 1 11 (nI (gP g + 1)) 3 (a * 6 + b) = nI (if a < gP g + 1 ∧ b < gP g + 1 then (if a < gP g ∧ b < gP g then gRo g a b else 0) else 0)
    rw [e2 _ (by decide) (by decide), show μ 3 (a * 6 + b) = _ from a3 a b ha hb]
    by_cases q : a < gP g ∧ b < gP g
    · rw [if_pos q, if_pos (by omega)]
    · rw [if_neg q]
      split <;> rfl
  · have hi : i < gN g := hi
    rw [e2 _ (by decide) (by decide), e2 _ (by decide) (by decide), e2 _ (by decide) (by decide), e2 _ (by decide) (by decide), e2 _ (by decide) (by decide)]
    exact a4 i hi
  · rw [e2 _ (by decide) (by decide)]; exact a5 i hi
  · rw [e2 _ (by decide) (by decide)]; exact a6 i hi
theorem TM_wk {u c : Nat} {μ μ2 : sm_Mem} {o : Option pV} (hu : u ≤ 1) (h : TM u c μ o) (h5 : μ2 c (5 + u) = μ c (5 + u)) (hf : ∀ j, 171 ≤ j → μ2 c j = μ c j) : TM u c μ2 o := by
  cases o with
  | none => show μ2 c (5 + u) = -1; rw [h5]; exact h
  | some v =>
    obtain ⟨n, cd, h1, h2, h3⟩ := h
    refine ⟨n, cd, h1, by rw [h5]; exact h2, ?_⟩
    have e : bys (μ2 c) u = bys (μ c) u := by
      funext i
      unfold bys
      by_cases q : i < 50
      · rw [if_pos q, if_pos q, hf _ (by omega)]
      · rw [if_neg q, if_neg q]
    rw [e]
    exact h3
theorem MA_place {g : GH} {μ μ2 : sm_Mem} {w : Nat} (hP : gP g < 6) (hN : gN g ≤ 10) (hT : gTn g ≤ 50) (hW : gWn g ≤ 20) (h : MA 62 g μ) (h2 : μ2 62 2 = nI (gP g + 1)) (hr : ∀ j, j ≠ 2 → μ2 62 j = if (15 + 6 * gP g ≤ j ∧ j < 15 + 6 * gP g + 6) ∨ (15 + gP g ≤ j ∧ j < 15 + gP g + 6 * 6 ∧ (j - (15 + gP g)) % 6 = 0) then 0 else if j = 9 + gP g then nI w else μ 62 j) : MA 62 (gPlace g w) μ2 := by
  obtain ⟨⟨b1, b2, b3, b4, b5, b6, b7⟩, a2, a3, a4, a5, a6, a7, a8⟩ := h
  have hs : ∀ j, j ≠ 2 → (j < 9 ∨ 51 ≤ j) → μ2 62 j = μ 62 j := fun j h0 h1 => by rw [hr j h0, if_neg (by omega), if_neg (by omega)]
  refine ⟨⟨h2, ?_, ?_, ?_, ?_, ?_, ?_⟩, fun p hp => ?_, fun a b ha hb => ?_, fun i hi => ?_, fun i hi => ?_, fun i hi => ?_, TM_wk (by omega) a7 (hs _ (by omega) (by omega)) (fun j hj => hs j (by omega) (by omega)), TM_wk (by omega) a8 (hs _ (by omega) (by omega)) (fun j hj => hs j (by omega) (by omega))⟩
  · rw [hs _ (by omega) (by omega)]; exact b2
  · rw [hs _ (by omega) (by omega)]; exact b3
  · rw [hs _ (by omega) (by omega)]; exact b4
  · rw [hs _ (by omega) (by omega)]; exact b5
  · rw [hs _ (by omega) (by omega)]; exact b6
  · rw [hs _ (by omega) (by omega)]; exact b7
  · have hp : p < gP g + 1 := hp
    show μ2 62 (9 + p) = nI (fup (gWa g) (gP g) w p)
    rw [hr _ (by omega), if_neg (by omega)]
    unfold fup
    by_cases q : p = gP g
    · rw [if_pos (by omega), if_pos q]
    · rw [if_neg (by omega), if_neg q]
      exact a2 p (by omega)
  · have ha : a < gP g + 1 := ha
    have hb : b < gP g + 1 := hb
    show μ2 62 (15 + 6 * a + b) = nI (if a < gP g ∧ b < gP g then gRo g a b else 0)
    rw [hr _ (by omega)]
    by_cases q : a < gP g ∧ b < gP g
    · rw [if_pos q, if_neg (by omega), if_neg (by omega)]
      exact a3 a b q.1 q.2
    · rw [if_neg q, if_pos (by omega)]
      rfl
  · have hi : i < gN g := hi
    rw [hs _ (by omega) (by omega), hs _ (by omega) (by omega), hs _ (by omega) (by omega), hs _ (by omega) (by omega), hs _ (by omega) (by omega)]
    exact a4 i hi
  · rw [hs _ (by omega) (by omega)]; exact a5 i hi
  · rw [hs _ (by omega) (by omega)]; exact a6 i hi
theorem T_place (n : Nat) (p0 : Int32) : Same n (fun K => w_X_place K p0) (fun K => w_M_place K p0) := by
  intro μ hR
  obtain ⟨⟨g, g1, g2, g3⟩, h15, _⟩ := id hR
  have h6 := g1.1
  have h10 := g1.2.1
  show w_X_place _ p0 μ
  unfold w_X_place
  refine X_in (fun q => ?_) (fun q => ?_)
  · rw [if_neg (by decide), g2.1.1]
    obtain ⟨w, hw, e⟩ := sm_ofle (n := 9) (by omega) q.1 q.2
    subst e
    by_cases z : gP g < 6
    · have z6 : nI (gP g) < 6 := nI_lt_yes (b := 6) (by omega) (by omega) z
      rw [if_pos z6]
      refine ⟨(vin_iff (by omega)).mpr z, ?_⟩
      intro μ6 e6 μ7 e7
      rw [ix_nI (by omega)] at e6
      have n6 : μ6 1 11 = nI (gP g) := by rw [e6, st_ne _ _ _ _ _ (by decide)]; exact g2.1.1
      rw [n6, ← nI_succ] at e7
      have n7 : μ7 1 11 - 1 = nI (gP g) := by rw [e7, st_same, if_pos rfl]; exact nI_sub (a := gP g + 1) (b := 1) (by omega)
      rw [n7]
      have m1 : MA 62 g μ7 := by rw [e7, e6]; exact MA_ne (MA_ne g3 (by decide)) (by decide)
      have c1 : CA 1 (gPlace g w) μ7 := by rw [e7, e6]; exact CA_place z g2
      have f7 : fr UC μ μ7 := by rw [e7, e6]; exact fr_st (fr_st fr_rfl (by simp)) (by simp)
      show w_M_place _ (nI w) μ7
      unfold w_M_place
      refine M_in (fun _ => ?_) (fun y => absurd q y)
      have nq : ¬ nI (gP g) = 6 := fun e => absurd ((nI_inj (b := 6) (by omega) (by omega)).mp e) (by omega)
      rw [if_neg (by decide), m1.1.1, if_neg nq]
      intro v5 e5
      subst e5
      have e9 : (9 : Int32) + nI (gP g) = nI (9 + gP g) := nI_add 9 _
      rw [e9]
      refine ⟨(vin_iff (by omega)).mpr (by omega), ?_⟩
      intro μ8 e8
      rw [ix_nI (by omega)] at e8
      unfold w_M_place_54
      refine ⟨fun m x3 μ9 => ∃ i, m = 6 - i ∧ i ≤ 6 ∧ x3 = nI i ∧ fr [62] μ7 μ9 ∧ ∀ j, μ9 62 j = if (15 + 6 * gP g ≤ j ∧ j < 15 + 6 * gP g + i) ∨ (15 + gP g ≤ j ∧ j < 15 + gP g + 6 * i ∧ (j - (15 + gP g)) % 6 = 0) then 0 else if j = 9 + gP g then nI w else μ7 62 j, ⟨6, 0, rfl, by omega, rfl, by rw [e8]; exact fr_st fr_rfl (by simp), fun j => ?_⟩, ?_⟩
      · rw [if_neg (by omega), e8, st_same]
      · rintro m x3 μ9 ⟨i, rfl, hi, rfl, hf, hr⟩
        dsimp only
        by_cases hin : i = 6
        · subst hin
          rw [if_pos (by decide)]
          intro μ10 e10
          have n9 : μ9 62 2 = nI (gP g) := by rw [hr 2, if_neg (by omega), if_neg (by omega)]; exact m1.1.1
          rw [n9, ← nI_succ] at e10
          have f10 : fr [62] μ7 μ10 := by rw [e10]; exact fr_st hf (by simp)
          refine ⟨rfl, RR_upd hR (g2 := gPlace g w) ⟨z, h10, g1.2.2.1, g1.2.2.2.1, fun p hp => ?_, fun a b => ?_, fun k hk => ?_, g1.2.2.2.2.2.2.2⟩ (CA_fr c1 (fun k hk => f10 k (by revert k; decide))) (MA_place z h10 g1.2.2.2.2.2.2.2.1 g1.2.2.2.2.2.2.2.2.2 m1 (by rw [e10, st_same, if_pos rfl]) (fun j hj => by rw [e10, st_same, if_neg hj]; exact hr j)) (fr_trans f7 (fr_mono f10 (by simp)))⟩
          · have hp : p < gP g + 1 := hp
            show fup (gWa g) (gP g) w p ≤ 9
            unfold fup
            split
            · exact hw
            · exact g1.2.2.2.2.1 p (by omega)
          · show (if a < gP g ∧ b < gP g then gRo g a b else 0) ≤ 9
            split
            · exact g1.2.2.2.2.2.1 a b
            · omega
          · obtain ⟨k1, k2, k3, k4, k5⟩ := g1.2.2.2.2.2.2.1 k hk
            exact ⟨k1, k2, k3, by show gAt g k < gP g + 1; omega, k5⟩
        · have q6 : ¬ (6 : Int32) ≤ nI i := nI_le_no (a := 6) (by omega) (by omega) (by omega)
          rw [if_neg q6]
          have e15 : ∀ x y : Nat, (15 + (6 * nI x)) + nI y = nI (15 + 6 * x + y) := fun x y => by rw [show (6 : Int32) * nI x = nI (6 * x) from nI_mul 6 x, show (15 : Int32) + nI (6 * x) = nI (15 + 6 * x) from nI_add 15 _, nI_add]
          rw [e15, e15]
          refine ⟨(vin_iff (by omega)).mpr (by omega), ?_⟩
          intro μ11 e11
          refine ⟨(vin_iff (by omega)).mpr (by omega), ?_⟩
          intro μ13 e13
          rw [ix_nI (by omega)] at e11 e13
          refine ⟨6 - (i + 1), by omega, i + 1, rfl, by omega, (nI_succ i).symm, by rw [e13, e11]; exact fr_st (fr_st hf (by simp)) (by simp), fun j => ?_⟩
          rw [e13, st_same, e11, st_same, hr]
          repeat' split
          all_goals first | rfl | (exfalso; omega)
    · have z6 : ¬ nI (gP g) < 6 := nI_lt_no (b := 6) (by omega) (by omega) (by omega)
      rw [if_neg z6]
      refine X_err4 ?_
      show w_M_place (fun r2 μ2 => -1000000004 = r2 ∧ RR (n + 1) μ2) (nI w) (sm_st μ 60 4 (μ 60 4 + 1))
      unfold w_M_place
      refine M_in (fun _ => ?_) (fun y => absurd q y)
      have e6 : nI (gP g) = 6 := by rw [show gP g = 6 by omega]; rfl
      rw [if_neg (by decide), st_ne _ _ _ _ _ (by decide), g3.1.1, if_pos e6]
      exact M_err4 ⟨rfl, RR_err hR rfl rfl⟩
  · rw [if_pos rfl]
    refine X_err1 ?_
    show w_M_place (fun r2 μ2 => -1000000001 = r2 ∧ RR (n + 1) μ2) p0 (sm_st μ 60 1 (μ 60 1 + 1))
    unfold w_M_place
    refine M_in (fun z => absurd z q) (fun _ => ?_)
    rw [if_pos rfl]
    exact M_err1 ⟨rfl, RR_err hR rfl rfl⟩
/-- the set of those below i for which c holds -/
def bsI (c : Nat → Bool) : Nat → Int32
  | 0 => 0
  | i + 1 => if c i = true then bsI c i ||| (1 <<< (nI i &&& 31)) else bsI c i
theorem x_notesAt {K : Int32 → sm_Mem → Prop} {g : GH} {p : Nat} {μ : sm_Mem} (hg : gOk g) (hc : CA 1 g μ) (hp : p < gP g) (hK : K (bsI (fun i => gAt g i == p) (gN g)) μ) : w_D_notesAt K (nI p) μ := by
  have h10 := hg.2.1
  have h6 := hg.1
  unfold w_D_notesAt w_D_notesAt_4
  refine ⟨fun m x2 x3 μ2 => ∃ i, m = gN g - i ∧ i ≤ gN g ∧ x3 = nI i ∧ x2 = bsI (fun i => gAt g i == p) i ∧ μ2 = μ, ⟨gN g, 0, rfl, Nat.zero_le _, rfl, rfl, rfl⟩, ?_⟩
  rintro m x2 x3 μ2 ⟨i, rfl, hi, rfl, rfl, rfl⟩
  dsimp only
  rw [hc.1.2.1]
  by_cases hin : i = gN g
  · subst hin
    rw [if_pos (nI_le_yes (by omega) (by omega) (Nat.le_refl _))]
    exact hK
  · rw [if_neg (nI_le_no (by omega) (by omega) (by omega))]
    have hlt : i < gN g := by omega
    have ha := (hg.2.2.2.2.2.2.1 i hlt).2.2.2.1
    refine ⟨(vin_iff (by omega)).mpr (by omega), ?_⟩
    rw [ix_nI (by omega), show μ2 7 i = _ from (hc.2.2.2.1 i hlt).2.2.2.1]
    by_cases q : gAt g i = p
    · rw [if_pos (by rw [q])]
      intro v4 e4
      unfold w_D_notesAt_28
      refine ⟨gN g - (i + 1), by omega, i + 1, rfl, by omega, (nI_succ i).symm, ?_, rfl⟩
      rw [e4, bsI, if_pos (by simp [q])]
    · rw [if_neg (fun z => q ((nI_inj (by omega) (by omega)).mp z))]
      unfold w_D_notesAt_28
      refine ⟨gN g - (i + 1), by omega, i + 1, rfl, by omega, (nI_succ i).symm, ?_, rfl⟩
      rw [bsI, if_neg (by simp [q])]
theorem m_notesAt {K : Int32 → sm_Mem → Prop} {g : GH} {p : Nat} {μ : sm_Mem} (hg : gOk g) (hc : MA 62 g μ) (hp : p < gP g) (hK : K (bsI (fun i => gAt g i == p) (gN g)) μ) : w_M_notesAt K (nI p) μ := by
  have h10 := hg.2.1
  have h6 := hg.1
  unfold w_M_notesAt w_M_notesAt_4
  refine ⟨fun m x2 x3 μ2 => ∃ i, m = gN g - i ∧ i ≤ gN g ∧ x3 = nI i ∧ x2 = bsI (fun i => gAt g i == p) i ∧ μ2 = μ, ⟨gN g, 0, rfl, Nat.zero_le _, rfl, rfl, rfl⟩, ?_⟩
  rintro m x2 x3 μ2 ⟨i, rfl, hi, rfl, rfl, rfl⟩
  dsimp only
  rw [hc.1.2.1]
  by_cases hin : i = gN g
  · subst hin
    rw [if_pos (nI_le_yes (by omega) (by omega) (Nat.le_refl _))]
    exact hK
  · rw [if_neg (nI_le_no (by omega) (by omega) (by omega))]
    have hlt : i < gN g := by omega
    have ha := (hg.2.2.2.2.2.2.1 i hlt).2.2.2.1
    refine m_its (f := 3) (by omega) (by omega) ?_
    rw [(hc.2.2.2.1 i hlt).2.2.2.1]
    by_cases q : gAt g i = p
    · rw [if_pos (by rw [q])]
      unfold w_M_notesAt_33
      intro v4 e4
      refine ⟨gN g - (i + 1), by omega, i + 1, rfl, by omega, (nI_succ i).symm, ?_, rfl⟩
      rw [e4, bsI, if_pos (by simp [q])]
    · rw [if_neg (fun z => q ((nI_inj (by omega) (by omega)).mp z))]
      unfold w_M_notesAt_33
      intro v4 e4
      refine ⟨gN g - (i + 1), by omega, i + 1, rfl, by omega, (nI_succ i).symm, ?_, rfl⟩
      rw [e4, bsI, if_neg (by simp [q]), Int32.or_zero]
theorem T_ofPlace (n : Nat) (p0 p1 : Int32) : Same n (fun K => w_X_ofPlace K p0 p1) (fun K => w_M_ofPlace K p0 p1) := by
  intro μ hR
  obtain ⟨⟨g, g1, g2, g3⟩, h15, _⟩ := id hR
  have h6 := g1.1
  have bad : ¬ ((0 ≤ p0 ∧ p0 < nI (gP g)) ∧ (0 ≤ p1 ∧ p1 ≤ 1)) → w_X_ofPlace_20 (fun r1 μ1 => w_M_ofPlace (fun r2 μ2 => r1 = r2 ∧ RR (n + 1) μ2) p0 p1 μ1) p0 p1 μ := by
    intro hb
    unfold w_X_ofPlace_20
    refine X_err1 ?_
    have e30 : w_M_ofPlace_17 (fun r2 μ2 => -1000000001 = r2 ∧ RR (n + 1) μ2) p0 p1 (sm_st μ 60 1 (μ 60 1 + 1)) := by
      unfold w_M_ofPlace_17
      exact M_err1 ⟨rfl, RR_err hR rfl rfl⟩
    show w_M_ofPlace _ p0 p1 _
    unfold w_M_ofPlace
    refine m_isPlace_eq g1.1 (by rw [st_ne _ _ _ _ _ (by decide)]; exact g3.1.1) (fun q0 => ?_) (fun q0 => by rw [if_pos rfl]; exact e30)
    rw [if_neg (by decide)]
    exact M_in (fun q1 => absurd ⟨q0, q1⟩ hb) (fun q1 => by rw [if_pos rfl]; exact e30)
  show w_X_ofPlace _ p0 p1 μ
  unfold w_X_ofPlace
  refine x_hasPlace_eq g2.1.1 (fun q0 => ?_) (fun q0 => by rw [if_pos rfl]; exact bad (fun z => q0 z.1))
  rw [if_neg (by decide)]
  refine X_in (fun q1 => ?_) (fun q1 => by rw [if_pos rfl]; exact bad (fun z => q1 z.2))
  rw [if_neg (by decide)]
  obtain ⟨p, hp, e⟩ := sm_of (by omega) q0.1 q0.2
  subst e
  have mod : ∀ r1, r1 = (if p1 = 0 then nI (gWa g p) else bsI (fun i => gAt g i == p) (gN g)) → w_M_ofPlace (fun r2 μ2 => r1 = r2 ∧ RR (n + 1) μ2) (nI p) p1 μ := by
    intro r1 er
    unfold w_M_ofPlace
    refine m_isPlace_eq g1.1 g3.1.1 (fun _ => ?_) (fun z => absurd q0 z)
    rw [if_neg (by decide)]
    refine M_in (fun _ => ?_) (fun z => absurd q1 z)
    rw [if_neg (by decide)]
    by_cases q : p1 = 0
    · rw [if_pos q] at er ⊢
      rw [show (9 : Int32) + nI p = nI (9 + p) from nI_add 9 p]
      refine ⟨(vin_iff (by omega)).mpr (by omega), ?_⟩
      rw [ix_nI (by omega), g3.2.1 p hp]
      exact ⟨er, RR_q hR frq_rfl⟩
    · rw [if_neg q] at er ⊢
      exact m_notesAt g1 g3 hp ⟨er, RR_q hR frq_rfl⟩
  by_cases q : p1 = 0
  · rw [if_pos q]
    refine ⟨(vin_iff (by omega)).mpr (by omega), ?_⟩
    rw [ix_nI (by omega), show μ 2 p = _ from g2.2.1 p hp]
    exact mod _ (by rw [if_pos q])
  · rw [if_neg q]
    exact x_notesAt g1 g2 hp (mod _ (by rw [if_neg q]))
def isa (kd k : Nat) : Prop := ∃ z, z < 4 ∧ chn kd z = nI k
def mab (x : Int32) : Int32 := if x = 0 then -1 else if x ≤ 3 then 0 else x - 3
theorem chn_neg : ∀ kd, kd < 7 → ∀ j, j < 4 → chn kd j < 0 → ∀ z, z < 4 → j ≤ z → chn kd z < 0 := by decide
theorem chn_3 : ∀ kd, kd < 7 → chn kd 3 < 0 := by decide
theorem chn_m : ∀ kd, kd < 7 → ∀ j, j < 3 → ¬ chn kd j < 0 → mab (chn kd j) = chn kd (j + 1) := by decide
theorem M_above_eq {K : Int32 → sm_Mem → Prop} {x : Int32} {μ : sm_Mem} (h : K (mab x) μ) : w_M_above K x μ := by
  unfold w_M_above
  unfold mab at h
  repeat' split
  all_goals simp_all
theorem isa_no {kd k j : Nat} (h : kd < 7) (hk : k ≤ 6) (hj : j < 4) (hn : chn kd j < 0) (hz : ∀ z, z < j → ¬ chn kd z = nI k) : ¬ isa kd k := by
  rintro ⟨z, z4, e⟩
  by_cases q : z < j
  · exact hz z q e
  · have := chn_neg kd h j hj hn z z4 (by omega)
    rw [e] at this
    exact absurd this (nI_pos (by omega))
theorem x_isOfK {K : Int32 → sm_Mem → Prop} {kd k : Nat} {μ : sm_Mem} (h1 : kd ≤ 6) (hk : k ≤ 6) (hy : isa kd k → K 1 μ) (hn : ¬ isa kd k → K 0 μ) : w_K_isOf K (nI kd) (nI k) μ := by
  unfold w_K_isOf w_K_isOf_4
  refine ⟨fun n x2 x3 μ2 => μ2 = μ ∧ ∃ j, j ≤ 3 ∧ n = 3 - j ∧ x3 = nI j ∧ x2 = chn kd j ∧ (∀ z, z < j → ¬ chn kd z = nI k), ⟨3, rfl, 0, by omega, rfl, rfl, rfl, fun z hz => by omega⟩, ?_⟩
  rintro n x2 x3 μ2 ⟨rfl, j, hj, rfl, rfl, rfl, hz⟩
  dsimp only
  have n7 : ¬ (7 : Int32) ≤ nI j := nI_le_no (a := 7) (by omega) (by omega) (by omega)
  rw [if_neg n7]
  by_cases c : chn kd j < 0
  · rw [if_pos c]
    exact hn (isa_no (by omega) hk (by omega) c hz)
  · rw [if_neg c]
    by_cases e : chn kd j = nI k
    · rw [if_pos e]
      exact hy ⟨j, by omega, e⟩
    · rw [if_neg e]
      have j3 : j < 3 := by
        rcases (by omega : j < 3 ∨ j = 3) with h | h
        · exact h
        · subst h
          exact absurd (chn_3 kd (by omega)) c
      apply x_above
      refine ⟨3 - (j + 1), by omega, rfl, j + 1, by omega, rfl, (nI_succ j).symm, rfl, fun z hz2 => ?_⟩
      by_cases q : z < j
      · exact hz z q
      · have : z = j := by omega
        subst this
        exact e
theorem T_as (n : Nat) (p0 p1 : Int32) : Same n (fun K => w_X_as K p0 p1) (fun K => w_M_as K p0 p1) := by
  intro μ hR
  obtain ⟨⟨g, g1, g2, g3⟩, h15, _⟩ := id hR
  have h10 := g1.2.1
  have bad : ¬ ((0 ≤ p0 ∧ p0 < nI (gN g)) ∧ (0 ≤ p1 ∧ p1 ≤ 6)) → w_X_as_21 (fun r1 μ1 => w_M_as (fun r2 μ2 => r1 = r2 ∧ RR (n + 1) μ2) p0 p1 μ1) p0 p1 μ := by
    intro hb
    unfold w_X_as_21
    refine X_err1 ?_
    have e30 : w_M_as_18 (fun r2 μ2 => -1000000001 = r2 ∧ RR (n + 1) μ2) p0 p1 (sm_st μ 60 1 (μ 60 1 + 1)) := by
      unfold w_M_as_18
      exact M_err1 ⟨rfl, RR_err hR rfl rfl⟩
    show w_M_as _ p0 p1 _
    unfold w_M_as
    refine m_isNote_eq g1.2.1 (by rw [st_ne _ _ _ _ _ (by decide)]; exact g3.1.2.1) (fun q0 => ?_) (fun q0 => by rw [if_pos rfl]; exact e30)
    rw [if_neg (by decide)]
    exact M_in (fun q1 => absurd ⟨q0, q1⟩ hb) (fun q1 => by rw [if_pos rfl]; exact e30)
  show w_X_as _ p0 p1 μ
  unfold w_X_as
  refine x_hasNote_eq g2.1.2.1 (fun q0 => ?_) (fun q0 => by rw [if_pos rfl]; exact bad (fun z => q0 z.1))
  rw [if_neg (by decide)]
  refine X_in (fun q1 => ?_) (fun q1 => by rw [if_pos rfl]; exact bad (fun z => q1 z.2))
  rw [if_neg (by decide)]
  obtain ⟨i, hi, e⟩ := sm_of (by omega) q0.1 q0.2
  subst e
  obtain ⟨k, hk, e⟩ := sm_ofle (n := 6) (by omega) q1.1 q1.2
  subst e
  obtain ⟨k1, k2, k3, k4, k5⟩ := g1.2.2.2.2.2.2.1 i hi
  refine ⟨(vin_iff (by omega)).mpr (by omega), ?_⟩
  rw [ix_nI (by omega), show μ 4 i = _ from (g2.2.2.2.1 i hi).1]
  have mod : ∀ (r1 : Int32) (μ1 : sm_Mem), MA 62 g μ1 → (isa (gKd g i) k → ∀ μ2, μ2 = μ1 → r1 = nI (gMs g i) ∧ RR (n + 1) μ2) → (¬ isa (gKd g i) k → r1 = -1000000005 ∧ RR (n + 1) (sm_st μ1 66 5 (μ1 66 5 + 1))) → w_M_as (fun r2 μ2 => r1 = r2 ∧ RR (n + 1) μ2) (nI i) (nI k) μ1 := by
    intro r1 μ1 m1 hy hn
    unfold w_M_as
    refine m_isNote_eq g1.2.1 m1.1.2.1 (fun _ => ?_) (fun z => absurd q0 z)
    rw [if_neg (by decide)]
    refine M_in (fun _ => ?_) (fun z => absurd q1 z)
    rw [if_neg (by decide)]
    refine m_its (f := 0) (by omega) (by omega) ?_
    rw [show μ1 62 (51 + 5 * i + 0) = _ from (m1.2.2.2.1 i hi).1]
    unfold w_M_as_32
    refine ⟨fun n x3 μ2 => μ2 = μ1 ∧ ∃ j, j ≤ 3 ∧ n = 3 - j ∧ x3 = chn (gKd g i) j ∧ (∀ z, z < j → ¬ chn (gKd g i) z = nI k), ⟨3, rfl, 0, by omega, rfl, rfl, fun z hz => by omega⟩, ?_⟩
    rintro n x3 μ2 ⟨rfl, j, hj, rfl, rfl, hz⟩
    dsimp only
    by_cases c : chn (gKd g i) j < 0
    · rw [if_pos c]
      unfold w_M_as_49
      rw [if_neg (Int32.not_le.mpr c)]
      exact M_err5 (hn (isa_no (by omega) hk (by omega) c hz))
    · rw [if_neg c]
      by_cases e : chn (gKd g i) j = nI k
      · rw [if_pos e]
        unfold w_M_as_49
        rw [if_pos (Int32.not_lt.mp c)]
        refine m_its (f := 1) (by omega) (by omega) ?_
        rw [(m1.2.2.2.1 i hi).2.1]
        exact hy ⟨j, by omega, e⟩ _ rfl
      · rw [if_neg e]
        have j3 : j < 3 := by
          rcases (by omega : j < 3 ∨ j = 3) with h | h
          · exact h
          · subst h
            exact absurd (chn_3 (gKd g i) (by omega)) c
        apply M_above_eq
        rw [chn_m (gKd g i) (by omega) j j3 c]
        refine ⟨3 - (j + 1), by omega, rfl, j + 1, by omega, rfl, rfl, fun z hz2 => ?_⟩
        by_cases q : z < j
        · exact hz z q
        · have : z = j := by omega
          subst this
          exact e
  refine x_isOfK k1 hk (fun y => ?_) (fun y => ?_)
  · rw [if_neg (by decide)]
    refine ⟨(vin_iff (by omega)).mpr (by omega), ?_⟩
    rw [show μ 5 i = _ from (g2.2.2.2.1 i hi).2.1]
    exact mod _ μ g3 (fun _ μ2 e => by rw [e]; exact ⟨rfl, RR_q hR frq_rfl⟩) (fun z => absurd y z)
  · rw [if_pos rfl]
    refine X_err5 ?_
    exact mod _ _ (MA_ne g3 (by decide)) (fun z => absurd z y) (fun _ => ⟨rfl, RR_err hR rfl rfl⟩)

/-! ===== methods alike: snows, judge ===== -/
def gSv (g : GH) (f : Nat → Int32) (i : Nat) : GH := gSt g (fun k => if k < i then ix (f k) else gSn g k)
theorem gSv_ok {g : GH} (h : gOk g) {f : Nat → Int32} {i : Nat} (hf : ∀ k, k < i → 0 ≤ f k ∧ f k ≤ 999) : gOk (gSv g f i) := gSt_ok h (fun k hk => by
  show (if k < i then ix (f k) else gSn g k) ≤ 999
  split
  · rename_i z
    obtain ⟨a, ha, e⟩ := sm_ofle (n := 999) (by omega) (hf k z).1 (hf k z).2
    rw [e]
    show (nI a).toNatClampNeg ≤ 999
    rw [ix_nI (by omega)]
    exact ha
  · exact (h.2.2.2.2.2.2.1 k hk).2.2.1)
theorem gSv_0 (g : GH) (f : Nat → Int32) : gSv g f 0 = g := by
  unfold gSv
  have e : (fun k => if k < 0 then ix (f k) else gSn g k) = gSn g := by
    funext k
    rw [if_neg (by omega)]
  rw [e]
  rfl
theorem gSv_s (g : GH) (f : Nat → Int32) (i : Nat) : gMk (gSv g f i).1 (gP g) (gN g) (gY g) (gHo g) (gWa g) (gRo g) (gKd g) (gMs g) (fup (gSn (gSv g f i)) i (ix (f i))) (gAt g) (gOw g) g.2.2.2.2.2.1 g.2.2.2.2.2.2.1 (gZ g) = gSv g f (i + 1) := by
  have e : fup (gSn (gSv g f i)) i (ix (f i)) = (fun k => if k < i + 1 then ix (f k) else gSn g k) := by
    funext k
    show (if k = i then ix (f i) else if k < i then ix (f k) else gSn g k) = _
    by_cases q : k = i
    · subst q
      rw [if_pos rfl, if_pos (Nat.lt_succ_self _)]
    · rw [if_neg q]
      by_cases q2 : k < i
      · rw [if_pos q2, if_pos (by omega)]
      · rw [if_neg q2, if_neg (by omega)]
  rw [e]
  rfl
theorem T_snows (n : Nat) (p0 : Int32) : Same n (fun K => w_X_snows K p0) (fun K => w_M_snows K p0) := by
  intro μ hR
  obtain ⟨⟨g, g1, g2, g3⟩, h15, hE, hT, hS, hI⟩ := id hR
  have h10 := g1.2.1
  show w_X_snows _ p0 μ
  unfold w_X_snows
  refine x_rowOf (fun s hs e => ?_) (fun q => ?_)
  · subst e
    dsimp only
    have q0 := sh_in hs
    have vs : vp_in (nI s) 4 := (vin_iff (by omega)).mpr hs
    have es : (nI s).toNatClampNeg = s := ix_nI (by omega)
    obtain ⟨b, l, s1, s2, s3, s4, s5, s6, s7, s8⟩ := hS s hs
    have b32 : b ≤ 32 := by rcases s1 with h | h | h | h <;> omega
    refine ⟨isSh s hs, x_missing hs b32 s3 (fun z => ?_) (fun z => ?_)⟩
    · rw [if_neg (by decide)]
      refine X_err2 ?_
      show w_M_snows (fun r2 μ2 => -1000000002 = r2 ∧ RR (n + 1) μ2) (nI s) (sm_st μ 60 2 (μ 60 2 + 1))
      unfold w_M_snows
      refine M_sh (fun _ => ?_) (fun y => absurd q0 y)
      rw [if_neg (by decide)]
      refine ⟨vs, ?_⟩
      rw [es, st_ne _ _ _ _ _ (by decide), s4, if_pos (by rw [z]; rfl)]
      exact M_err2 ⟨rfl, RR_err hR rfl rfl⟩
    · rw [if_pos rfl, s5, g2.1.2.1]
      have nb : ¬ nI b = 0 := nI_ne0 (by omega) (by omega)
      intro v8 e8
      have e8' : v8 = nI (min l (gN g)) := by
        rw [e8]
        by_cases y : gN g < l
        · rw [if_pos (nI_lt_yes (by omega) (by omega) y), Nat.min_eq_right (by omega)]
        · rw [if_neg (nI_lt_no (by omega) (by omega) (by omega)), Nat.min_eq_left (by omega)]
      subst e8'
      have hmin : min l (gN g) ≤ l ∧ min l (gN g) ≤ gN g := ⟨Nat.min_le_left _ _, Nat.min_le_right _ _⟩
      have mod : ∀ (e : Nat) (μ1 : sm_Mem), e ≤ min l (gN g) → fr [6] μ μ1 → CA 1 (gSv g (μ (53 + 2 * s)) e) μ1 → (∀ k, k < e → 0 ≤ μ (53 + 2 * s) k ∧ μ (53 + 2 * s) k ≤ 999) → (e = min l (gN g) ∨ ¬ (0 ≤ μ (53 + 2 * s) e ∧ μ (53 + 2 * s) e ≤ 999)) → w_M_snows (fun r2 μ2 => nI e = r2 ∧ RR (n + 1) μ2) (nI s) μ1 := by
        intro e μ1 he hf hc hw hend
        unfold w_M_snows
        refine M_sh (fun _ => ?_) (fun y => absurd q0 y)
        rw [if_neg (by decide)]
        refine ⟨vs, ?_⟩
        rw [es, hf 68 (by decide), s4, if_neg nb]
        unfold w_M_snows_32
        refine ⟨fun m x2 μ2 => ∃ i, m = e - i ∧ i ≤ e ∧ x2 = nI i ∧ fr [62] μ1 μ2 ∧ MA 62 (gSv g (μ (53 + 2 * s)) i) μ2, ⟨e, 0, rfl, Nat.zero_le _, rfl, fr_rfl, by rw [gSv_0]; exact MA_fr g3 (hf 62 (by decide))⟩, ?_⟩
        rintro m x2 μ2 ⟨i, rfl, hi, rfl, hf2, m2⟩
        dsimp only
        have done : i = e → nI e = nI i ∧ RR (n + 1) μ2 := by
          intro h
          subst h
          exact ⟨rfl, RR_upd hR (gSv_ok g1 hw) (CA_fr hc (fun k hk => hf2 k (by revert k; decide))) m2 (fr_trans (fr_mono hf (by simp)) (fr_mono hf2 (by simp)))⟩
        refine ⟨vs, ?_⟩
        rw [es, hf2 69 (by decide), hf 69 (by decide), s6]
        by_cases y : l ≤ i
        · rw [if_pos (nI_le_yes (by omega) (by omega) y)]
          exact done (by omega)
        rw [if_neg (nI_le_no (by omega) (by omega) (by omega))]
        refine m_isNote_eq h10 m2.1.2.1 (fun q1 => ?_) (fun q1 => ?_)
        · rw [if_neg (by decide)]
          have hiN : i < gN g := (nI_lt_iff (by omega) (by omega)).mp q1.2
          have ea : ((40 : Int32) * nI s) + nI i = nI (40 * s + i) := by rw [show (40 : Int32) * nI s = nI (40 * s) from nI_mul 40 s, nI_add]
          rw [ea]
          refine ⟨(vin_iff (by omega)).mpr (by omega), ?_⟩
          rw [ix_nI (by omega), hf2 70 (by decide), hf 70 (by decide), s8 i (by omega)]
          refine M_in (fun q2 => ?_) (fun q2 => ?_)
          · rw [if_neg (by decide)]
            refine ⟨(vin_iff (by omega)).mpr (by omega), ?_⟩
            have hie : i < e := by
              rcases (by omega : i < e ∨ i = e) with h | h
              · exact h
              · subst h
                rcases hend with h | h
                · omega
                · exact absurd q2 h
            refine m_gets (f := 2) (by omega) (by omega) ?_
            obtain ⟨a, ha, ev⟩ := sm_ofle (n := 999) (by omega) q2.1 q2.2
            have ex : μ (53 + 2 * s) i = nI (ix (μ (53 + 2 * s) i)) := (bd_ix ⟨a, ha, ev⟩ (by omega)).1
            rw [hf2 70 (by decide), hf 70 (by decide), s8 i (by omega), ex]
            have hm := MA_sn (g := gSv g (μ (53 + 2 * s)) i) (q := i) (v := ix (μ (53 + 2 * s) i)) hiN g1.1 g1.2.1 m2
            refine ⟨e - (i + 1), by omega, i + 1, rfl, by omega, (nI_succ i).symm, fr_st hf2 (by simp), ?_⟩
            rw [← gSv_s]
            exact hm
          · rw [if_pos rfl]
            refine done ?_
            rcases (by omega : i < e ∨ i = e) with h | h
            · exact absurd (hw i h) q2
            · exact h
        · rw [if_pos rfl]
          refine done ?_
          have : ¬ i < gN g := fun h => q1 ⟨nI_pos' (by omega), nI_lt_yes (by omega) (by omega) h⟩
          omega
      unfold w_X_snows_47
      refine ⟨isSh s hs, fun m x4 μ2 => ∃ i, m = min l (gN g) - i ∧ i ≤ min l (gN g) ∧ x4 = nI i ∧ fr [6] μ μ2 ∧ CA 1 (gSv g (μ (53 + 2 * s)) i) μ2 ∧ (∀ k, k < i → 0 ≤ μ (53 + 2 * s) k ∧ μ (53 + 2 * s) k ≤ 999), ⟨min l (gN g), 0, rfl, Nat.zero_le _, rfl, fr_rfl, by rw [gSv_0]; exact g2, fun k hk => by omega⟩, ?_⟩
      rintro m x4 μ2 ⟨i, rfl, hi, rfl, hf2, c2, hw⟩
      dsimp only
      by_cases hin : i = min l (gN g)
      · rw [if_pos (nI_le_yes (by omega) (by omega) (by omega)), ← hin]
        exact mod i μ2 (by omega) hf2 c2 hw (Or.inl hin)
      · rw [if_neg (nI_le_no (by omega) (by omega) (by omega))]
        refine ⟨(vin_iff (by omega)).mpr (by omega), ?_⟩
        rw [ix_nI (by omega), show 52 + 2 * s + 1 = 53 + 2 * s by omega, hf2 _ (by simp; omega)]
        refine X_in (fun q2 => ?_) (fun q2 => ?_)
        · rw [if_neg (by decide)]
          refine ⟨(vin_iff (by omega)).mpr (by omega), (vin_iff (by omega)).mpr (by omega), ?_⟩
          intro μ3 e3
          obtain ⟨a, ha, ev⟩ := sm_ofle (n := 999) (by omega) q2.1 q2.2
          have ex : μ (53 + 2 * s) i = nI (ix (μ (53 + 2 * s) i)) := (bd_ix ⟨a, ha, ev⟩ (by omega)).1
          rw [hf2 (53 + 2 * s) (by simp; omega), ex] at e3
          have hm := CA_sn (g := gSv g (μ (53 + 2 * s)) i) (q := i) (v := ix (μ (53 + 2 * s) i)) (by show i < gN g; omega) g1.1 g1.2.1 c2
          refine ⟨min l (gN g) - (i + 1), by omega, i + 1, rfl, by omega, (nI_succ i).symm, by rw [e3]; exact fr_st hf2 (by simp), ?_, fun k hk => ?_⟩
          · rw [← gSv_s, e3]
            exact hm
          · by_cases z : k < i
            · exact hw k z
            · have : k = i := by omega
              rw [this]
              exact q2
        · rw [if_pos rfl]
          exact mod i μ2 (by omega) hf2 c2 hw (Or.inr q2)
  · dsimp only
    refine X_err1 ?_
    show w_M_snows (fun r2 μ2 => -1000000001 = r2 ∧ RR (n + 1) μ2) p0 (sm_st μ 60 1 (μ 60 1 + 1))
    unfold w_M_snows
    refine M_sh (fun z => absurd z q) (fun _ => ?_)
    rw [if_pos rfl]
    exact M_err1 ⟨rfl, RR_err hR rfl rfl⟩
theorem T_judge (n : Nat) (p0 : Int32) : Same n (fun K => w_X_judge K p0) (fun K => w_M_judge K p0) := by
  intro μ hR
  obtain ⟨⟨g, g1, g2, g3⟩, h15, hE, hT, hS, hI⟩ := id hR
  have h10 := g1.2.1
  show w_X_judge _ p0 μ
  unfold w_X_judge
  refine x_rowOf (fun s hs e => ?_) (fun q => ?_)
  · subst e
    dsimp only
    have q0 := sh_in hs
    have vs : vp_in (nI s) 4 := (vin_iff (by omega)).mpr hs
    have es : (nI s).toNatClampNeg = s := ix_nI (by omega)
    obtain ⟨b, l, s1, s2, s3, s4, s5, s6, s7, s8⟩ := hS s hs
    have b32 : b ≤ 32 := by rcases s1 with h | h | h | h <;> omega
    refine ⟨isSh s hs, x_missing hs b32 s3 (fun z => ?_) (fun z => ?_)⟩
    · rw [if_neg (by decide)]
      refine X_err2 ?_
      show w_M_judge (fun r2 μ2 => -1000000002 = r2 ∧ RR (n + 1) μ2) (nI s) (sm_st μ 60 2 (μ 60 2 + 1))
      unfold w_M_judge
      refine M_sh (fun _ => ?_) (fun y => absurd q0 y)
      rw [if_neg (by decide)]
      refine ⟨vs, ?_⟩
      rw [es, st_ne _ _ _ _ _ (by decide), s4, if_pos (by rw [z]; rfl)]
      exact M_err2 ⟨rfl, RR_err hR rfl rfl⟩
    · rw [if_pos rfl, s5, g2.1.2.1]
      have nb : ¬ nI b = 0 := nI_ne0 (by omega) (by omega)
      intro v8 e8
      have e8' : v8 = nI (min l (gN g)) := by
        rw [e8]
        by_cases y : gN g < l
        · rw [if_pos (nI_lt_yes (by omega) (by omega) y), Nat.min_eq_right (by omega)]
        · rw [if_neg (nI_lt_no (by omega) (by omega) (by omega)), Nat.min_eq_left (by omega)]
      subst e8'
      have hmin : min l (gN g) ≤ l ∧ min l (gN g) ≤ gN g := ⟨Nat.min_le_left _ _, Nat.min_le_right _ _⟩
      have mod : ∀ (e : Nat) (r1 : Int32) (μ1 : sm_Mem), r1 = (if e = gN g ∧ e = l then -1 else nI e) → e ≤ min l (gN g) → fr SX μ μ1 → (∀ k, k < e → μ (53 + 2 * s) k = nI (payA g k (gSn g k))) → (e = min l (gN g) ∨ ¬ μ (53 + 2 * s) e = nI (payA g e (gSn g e))) → w_M_judge (fun r2 μ2 => r1 = r2 ∧ RR (n + 1) μ2) (nI s) μ1 := by
        intro e r1 μ1 er he hf hw hend
        have hR1 := RR_sx hR hf
        have m1 : MA 62 g μ1 := MA_fr g3 (hf 62 (by decide))
        unfold w_M_judge
        refine M_sh (fun _ => ?_) (fun y => absurd q0 y)
        rw [if_neg (by decide)]
        refine ⟨vs, ?_⟩
        rw [es, hf 68 (by decide), s4, if_neg nb]
        unfold w_M_judge_32
        refine ⟨fun m x2 μ2 => ∃ i, m = e - i ∧ i ≤ e ∧ x2 = nI i ∧ frm μ1 μ2, ⟨e, 0, rfl, Nat.zero_le _, rfl, frm_rfl⟩, ?_⟩
        rintro m x2 μ2 ⟨i, rfl, hi, rfl, hf2⟩
        dsimp only
        have done : ∀ μ3, frm μ1 μ3 → i = e → w_M_judge_78 (fun r2 μ2 => r1 = r2 ∧ RR (n + 1) μ2) (nI s) (nI i) μ3 := by
          intro μ3 hf3 h
          subst h
          have hq := RR_q hR1 hf3.q
          unfold w_M_judge_78
          rw [hf3.1 62 (by decide), m1.1.2.1]
          by_cases y : i = gN g
          · rw [if_pos (by rw [y])]
            refine ⟨vs, ?_⟩
            rw [es, hf3.1 69 (by decide), hf 69 (by decide), s6]
            by_cases y2 : i = l
            · rw [if_pos ⟨y, y2⟩] at er
              rw [if_pos (by rw [y2])]
              exact ⟨er, hq⟩
            · rw [if_neg (fun w => y2 w.2)] at er
              rw [if_neg (fun w => y2 ((nI_inj (by omega) (by omega)).mp w))]
              exact ⟨er, hq⟩
          · rw [if_neg (fun w => y w.1)] at er
            rw [if_neg (fun w => y ((nI_inj (by omega) (by omega)).mp w))]
            exact ⟨er, hq⟩
        have m2 := MA_of m1 hf2
        rw [m2.1.2.1]
        by_cases y : gN g ≤ i
        · rw [if_pos (nI_le_yes (by omega) (by omega) y)]
          exact done μ2 hf2 (by omega)
        rw [if_neg (nI_le_no (by omega) (by omega) (by omega))]
        refine ⟨vs, ?_⟩
        rw [es, hf2.1 69 (by decide), hf 69 (by decide), s6]
        by_cases y2 : l ≤ i
        · rw [if_pos (nI_le_yes (by omega) (by omega) y2)]
          exact done μ2 hf2 (by omega)
        rw [if_neg (nI_le_no (by omega) (by omega) (by omega))]
        have ea : ((40 : Int32) * nI s) + nI i = nI (40 * s + i) := by rw [show (40 : Int32) * nI s = nI (40 * s) from nI_mul 40 s, nI_add]
        rw [ea]
        refine ⟨(vin_iff (by omega)).mpr (by omega), ?_⟩
        rw [ix_nI (by omega), hf2.1 70 (by decide), hf 70 (by decide), s8 i (by omega)]
        refine m_pays g1.M m2 (by omega) (fun μ3 hf3 => ?_)
        by_cases z : μ (53 + 2 * s) i = nI (payA g i (gSn g i))
        · rw [if_pos z]
          have hie : i < e := by
            rcases (by omega : i < e ∨ i = e) with h | h
            · exact h
            · subst h
              rcases hend with h | h
              · omega
              · exact absurd z h
          exact ⟨e - (i + 1), by omega, i + 1, rfl, by omega, (nI_succ i).symm, frm_trans hf2 hf3⟩
        · rw [if_neg z]
          refine done μ3 (frm_trans hf2 hf3) ?_
          rcases (by omega : i < e ∨ i = e) with h | h
          · exact absurd (hw i h) z
          · exact h
      unfold w_X_judge_47
      refine ⟨isSh s hs, fun m x4 μ2 => ∃ i, m = min l (gN g) - i ∧ i ≤ min l (gN g) ∧ x4 = nI i ∧ fr SX μ μ2 ∧ (∀ k, k < i → μ (53 + 2 * s) k = nI (payA g k (gSn g k))), ⟨min l (gN g), 0, rfl, Nat.zero_le _, rfl, fr_rfl, fun k hk => by omega⟩, ?_⟩
      rintro m x4 μ2 ⟨i, rfl, hi, rfl, hf2, hw⟩
      dsimp only
      have c2 := CA_of g2 hf2
      by_cases hin : i = min l (gN g)
      · rw [if_pos (nI_le_yes (by omega) (by omega) (by omega)), hf2 (52 + 2 * s) (by simp; omega), s5, c2.1.2.1, ← hin]
        by_cases y : l = gN g
        · rw [if_pos (by rw [y])]
          exact mod i _ μ2 (by rw [if_pos (by omega)]) (by omega) hf2 hw (Or.inl hin)
        · rw [if_neg (fun w => y ((nI_inj (by omega) (by omega)).mp w))]
          exact mod i _ μ2 (by rw [if_neg (by omega)]) (by omega) hf2 hw (Or.inl hin)
      · rw [if_neg (nI_le_no (by omega) (by omega) (by omega))]
        refine ⟨(vin_iff (by omega)).mpr (by omega), (vin_iff (by omega)).mpr (by omega), ?_⟩
        rw [ix_nI (by omega), show 52 + 2 * s + 1 = 53 + 2 * s by omega, hf2 (53 + 2 * s) (by simp; omega), show μ2 6 i = _ from (c2.2.2.2.1 i (by omega)).2.2.1]
        refine x_pays g1 c2 (by omega) (g1.2.2.2.2.2.2.1 i (by omega)).2.2.1 (fun μ3 hf3 _ _ _ _ => ?_)
        by_cases z : μ (53 + 2 * s) i = nI (payA g i (gSn g i))
        · rw [if_pos z]
          refine ⟨min l (gN g) - (i + 1), by omega, i + 1, rfl, by omega, (nI_succ i).symm, fr_trans hf2 hf3, fun k hk => ?_⟩
          by_cases y : k < i
          · exact hw k y
          · have : k = i := by omega
            rw [this]
            exact z
        · rw [if_neg z]
          exact mod i _ μ3 (by rw [if_neg (by omega)]) (by omega) (fr_trans hf2 hf3) hw (Or.inr z)
  · dsimp only
    refine X_err1 ?_
    show w_M_judge (fun r2 μ2 => -1000000001 = r2 ∧ RR (n + 1) μ2) p0 (sm_st μ 60 1 (μ 60 1 + 1))
    unfold w_M_judge
    refine M_sh (fun z => absurd z q) (fun _ => ?_)
    rw [if_pos rfl]
    exact M_err1 ⟨rfl, RR_err hR rfl rfl⟩

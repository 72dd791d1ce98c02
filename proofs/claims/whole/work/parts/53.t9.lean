/-! ===== methods alike: SHEETS ===== -/
theorem isSh : ∀ s, s < 4 → isSheet (52 + 2 * s) := by
  intro s hs
  rcases (by omega : s = 0 ∨ s = 1 ∨ s = 2 ∨ s = 3) with rfl | rfl | rfl | rfl
  · exact ⟨sm_l52, sm_l53⟩
  · exact ⟨sm_l54, sm_l55⟩
  · exact ⟨sm_l56, sm_l57⟩
  · exact ⟨sm_l58, sm_l59⟩
theorem x_rowOf {K : Option Nat → sm_Mem → Prop} {p : Int32} {μ : sm_Mem} (hy : ∀ s, s < 4 → p = nI s → K (some (52 + 2 * s)) μ) (hn : ¬ (0 ≤ p ∧ p ≤ 3) → K none μ) : w_X_rowOf K p μ := by
  unfold w_X_rowOf
  rw [show (4 : Int32) - 1 = 3 from rfl]
  refine X_in (fun q => ?_) (fun q => ?_)
  · rw [if_neg (by decide)]
    obtain ⟨s, hs, e⟩ := sm_ofle (n := 3) (by omega) q.1 q.2
    refine ⟨by rw [e]; exact (vin_iff (by omega)).mpr (by omega), ?_⟩
    intro k5 e5
    have h := hy s (by omega) e
    rw [e, ix_nI (by omega)] at e5
    have : k5 = 52 + 2 * s := by
      rcases (by omega : s = 0 ∨ s = 1 ∨ s = 2 ∨ s = 3) with rfl | rfl | rfl | rfl <;> exact (Option.some.inj e5).symm
    rw [this]
    exact h
  · rw [if_pos rfl]
    exact hn q
theorem M_sh {K : Int32 → sm_Mem → Prop} {x : Int32} {μ : sm_Mem} (hy : 0 ≤ x ∧ x ≤ 3 → K 1 μ) (hn : ¬ (0 ≤ x ∧ x ≤ 3) → K 0 μ) : w_M_isSheet K x μ := by
  unfold w_M_isSheet
  exact M_in (fun q => ⟨Or.inr rfl, hy q⟩) (fun q => ⟨Or.inl rfl, hn q⟩)
theorem sh_in {s : Nat} (h : s < 4) : 0 ≤ nI s ∧ nI s ≤ 3 := ⟨nI_pos' (by omega), nI_le_yes (b := 3) (by omega) (by omega) (by omega)⟩
def shB (b : Nat) : Prop := b = 0 ∨ b = 8 ∨ b = 16 ∨ b = 32
/-- a SHEET is changed alike -/
theorem RR_sh {n s b l : Nat} {μ μ2 : sm_Mem} (h : RR n μ) (hs : s < 4) (hb : shB b) (hl : l ≤ 40) (h0 : b = 0 → l = 0) (hf : ∀ k, k ≠ 52 + 2 * s → k ≠ 53 + 2 * s → k ≠ 68 → k ≠ 69 → k ≠ 70 → k ≠ 71 → μ2 k = μ k) (b1 : μ2 (52 + 2 * s) 1 = nI b) (b2 : μ2 68 s = nI b) (l1 : μ2 (52 + 2 * s) 2 = nI l) (l2 : μ2 69 s = nI l) (o8 : ∀ t, t ≠ s → μ2 68 t = μ 68 t) (o9 : ∀ t, t ≠ s → μ2 69 t = μ 69 t) (hn : ∀ i, i < 40 → μ2 70 (40 * s + i) = μ2 (53 + 2 * s) i) (o0 : ∀ j, (j < 40 * s ∨ 40 * s + 40 ≤ j) → μ2 70 j = μ 70 j) : RR (n + 1) μ2 := by
  obtain ⟨⟨g, g1, g2, g3⟩, h15, hE, hT, hS, hI⟩ := h
  have fs : ∀ k, k < 52 ∨ (59 < k ∧ k < 68) ∨ 71 < k → μ2 k = μ k := fun k hk => hf k (by omega) (by omega) (by omega) (by omega) (by omega) (by omega)
  refine ⟨⟨g, g1, CA_fr g2 (fun k hk => fs k (Or.inl (by revert k; decide))), MA_fr g3 (fs 62 (by omega))⟩, by rw [fs 61 (by omega)]; exact h15, ?_, ?_, ?_, ?_⟩
  · intro k hk
    rw [fs 66 (by omega), fs 60 (by omega)]
    exact hE k hk
  · obtain ⟨t, t1, t2, t3, t4⟩ := hT
    refine ⟨t, t1, by rw [fs 49 (by omega)]; exact t2, by rw [fs 61 (by omega)]; exact t3, fun i hi => ?_⟩
    rw [fs 72 (by omega), fs 50 (by omega)]
    exact t4 i hi
  · intro t ht
    by_cases q : t = s
    · subst q
      exact ⟨b, l, hb, hl, b1, b2, l1, l2, h0, hn⟩
    · obtain ⟨b', l', s1, s2, s3, s4, s5, s6, s7, s8⟩ := hS t ht
      have e1 : μ2 (52 + 2 * t) = μ (52 + 2 * t) := hf _ (by omega) (by omega) (by omega) (by omega) (by omega) (by omega)
      have e2 : μ2 (53 + 2 * t) = μ (53 + 2 * t) := hf _ (by omega) (by omega) (by omega) (by omega) (by omega) (by omega)
      refine ⟨b', l', s1, s2, by rw [e1]; exact s3, by rw [o8 t q]; exact s4, by rw [e1]; exact s5, by rw [o9 t q]; exact s6, s7, fun i hi => ?_⟩
      rw [e2, o0 _ (by omega)]
      exact s8 i hi
  · obtain ⟨c, c1, c2, c3, c4, c5⟩ := hI
    refine ⟨c, by omega, by rw [fs 0 (by omega)]; exact c2, by rw [fs 61 (by omega)]; exact c3, by rw [fs 61 (by omega)]; exact c4, fun hc => ?_⟩
    obtain ⟨g, g1, g2, g3⟩ := c5 hc
    exact ⟨g, g1, CA_fr g2 (fun k hk => fs k (Or.inl (by revert k; decide))), MA_fr g3 (fs 63 (by omega))⟩
theorem if4 {A B : Prop} {p : Int32} (hy : (p = 0 ∨ p = 8 ∨ p = 16 ∨ p = 32) → A) (hn : ¬ (p = 0 ∨ p = 8 ∨ p = 16 ∨ p = 32) → B) : if p = 0 then A else if p = 8 then A else if p = 16 then A else if p = 32 then A else B := by
  repeat' split
  · exact hy (Or.inl (by assumption))
  · exact hy (Or.inr (Or.inl (by assumption)))
  · exact hy (Or.inr (Or.inr (Or.inl (by assumption))))
  · exact hy (Or.inr (Or.inr (Or.inr (by assumption))))
  · exact hn (by
      rintro (h | h | h | h) <;> contradiction)
theorem if2 {c d : Prop} [Decidable c] [Decidable d] {A B : Prop} (hy : c ∨ d → A) (hn : ¬ c → ¬ d → B) : if c then A else if d then A else B := by
  repeat' split
  · exact hy (Or.inl (by assumption))
  · exact hy (Or.inr (by assumption))
  · exact hn (by assumption) (by assumption)
theorem T_sheet (n : Nat) (p0 p1 p2 : Int32) : Same n (fun K => w_X_sheet K p0 p1 p2) (fun K => w_M_sheet K p0 p1 p2) := by
  intro μ hR
  have bad : ¬ ((0 ≤ p0 ∧ p0 ≤ 3) ∧ (p1 = 0 ∨ p1 = 8 ∨ p1 = 16 ∨ p1 = 32)) → w_X_sheet_34 (fun r1 μ1 => w_M_sheet (fun r2 μ2 => r1 = r2 ∧ RR (n + 1) μ2) p0 p1 p2 μ1) p0 p1 p2 μ := by
    intro hb
    unfold w_X_sheet_34
    refine X_err1 ?_
    show w_M_sheet _ p0 p1 p2 _
    have e30 : w_M_sheet_29 (fun r2 μ2 => -1000000001 = r2 ∧ RR (n + 1) μ2) p0 p1 p2 (sm_st μ 60 1 (μ 60 1 + 1)) := by
      unfold w_M_sheet_29
      exact M_err1 ⟨rfl, RR_err hR rfl rfl⟩
    unfold w_M_sheet
    refine M_sh (fun q => ?_) (fun q => by rw [if_pos rfl]; exact e30)
    rw [if_neg (by decide)]
    exact if4 (fun z => absurd ⟨q, z⟩ hb) (fun _ => e30)
  show w_X_sheet _ p0 p1 p2 μ
  unfold w_X_sheet
  refine x_rowOf (fun s hs e => ?_) (fun q => bad (fun z => q z.1))
  subst e
  dsimp only
  have q0 := sh_in hs
  refine ⟨isSh s hs, if4 (fun q1 => ?_) (fun q1 => bad (fun z => q1 z.2))⟩
  have mod : ∀ (K : Int32 → sm_Mem → Prop) (μ1 : sm_Mem), w_M_sheet_36 K (nI s) p1 p2 μ1 → w_M_sheet K (nI s) p1 p2 μ1 := by
    intro K μ1 h
    unfold w_M_sheet
    refine M_sh (fun _ => ?_) (fun z => absurd q0 z)
    rw [if_neg (by decide)]
    exact if4 (fun _ => h) (fun z => absurd q1 z)
  unfold w_X_sheet_40
  refine ⟨isSh s hs, if2 (fun q2 => ?_) (fun n1 n2 => ?_)⟩
  · have mod2 : ∀ (K : Int32 → sm_Mem → Prop) (μ1 : sm_Mem), w_M_sheet_51 K (nI s) p1 p2 μ1 → w_M_sheet K (nI s) p1 p2 μ1 := by
      intro K μ1 h
      refine mod K μ1 ?_
      unfold w_M_sheet_36
      exact if2 (fun _ => h) (fun a b => absurd q2 (fun z => z.elim a b))
    unfold w_X_sheet_54
    refine ⟨isSh s hs, if2 (fun q3 => ?_) (fun n1 n2 => ?_)⟩
    · have mod3 : ∀ (K : Int32 → sm_Mem → Prop) (μ1 : sm_Mem), w_M_sheet_68 K (nI s) p1 p2 μ1 → w_M_sheet K (nI s) p1 p2 μ1 := by
        intro K μ1 h
        refine mod2 K μ1 ?_
        unfold w_M_sheet_51
        exact if2 (fun _ => h) (fun a b => absurd q3 (fun z => z.elim a b))
      obtain ⟨b, hb, eb⟩ : ∃ b, shB b ∧ p1 = nI b := by
        rcases q1 with e | e | e | e
        · exact ⟨0, Or.inl rfl, e⟩
        · exact ⟨8, Or.inr (Or.inl rfl), e⟩
        · exact ⟨16, Or.inr (Or.inr (Or.inl rfl)), e⟩
        · exact ⟨32, Or.inr (Or.inr (Or.inr rfl)), e⟩
      have b32 : b ≤ 32 := by rcases hb with h | h | h | h <;> omega
      unfold w_X_sheet_70
      refine ⟨isSh s hs, ?_⟩
      have fin : ∀ l, l ≤ 40 → (b = 0 → l = 0) → (∀ (K : Int32 → sm_Mem → Prop) (μ1 : sm_Mem), w_M_sheet_89 K (nI s) p1 p2 (nI l) (nI s) (sm_st μ1 68 s p1) → w_M_sheet K (nI s) p1 p2 μ1) → w_X_sheet_82 (fun r1 μ1 => w_M_sheet (fun r2 μ2 => r1 = r2 ∧ RR (n + 1) μ2) (nI s) p1 p2 μ1) (nI s) p1 p2 (nI l) p1 (52 + 2 * s) μ := by
        intro l hl h0 hm
        unfold w_X_sheet_82 w_S_makeAnew
        refine ⟨isSh s hs, isSh s hs, ?_⟩
        rw [show 52 + 2 * s + 1 = 53 + 2 * s by omega]
        refine x_fill (by have h := (isSh s hs).2; rw [show 52 + 2 * s + 1 = 53 + 2 * s by omega] at h; exact h) (by omega) (fun μ1 hf1 hz => ?_)
        intro μ2 e2 μ3 e3
        have el : (if 0 < (if (40 : Int32) < nI l then 40 else nI l) then (if (40 : Int32) < nI l then 40 else nI l) else 0) = nI l := by
          have n40 : ¬ (40 : Int32) < nI l := nI_lt_no (a := 40) (by omega) (by omega) (by omega)
          rw [if_neg n40]
          by_cases z : l = 0
          · subst z; rfl
          · have p : (0 : Int32) < nI l := nI_lt_yes (a := 0) (by omega) (by omega) (by omega)
            rw [if_pos p]
        rw [el] at e3
        refine hm _ μ3 ?_
        unfold w_M_sheet_89
        refine ⟨(vin_iff (by omega)).mpr (by omega), ?_⟩
        intro μ13 e13
        rw [ix_nI (by omega)] at e13
        have hk : ∀ k, k ≠ 52 + 2 * s → k ≠ 53 + 2 * s → k ≠ 68 → k ≠ 69 → μ13 k = μ k := by
          intro k k1 k2 k3 k4
          rw [e13, st_ne _ _ _ _ _ k4, st_ne _ _ _ _ _ k3, e3, st_ne _ _ _ _ _ k1, e2, st_ne _ _ _ _ _ k1, hf1 k (by simp; omega)]
        have x1 : μ13 (52 + 2 * s) 1 = nI b := by
          rw [e13, st_ne _ _ _ _ _ (by omega), st_ne _ _ _ _ _ (by omega), e3, st_same, if_neg (by decide), e2, st_same, if_pos rfl, eb]
        have x2 : μ13 (52 + 2 * s) 2 = nI l := by
          rw [e13, st_ne _ _ _ _ _ (by omega), st_ne _ _ _ _ _ (by omega), e3, st_same, if_pos rfl]
        have x3 : ∀ i, i < 40 → μ13 (53 + 2 * s) i = 0 := by
          intro i hi
          rw [e13, st_ne _ _ _ _ _ (by omega), st_ne _ _ _ _ _ (by omega), e3, st_ne _ _ _ _ _ (by omega), e2, st_ne _ _ _ _ _ (by omega)]
          exact hz i hi
        have y8 : ∀ t, μ13 68 t = if t = s then nI b else μ 68 t := by
          intro t
          rw [e13, st_ne _ _ _ _ _ (by decide), st_same, e3, st_ne _ _ _ _ _ (by omega), e2, st_ne _ _ _ _ _ (by omega), hf1 68 (by simp; omega), eb]
        have y9 : ∀ t, μ13 69 t = if t = s then nI l else μ 69 t := by
          intro t
          rw [e13, st_same, st_ne _ _ _ _ _ (by decide), e3, st_ne _ _ _ _ _ (by omega), e2, st_ne _ _ _ _ _ (by omega), hf1 69 (by simp; omega)]
        unfold w_M_sheet_93
        refine ⟨fun m x4 μ4 => ∃ i, m = 40 - i ∧ i ≤ 40 ∧ x4 = nI i ∧ fr [70] μ13 μ4 ∧ ∀ j, μ4 70 j = if 40 * s ≤ j ∧ j < 40 * s + i then 0 else μ13 70 j, ⟨40, 0, rfl, by omega, rfl, fr_rfl, fun j => by rw [if_neg (by omega)]⟩, ?_⟩
        rintro m x4 μ4 ⟨i, rfl, hi, rfl, hf, hr⟩
        dsimp only
        by_cases hin : i = 40
        · subst hin
          rw [if_pos (by decide)]
          refine ⟨rfl, RR_sh hR hs hb hl h0 (fun k k1 k2 k3 k4 k5 k6 => (hf k (by simp; omega)).trans (hk k k1 k2 k3 k4)) ?_ ?_ ?_ ?_ (fun t ht => ?_) (fun t ht => ?_) (fun i hi => ?_) (fun j hj => ?_)⟩
          · rw [hf _ (by simp; omega)]; exact x1
          · rw [hf 68 (by decide), y8, if_pos rfl]
          · rw [hf _ (by simp; omega)]; exact x2
          · rw [hf 69 (by decide), y9, if_pos rfl]
          · rw [hf 68 (by decide), y8, if_neg ht]
          · rw [hf 69 (by decide), y9, if_neg ht]
          · rw [hr, if_pos (by omega), hf _ (by simp; omega), x3 i hi]
          · rw [hr, if_neg (by omega), hk 70 (by omega) (by omega) (by decide) (by decide)]
        · have q40 : ¬ (40 : Int32) ≤ nI i := nI_le_no (a := 40) (by omega) (by omega) (by omega)
          have ea : ((40 : Int32) * nI s) + nI i = nI (40 * s + i) := by rw [show (40 : Int32) * nI s = nI (40 * s) from nI_mul 40 s, nI_add]
          rw [if_neg q40, ea]
          refine ⟨(vin_iff (by omega)).mpr (by omega), ?_⟩
          intro μ5 e5
          rw [ix_nI (by omega)] at e5
          refine ⟨40 - (i + 1), by omega, i + 1, rfl, by omega, (nI_succ i).symm, by rw [e5]; exact fr_st hf (by simp), fun j => ?_⟩
          rw [e5, st_same, hr]
          repeat' split
          all_goals first | rfl | (exfalso; omega)
      have m68 : ∀ l, (p1 = 0 → l = 0) → (¬ p1 = 0 → p2 = nI l) → ∀ (K : Int32 → sm_Mem → Prop) (μ1 : sm_Mem), w_M_sheet_89 K (nI s) p1 p2 (nI l) (nI s) (sm_st μ1 68 s p1) → w_M_sheet K (nI s) p1 p2 μ1 := by
        intro l ha hb K μ1 h
        refine mod3 K μ1 ?_
        unfold w_M_sheet_68
        refine ⟨(vin_iff (by omega)).mpr (by omega), ?_⟩
        intro μ10 e10
        rw [ix_nI (by omega)] at e10
        subst e10
        by_cases z : p1 = 0
        · rw [if_pos z]
          rw [ha z] at h
          exact h
        · rw [if_neg z]
          have e2 := hb z
          rw [← e2] at h
          exact h
      by_cases z : p1 = 0
      · rw [if_pos z]
        exact fin 0 (by omega) (fun _ => rfl) (m68 0 (fun _ => rfl) (fun y => absurd z y))
      · rw [if_neg z]
        have c2 : 0 ≤ p2 := q2.resolve_left z
        have c3 : p2 ≤ 40 := q3.resolve_left z
        obtain ⟨l, hl, el⟩ := sm_ofle (n := 40) (by omega) c2 c3
        have := fin l hl (fun y => absurd (by rw [eb, y]; rfl) z) (m68 l (fun y => absurd y z) (fun _ => el))
        rw [← el] at this
        exact this
    · refine X_err1 ?_
      refine mod2 _ _ ?_
      unfold w_M_sheet_51
      exact if2 (fun z => absurd z (fun y => y.elim n1 n2)) (fun _ _ => M_err1 ⟨rfl, RR_err hR rfl rfl⟩)
  · refine X_err3 ?_
    refine mod _ _ ?_
    unfold w_M_sheet_36
    exact if2 (fun z => absurd z (fun y => y.elim n1 n2)) (fun _ _ => M_err3 ⟨rfl, RR_err hR rfl rfl⟩)
theorem x_missing {K : Int32 → sm_Mem → Prop} {s b : Nat} {μ : sm_Mem} (hs : s < 4) (hb : b ≤ 32) (h : μ (52 + 2 * s) 1 = nI b) (hy : b = 0 → K 1 μ) (hn : ¬ b = 0 → K 0 μ) : w_S_isMissing K (52 + 2 * s) μ := by
  unfold w_S_isMissing
  refine ⟨isSh s hs, ?_⟩
  rw [h]
  by_cases z : b = 0
  · rw [if_pos (by rw [z]; rfl)]
    exact hy z
  · rw [if_neg (nI_ne0 (by omega) (by omega))]
    exact hn z
theorem T_put (n : Nat) (p0 p1 p2 : Int32) : Same n (fun K => w_X_put K p0 p1 p2) (fun K => w_M_put K p0 p1 p2) := by
  intro μ hR
  obtain ⟨⟨g, g1, g2, g3⟩, h15, hE, hT, hS, hI⟩ := id hR
  show w_X_put _ p0 p1 p2 μ
  unfold w_X_put
  refine x_rowOf (fun s hs e => ?_) (fun q => ?_)
  · subst e
    dsimp only
    have q0 := sh_in hs
    have vs : vp_in (nI s) 4 := (vin_iff (by omega)).mpr hs
    have es : (nI s).toNatClampNeg = s := ix_nI (by omega)
    obtain ⟨b, l, s1, s2, s3, s4, s5, s6, s7, s8⟩ := hS s hs
    have b32 : b ≤ 32 := by rcases s1 with h | h | h | h <;> omega
    refine ⟨isSh s hs, x_missing hs b32 s3 (fun z => ?_) (fun z => ?_)⟩
    · rw [if_neg (by decide)]
      refine X_err2 ?_
      show w_M_put (fun r2 μ2 => -1000000002 = r2 ∧ RR (n + 1) μ2) (nI s) p1 p2 (sm_st μ 60 2 (μ 60 2 + 1))
      unfold w_M_put
      refine M_sh (fun _ => ?_) (fun y => absurd q0 y)
      rw [if_neg (by decide)]
      refine ⟨vs, ?_⟩
      rw [es, st_ne _ _ _ _ _ (by decide), s4, if_pos (by rw [z]; rfl)]
      exact M_err2 ⟨rfl, RR_err hR rfl rfl⟩
    · rw [if_pos rfl, s5]
      have nb : ¬ nI b = 0 := nI_ne0 (by omega) (by omega)
      refine X_in (fun q1 => ?_) (fun q1 => ?_)
      · rw [if_neg (by decide)]
        obtain ⟨i, hi, e⟩ := sm_of (by omega) q1.1 ((le_pred (by omega)).mp q1.2)
        subst e
        have fin : ∀ v : Int32, (∀ (K : Int32 → sm_Mem → Prop) (μ1 : sm_Mem), K v μ1 → w_M_narrow K (nI b) p2 μ1) → (vp_in (nI i) 40 ∧ ∀ μ14 : sm_Mem, μ14 = sm_st μ (52 + 2 * s + 1) ((nI i).toNatClampNeg) v → (fun r1 μ1 => w_M_put (fun r2 μ2 => r1 = r2 ∧ RR (n + 1) μ2) (nI s) (nI i) p2 μ1) 1 μ14) := by
          intro v hv
          refine ⟨(vin_iff (by omega)).mpr (by omega), ?_⟩
          intro μ14 e14
          rw [ix_nI (by omega), show 52 + 2 * s + 1 = 53 + 2 * s by omega] at e14
          show w_M_put (fun r2 μ2 => 1 = r2 ∧ RR (n + 1) μ2) (nI s) (nI i) p2 μ14
          have k8 : μ14 68 = μ 68 := by rw [e14]; exact st_ne _ _ _ _ _ (by omega)
          have k9 : μ14 69 = μ 69 := by rw [e14]; exact st_ne _ _ _ _ _ (by omega)
          have k0 : μ14 70 = μ 70 := by rw [e14]; exact st_ne _ _ _ _ _ (by omega)
          unfold w_M_put
          refine M_sh (fun _ => ?_) (fun y => absurd q0 y)
          rw [if_neg (by decide)]
          refine ⟨vs, ?_⟩
          rw [es, k8, s4, if_neg nb]
          refine ⟨vs, ?_⟩
          rw [k9, s6]
          refine M_in (fun _ => ?_) (fun y => absurd q1 y)
          rw [if_neg (by decide)]
          refine ⟨vs, ?_⟩
          rw [k8, s4]
          refine hv _ _ ?_
          have ea : ((40 : Int32) * nI s) + nI i = nI (40 * s + i) := by rw [show (40 : Int32) * nI s = nI (40 * s) from nI_mul 40 s, nI_add]
          rw [ea]
          refine ⟨(vin_iff (by omega)).mpr (by omega), ?_⟩
          intro μ15 e15
          rw [ix_nI (by omega)] at e15
          refine ⟨rfl, RR_sh hR hs s1 s2 s7 (fun k k1 k2 k3 k4 k5 k6 => by rw [e15, st_ne _ _ _ _ _ k5, e14, st_ne _ _ _ _ _ k2]) ?_ ?_ ?_ ?_ (fun t ht => ?_) (fun t ht => ?_) (fun j hj => ?_) (fun j hj => ?_)⟩
          · rw [e15, st_ne _ _ _ _ _ (by omega), e14, st_ne _ _ _ _ _ (by omega)]; exact s3
          · rw [e15, st_ne _ _ _ _ _ (by omega), k8]; exact s4
          · rw [e15, st_ne _ _ _ _ _ (by omega), e14, st_ne _ _ _ _ _ (by omega)]; exact s5
          · rw [e15, st_ne _ _ _ _ _ (by omega), k9]; exact s6
          · rw [e15, st_ne _ _ _ _ _ (by omega), k8]
          · rw [e15, st_ne _ _ _ _ _ (by omega), k9]
          · rw [e15, st_same, st_ne _ _ _ _ _ (by omega), k0, e14, st_same]
            by_cases y : j = i
            · rw [if_pos (by omega), if_pos y]
            · rw [if_neg (by omega), if_neg y]
              exact s8 j hj
          · rw [e15, st_same, if_neg (by omega), k0]
        unfold w_S_lowestBits
        refine ⟨isSh s hs, ?_⟩
        intro v1 e1
        rw [s3] at e1
        subst e1
        by_cases y8 : nI b = 8
        · rw [if_pos y8]
          exact fin _ (fun K μ1 h => by unfold w_M_narrow; rw [if_pos y8]; exact h)
        · rw [if_neg y8]
          by_cases y16 : nI b = 16
          · rw [if_pos y16]
            exact fin _ (fun K μ1 h => by unfold w_M_narrow; rw [if_neg y8, if_pos y16]; exact h)
          · rw [if_neg y16]
            exact fin _ (fun K μ1 h => by unfold w_M_narrow; rw [if_neg y8, if_neg y16]; exact h)
      · rw [if_pos rfl]
        refine X_err1 ?_
        show w_M_put (fun r2 μ2 => -1000000001 = r2 ∧ RR (n + 1) μ2) (nI s) p1 p2 (sm_st μ 60 1 (μ 60 1 + 1))
        unfold w_M_put
        refine M_sh (fun _ => ?_) (fun y => absurd q0 y)
        rw [if_neg (by decide)]
        refine ⟨vs, ?_⟩
        rw [es, st_ne _ _ _ _ 68 (by decide), s4, if_neg nb]
        refine ⟨vs, ?_⟩
        rw [st_ne _ _ _ _ 69 (by decide), s6]
        refine M_in (fun y => absurd y q1) (fun _ => ?_)
        rw [if_pos rfl]
        exact M_err1 ⟨rfl, RR_err hR rfl rfl⟩
  · dsimp only
    refine X_err1 ?_
    show w_M_put (fun r2 μ2 => -1000000001 = r2 ∧ RR (n + 1) μ2) p0 p1 p2 (sm_st μ 60 1 (μ 60 1 + 1))
    unfold w_M_put
    refine M_sh (fun z => absurd z q) (fun _ => ?_)
    rw [if_pos rfl]
    exact M_err1 ⟨rfl, RR_err hR rfl rfl⟩

/-! ===== the model: heat, melting, paying, hours ===== -/
def frm (μ μ2 : sm_Mem) : Prop := fr [61] μ μ2 ∧ ∀ j, j ∉ [7, 8, 9, 10, 11, 12, 13, 14] → μ2 61 j = μ 61 j
theorem frm_rfl {μ : sm_Mem} : frm μ μ := ⟨fr_rfl, fun _ _ => rfl⟩
theorem frm_trans {a b c : sm_Mem} (h : frm a b) (g : frm b c) : frm a c := ⟨fr_trans h.1 g.1, fun j hj => (g.2 j hj).trans (h.2 j hj)⟩
theorem frm_st {a b : sm_Mem} (h : frm a b) {j : Nat} {v : Int32} (hj : j ∈ [7, 8, 9, 10, 11, 12, 13, 14]) : frm a (sm_st b 61 j v) :=
  ⟨fr_st h.1 (by simp), fun i hi => by rw [st_same, if_neg (fun e => hi (by rw [e]; exact hj))]; exact h.2 i hi⟩
theorem m_walks {K : Int32 → sm_Mem → Prop} {u sz : Nat} {a b c : Int32} {μ : sm_Mem} (hu : u ≤ 1) (hz : sz ≤ 50) (hs : μ 62 (5 + u) = nI sz) (hK : ∀ (v : Int32) (μ2 : sm_Mem), frm μ μ2 → μ2 61 8 = nI (pText (mB μ u) sz u).2.1 → μ2 61 14 = bI ((pText (mB μ u) sz u).1 && decide ((pText (mB μ u) sz u).2.1 = sz)) → ((pText (mB μ u) sz u).1 = true → v = (pText (mB μ u) sz u).2.2.2 a b c) → K v μ2) : w_M_walks K (nI u) a b c μ := by
  unfold w_M_walks
  intro μ1 e1 μ2 e2
  have e5 : (5 : Int32) + nI u = nI (5 + u) := nI_add 5 u
  rw [e5]
  refine ⟨(vin_iff (by omega)).mpr (by omega), ?_⟩
  rw [ix_nI (by omega)]
  have h62 : μ2 62 = μ 62 := by rw [e2, e1, st_ne _ _ _ _ _ (by decide), st_ne _ _ _ _ _ (by decide)]
  rw [h62, hs]
  intro μ4 e4 μ5 e5' μ6 e6 μ7 e7 μ8 e8 μ9 e9
  have hf : frm μ μ9 := by
    rw [e9, e8, e7, e6, e5', e4, e2, e1]
    exact frm_st (frm_st (frm_st (frm_st (frm_st (frm_st (frm_st (frm_st frm_rfl (by decide)) (by decide)) (by decide)) (by decide)) (by decide)) (by decide)) (by decide)) (by decide)
  have hm : mst μ u sz 0 (5 - 5) a b c 1 μ9 := by
    refine ⟨hf.1, hf.2, ?_, ?_, ?_, ?_, ?_, ?_, ?_, ?_⟩ <;> rw [e9, e8, e7, e6, e5', e4, e2, e1] <;> simp only [st_same] <;> rfl
  have hp : pOk sz 0 (pText (mB μ u) sz u) := (pOr_ok (B := mB μ u) (pPart_ok (mB μ u) sz u 5)).2.2.2.2 0 (Nat.zero_le _)
  refine m_text hu hz _ 0 μ9 (Nat.zero_le _) hm (fun v μ10 hm2 hv => ?_)
  have hm2 : mst μ u sz (pText (mB μ u) sz u).2.1 (5 - 5) a b c (bI (pText (mB μ u) sz u).1) μ10 := hm2
  have hv : (pText (mB μ u) sz u).1 = true → v = (pText (mB μ u) sz u).2.2.2 a b c := hv
  have h10 : frm μ μ10 := ⟨hm2.1, hm2.2.1⟩
  have fin : ∀ z : Int32, z = bI ((pText (mB μ u) sz u).1 && decide ((pText (mB μ u) sz u).2.1 = sz)) → K v (sm_st μ10 61 14 z) := by
    intro z ez
    refine hK v _ (frm_st h10 (by decide)) ?_ ?_ hv
    · rw [st_same, if_neg (by decide)]
      exact hm2.2.2.2.1
    · rw [st_same, if_pos rfl, ez]
  by_cases hg : (pText (mB μ u) sz u).1 = true
  · rw [hg] at hm2 fin
    rw [if_neg (by rw [hm2.2.2.2.2.2.2.2.2.2]; decide), hm2.2.2.2.1, hm2.2.2.2.2.1]
    by_cases q : (pText (mB μ u) sz u).2.1 = sz
    · rw [if_pos (by rw [q])]
      intro μ16 e16
      rw [e16]
      exact fin 1 (by simp [q]; rfl)
    · have hle := hp.2.1
      rw [if_neg (fun e => q ((nI_inj (by omega) (by omega)).mp e))]
      intro μ16 e16
      rw [e16]
      exact fin 0 (by simp [q]; rfl)
  · have hg2 := Bool.eq_false_iff.mpr hg
    rw [hg2] at hm2 fin
    rw [if_pos (show μ10 61 14 = 0 from hm2.2.2.2.2.2.2.2.2.2)]
    intro μ16 e16
    rw [e16]
    exact fin 0 (by simp; rfl)
theorem m_held {K : Int32 → sm_Mem → Prop} {x n : Int32} {μ : sm_Mem} (hn : 0 < n) (hK : K (cl n x) μ) : w_M_held K x 0 n μ := by
  unfold w_M_held
  unfold cl at hK
  by_cases c0 : 0 < x
  · rw [if_pos c0] at hK
    rw [if_pos (Int32.le_of_lt c0)]
    by_cases c1 : x < n
    · rw [if_pos c1] at hK
      rw [if_pos (Int32.le_of_lt c1)]
      exact hK
    · rw [if_neg c1] at hK
      by_cases c2 : x ≤ n
      · rw [if_pos c2, Int32.le_antisymm c2 (Int32.not_lt.mp c1)]
        exact hK
      · rw [if_neg c2]
        exact hK
  · rw [if_neg c0, if_pos hn] at hK
    by_cases c1 : 0 ≤ x
    · have e : x = 0 := Int32.le_antisymm (Int32.not_lt.mp c0) c1
      rw [if_pos c1, e, if_pos (Int32.le_of_lt hn)]
      exact hK
    · rw [if_neg c1]
      exact hK
theorem m_lawOf {K : Int32 → sm_Mem → Prop} {u : Nat} {o : Option pV} {a b c n : Int32} {μ : sm_Mem} (hu : u ≤ 1) (hn : 0 < n) (hT : TM u 62 μ o) (hnone : o = none → K (if u = 0 then cl n ((a + b) - 3) else if 5 ≤ a then 0 else 1) μ) (hsome : ∀ v, o = some v → ∀ μ2, frm μ μ2 → K (cl n (v a b c)) μ2) : w_M_lawOf_10 K (nI u) a b c n μ := by
  unfold w_M_lawOf_10
  have e5 : (5 : Int32) + nI u = nI (5 + u) := nI_add 5 u
  rw [e5]
  refine ⟨(vin_iff (by omega)).mpr (by omega), ?_⟩
  rw [ix_nI (by omega)]
  cases o with
  | none =>
    have hT : μ 62 (5 + u) = -1 := hT
    have h := hnone rfl
    rw [hT, if_pos (by decide)]
    by_cases q : u = 0
    · subst q
      rw [if_pos rfl] at h
      rw [if_pos (by decide)]
      exact m_held hn h
    · rw [if_neg q] at h
      have q0 : ¬ nI u = 0 := fun e => q ((nI_inj (a := u) (b := 0) (by omega) (by omega)).mp e)
      rw [if_neg q0]
      by_cases q5 : 5 ≤ a
      · rw [if_pos q5] at h ⊢
        exact h
      · rw [if_neg q5] at h ⊢
        exact h
  | some v =>
    obtain ⟨sz, cd, hz, hs, hp⟩ := hT
    have h := hsome v rfl
    have q0 : ¬ nI sz < 0 := nI_pos (by omega)
    rw [hs, if_neg q0]
    have hp2 : pText (mB μ u) sz u = (true, sz, cd, v) := hp
    refine m_walks hu hz hs (fun w μ2 hf _ _ hw => ?_)
    rw [hp2] at hw
    rw [hw rfl]
    exact m_held hn (h μ2 hf)
theorem m_heat {K : Int32 → sm_Mem → Prop} {o : Option pV} {a b c : Int32} {μ : sm_Mem} (hT : TM 0 62 μ o) (hK : ∀ μ2, frm μ μ2 → K (hF o a b c) μ2) : w_M_lawOf K 0 a b c μ := by
  unfold w_M_lawOf
  rw [if_pos rfl]
  exact m_lawOf (u := 0) (by omega) (by decide) hT (fun e => by rw [e] at hK; exact hK μ frm_rfl) (fun v e μ2 hf => by rw [e] at hK; exact hK μ2 hf)
theorem m_found {K : Int32 → sm_Mem → Prop} {o : Option pV} {a b c : Int32} {μ : sm_Mem} (hT : TM 1 62 μ o) (hK : ∀ μ2, frm μ μ2 → K (fF o a b c) μ2) : w_M_lawOf K 1 a b c μ := by
  unfold w_M_lawOf
  rw [if_neg (by decide)]
  exact m_lawOf (u := 1) (by omega) (by decide) hT (fun e => by rw [e] at hK; exact hK μ frm_rfl) (fun v e μ2 hf => by rw [e] at hK; exact hK μ2 hf)
/-- numbers in their bounds, HOUR maybe beyond the last -/
def gOkM (g : GH) : Prop := gP g ≤ 6 ∧ gN g ≤ 10 ∧ gY g ≤ 9 ∧ gHo g ≤ 20000 ∧ (∀ p, p < gP g → gWa g p ≤ 9) ∧ (∀ a b, gRo g a b ≤ 9) ∧ (∀ i, i < gN g → gKd g i ≤ 6 ∧ gMs g i ≤ 9 ∧ gSn g i ≤ 999 ∧ gAt g i < gP g ∧ gOw g i ≤ 3)
theorem gOk.M {g : GH} (h : gOk g) : gOkM g := ⟨h.1, h.2.1, h.2.2.1, by have := h.2.2.2.1; omega, h.2.2.2.2.1, h.2.2.2.2.2.1, h.2.2.2.2.2.2.1⟩
theorem MA_of {g : GH} {μ μ2 : sm_Mem} (h : MA 62 g μ) (hf : frm μ μ2) : MA 62 g μ2 := MA_fr h (hf.1 62 (by decide))
theorem m_its {K : Int32 → sm_Mem → Prop} {k f : Nat} {μ : sm_Mem} (hk : k < 10) (hf : f < 5) (hK : K (μ 62 (51 + 5 * k + f)) μ) : w_M_its K (nI k) (nI f) μ := by
  unfold w_M_its
  have e : (51 + (5 * nI k)) + nI f = nI (51 + 5 * k + f) := by
    rw [show (5 : Int32) * nI k = nI (5 * k) from nI_mul 5 k, show (51 : Int32) + nI (5 * k) = nI (51 + 5 * k) from nI_add 51 (5 * k), nI_add]
  rw [e]
  refine ⟨(vin_iff (by omega)).mpr (by omega), ?_⟩
  rw [ix_nI (by omega)]
  exact hK
theorem m_gets {K : sm_Mem → Prop} {k f : Nat} {v : Int32} {μ : sm_Mem} (hk : k < 10) (hf : f < 5) (hK : K (sm_st μ 62 (51 + 5 * k + f) v)) : w_M_gets K (nI k) (nI f) v μ := by
  unfold w_M_gets
  have e : (51 + (5 * nI k)) + nI f = nI (51 + 5 * k + f) := by
    rw [show (5 : Int32) * nI k = nI (5 * k) from nI_mul 5 k, show (51 : Int32) + nI (5 * k) = nI (51 + 5 * k) from nI_add 51 (5 * k), nI_add]
  rw [e]
  refine ⟨(vin_iff (by omega)).mpr (by omega), ?_⟩
  intro μ2 e2
  rw [ix_nI (by omega)] at e2
  rw [e2]
  exact hK
def mM0 (kd m h : Int32) : Int32 := if kd = 1 then h / 2 else if kd = 2 then h + 2 else if kd = 3 then (if h ≤ m then 0 else h - m) else if kd = 4 then (if h ≤ 1 then 0 else h / 2 - 1) else if kd = 5 then 2 * h + 4 else if kd = 6 then h - m + 9 else h
theorem mM_tab : ∀ kd, kd < 7 → ∀ m, m < 10 → ∀ h, h < 100 → mM0 (nI kd) (nI m) (nI h) = nI (mN kd m h) := by decide +kernel
theorem m_meltsAt {K : Int32 → sm_Mem → Prop} {g : GH} {i p wm : Nat} {μ : sm_Mem} (hg : gOkM g) (hc : MA 62 g μ) (hw : μ 61 15 = nI wm) (hi : i < gN g) (hp : p < gP g) (hK : ∀ μ2, frm μ μ2 → K (nI (mN (gKd g i) (gMs g i) (hN (gHt g) (nI (gWa g p + wm)) (nI (gY g)) (nI (gHo g % 24))))) μ2) : w_M_meltsAt K (nI i) (nI p) μ := by
  have h6 := hg.1
  have h10 := hg.2.1
  have hho := hg.2.2.2.1
  obtain ⟨k1, k2, k3, k4, k5⟩ := hg.2.2.2.2.2.2 i hi
  unfold w_M_meltsAt
  have e9 : (9 : Int32) + nI p = nI (9 + p) := nI_add 9 p
  rw [e9]
  refine ⟨(vin_iff (by omega)).mpr (by omega), ?_⟩
  rw [ix_nI (by omega), hc.2.1 p hp, hw, nI_add, hc.1.2.2.1, hc.1.2.2.2.1, show nI (gHo g) % (24 : Int32) = nI (gHo g % 24) from nI_mod (b := 24) (by omega) (by omega)]
  refine m_heat hc.2.2.2.2.2.2.1 (fun μ2 hf => ?_)
  have hc2 := MA_of hc hf
  obtain ⟨c1, c2, c3, c4, c5⟩ := hc2.2.2.2.1 i hi
  obtain ⟨e1, e2⟩ := hN_eq (gHt g) (nI (gWa g p + wm)) (nI (gY g)) (nI (gHo g % 24))
  rw [e1]
  refine m_its (f := 1) (by omega) (by omega) ?_
  rw [c2]
  have tab := mM_tab (gKd g i) (by omega) (gMs g i) (by omega) (hN (gHt g) (nI (gWa g p + wm)) (nI (gY g)) (nI (gHo g % 24))) (by omega)
  have h := hK μ2 hf
  rw [← tab] at h
  generalize nI (hN (gHt g) (nI (gWa g p + wm)) (nI (gY g)) (nI (gHo g % 24))) = H at h ⊢
  have sw : ∀ s0 : Int32, s0 = (if H ≤ nI (gMs g i) then 0 else H - nI (gMs g i)) → w_M_meltsAt_58 K (nI i) (nI p) H (nI (gMs g i)) s0 μ2 := by
    intro s0 es
    unfold w_M_meltsAt_58
    refine m_its (f := 0) (by omega) (by omega) ?_
    rw [show μ2 62 (51 + 5 * i + 0) = _ from c1]
    intro v9 ev
    subst ev
    unfold mM0 at h
    rw [← es] at h
    repeat' split
    all_goals simp_all
  by_cases q : H ≤ nI (gMs g i)
  · rw [if_pos q]
    exact sw 0 (by rw [if_pos q])
  · rw [if_neg q]
    exact sw _ (by rw [if_neg q])
theorem m_melts {K : Int32 → sm_Mem → Prop} {g : GH} {i wm : Nat} {μ : sm_Mem} (hg : gOkM g) (hc : MA 62 g μ) (hw : μ 61 15 = nI wm) (hi : i < gN g) (hK : ∀ μ2, frm μ μ2 → K (nI (mN (gKd g i) (gMs g i) (hN (gHt g) (nI (gWa g (gAt g i) + wm)) (nI (gY g)) (nI (gHo g % 24))))) μ2) : w_M_melts K (nI i) μ := by
  unfold w_M_melts
  have h10 := hg.2.1
  refine m_its (f := 3) (by omega) (by omega) ?_
  rw [(hc.2.2.2.1 i hi).2.2.2.1]
  exact m_meltsAt hg hc hw hi (hg.2.2.2.2.2.2 i hi).2.2.2.1 hK
theorem m_pays {K : Int32 → sm_Mem → Prop} {g : GH} {i : Nat} {μ : sm_Mem} (hg : gOkM g) (hc : MA 62 g μ) (hi : i < gN g) (hK : ∀ μ2, frm μ μ2 → K (nI (payA g i (gSn g i))) μ2) : w_M_pays K (nI i) μ := by
  have h10 := hg.2.1
  obtain ⟨k1, k2, k3, k4, k5⟩ := hg.2.2.2.2.2.2 i hi
  obtain ⟨c1, c2, c3, c4, c5⟩ := hc.2.2.2.1 i hi
  unfold w_M_pays
  refine m_its (f := 2) (by omega) (by omega) ?_
  rw [c3]
  refine m_its (f := 1) (by omega) (by omega) ?_
  rw [c2]
  refine m_its (f := 4) (by omega) (by omega) ?_
  rw [c5]
  refine m_found hc.2.2.2.2.2.2.2 (fun μ2 hf => ?_)
  have hc2 := MA_of hc hf
  obtain ⟨c1, c2, c3, c4, c5⟩ := hc2.2.2.2.1 i hi
  have h := hK μ2 hf
  have fin : ∀ fo : Int32, payA g i (gSn g i) = pN0 (gKd g i) (gMs g i) (gSn g i) fo → ∀ s0, s0 = (if fo = 0 then nI (gSn g i) else 0) → w_M_pays_33 K (nI i) (nI (gSn g i)) s0 μ2 := by
    intro fo hfo s0 es
    rw [hfo, ← pE_eq fo k1 k2 k3] at h
    unfold w_M_pays_33
    refine m_its (f := 0) (by omega) (by omega) ?_
    rw [show μ2 62 (51 + 5 * i + 0) = _ from c1]
    intro v ev
    subst ev
    unfold pE0 at h
    by_cases q1 : nI (gKd g i) = 1
    · rw [if_pos q1] at h ⊢
      exact h
    rw [if_neg q1] at h ⊢
    by_cases q2 : nI (gKd g i) = 2
    · rw [if_pos q2] at h ⊢
      rw [es]
      exact h
    rw [if_neg q2] at h ⊢
    by_cases q3 : nI (gKd g i) = 3
    · rw [if_pos q3] at h ⊢
      by_cases z : nI (gSn g i) ≤ 0
      · rw [if_pos z] at h ⊢
        exact h
      · rw [if_neg z] at h ⊢
        refine m_its (f := 1) (by omega) (by omega) ?_
        rw [c2]
        exact h
    rw [if_neg q3] at h ⊢
    by_cases q4 : nI (gKd g i) = 4
    · rw [if_pos q4] at h ⊢
      by_cases z : nI (gSn g i) ≤ 0
      · rw [if_pos z] at h ⊢
        exact h
      · rw [if_neg z] at h ⊢
        exact h
    rw [if_neg q4] at h ⊢
    by_cases q5 : nI (gKd g i) = 5
    · rw [if_pos q5] at h ⊢
      rw [es]
      by_cases z : fo = 0
      · rw [if_pos z] at h ⊢
        exact h
      · rw [if_neg z] at h ⊢
        exact h
    rw [if_neg q5] at h ⊢
    exact h
  by_cases z : fF (gFd g) (nI (gSn g i)) (nI (gMs g i)) (nI (gOw g i)) = 0
  · rw [if_pos z]
    exact fin 0 (by unfold payA pN pN0; simp [z]) _ (by rw [if_pos rfl])
  · rw [if_neg z]
    exact fin 1 (by unfold payA pN pN0; simp [z]) _ (by rw [if_neg (by decide)])

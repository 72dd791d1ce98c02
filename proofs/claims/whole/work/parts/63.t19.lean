/-! ===== methods alike: way ===== -/
abbrev BB : Type := Int32 × Int32
def wup (s : Nat) (u : Int32) (b : BB) : BB := if nI s ≤ b.1 then b else (nI s, u)
def fld (f : Nat → BB → BB) : Nat → Nat → BB → BB
  | 0, _, b => b
  | k + 1, c, b => fld f k (c + 1) (f c b)
theorem fld_congr {f f2 : Nat → BB → BB} : ∀ (k c : Nat), (∀ t, c ≤ t → t < c + k → ∀ b, f t b = f2 t b) → ∀ b, fld f k c b = fld f2 k c b
  | 0, _, _, _ => rfl
  | k + 1, c, h, b => by
    show fld f k (c + 1) (f c b) = fld f2 k (c + 1) (f2 c b)
    rw [h c (Nat.le_refl _) (by omega) b]
    exact fld_congr k (c + 1) (fun t h1 h2 b => h t (by omega) (by omega) b) _
theorem fld_id {f : Nat → BB → BB} : ∀ (k c : Nat), (∀ t, c ≤ t → t < c + k → ∀ b, f t b = b) → ∀ b, fld f k c b = b
  | 0, _, _, _ => rfl
  | k + 1, c, h, b => by
    show fld f k (c + 1) (f c b) = b
    rw [h c (Nat.le_refl _) (by omega) b]
    exact fld_id k (c + 1) (fun t h1 h2 b => h t (by omega) (by omega) b) _
theorem fld_s {f : Nat → BB → BB} {P c : Nat} {b : BB} (h : c < P) : fld f (P - c) c b = fld f (P - (c + 1)) (c + 1) (f c b) := by
  obtain ⟨k, e⟩ : ∃ k, P - c = k + 1 := ⟨P - c - 1, by omega⟩
  rw [e, show P - (c + 1) = k by omega]
  rfl
/-- all ways on from a place, d roads at most, in the order of their places -/
def wk (P : Nat) (ro : Nat → Nat → Nat) (st : Nat → Nat) (aim : Nat) : Nat → Nat → Nat → Nat → Int32 → BB → BB
  | 0, a, s, _, u, b => if a = aim then wup s u b else b
  | d + 1, a, s, e, u, b => if a = aim then wup s u b else fld (fun to b => if 0 < ro a to ∧ e.testBit to = false then wk P ro st aim d to (s - ro a to * st a) (e ||| 2 ^ to) (if u < 0 then nI to else u) b else b) P 0 b
def wf (P : Nat) (ro : Nat → Nat → Nat) (st : Nat → Nat) (aim d a s e : Nat) (u : Int32) (to : Nat) (b : BB) : BB := if 0 < ro a to ∧ e.testBit to = false then wk P ro st aim d to (s - ro a to * st a) (e ||| 2 ^ to) (if u < 0 then nI to else u) b else b
theorem wk_aim {P : Nat} {ro : Nat → Nat → Nat} {st : Nat → Nat} {aim d a s e : Nat} {u : Int32} {b : BB} (h : a = aim) : wk P ro st aim d a s e u b = wup s u b := by
  cases d <;> (rw [wk, if_pos h])
theorem wk_go {P : Nat} {ro : Nat → Nat → Nat} {st : Nat → Nat} {aim d a s e : Nat} {u : Int32} {b : BB} (h : ¬ a = aim) : wk P ro st aim (d + 1) a s e u b = fld (wf P ro st aim d a s e u) P 0 b := by
  rw [wk, if_neg h]
  rfl
theorem wf_no {P : Nat} {ro : Nat → Nat → Nat} {st : Nat → Nat} {aim d a s e : Nat} {u : Int32} {to : Nat} {b : BB} (h : ¬ (0 < ro a to ∧ e.testBit to = false)) : wf P ro st aim d a s e u to b = b := by
  unfold wf
  rw [if_neg h]
theorem wf_yes {P : Nat} {ro : Nat → Nat → Nat} {st : Nat → Nat} {aim d a s e : Nat} {u : Int32} {to : Nat} {b : BB} (h : 0 < ro a to ∧ e.testBit to = false) : wf P ro st aim d a s e u to b = wk P ro st aim d to (s - ro a to * st a) (e ||| 2 ^ to) (if u < 0 then nI to else u) b := by
  unfold wf
  rw [if_pos h]
def un (e : Nat) : Nat := (if e.testBit 0 = true then 0 else 1) + (if e.testBit 1 = true then 0 else 1) + (if e.testBit 2 = true then 0 else 1) + (if e.testBit 3 = true then 0 else 1) + (if e.testBit 4 = true then 0 else 1) + (if e.testBit 5 = true then 0 else 1)
theorem un_tab : ∀ e, e < 64 → ∀ t, t < 6 → e ||| 2 ^ t < 64 ∧ (e.testBit t = true ∨ un (e ||| 2 ^ t) + 1 = un e) := by decide +kernel
theorem be_tab1 : ∀ e, e < 64 → ∀ t, t < 6 → decide ((nI e &&& ((1 : Int32) <<< (nI t &&& 31))) = 0) = !e.testBit t := by decide +kernel
theorem be_tab2 : ∀ e, e < 64 → ∀ t, t < 6 → (nI e ||| ((1 : Int32) <<< (nI t &&& 31))) = nI (e ||| 2 ^ t) := by decide +kernel
theorem be_tab3 : ∀ e, e < 64 → ∀ t, t < 6 → e.testBit t = true ∨ (nI (e ||| 2 ^ t) &&& (((1 : Int32) <<< (nI t &&& 31)) ^^^ (-1))) = nI e := by decide +kernel
theorem wk_stab {P : Nat} {ro : Nat → Nat → Nat} {st : Nat → Nat} {aim : Nat} (hP : P ≤ 6) : ∀ (d a s e : Nat) (u : Int32) (b : BB), e < 64 → un e ≤ d → wk P ro st aim (d + 1) a s e u b = wk P ro st aim d a s e u b
  | 0, a, s, e, u, b, he, hu => by
    by_cases h : a = aim
    · rw [wk_aim h, wk_aim h]
    · rw [wk_go h, wk, if_neg h]
      refine fld_id P 0 (fun t _ ht b => wf_no (fun z => ?_)) b
      have h2 := (un_tab e he t (by omega)).2
      rcases h2 with h2 | h2
      · rw [h2] at z
        exact absurd z.2 (by decide)
      · omega
  | d + 1, a, s, e, u, b, he, hu => by
    by_cases h : a = aim
    · rw [wk_aim h, wk_aim h]
    · rw [wk_go h, wk_go h]
      refine fld_congr P 0 (fun t _ ht b => ?_) b
      by_cases q : 0 < ro a t ∧ e.testBit t = false
      · rw [wf_yes q, wf_yes q]
        obtain ⟨h1, h2⟩ := un_tab e he t (by omega)
        refine wk_stab hP d _ _ _ _ _ h1 ?_
        rcases h2 with h2 | h2
        · rw [h2] at q
          exact absurd q.2 (by decide)
        · omega
      · rw [wf_no q, wf_no q]
def mA (g : GH) (i p : Nat) : Nat := mN (gKd g i) (gMs g i) (hN (gHt g) (nI (gWa g p)) (nI (gY g)) (nI (gHo g % 24)))
theorem mA_le {g : GH} {i p : Nat} (hg : gOk g) (hi : i < gN g) : mA g i p ≤ 202 := mN_le (hg.2.2.2.2.2.2.1 i hi).2.1 (hN_eq _ _ _ _).2
theorem x_walk {g : GH} {i aim : Nat} (hg : gOk g) (hi : i < gN g) (ha : aim < gP g) : ∀ (d n a s e : Nat) (u : Int32) (K : sm_Mem → Prop) (μ : sm_Mem), d + 1 ≤ n → d ≤ 6 → a < gP g → s ≤ 999 → e < 64 → CA 1 g μ → μ 37 6 = nI aim → (∀ p, p < gP g → μ 42 p = nI (mA g i p)) → (∀ μ2, fr [37] μ μ2 → μ2 37 6 = nI aim → (μ2 37 7, μ2 37 8) = wk (gP g) (gRo g) (mA g i) aim d a s e u (μ 37 7, μ 37 8) → K μ2) → wg_W n 0 K (nI a) (nI s) (nI e) u (nI (6 - d)) μ := by
  have h6 := hg.1
  intro d
  induction d with
  | zero =>
    intro n a s e u K μ hn hd hap hs he hc hm h42 hK
    obtain ⟨n, rfl⟩ : ∃ z, n = z + 1 := ⟨n - 1, by omega⟩
    show w_F_walk (wg_W n) K (nI a) (nI s) (nI e) u (nI (6 - 0)) μ
    unfold w_F_walk
    rw [hm]
    by_cases q : a = aim
    · rw [if_pos (by rw [q])]
      rw [wk_aim q] at hK
      unfold wup at hK
      dsimp only at hK
      by_cases z : nI s ≤ μ 37 7
      · rw [if_pos z] at hK ⊢
        exact hK μ fr_rfl hm rfl
      · rw [if_neg z] at hK ⊢
        intro μ13 e13 μ14 e14
        refine hK μ14 (by rw [e14, e13]; exact fr_st (fr_st fr_rfl (by simp)) (by simp)) (by rw [e14, e13, st_same, if_neg (by decide), st_same, if_neg (by decide)]; exact hm) ?_
        rw [e14, st_same, st_same, if_neg (by decide), if_pos rfl, e13, st_same, if_pos rfl]
    · rw [if_neg (fun z => q ((nI_inj (by omega) (by omega)).mp z)), if_neg (by decide)]
      rw [wk, if_neg q] at hK
      exact hK μ fr_rfl hm rfl
  | succ d ih =>
    intro n a s e u K μ hn hd hap hs he hc hm h42 hK
    obtain ⟨n, rfl⟩ : ∃ z, n = z + 1 := ⟨n - 1, by omega⟩
    show w_F_walk (wg_W n) K (nI a) (nI s) (nI e) u (nI (6 - (d + 1))) μ
    unfold w_F_walk
    rw [hm]
    by_cases q : a = aim
    · rw [if_pos (by rw [q])]
      rw [wk_aim q] at hK
      unfold wup at hK
      dsimp only at hK
      by_cases z : nI s ≤ μ 37 7
      · rw [if_pos z] at hK ⊢
        exact hK μ fr_rfl hm rfl
      · rw [if_neg z] at hK ⊢
        intro μ13 e13 μ14 e14
        refine hK μ14 (by rw [e14, e13]; exact fr_st (fr_st fr_rfl (by simp)) (by simp)) (by rw [e14, e13, st_same, if_neg (by decide), st_same, if_neg (by decide)]; exact hm) ?_
        rw [e14, st_same, st_same, if_neg (by decide), if_pos rfl, e13, st_same, if_pos rfl]
    · have p4 : nI (6 - (d + 1)) < 6 := nI_lt_yes (b := 6) (by omega) (by omega) (by omega)
      rw [if_neg (fun z => q ((nI_inj (by omega) (by omega)).mp z)), if_pos p4]
      rw [wk_go q] at hK
      unfold w_F_walk_39
      refine ⟨fun m x6 μ3 => ∃ t, m = gP g - t ∧ t ≤ gP g ∧ x6 = nI t ∧ fr [37] μ μ3 ∧ μ3 37 6 = nI aim ∧ fld (wf (gP g) (gRo g) (mA g i) aim d a s e u) (gP g - t) t (μ3 37 7, μ3 37 8) = fld (wf (gP g) (gRo g) (mA g i) aim d a s e u) (gP g) 0 (μ 37 7, μ 37 8), ⟨gP g, 0, rfl, Nat.zero_le _, rfl, fr_rfl, hm, rfl⟩, ?_⟩
      rintro m x6 μ3 ⟨t, rfl, ht, rfl, hf, hm3, hv⟩
      dsimp only
      have hc3 : CA 1 g μ3 := CA_of hc (fr_mono hf (by simp))
      rw [hc3.1.1]
      by_cases htp : t = gP g
      · rw [if_pos (nI_le_yes (by omega) (by omega) (by omega))]
        refine hK μ3 hf hm3 ?_
        rw [← hv, htp, Nat.sub_self]
        rfl
      · rw [if_neg (nI_le_no (by omega) (by omega) (by omega))]
        have htl : t < gP g := by omega
        rw [fld_s htl] at hv
        have hro : gRo g a t ≤ 9 := hg.2.2.2.2.2.1 a t
        have skip : ¬ (0 < gRo g a t ∧ e.testBit t = false) → w_F_walk_124 (wg_W n) K (fun a0 μ_1 => ∃ k, k < gP g - t ∧ ∃ t, k = gP g - t ∧ t ≤ gP g ∧ a0 = nI t ∧ fr [37] μ μ_1 ∧ μ_1 37 6 = nI aim ∧ fld (wf (gP g) (gRo g) (mA g i) aim d a s e u) (gP g - t) t (μ_1 37 7, μ_1 37 8) = fld (wf (gP g) (gRo g) (mA g i) aim d a s e u) (gP g) 0 (μ 37 7, μ 37 8)) (nI a) (nI s) (nI e) u (nI (6 - (d + 1))) (nI t) μ3 := by
          intro hno
          unfold w_F_walk_124
          rw [wf_no hno] at hv
          exact ⟨gP g - (t + 1), by omega, t + 1, rfl, by omega, (nI_succ t).symm, hf, hm3, hv⟩
        refine x_roadBetween hg hc3 hap htl ?_
        by_cases r0 : gRo g a t = 0
        · rw [if_pos (by rw [r0]; decide)]
          exact skip (fun z => by omega)
        · have r1 : ¬ nI (gRo g a t) ≤ 0 := nI_le_no (b := 0) (by omega) (by omega) (by omega)
          rw [if_neg r1]
          have ht1 := be_tab1 e he t (by omega)
          by_cases bt : e.testBit t = true
          · have nz : ¬ (nI e &&& ((1 : Int32) <<< (nI t &&& 31))) = 0 := fun z => by
              rw [decide_eq_true z, bt] at ht1
              exact absurd ht1 (by decide)
            rw [if_neg nz]
            exact skip (fun z => by rw [bt] at z; exact absurd z.2 (by decide))
          · have bf : e.testBit t = false := Bool.eq_false_iff.mpr bt
            have ez : (nI e &&& ((1 : Int32) <<< (nI t &&& 31))) = 0 := by
              rw [bf] at ht1
              exact of_decide_eq_true ht1
            rw [if_pos ez]
            refine ⟨(vin_iff (by omega)).mpr (by omega), ?_⟩
            intro v9 e9
            have hma := mA_le (p := a) hg hi
            have hmul : gRo g a t * mA g i a ≤ 9 * 202 := Nat.mul_le_mul hro hma
            rw [ix_nI (by omega), hf 42 (by decide), h42 a hap, nI_mul, sub0 (by omega) (by omega)] at e9
            rw [wf_yes ⟨by omega, bf⟩] at hv
            rw [be_tab2 e he t (by omega)]
            have e64 := (un_tab e he t (by omega)).1
            have go : ∀ u2 : Int32, u2 = (if u < 0 then nI t else u) → w_F_walk_117 (wg_W n) K (fun a0 μ_1 => ∃ k, k < gP g - t ∧ ∃ t, k = gP g - t ∧ t ≤ gP g ∧ a0 = nI t ∧ fr [37] μ μ_1 ∧ μ_1 37 6 = nI aim ∧ fld (wf (gP g) (gRo g) (mA g i) aim d a s e u) (gP g - t) t (μ_1 37 7, μ_1 37 8) = fld (wf (gP g) (gRo g) (mA g i) aim d a s e u) (gP g) 0 (μ 37 7, μ 37 8)) (nI a) (nI s) (nI e) u (nI (6 - (d + 1))) (nI t) u2 (nI (e ||| 2 ^ t)) v9 (nI t) μ3 := by
              intro u2 eu
              unfold w_F_walk_117
              have ep : nI (6 - (d + 1)) + 1 = nI (6 - d) := by rw [← nI_succ]; congr 1; omega
              rw [e9, ep]
              refine ih n t (s - gRo g a t * mA g i a) (e ||| 2 ^ t) u2 _ μ3 (by omega) (by omega) htl (by omega) e64 hc3 hm3 (fun p hp => by rw [hf 42 (by decide)]; exact h42 p hp) (fun μ4 hf4 hm4 hv4 => ?_)
              unfold w_F_walk_124
              refine ⟨gP g - (t + 1), by omega, t + 1, rfl, by omega, (nI_succ t).symm, fr_trans hf hf4, hm4, ?_⟩
              rw [hv4, eu]
              exact hv
            by_cases u0 : u < 0
            · rw [if_neg (Int32.not_le.mpr u0)]
              exact go (nI t) (by rw [if_pos u0])
            · rw [if_pos (Int32.not_lt.mp u0)]
              exact go u (by rw [if_neg u0])
noncomputable def wayU (g : GH) (i p : Nat) : Int32 := if gAt g i = p then nI p else -1
noncomputable def wayR (g : GH) (i p d : Nat) : BB := wk (gP g) (gRo g) (mA g i) p d (gAt g i) (gSn g i) (2 ^ gAt g i) (wayU g i p) (-1, nI p)
theorem un_root : ∀ t, t < 6 → 2 ^ t < 64 ∧ un (2 ^ t) = 5 := by decide +kernel
theorem wayR_65 {g : GH} {i p : Nat} (hg : gOk g) (hi : i < gN g) : wayR g i p 6 = wayR g i p 5 := by
  have h6 := hg.1
  have ha := (hg.2.2.2.2.2.2.1 i hi).2.2.2.1
  obtain ⟨h1, h2⟩ := un_root (gAt g i) (by omega)
  exact wk_stab hg.1 5 _ _ _ _ _ h1 (by omega)
theorem x_findWay {K : Int32 → sm_Mem → Prop} {g : GH} {i p : Nat} {μ : sm_Mem} (hg : gOk g) (hc : CA 1 g μ) (hi : i < gN g) (hp : p < gP g) (hK : ∀ μ2, fr SX μ μ2 → μ2 37 7 = (wayR g i p 6).1 → μ2 37 8 = (wayR g i p 6).2 → K (if (wayR g i p 6).1 < 0 then 0 else 1) μ2) : w_F_findWay K (nI i) (nI p) μ := by
  have h6 := hg.1
  have h10 := hg.2.1
  obtain ⟨k1, k2, k3, k4, k5⟩ := hg.2.2.2.2.2.2.1 i hi
  have vi : vp_in (nI i) 10 := (vin_iff (by omega)).mpr (by omega)
  unfold w_F_findWay
  refine hasNote_yes hc.1.2.1 hg.2.1 hi ?_
  rw [if_neg (by decide)]
  refine ⟨vi, ?_⟩
  intro v5 e5 μ6 e6 μ7 e7 μ8 e8
  rw [ix_nI (by omega), show μ 7 i = nI (gAt g i) from (hc.2.2.2.1 i hi).2.2.2.1] at e5
  subst e5
  have hf8 : fr SX μ μ8 := by
    rw [e8, e7, e6]
    exact fr_st (fr_st (fr_st fr_rfl (by simp)) (by simp)) (by simp)
  have r6 : μ8 37 6 = nI p := by rw [e8, st_same, if_neg (by decide), e7, st_same, if_neg (by decide), e6, st_same, if_pos rfl]
  have r7 : μ8 37 7 = -1 := by rw [e8, st_same, if_neg (by decide), e7, st_same, if_pos rfl]
  have r8 : μ8 37 8 = nI p := by rw [e8, st_same, if_pos rfl]
  have fin : ∀ μ2, fr SX μ μ2 → μ2 37 7 = (wayR g i p 6).1 → μ2 37 8 = (wayR g i p 6).2 → w_F_findWay_127 K (nI i) (nI p) μ2 := by
    intro μ2 a1 a2 a3
    unfold w_F_findWay_127
    have h3 := hK μ2 a1 a2 a3
    rw [a2]
    by_cases z : (wayR g i p 6).1 < 0
    · rw [if_pos z] at h3 ⊢
      exact h3
    · rw [if_neg z] at h3 ⊢
      exact h3
  unfold w_F_findWay_41
  refine ⟨fun m x4 μ3 => ∃ t, m = gP g - t ∧ t ≤ gP g ∧ x4 = nI t ∧ fr SX μ μ3 ∧ μ3 37 6 = nI p ∧ μ3 37 7 = -1 ∧ μ3 37 8 = nI p ∧ ∀ q, q < t → μ3 42 q = nI (mA g i q), ⟨gP g, 0, rfl, Nat.zero_le _, rfl, hf8, r6, r7, r8, fun q hq => by omega⟩, ?_⟩
  rintro m x4 μ3 ⟨t, rfl, ht, rfl, hf, s6, s7, s8, s42⟩
  dsimp only
  have hc3 := CA_of hc hf
  rw [hc3.1.1]
  by_cases htp : t = gP g
  · subst htp
    rw [if_pos (nI_le_yes (by omega) (by omega) (by omega))]
    by_cases q : gAt g i = p
    · rw [if_pos (by rw [q])]
      refine ⟨vi, ?_⟩
      intro μ18 e18
      rw [ix_nI (by omega), show μ3 6 i = nI (gSn g i) from (hc3.2.2.2.1 i hi).2.2.1] at e18
      have eR : wayR g i p 6 = (nI (gSn g i), nI p) := by
        unfold wayR wayU
        rw [wk_aim q, if_pos q]
        unfold wup
        have ng : ¬ nI (gSn g i) ≤ -1 := fun z => by
          have := Int32.le_iff_toInt_le.mp z
          rw [nI_toInt (by omega)] at this
          have e : (-1 : Int32).toInt = -1 := rfl
          rw [e] at this
          omega
        rw [if_neg ng]
      refine fin μ18 (by rw [e18]; exact fr_st hf (by simp)) ?_ ?_
      · rw [eR, e18, st_same, if_pos rfl]
      · rw [eR, e18, st_same, if_neg (by decide)]
        exact s8
    · rw [if_neg (fun z => q ((nI_inj (by omega) (by omega)).mp z))]
      refine hasPlace_yes hc3.1.1 hg.1 k4 ?_
      rw [if_neg (by decide)]
      refine ⟨vi, ?_⟩
      rw [ix_nI (by omega), show μ3 6 i = nI (gSn g i) from (hc3.2.2.2.1 i hi).2.2.1, shl_tab _ (by omega)]
      obtain ⟨h1, h2⟩ := un_root (gAt g i) (by omega)
      refine x_walk (i := i) hg hi hp 6 8 (gAt g i) (gSn g i) (2 ^ gAt g i) (-1) _ μ3 (by omega) (by omega) k4 k3 h1 hc3 s6 s42 (fun μ4 hf4 hm4 hv4 => ?_)
      have eR : wayR g i p 6 = (μ4 37 7, μ4 37 8) := by
        rw [hv4, s7, s8]
        unfold wayR wayU
        rw [if_neg q]
      refine fin μ4 (fr_trans hf (fr_mono hf4 (by simp))) ?_ ?_
      · rw [eR]
      · rw [eR]
  · rw [if_neg (nI_le_no (by omega) (by omega) (by omega))]
    have htl : t < gP g := by omega
    refine x_meltsNow hg hc3 hi htl (fun μ4 hf4 => ?_)
    refine ⟨(vin_iff (by omega)).mpr (by omega), ?_⟩
    intro μ5 e5
    rw [ix_nI (by omega)] at e5
    have h37 : μ5 37 = μ3 37 := by rw [e5, st_ne _ _ _ _ _ (by decide), hf4 37 (by decide)]
    refine ⟨gP g - (t + 1), by omega, t + 1, rfl, by omega, (nI_succ t).symm, ?_, by rw [h37]; exact s6, by rw [h37]; exact s7, by rw [h37]; exact s8, fun q hq => ?_⟩
    · rw [e5]
      exact fr_st (fr_trans hf (fr_mono hf4 (by simp))) (by simp)
    · rw [e5, st_same]
      by_cases z : q = t
      · rw [if_pos z, z]
        rfl
      · rw [if_neg z, hf4 42 (by decide)]
        exact s42 q (by omega)

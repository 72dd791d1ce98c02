/-! ===== methods alike: pay ===== -/
def pcN : Nat → Nat → Nat
  | 0, _ => 0
  | k + 1, b => b % 2 + pcN k (b / 2)
def pc (b : Nat) : Nat := pcN 10 b
def bc1 (p0 : Int32) : Int32 := (p0 - ((p0.toUInt32 >>> ((1 : Int32).toUInt32 &&& Int32.toUInt32 31)).toInt32 &&& 1431655765))
def bc2 (v1 : Int32) : Int32 := ((v1 &&& 858993459) + ((v1.toUInt32 >>> ((2 : Int32).toUInt32 &&& Int32.toUInt32 31)).toInt32 &&& 858993459))
def bc3 (v2 : Int32) : Int32 := ((v2 + (v2.toUInt32 >>> ((4 : Int32).toUInt32 &&& Int32.toUInt32 31)).toInt32) &&& 252645135)
def bc4 (v3 : Int32) : Int32 := (v3 + (v3.toUInt32 >>> ((8 : Int32).toUInt32 &&& Int32.toUInt32 31)).toInt32)
def bc5 (v4 : Int32) : Int32 := (v4 + (v4.toUInt32 >>> ((16 : Int32).toUInt32 &&& Int32.toUInt32 31)).toInt32)
theorem bc_tab : ∀ b, b < 1024 → (bc5 (bc4 (bc3 (bc2 (bc1 (nI b)))))) &&& 63 = nI (pc b) := by decide +kernel
theorem bits_tab : ∀ b, b < 1024 → b ≠ 0 → (nI b) &&& (nI b - 1) = nI (b &&& (b - 1)) ∧ (b &&& (b - 1)) < b ∧ pc b = pc (b &&& (b - 1)) + 1 := by decide +kernel
theorem x_bitCount {K : Int32 → sm_Mem → Prop} {b : Nat} {μ : sm_Mem} (hb : b < 1024) (hK : K (nI (pc b)) μ) : w_JI_bitCount K (nI b) μ := by
  unfold w_JI_bitCount
  intro v1 e1 v2 e2 v3 e3 v4 e4 v5 e5
  have e : v5 &&& 63 = nI (pc b) := by
    subst e1
    subst e2
    subst e3
    subst e4
    subst e5
    exact bc_tab b hb
  rw [e]
  exact hK
theorem m_bits {K : Int32 → sm_Mem → Prop} {b : Nat} {μ : sm_Mem} (hb : b < 1024) (hK : K (nI (pc b)) μ) : w_M_bits K (nI b) μ := by
  unfold w_M_bits w_M_bits_4
  refine ⟨fun m x1 x2 μ3 => m ≤ b ∧ x2 = nI m ∧ μ3 = μ ∧ ∃ d, x1 = nI d ∧ d + pc m = pc b, ⟨b, Nat.le_refl _, rfl, rfl, 0, rfl, by omega⟩, ?_⟩
  rintro m x1 x2 μ3 ⟨hm, rfl, rfl, d, rfl, hd⟩
  dsimp only
  by_cases c0 : m = 0
  · subst c0
    rw [if_pos (show nI 0 = 0 from rfl)]
    have e0 : pc 0 = 0 := by decide
    have ed : d = pc b := by omega
    rw [ed]
    exact hK
  · rw [if_neg (nI_ne0 (by omega) (by omega))]
    intro v2 e2
    obtain ⟨t1, t2, t3⟩ := bits_tab m (by omega) c0
    rw [t1] at e2
    exact ⟨m &&& (m - 1), t2, by omega, e2, rfl, d + 1, (nI_succ d).symm, by omega⟩
def sS (f : Nat → Nat) : Nat → Nat → Nat
  | 0, _ => 0
  | i + 1, s => sS f i s + (if s.testBit i = true then f i else 0)
theorem sS_up {f : Nat → Nat} {i s : Nat} : ∀ j, j ≤ i → sS f j (2 ^ i + s) = sS f j s
  | 0, _ => rfl
  | j + 1, h => by
    show sS f j (2 ^ i + s) + (if (2 ^ i + s).testBit j = true then f j else 0) = sS f j s + (if s.testBit j = true then f j else 0)
    rw [sS_up j (by omega), Nat.testBit_two_pow_add_gt (by omega) s]
theorem sS_hi {f : Nat → Nat} {i s : Nat} (h : s < 2 ^ i) : sS f (i + 1) (2 ^ i + s) = sS f i s + f i := by
  show sS f i (2 ^ i + s) + (if (2 ^ i + s).testBit i = true then f i else 0) = sS f i s + f i
  rw [sS_up i (Nat.le_refl _), Nat.testBit_two_pow_add_eq, Nat.testBit_lt_two_pow h]
  rfl
theorem sS_lo {f : Nat → Nat} {i s : Nat} (h : s < 2 ^ i) : sS f (i + 1) s = sS f i s := by
  show sS f i s + (if s.testBit i = true then f i else 0) = sS f i s
  rw [Nat.testBit_lt_two_pow h]
  rfl
theorem sS_le {f : Nat → Nat} {c s : Nat} : ∀ n, (∀ i, i < n → f i ≤ c) → sS f n s ≤ c * n
  | 0, _ => by show 0 ≤ _; omega
  | n + 1, h => by
    have h1 := sS_le (s := s) n (fun i hi => h i (by omega))
    have h2 := h n (by omega)
    show sS f n s + (if s.testBit n = true then f n else 0) ≤ c * (n + 1)
    rw [Nat.mul_succ]
    split <;> omega
def payF (g : GH) (i : Nat) : Nat := payA g i (gSn g i)
theorem payF_le {g : GH} {i : Nat} (hg : gOk g) (hi : i < gN g) : payF g i ≤ 2003 := payA_le hg hi (hg.2.2.2.2.2.2.1 i hi).2.2.1
theorem sSp_le {g : GH} {n s : Nat} (hg : gOk g) (hn : n ≤ gN g) : sS (payF g) n s ≤ 20030 := by
  have h := sS_le (f := payF g) (c := 2003) (s := s) n (fun i hi => payF_le hg (by omega))
  have h10 := hg.2.1
  have h2 : 2003 * n ≤ 2003 * 10 := Nat.mul_le_mul_left _ (by omega)
  omega
theorem shl_tab : ∀ i, i < 11 → ((1 : Int32) <<< (nI i &&& 31)) = nI (2 ^ i) := by decide +kernel
theorem pow_le {i : Nat} (h : i ≤ 10) : 2 ^ i ≤ 1024 := by
  have := Nat.pow_le_pow_right (n := 2) (by omega) h
  omega
theorem pow_lt {i : Nat} (h : i < 10) : 2 ^ i ≤ 512 := by
  have := Nat.pow_le_pow_right (n := 2) (by omega) (show i ≤ 9 by omega)
  omega
theorem pow_dbl (i : Nat) : 2 ^ (i + 1) = 2 ^ i + 2 ^ i := by
  rw [Nat.pow_succ]
  omega
def ownI (g : GH) (o : Nat) : Nat → Int32 := bsI (fun i => gOw g i == o)
theorem x_sumSets {K : Int32 → sm_Mem → Prop} {g : GH} {o : Nat} {μ : sm_Mem} (hg : gOk g) (hc : CA 1 g μ) (ho : o ≤ 3) (hK : ∀ μ2, fr SX μ μ2 → (∀ s, s < 2 ^ gN g → μ2 41 s = nI (sS (payF g) (gN g) s)) → K (ownI g o (gN g)) μ2) : w_F_sumSets K (nI o) μ := by
  have h10 := hg.2.1
  unfold w_F_sumSets
  intro μ1 e1
  have hf1 : fr SX μ μ1 := by
    rw [e1]
    exact fr_st fr_rfl (by simp)
  unfold w_F_sumSets_11
  refine ⟨fun m x2 x3 μ2 => ∃ i, m = gN g - i ∧ i ≤ gN g ∧ x3 = nI i ∧ x2 = ownI g o i ∧ fr SX μ μ2 ∧ ∀ s, s < 2 ^ i → μ2 41 s = nI (sS (payF g) i s), ⟨gN g, 0, rfl, Nat.zero_le _, rfl, rfl, hf1, fun s hs => ?_⟩, ?_⟩
  · have : s = 0 := by
      have : 2 ^ 0 = 1 := rfl
      omega
    subst this
    rw [e1, st_same, if_pos rfl]
    rfl
  rintro m x2 x3 μ2 ⟨i, rfl, hi, rfl, rfl, hf, hs⟩
  dsimp only
  have hc2 := CA_of hc hf
  rw [hc2.1.2.1]
  by_cases hin : i = gN g
  · subst hin
    rw [if_pos (nI_le_yes (by omega) (by omega) (Nat.le_refl _))]
    exact hK μ2 hf hs
  · rw [if_neg (nI_le_no (by omega) (by omega) (by omega))]
    have hlt : i < gN g := by omega
    have how := (hg.2.2.2.2.2.2.1 i hlt).2.2.2.2
    have hsn := (hg.2.2.2.2.2.2.1 i hlt).2.2.1
    have h512 := pow_lt (show i < 10 by omega)
    have hdb := pow_dbl i
    intro v3 e3
    rw [shl_tab i (by omega)] at e3
    refine ⟨(vin_iff (by omega)).mpr (by omega), ?_⟩
    rw [ix_nI (by omega), show μ2 6 i = nI (gSn g i) from (hc2.2.2.2.1 i hlt).2.2.1]
    refine x_pays hg hc2 hlt hsn (fun μ5 hf5 _ _ _ h41 => ?_)
    have hf' := fr_trans hf hf5
    have hc5 := CA_of hc hf'
    have nx : w_F_sumSets_64 K (fun a0 a1 μ_1 => ∃ k, k < gN g - i ∧ ∃ i, k = gN g - i ∧ i ≤ gN g ∧ a1 = nI i ∧ a0 = ownI g o i ∧ fr SX μ μ_1 ∧ ∀ s, s < 2 ^ i → μ_1 41 s = nI (sS (payF g) i s)) (nI o) (ownI g o (i + 1)) (nI i) v3 (nI (payA g i (gSn g i))) μ5 := by
      unfold w_F_sumSets_64 w_F_sumSets_67
      refine ⟨fun m x6 μ6 => ∃ s, m = 2 ^ i - s ∧ s ≤ 2 ^ i ∧ x6 = nI s ∧ fr SX μ μ6 ∧ (∀ z, z < 2 ^ i → μ6 41 z = nI (sS (payF g) i z)) ∧ ∀ z, z < s → μ6 41 (2 ^ i + z) = nI (sS (payF g) (i + 1) (2 ^ i + z)), ⟨2 ^ i, 0, rfl, Nat.zero_le _, rfl, hf', fun z hz => by rw [h41]; exact hs z hz, fun z hz => by omega⟩, ?_⟩
      rintro m x6 μ6 ⟨s, rfl, hs2, rfl, hf6, hlo, hhi⟩
      dsimp only
      rw [e3]
      by_cases his : s = 2 ^ i
      · rw [if_pos (nI_le_yes (by omega) (by omega) (by omega))]
        refine ⟨gN g - (i + 1), by omega, i + 1, rfl, by omega, (nI_succ i).symm, rfl, hf6, fun z hz => ?_⟩
        by_cases y : z < 2 ^ i
        · rw [hlo z y, sS_lo y]
        · obtain ⟨z2, rfl⟩ : ∃ z2, z = 2 ^ i + z2 := ⟨z - 2 ^ i, by omega⟩
          exact hhi z2 (by omega)
      · rw [if_neg (nI_le_no (by omega) (by omega) (by omega))]
        refine ⟨(vin_iff (by omega)).mpr (by omega), ?_⟩
        rw [nI_add]
        refine ⟨(vin_iff (by omega)).mpr (by omega), ?_⟩
        intro μ7 e7
        rw [ix_nI (by omega), ix_nI (by omega), hlo s (by omega), nI_add] at e7
        refine ⟨2 ^ i - (s + 1), by omega, s + 1, rfl, by omega, (nI_succ s).symm, by rw [e7]; exact fr_st hf6 (by simp), fun z hz => ?_, fun z hz => ?_⟩
        · rw [e7, st_same, if_neg (by omega)]
          exact hlo z hz
        · rw [e7, st_same]
          by_cases y : z = s
          · rw [if_pos (by omega), y, sS_hi (by omega)]
            rfl
          · rw [if_neg (by omega)]
            exact hhi z (by omega)
    refine ⟨(vin_iff (by omega)).mpr (by omega), ?_⟩
    rw [show μ5 8 i = _ from (hc5.2.2.2.1 i hlt).2.2.2.2]
    by_cases qo : gOw g i = o
    · rw [if_pos (by rw [qo])]
      intro v13 e13
      have : v13 = ownI g o (i + 1) := by
        rw [e13, e3, ← shl_tab i (by omega)]
        unfold ownI
        rw [bsI, if_pos (by simp [qo])]
      rw [this]
      exact nx
    · rw [if_neg (fun z => qo ((nI_inj (by omega) (by omega)).mp z))]
      have : ownI g o i = ownI g o (i + 1) := by
        unfold ownI
        rw [bsI, if_neg (by simp [qo])]
      rw [this]
      exact nx
/-- whether a set of notes is better than the best until now -/
def pBe (S : Nat → Nat) (b : Int32 × Int32) (s : Nat) : Prop := b.2 < 0 ∨ nI (S s) < b.1 ∨ (nI (S s) = b.1 ∧ pc s < pc (ix b.2))
noncomputable def pBt (ow : Int32) (S : Nat → Nat) (v : Nat) : Nat → Int32 × Int32
  | 0 => (0, -1)
  | s + 1 => @ite (Int32 × Int32) ((nI s &&& (ow ^^^ (-1))) = 0 ∧ v ≤ S s ∧ pBe S (pBt ow S v s) s) (Classical.propDecidable _) (nI (S s), nI s) (pBt ow S v s)
theorem pBt_yes {ow : Int32} {S : Nat → Nat} {v s : Nat} (h : (nI s &&& (ow ^^^ (-1))) = 0 ∧ v ≤ S s ∧ pBe S (pBt ow S v s) s) : pBt ow S v (s + 1) = (nI (S s), nI s) := by
  show @ite (Int32 × Int32) _ (Classical.propDecidable _) _ _ = _
  rw [if_pos h]
theorem pBt_no {ow : Int32} {S : Nat → Nat} {v s : Nat} (h : ¬ ((nI s &&& (ow ^^^ (-1))) = 0 ∧ v ≤ S s ∧ pBe S (pBt ow S v s) s)) : pBt ow S v (s + 1) = pBt ow S v s := by
  show @ite (Int32 × Int32) _ (Classical.propDecidable _) _ _ = _
  rw [if_neg h]
theorem pBt_ok {ow : Int32} {S : Nat → Nat} {v : Nat} : ∀ s, (pBt ow S v s).2 = -1 ∨ ∃ c, c < s ∧ (pBt ow S v s).2 = nI c
  | 0 => Or.inl rfl
  | s + 1 => by
    by_cases h : (nI s &&& (ow ^^^ (-1))) = 0 ∧ v ≤ S s ∧ pBe S (pBt ow S v s) s
    · rw [pBt_yes h]
      exact Or.inr ⟨s, by omega, rfl⟩
    · rw [pBt_no h]
      rcases pBt_ok (ow := ow) (S := S) (v := v) s with h | ⟨c, h1, h2⟩
      · exact Or.inl h
      · exact Or.inr ⟨c, by omega, h2⟩
theorem x_better {K : Int32 → sm_Mem → Prop} {S : Nat → Nat} {b : Int32 × Int32} {s : Nat} {μ : sm_Mem} (h7 : μ 37 7 = b.1) (h8 : μ 37 8 = b.2) (hb : b.2 = -1 ∨ ∃ c, c < 1024 ∧ b.2 = nI c) (hs : s < 1024) (h41 : μ 41 s = nI (S s)) (hy : pBe S b s → K 1 μ) (hn : ¬ pBe S b s → K 0 μ) : w_F_isBetterSet K (nI s) μ := by
  unfold w_F_isBetterSet
  rw [h8]
  by_cases c1 : b.2 < 0
  · rw [if_pos c1]
    exact hy (Or.inl c1)
  · rw [if_neg c1]
    refine ⟨(vin_iff (by omega)).mpr hs, ?_⟩
    rw [ix_nI (by omega), h41, h7]
    by_cases c2 : b.1 ≤ nI (S s)
    · rw [if_pos c2]
      have c2n : ¬ nI (S s) < b.1 := Int32.not_lt.mpr c2
      refine ⟨(vin_iff (by omega)).mpr hs, ?_⟩
      by_cases c3 : nI (S s) = b.1
      · rw [if_pos c3]
        refine x_bitCount hs ?_
        rcases hb with e | ⟨c, hc, e⟩
        · rw [e] at c1
          exact absurd (by decide) c1
        · rw [h8, e]
          refine x_bitCount hc ?_
          have p1 : pc s ≤ 10 := (show ∀ s, s < 1024 → pc s ≤ 10 by decide +kernel) s hs
          have p2 : pc c ≤ 10 := (show ∀ s, s < 1024 → pc s ≤ 10 by decide +kernel) c hc
          have ei : ix b.2 = c := by rw [e]; exact ix_nI (by omega)
          by_cases c4 : pc s < pc c
          · rw [if_neg (nI_le_no (by omega) (by omega) c4)]
            exact hy (Or.inr (Or.inr ⟨c3, by rw [ei]; exact c4⟩))
          · rw [if_pos (nI_le_yes (by omega) (by omega) (by omega))]
            refine hn (fun z => ?_)
            rcases z with z | z | z
            · exact c1 z
            · exact c2n z
            · have := z.2
              rw [ei] at this
              exact c4 this
      · rw [if_neg c3]
        refine hn (fun z => ?_)
        rcases z with z | z | z
        · exact c1 z
        · exact c2n z
        · exact c3 z.1
    · rw [if_neg c2]
      exact hy (Or.inr (Or.inl (Int32.not_le.mp c2)))
theorem x_findPay {K : Int32 → sm_Mem → Prop} {g : GH} {o v : Nat} {μ : sm_Mem} (hg : gOk g) (hc : CA 1 g μ) (ho : o ≤ 3) (hv : v ≤ 9999) (hK : ∀ μ2, fr SX μ μ2 → μ2 37 7 = (pBt (ownI g o (gN g)) (sS (payF g) (gN g)) v (2 ^ gN g)).1 → μ2 37 8 = (pBt (ownI g o (gN g)) (sS (payF g) (gN g)) v (2 ^ gN g)).2 → K (if (pBt (ownI g o (gN g)) (sS (payF g) (gN g)) v (2 ^ gN g)).2 < 0 then 0 else 1) μ2) : w_F_findPayment K (nI o) (nI v) μ := by
  have h10 := hg.2.1
  have hpw := pow_le h10
  unfold w_F_findPayment
  refine x_sumSets hg hc ho (fun μ1 hf1 h41 => ?_)
  intro μ3 e3 μ4 e4
  have hf4 : fr SX μ μ4 := by
    rw [e4, e3]
    exact fr_st (fr_st hf1 (by simp)) (by simp)
  have v7 : μ4 37 7 = 0 := by rw [e4, e3, st_same, if_neg (by decide), st_same, if_pos rfl]
  have v8 : μ4 37 8 = -1 := by rw [e4, st_same, if_pos rfl]
  have v41 : μ4 41 = μ1 41 := by rw [e4, e3, st_ne _ _ _ _ _ (by decide), st_ne _ _ _ _ _ (by decide)]
  generalize ownI g o (gN g) = ow at hK ⊢
  unfold w_F_findPayment_19
  refine ⟨fun m x4 μ5 => ∃ s, m = 2 ^ gN g - s ∧ s ≤ 2 ^ gN g ∧ x4 = nI s ∧ fr SX μ μ5 ∧ (∀ z, z < 2 ^ gN g → μ5 41 z = nI (sS (payF g) (gN g) z)) ∧ μ5 37 7 = (pBt ow (sS (payF g) (gN g)) v s).1 ∧ μ5 37 8 = (pBt ow (sS (payF g) (gN g)) v s).2, ⟨2 ^ gN g, 0, rfl, Nat.zero_le _, rfl, hf4, fun z hz => by rw [v41]; exact h41 z hz, v7, v8⟩, ?_⟩
  rintro m x4 μ5 ⟨s, rfl, hs, rfl, hf5, h5, g7, g8⟩
  dsimp only
  have hc5 := CA_of hc hf5
  rw [hc5.1.2.1, shl_tab _ (by omega)]
  by_cases his : s = 2 ^ gN g
  · rw [if_pos (nI_le_yes (by omega) (by omega) (by omega))]
    rw [his] at g7 g8
    have h3 := hK μ5 hf5 g7 g8
    rw [g8]
    by_cases z : (pBt ow (sS (payF g) (gN g)) v (2 ^ gN g)).2 < 0
    · rw [if_pos z] at h3 ⊢
      exact h3
    · rw [if_neg z] at h3 ⊢
      exact h3
  · rw [if_neg (nI_le_no (by omega) (by omega) (by omega))]
    have hle := sSp_le (g := g) (n := gN g) (s := s) hg (Nat.le_refl _)
    have no : ∀ μ6, fr SX μ μ6 → (∀ z, z < 2 ^ gN g → μ6 41 z = nI (sS (payF g) (gN g) z)) → μ6 37 7 = (pBt ow (sS (payF g) (gN g)) v (s + 1)).1 → μ6 37 8 = (pBt ow (sS (payF g) (gN g)) v (s + 1)).2 → w_F_findPayment_79 K (fun a0 μ_1 => ∃ k, k < 2 ^ gN g - s ∧ ∃ s, k = 2 ^ gN g - s ∧ s ≤ 2 ^ gN g ∧ a0 = nI s ∧ fr SX μ μ_1 ∧ (∀ z, z < 2 ^ gN g → μ_1 41 z = nI (sS (payF g) (gN g) z)) ∧ μ_1 37 7 = (pBt ow (sS (payF g) (gN g)) v s).1 ∧ μ_1 37 8 = (pBt ow (sS (payF g) (gN g)) v s).2) (nI o) (nI v) ow (nI s) μ6 := by
      intro μ6 a1 a2 a3 a4
      unfold w_F_findPayment_79
      exact ⟨2 ^ gN g - (s + 1), by omega, s + 1, rfl, by omega, (nI_succ s).symm, a1, a2, a3, a4⟩
    by_cases q1 : (nI s &&& (ow ^^^ (-1))) = 0
    · rw [if_pos q1]
      refine ⟨(vin_iff (by omega)).mpr (by omega), ?_⟩
      rw [ix_nI (by omega), h5 s (by omega)]
      by_cases q2 : sS (payF g) (gN g) s < v
      · rw [if_pos (nI_lt_yes (by omega) (by omega) q2)]
        have hno := pBt_no (ow := ow) (S := sS (payF g) (gN g)) (v := v) (s := s) (fun z => absurd z.2.1 (by omega))
        exact no μ5 hf5 h5 (by rw [hno]; exact g7) (by rw [hno]; exact g8)
      · rw [if_neg (nI_lt_no (by omega) (by omega) (by omega))]
        refine x_better (S := sS (payF g) (gN g)) (b := pBt ow (sS (payF g) (gN g)) v s) g7 g8 ?_ (by omega) (h5 s (by omega)) (fun hb => ?_) (fun hb => ?_)
        · rcases pBt_ok (ow := ow) (S := sS (payF g) (gN g)) (v := v) s with h | ⟨c, h1, h2⟩
          · exact Or.inl h
          · exact Or.inr ⟨c, by omega, h2⟩
        · rw [if_neg (by decide)]
          refine ⟨(vin_iff (by omega)).mpr (by omega), ?_⟩
          intro μ6 e6 μ7 e7
          rw [h5 s (by omega)] at e6
          have hyes := pBt_yes (ow := ow) (S := sS (payF g) (gN g)) (v := v) (s := s) ⟨q1, by omega, hb⟩
          refine no μ7 (by rw [e7, e6]; exact fr_st (fr_st hf5 (by simp)) (by simp)) (fun z hz => by rw [e7, e6, st_ne _ _ _ _ _ (by decide), st_ne _ _ _ _ _ (by decide)]; exact h5 z hz) ?_ ?_
          · rw [hyes, e7, e6, st_same, if_neg (by decide), st_same, if_pos rfl]
          · rw [hyes, e7, st_same, if_pos rfl]
        · rw [if_pos rfl]
          have hno := pBt_no (ow := ow) (S := sS (payF g) (gN g)) (v := v) (s := s) (fun z => hb z.2.2)
          exact no μ5 hf5 h5 (by rw [hno]; exact g7) (by rw [hno]; exact g8)
    · rw [if_neg q1]
      have hno := pBt_no (ow := ow) (S := sS (payF g) (gN g)) (v := v) (s := s) (fun z => q1 z.1)
      exact no μ5 hf5 h5 (by rw [hno]; exact g7) (by rw [hno]; exact g8)
theorem bit_tab : ∀ k, k < 10 → ∀ s, s < 1024 → decide (((nI s >>> (nI k &&& 31)) &&& 1) = 1) = s.testBit k := by decide +kernel
theorem m_payF {K : Int32 → sm_Mem → Prop} {g : GH} {o v : Nat} {p2 : Int32} {μ : sm_Mem} (hg : gOk g) (hc : MA 62 g μ) (q0 : 0 ≤ nI o ∧ nI o ≤ 3) (q1 : 1 ≤ nI v ∧ nI v ≤ 9999) (q2 : 0 ≤ p2 ∧ p2 ≤ 1) (ho : o ≤ 3) (hv : v ≤ 9999) (k1 : ¬ (pBt (ownI g o (gN g)) (sS (payF g) (gN g)) v (2 ^ gN g)).2 < 0 → ∀ μ2, frm μ μ2 → K (if p2 = 0 then (pBt (ownI g o (gN g)) (sS (payF g) (gN g)) v (2 ^ gN g)).2 else (pBt (ownI g o (gN g)) (sS (payF g) (gN g)) v (2 ^ gN g)).1) μ2) (k2 : (pBt (ownI g o (gN g)) (sS (payF g) (gN g)) v (2 ^ gN g)).2 < 0 → ∀ μ2, frm μ μ2 → w_M_errs K (-1000000002) μ2) : w_M_pay K (nI o) (nI v) p2 μ := by
  have h10 := hg.2.1
  have hpw := pow_le h10
  unfold w_M_pay
  refine M_own (fun _ => ?_) (fun z => absurd q0 z)
  rw [if_neg (by decide)]
  refine M_in (fun _ => ?_) (fun z => absurd q1 z)
  rw [if_neg (by decide)]
  refine M_in (fun _ => ?_) (fun z => absurd q2 z)
  rw [if_neg (by decide)]
  unfold w_M_pay_40
  refine ⟨fun m x4 x5 μ3 => ∃ i, m = gN g - i ∧ i ≤ gN g ∧ x5 = nI i ∧ x4 = ownI g o i ∧ μ3 = μ, ⟨gN g, 0, rfl, Nat.zero_le _, rfl, rfl, rfl⟩, ?_⟩
  rintro m x4 x5 μ3 ⟨i, rfl, hi, rfl, rfl, rfl⟩
  dsimp only
  rw [hc.1.2.1]
  by_cases hin : i = gN g
  · rw [if_pos (nI_le_yes (by omega) (by omega) (by omega)), hin]
    generalize ownI g o (gN g) = ow at k1 k2 ⊢
    unfold w_M_pay_91
    refine ⟨fun m x5 x6 x7 μ4 => ∃ s, m = 2 ^ gN g - s ∧ s ≤ 2 ^ gN g ∧ x7 = nI s ∧ x6 = (pBt ow (sS (payF g) (gN g)) v s).1 ∧ x5 = (pBt ow (sS (payF g) (gN g)) v s).2 ∧ frm μ3 μ4, ⟨2 ^ gN g, 0, rfl, Nat.zero_le _, rfl, rfl, rfl, frm_rfl⟩, ?_⟩
    rintro m x5 x6 x7 μ4 ⟨s, rfl, hs, rfl, e6, e5, hf4⟩
    dsimp only
    have m4 := MA_of hc hf4
    rw [m4.1.2.1, shl_tab _ (by omega)]
    by_cases his : s = 2 ^ gN g
    · rw [if_pos (nI_le_yes (by omega) (by omega) (by omega)), e6, e5, his]
      by_cases z : (pBt ow (sS (payF g) (gN g)) v (2 ^ gN g)).2 < 0
      · rw [if_neg (Int32.not_le.mpr z)]
        exact k2 z μ4 hf4
      · rw [if_pos (Int32.not_lt.mp z)]
        have h3 := k1 z μ4 hf4
        by_cases y : p2 = 0
        · rw [if_pos y] at h3 ⊢
          exact h3
        · rw [if_neg y] at h3 ⊢
          exact h3
    · rw [if_neg (nI_le_no (by omega) (by omega) (by omega))]
      have hs10 : s < 1024 := by omega
      have hle := sSp_le (g := g) (n := gN g) (s := s) hg (Nat.le_refl _)
      unfold w_M_pay_111
      refine ⟨fun m x8 x9 μ5 => ∃ k, m = gN g - k ∧ k ≤ gN g ∧ x9 = nI k ∧ x8 = nI (sS (payF g) k s) ∧ frm μ3 μ5, ⟨gN g, 0, rfl, Nat.zero_le _, rfl, rfl, hf4⟩, ?_⟩
      rintro m x8 x9 μ5 ⟨k, rfl, hk, rfl, rfl, hf5⟩
      dsimp only
      have m5 := MA_of hc hf5
      rw [m5.1.2.1]
      by_cases hkn : k = gN g
      · rw [if_pos (nI_le_yes (by omega) (by omega) (by omega)), hkn]
        have no : ∀ μ6, frm μ3 μ6 → ∀ a5 a6, a6 = (pBt ow (sS (payF g) (gN g)) v (s + 1)).1 → a5 = (pBt ow (sS (payF g) (gN g)) v (s + 1)).2 → w_M_pay_223 K (fun a0 a1 a2 μ => ∃ k, k < 2 ^ gN g - s ∧ ∃ s, k = 2 ^ gN g - s ∧ s ≤ 2 ^ gN g ∧ a2 = nI s ∧ a1 = (pBt ow (sS (payF g) (gN g)) v s).1 ∧ a0 = (pBt ow (sS (payF g) (gN g)) v s).2 ∧ frm μ3 μ) (nI o) (nI v) p2 ow a5 a6 (nI s) μ6 := by
          intro μ6 hf6 a5 a6 b6 b5
          unfold w_M_pay_223
          exact ⟨2 ^ gN g - (s + 1), by omega, s + 1, rfl, by omega, (nI_succ s).symm, b6, b5, hf6⟩
        have c175 : ¬ ((nI s &&& (ow ^^^ (-1))) = 0 ∧ v ≤ sS (payF g) (gN g) s) → w_M_pay_175 K (fun a0 a1 a2 μ => ∃ k, k < 2 ^ gN g - s ∧ ∃ s, k = 2 ^ gN g - s ∧ s ≤ 2 ^ gN g ∧ a2 = nI s ∧ a1 = (pBt ow (sS (payF g) (gN g)) v s).1 ∧ a0 = (pBt ow (sS (payF g) (gN g)) v s).2 ∧ frm μ3 μ) (nI o) (nI v) p2 ow x5 x6 (nI s) (nI (sS (payF g) (gN g) s)) μ5 := by
          intro hb
          unfold w_M_pay_175 w_M_pay_176
          rw [if_pos rfl]
          have hno := pBt_no (ow := ow) (S := sS (payF g) (gN g)) (v := v) (s := s) (fun z => hb ⟨z.1, z.2.1⟩)
          exact no μ5 hf5 _ _ (by rw [hno]; exact e6) (by rw [hno]; exact e5)
        by_cases y1 : (nI s &&& (ow ^^^ (-1))) = 0
        · rw [if_pos y1]
          by_cases y2 : sS (payF g) (gN g) s < v
          · rw [if_pos (nI_lt_yes (by omega) (by omega) y2)]
            exact c175 (fun z => absurd z.2 (by omega))
          · rw [if_neg (nI_lt_no (by omega) (by omega) (by omega))]
            unfold w_M_pay_176
            rw [if_neg (by decide)]
            have yes : pBe (sS (payF g) (gN g)) (pBt ow (sS (payF g) (gN g)) v s) s → ∀ μ6, frm μ3 μ6 → w_M_pay_215 K (fun a0 a1 a2 μ => ∃ k, k < 2 ^ gN g - s ∧ ∃ s, k = 2 ^ gN g - s ∧ s ≤ 2 ^ gN g ∧ a2 = nI s ∧ a1 = (pBt ow (sS (payF g) (gN g)) v s).1 ∧ a0 = (pBt ow (sS (payF g) (gN g)) v s).2 ∧ frm μ3 μ) (nI o) (nI v) p2 ow (nI s) (nI (sS (payF g) (gN g) s)) μ6 := by
              intro hb μ6 hf6
              unfold w_M_pay_215
              have hyes := pBt_yes (ow := ow) (S := sS (payF g) (gN g)) (v := v) (s := s) ⟨y1, by omega, hb⟩
              exact no μ6 hf6 _ _ (by rw [hyes]) (by rw [hyes])
            have nay : ¬ pBe (sS (payF g) (gN g)) (pBt ow (sS (payF g) (gN g)) v s) s → ∀ μ6, frm μ3 μ6 → w_M_pay_223 K (fun a0 a1 a2 μ => ∃ k, k < 2 ^ gN g - s ∧ ∃ s, k = 2 ^ gN g - s ∧ s ≤ 2 ^ gN g ∧ a2 = nI s ∧ a1 = (pBt ow (sS (payF g) (gN g)) v s).1 ∧ a0 = (pBt ow (sS (payF g) (gN g)) v s).2 ∧ frm μ3 μ) (nI o) (nI v) p2 ow x5 x6 (nI s) μ6 := by
              intro hb μ6 hf6
              have hno := pBt_no (ow := ow) (S := sS (payF g) (gN g)) (v := v) (s := s) (fun z => hb z.2.2)
              exact no μ6 hf6 _ _ (by rw [hno]; exact e6) (by rw [hno]; exact e5)
            by_cases z1 : x5 < 0
            · rw [if_pos z1]
              exact yes (Or.inl (by rw [← e5]; exact z1)) μ5 hf5
            · rw [if_neg z1]
              by_cases z2 : nI (sS (payF g) (gN g) s) < x6
              · rw [if_pos z2]
                exact yes (Or.inr (Or.inl (by rw [← e6]; exact z2))) μ5 hf5
              · rw [if_neg z2]
                by_cases z3 : nI (sS (payF g) (gN g) s) = x6
                · rw [if_pos z3]
                  refine m_bits hs10 ?_
                  rcases pBt_ok (ow := ow) (S := sS (payF g) (gN g)) (v := v) s with h | ⟨c, h1, h2⟩
                  · rw [e5, h] at z1
                    exact absurd (by decide) z1
                  · have ec : x5 = nI c := e5.trans h2
                    rw [ec]
                    refine m_bits (by omega) ?_
                    have p1 : pc s ≤ 10 := (show ∀ s, s < 1024 → pc s ≤ 10 by decide +kernel) s hs10
                    have p2' : pc c ≤ 10 := (show ∀ s, s < 1024 → pc s ≤ 10 by decide +kernel) c (by omega)
                    have ei : ix (pBt ow (sS (payF g) (gN g)) v s).2 = c := by rw [h2]; exact ix_nI (by omega)
                    by_cases c4 : pc s < pc c
                    · rw [if_neg (nI_le_no (by omega) (by omega) c4)]
                      exact yes (Or.inr (Or.inr ⟨by rw [← e6]; exact z3, by rw [ei]; exact c4⟩)) μ5 hf5
                    · rw [if_pos (nI_le_yes (by omega) (by omega) (by omega)), ← ec]
                      refine nay (fun z => ?_) μ5 hf5
                      rcases z with z | z | z
                      · exact z1 (by rw [e5]; exact z)
                      · exact z2 (by rw [e6]; exact z)
                      · have := z.2
                        rw [ei] at this
                        exact c4 this
                · rw [if_neg z3]
                  refine nay (fun z => ?_) μ5 hf5
                  rcases z with z | z | z
                  · exact z1 (by rw [e5]; exact z)
                  · exact z2 (by rw [e6]; exact z)
                  · exact z3 (by rw [e6]; exact z.1)
        · rw [if_neg y1]
          exact c175 (fun z => y1 z.1)
      · rw [if_neg (nI_le_no (by omega) (by omega) (by omega))]
        have hlt : k < gN g := by omega
        have ht := bit_tab k (by omega) s hs10
        by_cases y : ((nI s >>> (nI k &&& 31)) &&& 1) = 1
        · rw [if_pos y]
          rw [decide_eq_true y] at ht
          refine m_pays hg.M m5 hlt (fun μ6 hf6 => ?_)
          unfold w_M_pay_146
          intro v31 e31
          rw [nI_add] at e31
          refine ⟨gN g - (k + 1), by omega, k + 1, rfl, by omega, (nI_succ k).symm, ?_, frm_trans hf5 hf6⟩
          rw [e31]
          show _ = nI (sS (payF g) k s + (if s.testBit k = true then payF g k else 0))
          rw [← ht, if_pos rfl]
          rfl
        · rw [if_neg y]
          rw [decide_eq_false y] at ht
          unfold w_M_pay_146
          intro v31 e31
          refine ⟨gN g - (k + 1), by omega, k + 1, rfl, by omega, (nI_succ k).symm, ?_, hf5⟩
          rw [e31]
          show _ = nI (sS (payF g) k s + (if s.testBit k = true then payF g k else 0))
          rw [← ht, if_neg (by decide)]
          exact Int32.add_zero _
  · rw [if_neg (nI_le_no (by omega) (by omega) (by omega))]
    have hlt : i < gN g := by omega
    have how := (hg.2.2.2.2.2.2.1 i hlt).2.2.2.2
    refine m_its (f := 4) (by omega) (by omega) ?_
    rw [(hc.2.2.2.1 i hlt).2.2.2.2]
    by_cases qo : gOw g i = o
    · rw [if_pos (by rw [qo])]
      unfold w_M_pay_73
      intro v37 e37
      refine ⟨gN g - (i + 1), by omega, i + 1, rfl, by omega, (nI_succ i).symm, ?_, rfl⟩
      rw [e37]
      unfold ownI
      rw [bsI, if_pos (by simp [qo])]
    · rw [if_neg (fun z => qo ((nI_inj (by omega) (by omega)).mp z))]
      unfold w_M_pay_73
      intro v37 e37
      refine ⟨gN g - (i + 1), by omega, i + 1, rfl, by omega, (nI_succ i).symm, ?_, rfl⟩
      rw [e37, Int32.or_zero]
      unfold ownI
      rw [bsI, if_neg (by simp [qo])]
theorem T_pay (n : Nat) (p0 p1 p2 : Int32) : Same n (fun K => w_X_pay K p0 p1 p2) (fun K => w_M_pay K p0 p1 p2) := by
  intro μ hR
  obtain ⟨⟨g, g1, g2, g3⟩, h15, _⟩ := id hR
  have bad : ¬ ((0 ≤ p0 ∧ p0 ≤ 3) ∧ (1 ≤ p1 ∧ p1 ≤ 9999) ∧ (0 ≤ p2 ∧ p2 ≤ 1)) → w_X_pay_29 (fun r1 μ1 => w_M_pay (fun r2 μ2 => r1 = r2 ∧ RR (n + 1) μ2) p0 p1 p2 μ1) p0 p1 p2 μ := by
    intro hb
    unfold w_X_pay_29
    refine X_err1 ?_
    have e30 : w_M_pay_27 (fun r2 μ2 => -1000000001 = r2 ∧ RR (n + 1) μ2) p0 p1 p2 (sm_st μ 60 1 (μ 60 1 + 1)) := by
      unfold w_M_pay_27
      exact M_err1 ⟨rfl, RR_err hR rfl rfl⟩
    show w_M_pay _ p0 p1 p2 _
    unfold w_M_pay
    refine M_own (fun q0 => ?_) (fun _ => by rw [if_pos rfl]; exact e30)
    rw [if_neg (by decide)]
    refine M_in (fun q1 => ?_) (fun _ => by rw [if_pos rfl]; exact e30)
    rw [if_neg (by decide)]
    exact M_in (fun q2 => absurd ⟨q0, q1, q2⟩ hb) (fun _ => by rw [if_pos rfl]; exact e30)
  show w_X_pay _ p0 p1 p2 μ
  unfold w_X_pay
  refine X_in (fun q0 => ?_) (fun q => by rw [if_pos rfl]; exact bad (fun z => q z.1))
  rw [if_neg (by decide)]
  refine X_in (fun q1 => ?_) (fun q => by rw [if_pos rfl]; exact bad (fun z => q z.2.1))
  rw [if_neg (by decide)]
  refine X_in (fun q2 => ?_) (fun q => by rw [if_pos rfl]; exact bad (fun z => q z.2.2))
  rw [if_neg (by decide)]
  obtain ⟨o, ho, e⟩ := sm_ofle (n := 3) (by omega) q0.1 q0.2
  subst e
  obtain ⟨v, hv, e⟩ := sm_ofle (n := 9999) (by omega) (Int32.le_trans (by decide) q1.1) q1.2
  subst e
  refine x_findPay g1 g2 ho hv (fun μ1 hf1 v7 v8 => ?_)
  have hR1 := RR_sx hR hf1
  have m1 := MA_fr (μ2 := μ1) g3 (hf1 62 (by decide))
  by_cases z : (pBt (ownI g o (gN g)) (sS (payF g) (gN g)) v (2 ^ gN g)).2 < 0
  · rw [if_pos z, if_pos rfl]
    refine X_err2 ?_
    show w_M_pay (fun r2 μ2 => -1000000002 = r2 ∧ RR (n + 1) μ2) (nI o) (nI v) p2 (sm_st μ1 60 2 (μ1 60 2 + 1))
    exact m_payF g1 (MA_fr m1 (st_ne _ _ _ _ _ (by decide))) q0 q1 q2 ho hv (fun y => absurd z y) (fun _ μ2 hf2 => M_err2 ⟨rfl, RR_errq hR1 rfl hf2.q rfl⟩)
  · rw [if_neg z, if_neg (by decide)]
    have mod : ∀ r1, r1 = (if p2 = 0 then (pBt (ownI g o (gN g)) (sS (payF g) (gN g)) v (2 ^ gN g)).2 else (pBt (ownI g o (gN g)) (sS (payF g) (gN g)) v (2 ^ gN g)).1) → w_M_pay (fun r2 μ2 => r1 = r2 ∧ RR (n + 1) μ2) (nI o) (nI v) p2 μ1 := by
      intro r1 er
      exact m_payF g1 m1 q0 q1 q2 ho hv (fun _ μ2 hf2 => ⟨er, RR_q hR1 hf2.q⟩) (fun y => absurd y z)
    by_cases y : p2 = 0
    · rw [if_pos y]
      exact mod _ (by rw [if_pos y]; exact v8)
    · rw [if_neg y]
      exact mod _ (by rw [if_neg y]; exact v7)

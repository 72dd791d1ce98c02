theorem hasPlace_yes {K : Int32 → sm_Mem → Prop} {p P : Nat} {μ : sm_Mem} (h : μ 1 11 = nI P) (hP : P ≤ 6) (hp : p < P) (hK : K 1 μ) : w_D_hasPlace K (nI p) μ := by
  rw [D_hasPlace_eq, h, if_pos ⟨nI_pos' (by omega), (nI_lt_iff (by omega) (by omega)).mpr hp⟩]
  exact hK
theorem hasNote_yes {K : Int32 → sm_Mem → Prop} {i N : Nat} {μ : sm_Mem} (h : μ 1 12 = nI N) (hN : N ≤ 10) (hi : i < N) (hK : K 1 μ) : w_D_hasNote K (nI i) μ := by
  rw [D_hasNote_eq, h, if_pos ⟨nI_pos' (by omega), (nI_lt_iff (by omega) (by omega)).mpr hi⟩]
  exact hK
theorem x_warmthOf {K : Int32 → sm_Mem → Prop} {g : GH} {p : Nat} {μ : sm_Mem} (hg : gOk g) (hc : CA 1 g μ) (hp : p < gP g) (hK : K (nI (gWa g p)) μ) : w_D_warmthOf K (nI p) μ := by
  unfold w_D_warmthOf
  refine hasPlace_yes hc.1.1 hg.1 hp ?_
  rw [if_neg (by decide)]
  have h6 := hg.1
  refine ⟨(vin_iff (by omega)).mpr (by omega), ?_⟩
  rw [ix_nI (by omega), show μ 2 p = _ from hc.2.1 p hp]
  exact hK
theorem x_warmthAround {K : Int32 → sm_Mem → Prop} {g : GH} {i : Nat} {μ : sm_Mem} (hg : gOk g) (hc : CA 1 g μ) (hi : i < gN g) (hK : K (nI (gWa g (gAt g i))) μ) : w_D_warmthAround K (nI i) μ := by
  unfold w_D_warmthAround
  refine hasNote_yes hc.1.2.1 hg.2.1 hi ?_
  rw [if_neg (by decide)]
  have h10 := hg.2.1
  refine ⟨(vin_iff (by omega)).mpr (by omega), ?_⟩
  rw [ix_nI (by omega), show μ 7 i = _ from (hc.2.2.2.1 i hi).2.2.2.1]
  exact x_warmthOf hg hc (hg.2.2.2.2.2.2.1 i hi).2.2.2.1 hK
theorem x_paysWith {K : Int32 → sm_Mem → Prop} {g : GH} {i s : Nat} {μ : sm_Mem} (hg : gOk g) (hc : CA 1 g μ) (hi : i < gN g) (hs : s ≤ 999) (hK : ∀ μ2, fr [18] μ μ2 → K (nI (pN (gFd g) (gKd g i) (gMs g i) (gOw g i) s)) μ2) : w_D_paysWith K (nI i) (nI s) μ := by
  have h10 := hg.2.1
  obtain ⟨k1, k2, k3, k4, k5⟩ := hg.2.2.2.2.2.2.1 i hi
  obtain ⟨c1, c2, c3, c4, c5⟩ := hc.2.2.2.1 i hi
  have c1 : μ 4 i = nI (gKd g i) := c1
  have c2 : μ 5 i = nI (gMs g i) := c2
  have c5 : μ 8 i = nI (gOw g i) := c5
  have vi : vp_in (nI i) 10 := (vin_iff (by omega)).mpr (by omega)
  have ei : (nI i).toNatClampNeg = i := ix_nI (by omega)
  have fin : ∀ (fo : Int32) (μ2 : sm_Mem), fr [18] μ μ2 → pN0 (gKd g i) (gMs g i) s fo = pN (gFd g) (gKd g i) (gMs g i) (gOw g i) s → w_D_paysWith_48 K (nI i) (nI s) fo μ2 := by
    intro fo μ2 hf he
    unfold w_D_paysWith_48
    refine ⟨vi, vi, ?_⟩
    rw [ei, hf 4 (by decide), hf 5 (by decide), c1, c2]
    apply K_pays_eq
    rw [pE_eq fo k1 k2 hs, he]
    exact hK μ2 hf
  unfold w_D_paysWith
  refine hasNote_yes hc.1.2.1 hg.2.1 hi ?_
  rw [if_neg (by decide)]
  refine ⟨vi, ?_⟩
  rw [ei, c1]
  refine x_isOf k1 ?_
  by_cases q : gKd g i = 2 ∨ gKd g i = 5
  · rw [if_pos q, if_neg (by decide)]
    refine ⟨vi, vi, ?_⟩
    rw [c2, c5]
    refine x_foundBy hc.2.2.2.2.2.2.2 (fun μ2 hf => ?_)
    by_cases z : fF (gFd g) (nI s) (nI (gMs g i)) (nI (gOw g i)) = 0
    · rw [if_pos z]
      refine fin 0 μ2 hf ?_
      unfold pN0 pN
      simp [z]
    · rw [if_neg z]
      refine fin 1 μ2 hf ?_
      unfold pN0 pN
      simp [z]
  · rw [if_neg q, if_pos rfl]
    refine fin 0 μ fr_rfl ?_
    have q2 : ¬ gKd g i = 2 := fun e => q (Or.inl e)
    have q5 : ¬ gKd g i = 5 := fun e => q (Or.inr e)
    unfold pN0 pN
    simp only [if_neg q2, if_neg q5]
theorem x_meltsNow {K : Int32 → sm_Mem → Prop} {g : GH} {i p : Nat} {μ : sm_Mem} (hg : gOk g) (hc : CA 1 g μ) (hi : i < gN g) (hp : p < gP g) (hK : ∀ μ2, fr [14] μ μ2 → K (nI (mN (gKd g i) (gMs g i) (hN (gHt g) (nI (gWa g p)) (nI (gY g)) (nI (gHo g % 24))))) μ2) : w_D_meltsNow K (nI i) (nI p) μ := by
  have h10 := hg.2.1
  have hho := hg.2.2.2.1
  obtain ⟨k1, k2, k3, k4, k5⟩ := hg.2.2.2.2.2.2.1 i hi
  obtain ⟨c1, c2, c3, c4, c5⟩ := hc.2.2.2.1 i hi
  have c1 : μ 4 i = nI (gKd g i) := c1
  have c2 : μ 5 i = nI (gMs g i) := c2
  have vi : vp_in (nI i) 10 := (vin_iff (by omega)).mpr (by omega)
  have ei : (nI i).toNatClampNeg = i := ix_nI (by omega)
  unfold w_D_meltsNow
  refine hasNote_yes hc.1.2.1 hg.2.1 hi ?_
  rw [if_neg (by decide)]
  refine ⟨vi, vi, ?_⟩
  rw [ei, c1, c2]
  refine x_warmthOf hg hc hp ?_
  rw [hc.1.2.2.1, hc.1.2.2.2.1, show nI (gHo g) % (24 : Int32) = nI (gHo g % 24) from nI_mod (b := 24) (by omega) (by omega)]
  refine x_heatBy hc.2.2.2.2.2.2.1 (fun μ2 hf => ?_)
  obtain ⟨e1, e2⟩ := hN_eq (gHt g) (nI (gWa g p)) (nI (gY g)) (nI (gHo g % 24))
  rw [e1]
  exact x_melts k1 k2 e2 (hK μ2 hf)
theorem TX_of {k : Nat} {S : List Nat} {μ μ2 : sm_Mem} {o : Option pV} (h : TX k μ o) (hf : fr S μ μ2) (h0 : k ∉ S) (h1 : k + 1 ∉ S) (h2 : k + 2 ∉ S) : TX k μ2 o := TX_fr h (hf _ h0) (hf _ h1) (hf _ h2)
theorem x_feel {K : sm_Mem → Prop} {w y : Int32} {n ho : Nat} {o : Option pV} {μ : sm_Mem} (hn : n ≤ 60) (hh : μ 1 14 = nI ho) (ho' : ho ≤ 9999) (hT : TX 11 μ o) (hK : ∀ μ2, fr [14, 38] μ μ2 → (∀ t, t < n → μ2 38 ((ho + t) % 24) = nI (hN o w y (nI ((ho + t) % 24)))) → K μ2) : w_F_feel K w y (nI n) μ := by
  unfold w_F_feel
  intro v1 e1
  have em : v1 = nI (min 24 n) := by
    rw [e1]
    by_cases q : 24 < n
    · have q2 : (24 : Int32) < nI n := (nI_lt_iff (a := 24) (by omega) (by omega)).mpr q
      rw [if_pos q2, Nat.min_eq_left (by omega)]
      rfl
    · have q2 : ¬ (24 : Int32) < nI n := fun z => q ((nI_lt_iff (a := 24) (by omega) (by omega)).mp z)
      rw [if_neg q2, Nat.min_eq_right (by omega)]
  subst em
  unfold w_F_feel_11
  refine ⟨fun m x5 μ2 => ∃ i, m = min 24 n - i ∧ i ≤ min 24 n ∧ x5 = nI i ∧ fr [14, 38] μ μ2 ∧ (∀ t, t < i → μ2 38 ((ho + t) % 24) = nI (hN o w y (nI ((ho + t) % 24)))), ⟨min 24 n, 0, rfl, Nat.zero_le _, rfl, fr_rfl, fun t ht => by omega⟩, ?_⟩
  rintro m x5 μ2 ⟨i, rfl, hi, rfl, hf, hs⟩
  dsimp only
  by_cases hin : i = min 24 n
  · rw [if_pos ((nI_le_iff (by omega) (by omega)).mpr (by omega))]
    refine hK μ2 hf (fun t ht => ?_)
    by_cases h24 : t < 24
    · exact hs t (by omega)
    · have e : (ho + t) % 24 = (ho + t % 24) % 24 := by omega
      rw [e]
      exact hs (t % 24) (by omega)
  · rw [if_neg (fun q => absurd ((nI_le_iff (by omega) (by omega)).mp q) (by omega))]
    intro v3 e3
    have e4 : v3 = nI ((ho + i) % 24) := by
      rw [e3, hf 1 (by decide), hh, nI_add]
      exact nI_mod (b := 24) (by omega) (by omega)
    subst e4
    refine x_heatBy (TX_of hT hf (by decide) (by decide) (by decide)) (fun μ3 hf3 => ?_)
    refine ⟨(vin_iff (by omega)).mpr (by omega), ?_⟩
    intro μ4 e5
    rw [ix_nI (by omega), (hN_eq o w y (nI ((ho + i) % 24))).1] at e5
    have hf4 : fr [14, 38] μ μ4 := by
      rw [e5]
      exact fr_st (fr_trans hf (fr_mono hf3 (by simp))) (by simp)
    refine ⟨min 24 n - (i + 1), by omega, i + 1, rfl, by omega, (nI_succ i).symm, hf4, fun t ht => ?_⟩
    rw [e5, st_same]
    by_cases q : (ho + t) % 24 = (ho + i) % 24
    · rw [if_pos q, q]
    · rw [if_neg q, hf3 38 (by decide)]
      refine hs t ?_
      by_cases z : t < i
      · exact z
      · have : t = i := by omega
        subst this
        exact absurd rfl q
theorem x_melt {K : Int32 → sm_Mem → Prop} {kd m s n ho : Nat} {w y : Int32} {o : Option pV} {μ : sm_Mem} (h1 : kd ≤ 6) (h2 : m ≤ 9) (h3 : s ≤ 999) (hn : n ≤ 60) (hh : μ 1 14 = nI ho) (ho' : ho ≤ 9999) (hs : ∀ t, t < n → μ 38 ((ho + t) % 24) = nI (hN o w y (nI ((ho + t) % 24)))) (hK : ∀ μ2, fr [39] μ μ2 → (∀ t, t ≤ n → μ2 39 t = nI (lfN o kd m w y ho s t)) → K (nI (lfN o kd m w y ho s n)) μ2) : w_F_melt K (nI kd) (nI m) (nI s) (nI n) μ := by
  unfold w_F_melt
  intro v1 e1
  have em : v1 = nI n := by
    have q2 : ¬ (60 : Int32) < nI n := fun z => absurd ((nI_lt_iff (a := 60) (by omega) (by omega)).mp z) (by omega)
    rw [e1, if_neg q2]
  subst em
  intro μ2 e2
  unfold w_F_melt_23
  refine ⟨fun z x6 x7 μ3 => ∃ i, z = n - i ∧ i ≤ n ∧ x7 = nI i ∧ x6 = nI (lfN o kd m w y ho s i) ∧ fr [39] μ μ3 ∧ (∀ t, t ≤ i → μ3 39 t = nI (lfN o kd m w y ho s t)), ⟨n, 0, rfl, Nat.zero_le _, rfl, rfl, ?_, fun t ht => ?_⟩, ?_⟩
  · rw [e2]
    exact fr_st fr_rfl (by simp)
  · have : t = 0 := by omega
    subst this
    rw [e2, st_same, if_pos rfl]
    rfl
  · rintro z x6 x7 μ3 ⟨i, rfl, hi, rfl, rfl, hf, hc⟩
    dsimp only
    by_cases hin : i = n
    · subst hin
      rw [if_pos ((nI_le_iff (by omega) (by omega)).mpr (by omega))]
      exact hK μ3 hf hc
    · rw [if_neg (fun q => absurd ((nI_le_iff (by omega) (by omega)).mp q) (by omega))]
      intro v4 e4
      have e5 : v4 = nI ((ho + i) % 24) := by
        rw [e4, hf 1 (by decide), hh, nI_add]
        exact nI_mod (b := 24) (by omega) (by omega)
      subst e5
      refine ⟨(vin_iff (by omega)).mpr (by omega), ?_⟩
      rw [ix_nI (by omega), hf 38 (by decide), hs i (by omega)]
      have hl := (hN_eq o w y (nI ((ho + i) % 24))).2
      refine x_melts h1 h2 hl ?_
      intro v8 e8
      have hm := mN_le (kd := kd) h2 hl
      have hle : lfN o kd m w y ho s i ≤ s := lfN_le i
      rw [sub0 (by omega) (by omega)] at e8
      have e9 : v8 = nI (lfN o kd m w y ho s (i + 1)) := e8
      subst e9
      rw [← nI_succ]
      refine ⟨(vin_iff (by omega)).mpr (by omega), ?_⟩
      intro μ4 e10
      rw [ix_nI (by omega)] at e10
      refine ⟨n - (i + 1), by omega, i + 1, rfl, by omega, rfl, rfl, ?_, fun t ht => ?_⟩
      · rw [e10]
        exact fr_st hf (by simp)
      · rw [e10, st_same]
        by_cases q : t = i + 1
        · rw [if_pos q, q]
        · rw [if_neg q]
          exact hc t (by omega)
theorem x_leftBy {K : Int32 → sm_Mem → Prop} {g : GH} {i n : Nat} {w y : Int32} {μ : sm_Mem} (hg : gOk g) (hc : CA 1 g μ) (hi : i < gN g) (hn : n ≤ 60) (hK : ∀ μ2, fr [14, 38, 39] μ μ2 → (∀ t, t ≤ n → μ2 39 t = nI (lfN (gHt g) (gKd g i) (gMs g i) w y (gHo g) (gSn g i) t)) → K (nI (lfN (gHt g) (gKd g i) (gMs g i) w y (gHo g) (gSn g i) n)) μ2) : w_F_leftBy K (nI i) w y (nI n) μ := by
  have h10 := hg.2.1
  obtain ⟨k1, k2, k3, k4, k5⟩ := hg.2.2.2.2.2.2.1 i hi
  obtain ⟨c1, c2, c3, c4, c5⟩ := hc.2.2.2.1 i hi
  have c1 : μ 4 i = nI (gKd g i) := c1
  have c2 : μ 5 i = nI (gMs g i) := c2
  have c3 : μ 6 i = nI (gSn g i) := c3
  have vi : vp_in (nI i) 10 := (vin_iff (by omega)).mpr (by omega)
  have ei : (nI i).toNatClampNeg = i := ix_nI (by omega)
  unfold w_F_leftBy
  refine hasNote_yes hc.1.2.1 hg.2.1 hi ?_
  rw [if_neg (by decide)]
  refine x_feel (o := gHt g) hn hc.1.2.2.2.1 hg.2.2.2.1 hc.2.2.2.2.2.2.1 (fun μ2 hf hs => ?_)
  refine ⟨vi, vi, vi, ?_⟩
  rw [ei, hf 4 (by decide), hf 5 (by decide), hf 6 (by decide), c1, c2, c3]
  refine x_melt (o := gHt g) (w := w) (y := y) k1 k2 k3 hn (by rw [hf 1 (by decide)]; exact hc.1.2.2.2.1) hg.2.2.2.1 hs (fun μ3 hf3 hs3 => ?_)
  exact hK μ3 (fr_trans (fr_mono hf (by simp)) (fr_mono hf3 (by simp))) hs3

/-! ===== methods alike: move, snows, judge ===== -/
def okR (l : Nat) (i m : Int32) : Prop := 0 ≤ i.toInt ∧ 0 ≤ m.toInt ∧ i.toInt + m.toInt ≤ l
theorem lt0 {x : Int32} : x < 0 ↔ x.toInt < 0 := Int32.lt_iff_toInt_lt
theorem cut_lt {l : Nat} {i m : Int32} (hl : l ≤ 40) (hm : 0 ≤ m.toInt) : nI l - m < i ↔ (l : Int) - m.toInt < i.toInt := by
  have ml := m.toInt_lt
  have e : (nI l - m).toInt = (l : Int) - m.toInt := by
    rw [Int32.toInt_sub, nI_toInt (by omega)]
    exact Int.bmod_eq_of_le (by omega) (by omega)
  rw [Int32.lt_iff_toInt_lt, e]
theorem okR_nat {l : Nat} {i m : Int32} (hl : l ≤ 40) (h : okR l i m) : ∃ a c : Nat, i = nI a ∧ m = nI c ∧ a + c ≤ l := by
  obtain ⟨h1, h2, h3⟩ := h
  obtain ⟨a, ha, e1⟩ := sm_ofle (n := l) (x := i) (by omega) (Int32.le_iff_toInt_le.mpr h1) (Int32.le_iff_toInt_le.mpr (by rw [nI_toInt (by omega)]; omega))
  obtain ⟨c, hc, e2⟩ := sm_ofle (n := l) (x := m) (by omega) (Int32.le_iff_toInt_le.mpr h2) (Int32.le_iff_toInt_le.mpr (by rw [nI_toInt (by omega)]; omega))
  refine ⟨a, c, e1, e2, ?_⟩
  rw [e1, e2, nI_toInt (by omega), nI_toInt (by omega)] at h3
  omega
theorem x_hasRun {K : Int32 → sm_Mem → Prop} {s l : Nat} {i m : Int32} {μ : sm_Mem} (hs : s < 4) (hl : l ≤ 40) (h : μ (52 + 2 * s) 2 = nI l) (hy : okR l i m → K 1 μ) (hn : ¬ okR l i m → K 0 μ) : w_S_hasRun K (52 + 2 * s) i m μ := by
  unfold w_S_hasRun
  refine ⟨isSh s hs, ?_⟩
  rw [h]
  by_cases c1 : i < 0
  · rw [if_pos c1]
    exact hn (fun z => by have := lt0.mp c1; have := z.1; omega)
  rw [if_neg c1]
  by_cases c2 : m < 0
  · rw [if_pos c2]
    exact hn (fun z => by have := lt0.mp c2; have := z.2.1; omega)
  rw [if_neg c2]
  have i0 : 0 ≤ i.toInt := Int.not_lt.mp (fun z => c1 (lt0.mpr z))
  have m0 : 0 ≤ m.toInt := Int.not_lt.mp (fun z => c2 (lt0.mpr z))
  by_cases c3 : nI l < m
  · rw [if_pos c3]
    have c3' := Int32.lt_iff_toInt_lt.mp c3
    rw [nI_toInt (by omega)] at c3'
    exact hn (fun z => by have := z.2.2; omega)
  rw [if_neg c3]
  by_cases c4 : nI l - m < i
  · rw [if_pos c4]
    have := (cut_lt hl m0).mp c4
    exact hn (fun z => by have := z.2.2; omega)
  · rw [if_neg c4]
    exact hy ⟨i0, m0, by
      have : ¬ (l : Int) - m.toInt < i.toInt := fun z => c4 ((cut_lt hl m0).mpr z)
      omega⟩
theorem T_move (n : Nat) (p0 p1 p2 p3 p4 : Int32) : Same n (fun K => w_X_move K p0 p1 p2 p3 p4) (fun K => w_M_move K p0 p1 p2 p3 p4) := by
  intro μ hR
  obtain ⟨⟨g, g1, g2, g3⟩, h15, hE, hT, hS, hI⟩ := id hR
  have bad : ¬ ((0 ≤ p0 ∧ p0 ≤ 3) ∧ (0 ≤ p2 ∧ p2 ≤ 3)) → w_X_move_24 (fun r1 μ1 => w_M_move (fun r2 μ2 => r1 = r2 ∧ RR (n + 1) μ2) p0 p1 p2 p3 p4 μ1) p0 p1 p2 p3 p4 μ := by
    intro hb
    unfold w_X_move_24
    refine X_err1 ?_
    show w_M_move _ p0 p1 p2 p3 p4 _
    have e30 : w_M_move_14 (fun r2 μ2 => -1000000001 = r2 ∧ RR (n + 1) μ2) p0 p1 p2 p3 p4 (sm_st μ 60 1 (μ 60 1 + 1)) := by
      unfold w_M_move_14
      exact M_err1 ⟨rfl, RR_err hR rfl rfl⟩
    unfold w_M_move
    refine M_sh (fun q => ?_) (fun _ => by rw [if_pos rfl]; exact e30)
    rw [if_neg (by decide)]
    exact M_sh (fun q2 => absurd ⟨q, q2⟩ hb) (fun _ => by rw [if_pos rfl]; exact e30)
  show w_X_move _ p0 p1 p2 p3 p4 μ
  unfold w_X_move
  refine x_rowOf (fun s hs e => ?_) (fun q => ?_)
  · have q0 : 0 ≤ p0 ∧ p0 ≤ 3 := by rw [e]; exact sh_in hs
    dsimp only
    refine ⟨isSh s hs, x_rowOf (fun t ht e2 => ?_) (fun q => bad (fun z => q z.2))⟩
    subst e
    subst e2
    have q2 := sh_in ht
    dsimp only
    have vs : vp_in (nI s) 4 := (vin_iff (by omega)).mpr hs
    have es : (nI s).toNatClampNeg = s := ix_nI (by omega)
    have vt : vp_in (nI t) 4 := (vin_iff (by omega)).mpr ht
    have et : (nI t).toNatClampNeg = t := ix_nI (by omega)
    obtain ⟨b, l, s1, s2, s3, s4, s5, s6, s7, s8⟩ := hS s hs
    obtain ⟨b', l', t1, t2, t3, t4, t5, t6, t7, t8⟩ := hS t ht
    have b32 : b ≤ 32 := by rcases s1 with h | h | h | h <;> omega
    have b32' : b' ≤ 32 := by rcases t1 with h | h | h | h <;> omega
    have m46 : b = 0 ∨ b' = 0 → w_X_move_46 (fun r1 μ1 => w_M_move (fun r2 μ2 => r1 = r2 ∧ RR (n + 1) μ2) (nI s) p1 (nI t) p3 p4 μ1) (nI s) p1 (nI t) p3 p4 μ := by
      intro hz
      unfold w_X_move_46
      refine X_err2 ?_
      show w_M_move (fun r2 μ2 => -1000000002 = r2 ∧ RR (n + 1) μ2) (nI s) p1 (nI t) p3 p4 (sm_st μ 60 2 (μ 60 2 + 1))
      have e30 : w_M_move_39 (fun r2 μ2 => -1000000002 = r2 ∧ RR (n + 1) μ2) (nI s) p1 (nI t) p3 p4 (sm_st μ 60 2 (μ 60 2 + 1)) := by
        unfold w_M_move_39
        exact M_err2 ⟨rfl, RR_err hR rfl rfl⟩
      unfold w_M_move
      refine M_sh (fun _ => ?_) (fun z => absurd q0 z)
      rw [if_neg (by decide)]
      refine M_sh (fun _ => ?_) (fun z => absurd q2 z)
      rw [if_neg (by decide)]
      refine ⟨vs, ?_⟩
      rw [es, st_ne _ _ _ _ 68 (by decide), s4]
      by_cases z : b = 0
      · rw [if_pos (by rw [z]; rfl)]
        exact e30
      · rw [if_neg (nI_ne0 (by omega) (by omega))]
        refine ⟨vt, ?_⟩
        rw [et, t4, if_pos (by rw [hz.resolve_left z]; rfl)]
        exact e30
    refine ⟨isSh t ht, x_missing hs b32 s3 (fun z => ?_) (fun z => ?_)⟩
    · rw [if_neg (by decide)]
      exact m46 (Or.inl z)
    rw [if_pos rfl]
    refine x_missing ht b32' t3 (fun z' => ?_) (fun z' => ?_)
    · rw [if_neg (by decide)]
      exact m46 (Or.inr z')
    rw [if_pos rfl, s3, t3]
    have nb : ¬ nI b = 0 := nI_ne0 (by omega) (by omega)
    have nb' : ¬ nI b' = 0 := nI_ne0 (by omega) (by omega)
    by_cases zb : nI b = nI b'
    · rw [if_pos zb]
      have pre : ∀ (K : Int32 → sm_Mem → Prop) (μ1 : sm_Mem), μ1 68 = μ 68 → μ1 69 = μ 69 → (okR l p1 p4 ∧ okR l' p3 p4 → w_M_move_119 K (nI s) p1 (nI t) p3 p4 0 μ1) → (¬ (okR l p1 p4 ∧ okR l' p3 p4) → w_M_move_109 K (nI s) p1 (nI t) p3 p4 μ1) → w_M_move K (nI s) p1 (nI t) p3 p4 μ1 := by
        intro K μ1 k8 k9 hy hn
        unfold w_M_move
        refine M_sh (fun _ => ?_) (fun z => absurd q0 z)
        rw [if_neg (by decide)]
        refine M_sh (fun _ => ?_) (fun z => absurd q2 z)
        rw [if_neg (by decide)]
        refine ⟨vs, ?_⟩
        rw [es, et, k8, k9, s4, if_neg nb]
        refine ⟨vt, ?_⟩
        rw [t4, if_neg nb']
        refine ⟨vs, vt, ?_⟩
        rw [if_pos zb]
        by_cases c1 : p4 < 0
        · rw [if_pos c1]
          exact hn (fun z => by have := lt0.mp c1; have := z.1.2.1; omega)
        rw [if_neg c1]
        by_cases c2 : p1 < 0
        · rw [if_pos c2]
          exact hn (fun z => by have := lt0.mp c2; have := z.1.1; omega)
        rw [if_neg c2]
        by_cases c3 : p3 < 0
        · rw [if_pos c3]
          exact hn (fun z => by have := lt0.mp c3; have := z.2.1; omega)
        rw [if_neg c3]
        have m0 : 0 ≤ p4.toInt := Int.not_lt.mp (fun z => c1 (lt0.mpr z))
        have i0 : 0 ≤ p1.toInt := Int.not_lt.mp (fun z => c2 (lt0.mpr z))
        have j0 : 0 ≤ p3.toInt := Int.not_lt.mp (fun z => c3 (lt0.mpr z))
        refine ⟨vs, ?_⟩
        rw [s6]
        by_cases c4 : nI l - p4 < p1
        · rw [if_pos c4]
          have := (cut_lt s2 m0).mp c4
          exact hn (fun z => by have := z.1.2.2; omega)
        rw [if_neg c4]
        refine ⟨vt, ?_⟩
        rw [t6]
        by_cases c5 : p3 ≤ nI l' - p4
        · rw [if_pos c5]
          refine hy ⟨⟨i0, m0, ?_⟩, ⟨j0, m0, ?_⟩⟩
          · have : ¬ (l : Int) - p4.toInt < p1.toInt := fun z => c4 ((cut_lt s2 m0).mpr z)
            omega
          · have : ¬ (l' : Int) - p4.toInt < p3.toInt := fun z => absurd ((cut_lt t2 m0).mpr z) (Int32.not_lt.mpr c5)
            omega
        · rw [if_neg c5]
          have := (cut_lt t2 m0).mp (Int32.not_le.mp c5)
          exact hn (fun z => by have := z.2.2.2; omega)
      have m94 : ¬ (okR l p1 p4 ∧ okR l' p3 p4) → w_X_move_94 (fun r1 μ1 => w_M_move (fun r2 μ2 => r1 = r2 ∧ RR (n + 1) μ2) (nI s) p1 (nI t) p3 p4 μ1) (nI s) p1 (nI t) p3 p4 μ := by
        intro hz
        unfold w_X_move_94
        refine X_err1 ?_
        refine pre _ _ (st_ne _ _ _ _ _ (by decide)) (st_ne _ _ _ _ _ (by decide)) (fun z => absurd z hz) (fun _ => ?_)
        unfold w_M_move_109
        exact M_err1 ⟨rfl, RR_err hR rfl rfl⟩
      refine x_hasRun hs s2 s5 (fun o1 => ?_) (fun o1 => by rw [if_pos rfl]; exact m94 (fun z => o1 z.1))
      rw [if_neg (by decide)]
      refine x_hasRun ht t2 t5 (fun o2 => ?_) (fun o2 => by rw [if_pos rfl]; exact m94 (fun z => o2 z.2))
      rw [if_neg (by decide)]
      obtain ⟨i, c, ei, ec, hic⟩ := okR_nat s2 o1
      obtain ⟨j, c', ej, ec', hjc⟩ := okR_nat t2 o2
      have hcc : c = c' := by
        have : nI c = nI c' := by rw [← ec, ← ec']
        by_cases q : c' < 2 ^ 31
        · exact (nI_inj (by omega) q).mp this
        · omega
      subst hcc
      have oo := And.intro o1 o2
      clear o1 o2
      subst ei
      subst ej
      subst ec
      refine ⟨nI_pos (by omega), nI_pos (by omega), nI_pos (by omega), by rw [ix_nI (by omega), ix_nI (by omega)]; omega, by rw [ix_nI (by omega), ix_nI (by omega)]; omega, ?_⟩
      intro μ1 e1
      rw [ix_nI (by omega), ix_nI (by omega), ix_nI (by omega), show 52 + 2 * s + 1 = 53 + 2 * s by omega, show 52 + 2 * t + 1 = 53 + 2 * t by omega] at e1
      have k0 : ∀ k, k ≠ 53 + 2 * t → μ1 k = μ k := fun k hk => by rw [e1, cpy_ne _ _ _ _ _ _ _ hk]
      refine pre _ μ1 (k0 _ (by omega)) (k0 _ (by omega)) (fun _ => ?_) (fun z => absurd oo z)
      unfold w_M_move_119
      refine ⟨fun m x6 μ2 => ∃ k, m = c - k ∧ k ≤ c ∧ x6 = nI k ∧ fr [71] μ1 μ2 ∧ ∀ q, q < k → μ2 71 q = μ (53 + 2 * s) (i + q), ⟨c, 0, rfl, Nat.zero_le _, rfl, fr_rfl, fun q hq => by omega⟩, ?_⟩
      rintro m x6 μ2 ⟨k, rfl, hk, rfl, hf, hm⟩
      dsimp only
      by_cases hkc : k = c
      · subst hkc
        rw [if_pos (nI_le_yes (by omega) (by omega) (Nat.le_refl _))]
        unfold w_M_move_156
        refine ⟨fun m x6 μ3 => ∃ u, m = k - u ∧ u ≤ k ∧ x6 = nI u ∧ fr [70] μ2 μ3 ∧ ∀ q, μ3 70 q = if 40 * t + j ≤ q ∧ q < 40 * t + j + u then μ (53 + 2 * s) (i + (q - (40 * t + j))) else μ 70 q, ⟨k, 0, rfl, Nat.zero_le _, rfl, fr_rfl, fun q => by rw [if_neg (by omega), hf 70 (by decide), k0 70 (by omega)]⟩, ?_⟩
        rintro m x6 μ3 ⟨u, rfl, hu, rfl, hf3, hr⟩
        dsimp only
        by_cases huk : u = k
        · subst huk
          rw [if_pos (nI_le_yes (by omega) (by omega) (Nat.le_refl _))]
          have kk : ∀ q, q ≠ 53 + 2 * t → q ≠ 70 → q ≠ 71 → μ3 q = μ q := fun q q1 q2 q3 => by rw [hf3 q (by simp; omega), hf q (by simp; omega), k0 q q1]
          refine ⟨rfl, RR_sh hR ht t1 t2 t7 (fun q k1 k2 k3 k4 k5 k6 => kk q k2 k5 k6) ?_ ?_ ?_ ?_ (fun q hq => ?_) (fun q hq => ?_) (fun q hq => ?_) (fun q hq => ?_)⟩
          · rw [kk _ (by omega) (by omega) (by omega)]; exact t3
          · rw [kk _ (by omega) (by omega) (by omega)]; exact t4
          · rw [kk _ (by omega) (by omega) (by omega)]; exact t5
          · rw [kk _ (by omega) (by omega) (by omega)]; exact t6
          · rw [kk _ (by omega) (by omega) (by omega)]
          · rw [kk _ (by omega) (by omega) (by omega)]
          · have e5 : μ3 (53 + 2 * t) q = if j ≤ q ∧ q < j + u then μ (53 + 2 * s) (i + (q - j)) else μ (53 + 2 * t) q := by
              rw [hf3 _ (by simp; omega), hf _ (by simp; omega), e1, cpy_rd]
            rw [hr, e5]
            by_cases z : j ≤ q ∧ q < j + u
            · rw [if_pos z, if_pos (by omega), show 40 * t + q - (40 * t + j) = q - j by omega]
            · rw [if_neg z, if_neg (by omega)]
              exact t8 q hq
          · rw [hr, if_neg (by omega)]
        · rw [if_neg (nI_le_no (by omega) (by omega) (by omega))]
          have ea : (((40 : Int32) * nI t) + nI j) + nI u = nI (40 * t + j + u) := by rw [show (40 : Int32) * nI t = nI (40 * t) from nI_mul 40 t, nI_add, nI_add]
          rw [ea]
          refine ⟨(vin_iff (by omega)).mpr (by omega), (vin_iff (by omega)).mpr (by omega), ?_⟩
          intro μ4 e4
          rw [ix_nI (by omega), ix_nI (by omega), hf3 71 (by decide), hm u (by omega)] at e4
          refine ⟨k - (u + 1), by omega, u + 1, rfl, by omega, (nI_succ u).symm, by rw [e4]; exact fr_st hf3 (by simp), fun q => ?_⟩
          rw [e4, st_same, hr]
          by_cases z : q = 40 * t + j + u
          · rw [if_pos z, if_pos (by omega), z, show 40 * t + j + u - (40 * t + j) = u by omega]
          · rw [if_neg z]
            by_cases y : 40 * t + j ≤ q ∧ q < 40 * t + j + u
            · rw [if_pos y, if_pos (by omega)]
            · rw [if_neg y, if_neg (by omega)]
      · rw [if_neg (nI_le_no (by omega) (by omega) (by omega))]
        have ea : (((40 : Int32) * nI s) + nI i) + nI k = nI (40 * s + i + k) := by rw [show (40 : Int32) * nI s = nI (40 * s) from nI_mul 40 s, nI_add, nI_add]
        rw [ea]
        refine ⟨(vin_iff (by omega)).mpr (by omega), (vin_iff (by omega)).mpr (by omega), ?_⟩
        intro μ4 e4
        rw [ix_nI (by omega), ix_nI (by omega), hf 70 (by decide), k0 70 (by omega), show 40 * s + i + k = 40 * s + (i + k) by omega, s8 (i + k) (by omega)] at e4
        refine ⟨c - (k + 1), by omega, k + 1, rfl, by omega, (nI_succ k).symm, by rw [e4]; exact fr_st hf (by simp), fun q hq => ?_⟩
        rw [e4, st_same]
        by_cases z : q = k
        · rw [if_pos z, z]
        · rw [if_neg z]
          exact hm q (by omega)
    · rw [if_neg zb]
      refine X_err5 ?_
      show w_M_move (fun r2 μ2 => -1000000005 = r2 ∧ RR (n + 1) μ2) (nI s) p1 (nI t) p3 p4 (sm_st μ 60 5 (μ 60 5 + 1))
      unfold w_M_move
      refine M_sh (fun _ => ?_) (fun z => absurd q0 z)
      rw [if_neg (by decide)]
      refine M_sh (fun _ => ?_) (fun z => absurd q2 z)
      rw [if_neg (by decide)]
      refine ⟨vs, ?_⟩
      rw [es, et, st_ne _ _ _ _ 68 (by decide), s4, if_neg nb]
      refine ⟨vt, ?_⟩
      rw [t4, if_neg nb']
      refine ⟨vs, vt, ?_⟩
      rw [if_neg zb]
      exact M_err5 ⟨rfl, RR_err hR rfl rfl⟩
  · dsimp only
    refine x_rowOf (fun t ht e2 => ?_) (fun q2 => bad (fun z => q z.1))
    dsimp only
    exact ⟨isSh t ht, bad (fun z => q z.1)⟩

theorem pName_ne {u i : Nat} (hu : u ≤ 1) (hi : i ≤ 2) : ¬ (33 : Int32) = pName u i ∧ ¬ (40 : Int32) = pName u i := by
  rcases (by omega : u = 0 ∨ u = 1) with rfl | rfl <;> rcases (by omega : i = 0 ∨ i = 1 ∨ i = 2) with rfl | rfl | rfl <;> decide
theorem pPart_dig {B : Nat → Int32} {sz u d at_ : Nat} (h : 48 ≤ nxt B sz at_ ∧ nxt B sz at_ ≤ 57) : pPart B sz u d at_ = (true, (pn B sz 4 at_ 0).1, [(110, (pn B sz 4 at_ 0).2)], fun _ _ _ => (pn B sz 4 at_ 0).2) := by
  unfold pPart
  rw [if_pos h]
theorem pPart_nm {B : Nat → Int32} {sz u d at_ : Nat} (h : ¬ (48 ≤ nxt B sz at_ ∧ nxt B sz at_ ≤ 57)) : (nxt B sz at_ = pName u 0 → pPart B sz u d at_ = (true, at_ + 1, [(97, 0)], fun a _ _ => a)) ∧ (¬ nxt B sz at_ = pName u 0 → nxt B sz at_ = pName u 1 → pPart B sz u d at_ = (true, at_ + 1, [(97, 1)], fun _ b _ => b)) ∧ (¬ nxt B sz at_ = pName u 0 → ¬ nxt B sz at_ = pName u 1 → nxt B sz at_ = pName u 2 → pPart B sz u d at_ = (true, at_ + 1, [(97, 2)], fun _ _ c => c)) ∧ (¬ nxt B sz at_ = pName u 0 → ¬ nxt B sz at_ = pName u 1 → ¬ nxt B sz at_ = pName u 2 → (d = 0 ∨ ¬ nxt B sz at_ = 33 ∧ ¬ nxt B sz at_ = 40) → pPart B sz u d at_ = (false, at_, [], fun _ _ _ => 0)) := by
  refine ⟨fun h0 => ?_, fun h0 h1 => ?_, fun h0 h1 h2 => ?_, fun h0 h1 h2 h3 => ?_⟩
  · unfold pPart
    rw [if_neg h, if_pos h0]
  · unfold pPart
    rw [if_neg h, if_neg h0, if_pos h1]
  · unfold pPart
    rw [if_neg h, if_neg h0, if_neg h1, if_pos h2]
  · unfold pPart
    rw [if_neg h, if_neg h0, if_neg h1, if_neg h2]
    cases d with
    | zero => rfl
    | succ d =>
      rcases h3 with h3 | h3
      · cases h3
      · show (if _ then _ else _) = _
        rw [if_neg h3.1, if_neg h3.2]
theorem pPart_33 {B : Nat → Int32} {sz u d at_ : Nat} (hu : u ≤ 1) (h : nxt B sz at_ = 33) : pPart B sz u (d + 1) at_ = ((pPart B sz u d (at_ + 1)).1, (pPart B sz u d (at_ + 1)).2.1, (pPart B sz u d (at_ + 1)).2.2.1 ++ [(33, 0)], fun a b c => if (pPart B sz u d (at_ + 1)).2.2.2 a b c = 0 then 1 else 0) := by
  rw [pPart]
  rw [h, if_neg (by decide), if_neg (pName_ne hu (by omega)).1, if_neg (pName_ne hu (by omega)).1, if_neg (pName_ne hu (by omega)).1]
  show (if _ then _ else _) = _
  rw [if_pos rfl]
theorem pPart_40 {B : Nat → Int32} {sz u d at_ : Nat} (hu : u ≤ 1) (h : nxt B sz at_ = 40) : pPart B sz u (d + 1) at_ = (if (pOr B sz (pPart B sz u d) (at_ + 1)).1 = true ∧ nxt B sz (pOr B sz (pPart B sz u d) (at_ + 1)).2.1 = 41 then (true, (pOr B sz (pPart B sz u d) (at_ + 1)).2.1 + 1, (pOr B sz (pPart B sz u d) (at_ + 1)).2.2.1, (pOr B sz (pPart B sz u d) (at_ + 1)).2.2.2) else (false, (pOr B sz (pPart B sz u d) (at_ + 1)).2.1, (pOr B sz (pPart B sz u d) (at_ + 1)).2.2.1, (pOr B sz (pPart B sz u d) (at_ + 1)).2.2.2)) := by
  rw [pPart]
  rw [h, if_neg (by decide), if_neg (pName_ne hu (by omega)).2, if_neg (pName_ne hu (by omega)).2, if_neg (pName_ne hu (by omega)).2]
  show (if _ then _ else _) = _
  rw [if_neg (by decide), if_pos rfl]
theorem m_named {K : Int32 → sm_Mem → Prop} {μ0 : sm_Mem} {u sz at_ op : Nat} {a b c x : Int32} {μ : sm_Mem} (hu : u ≤ 1) (h : mst μ0 u sz at_ op a b c 1 μ) (h0 : x = pName u 0 → ∀ μ2, mst μ0 u sz (at_ + 1) op a b c 1 μ2 → K a μ2) (h1 : ¬ x = pName u 0 → x = pName u 1 → ∀ μ2, mst μ0 u sz (at_ + 1) op a b c 1 μ2 → K b μ2) (h2 : ¬ x = pName u 0 → ¬ x = pName u 1 → x = pName u 2 → ∀ μ2, mst μ0 u sz (at_ + 1) op a b c 1 μ2 → K c μ2) (h3 : ¬ x = pName u 0 → ¬ x = pName u 1 → ¬ x = pName u 2 → ∀ μ2, mst μ0 u sz at_ op a b c 0 μ2 → K 0 μ2) : w_M_named K x μ := by
  have g8 : mst μ0 u sz (at_ + 1) op a b c 1 (sm_st μ 61 8 (μ 61 8 + 1)) := by
    rw [h.2.2.2.1, ← nI_succ]
    exact mst_at h (at_ + 1)
  have k91 : ∀ (x2 x3 : Int32), K (if x2 = 0 then (if x3 = 0 then c else b) else a) (sm_st μ 61 8 (μ 61 8 + 1)) → w_M_named_91 K x x2 x3 μ := by
    intro x2 x3 hq
    unfold w_M_named_91
    intro μ8 e8
    subst e8
    rw [g8.2.2.2.2.2.2.1, g8.2.2.2.2.2.2.2.1, g8.2.2.2.2.2.2.2.2.1]
    by_cases q2 : x2 = 0
    · rw [if_pos q2] at hq ⊢
      by_cases q3 : x3 = 0
      · rw [if_pos q3] at hq ⊢
        exact hq
      · rw [if_neg q3] at hq ⊢
        exact hq
    · rw [if_neg q2] at hq ⊢
      exact hq
  have h7 := h.2.2.1
  unfold w_M_named w_M_named_15 w_M_named_23 w_M_named_39 w_M_named_47 w_M_named_63 w_M_named_71
  rcases (by omega : u = 0 ∨ u = 1) with rfl | rfl
  · have h7 : μ 61 7 = 0 := h7
    by_cases c0 : x = pName 0 0
    · have e0 : x = 119 := c0
      rw [if_pos h7, if_pos e0, if_pos h7, if_neg (by rw [e0]; decide), if_pos h7, if_neg (by rw [e0]; decide), if_neg (by decide)]
      exact k91 1 0 (by rw [if_neg (by decide)]; exact h0 c0 _ g8)
    · have e0 : ¬ x = 119 := c0
      by_cases c1 : x = pName 0 1
      · have e1 : x = 121 := c1
        rw [if_pos h7, if_neg e0, if_pos h7, if_pos e1, if_pos h7, if_neg (by rw [e1]; decide), if_pos rfl, if_neg (by decide)]
        exact k91 0 1 (by rw [if_pos rfl, if_neg (by decide)]; exact h1 c0 c1 _ g8)
      · have e1 : ¬ x = 121 := c1
        by_cases c2 : x = pName 0 2
        · have e2 : x = 104 := c2
          rw [if_pos h7, if_neg e0, if_pos h7, if_neg e1, if_pos h7, if_pos e2, if_pos rfl, if_pos rfl, if_neg (by decide)]
          exact k91 0 0 (by rw [if_pos rfl, if_pos rfl]; exact h2 c0 c1 c2 _ g8)
        · have e2 : ¬ x = 104 := c2
          rw [if_pos h7, if_neg e0, if_pos h7, if_neg e1, if_pos h7, if_neg e2, if_pos rfl, if_pos rfl, if_pos rfl]
          unfold w_M_fails
          intro μ1 e
          rw [e]
          exact h3 c0 c1 c2 _ (mst_gd h 0)
  · have h7 : ¬ μ 61 7 = 0 := fun e => absurd (h7.symm.trans e) (by decide)
    by_cases c0 : x = pName 1 0
    · have e0 : x = 115 := c0
      rw [if_neg h7, if_pos e0, if_neg h7, if_neg (by rw [e0]; decide), if_neg h7, if_neg (by rw [e0]; decide), if_neg (by decide)]
      exact k91 1 0 (by rw [if_neg (by decide)]; exact h0 c0 _ g8)
    · have e0 : ¬ x = 115 := c0
      by_cases c1 : x = pName 1 1
      · have e1 : x = 109 := c1
        rw [if_neg h7, if_neg e0, if_neg h7, if_pos e1, if_neg h7, if_neg (by rw [e1]; decide), if_pos rfl, if_neg (by decide)]
        exact k91 0 1 (by rw [if_pos rfl, if_neg (by decide)]; exact h1 c0 c1 _ g8)
      · have e1 : ¬ x = 109 := c1
        by_cases c2 : x = pName 1 2
        · have e2 : x = 111 := c2
          rw [if_neg h7, if_neg e0, if_neg h7, if_neg e1, if_neg h7, if_pos e2, if_pos rfl, if_pos rfl, if_neg (by decide)]
          exact k91 0 0 (by rw [if_pos rfl, if_pos rfl]; exact h2 c0 c1 c2 _ g8)
        · have e2 : ¬ x = 111 := c2
          rw [if_neg h7, if_neg e0, if_neg h7, if_neg e1, if_neg h7, if_neg e2, if_pos rfl, if_pos rfl, if_pos rfl]
          unfold w_M_fails
          intro μ1 e
          rw [e]
          exact h3 c0 c1 c2 _ (mst_gd h 0)
theorem m_factor {μ0 : sm_Mem} {u sz n d : Nat} {a b c : Int32} (hu : u ≤ 1) (hz : sz ≤ 50) (hd : d ≤ 5) (hs : ∀ d2, d = d2 + 1 → MC μ0 u sz a b c n 5 (pPart (mB μ0 u) sz u d2) d2 ∧ MC μ0 u sz a b c n 0 (pOr (mB μ0 u) sz (pPart (mB μ0 u) sz u d2)) d2) : MC μ0 u sz a b c (n + 1) 5 (pPart (mB μ0 u) sz u d) d := by
  intro K at_ μ hat hm hK
  show w_M_factor (wg_M n) K μ
  unfold w_M_factor
  refine m_byteAt hu hz hat hm ?_
  refine m_isDigit ?_
  by_cases q : 48 ≤ nxt (mB μ0 u) sz at_ ∧ nxt (mB μ0 u) sz at_ ≤ 57
  · rw [if_pos q, if_neg (by decide)]
    rw [pPart_dig q] at hK
    exact m_number hu hz hat hm (fun μ2 hm2 => hK _ μ2 hm2 (fun _ => rfl))
  · rw [if_neg q, if_pos rfl]
    obtain ⟨p0, p1, p2, p3⟩ := pPart_nm (u := u) (d := d) q
    have f39 : (nxt (mB μ0 u) sz at_ = 33 ∨ nxt (mB μ0 u) sz at_ = 40) → w_M_factor_39 (wg_M n) K (nxt (mB μ0 u) sz at_) μ := by
      intro hc
      have hlt : at_ < sz := nxt_lt (fun e => by rw [e] at hc; revert hc; decide)
      unfold w_M_factor_39
      rw [hm.2.2.2.2.2.1]
      cases d with
      | zero =>
        rw [if_pos (show nI (5 - 0) = 5 from rfl)]
        have hne : ∀ i, i ≤ 2 → ¬ nxt (mB μ0 u) sz at_ = pName u i := fun i hi e => by
          rcases hc with hc | hc
          · exact (pName_ne hu hi).1 (hc.symm.trans e)
          · exact (pName_ne hu hi).2 (hc.symm.trans e)
        rw [p3 (hne 0 (by omega)) (hne 1 (by omega)) (hne 2 (by omega)) (Or.inl rfl)] at hK
        unfold w_M_fails
        intro μ1 e1
        rw [e1]
        exact hK 0 _ (mst_gd hm 0) (fun e => by cases e)
      | succ d2 =>
        obtain ⟨hs5, hs0⟩ := hs d2 rfl
        have q5 : ¬ nI (5 - (d2 + 1)) = 5 := fun e => absurd ((nI_inj (a := 5 - (d2 + 1)) (b := 5) (by omega) (by omega)).mp e) (by omega)
        rw [if_neg q5]
        intro μ8 e8 μ9 e9
        have eo : nI (5 - (d2 + 1)) + 1 = nI (5 - d2) := by rw [← nI_succ]; congr 1; omega
        rw [eo] at e8
        have hm8 : mst μ0 u sz at_ (5 - d2) a b c 1 μ8 := by rw [e8]; exact mst_op hm _
        have ea : μ8 61 8 + 1 = nI (at_ + 1) := by rw [hm8.2.2.2.1, nI_succ]
        rw [ea] at e9
        have hm9 : mst μ0 u sz (at_ + 1) (5 - d2) a b c 1 μ9 := by rw [e9]; exact mst_at hm8 _
        have back : ∀ (gd : Int32) (p : Nat) (μ2 : sm_Mem), mst μ0 u sz p (5 - d2) a b c gd μ2 → mst μ0 u sz p (5 - (d2 + 1)) a b c gd (sm_st μ2 61 10 (μ2 61 10 - 1)) := by
          intro gd p μ2 h2
          have e : μ2 61 10 - 1 = nI (5 - (d2 + 1)) := by
            rw [h2.2.2.2.2.2.1]
            exact nI_sub (a := 5 - d2) (b := 1) (by omega)
          rw [e]
          exact mst_op h2 _
        by_cases c1 : nxt (mB μ0 u) sz at_ = 33
        · rw [if_pos c1]
          rw [pPart_33 hu c1] at hK
          refine hs5 _ (at_ + 1) μ9 hlt hm9 (fun v μ2 hm2 hv => ?_)
          unfold w_M_factor_89
          intro μ13 e13
          rw [if_pos c1]
          have h13 := back _ _ μ2 hm2
          rw [← e13] at h13
          have h3 : K (if v = 0 then 1 else 0) μ13 := hK _ μ13 h13 (fun hg => by
            show (if v = 0 then 1 else 0) = (if (pPart (mB μ0 u) sz u d2 (at_ + 1)).2.2.2 a b c = 0 then 1 else 0)
            rw [hv hg])
          by_cases q0 : v = 0
          · rw [if_pos q0] at h3 ⊢
            exact h3
          · rw [if_neg q0] at h3 ⊢
            exact h3
        · rw [if_neg c1]
          have c2 : nxt (mB μ0 u) sz at_ = 40 := by
            rcases hc with hc | hc
            · exact absurd hc c1
            · exact hc
          rw [pPart_40 hu c2] at hK
          have hok := (pOr_ok (B := mB μ0 u) (pPart_ok (mB μ0 u) sz u d2)).2.2.2.2 (at_ + 1) hlt
          refine hs0 _ (at_ + 1) μ9 hlt hm9 (fun v μ2 hm2 hv => ?_)
          unfold w_M_factor_89
          intro μ13 e13
          rw [if_neg c1]
          have h13 := back _ _ μ2 hm2
          rw [← e13] at h13
          by_cases hg : (pOr (mB μ0 u) sz (pPart (mB μ0 u) sz u d2) (at_ + 1)).1 = true
          · rw [hg] at h13
            rw [if_neg (by rw [h13.2.2.2.2.2.2.2.2.2]; decide)]
            refine m_byteAt hu hz hok.2.1 h13 ?_
            by_cases c3 : nxt (mB μ0 u) sz (pOr (mB μ0 u) sz (pPart (mB μ0 u) sz u d2) (at_ + 1)).2.1 = 41
            · rw [if_pos c3]
              rw [if_pos ⟨hg, c3⟩] at hK
              intro μ21 e21
              have e : μ13 61 8 + 1 = nI ((pOr (mB μ0 u) sz (pPart (mB μ0 u) sz u d2) (at_ + 1)).2.1 + 1) := by rw [h13.2.2.2.1, nI_succ]
              rw [e] at e21
              exact hK v μ21 (by rw [e21]; exact mst_at h13 _) (fun _ => hv hg)
            · rw [if_neg c3]
              rw [if_neg (fun z => c3 z.2)] at hK
              unfold w_M_factor_148 w_M_fails
              intro μ1 e1
              rw [e1]
              exact hK 0 _ (mst_gd h13 0) (fun e => by cases e)
          · rw [Bool.eq_false_iff.mpr hg] at h13
            rw [if_pos (show μ13 61 14 = 0 from h13.2.2.2.2.2.2.2.2.2)]
            rw [if_neg (fun z => hg z.1)] at hK
            unfold w_M_factor_148 w_M_fails
            intro μ1 e1
            rw [e1]
            exact hK 0 _ (mst_gd h13 0) (fun e => by cases e)
    by_cases c1 : nxt (mB μ0 u) sz at_ = 33
    · rw [if_pos c1]
      exact f39 (Or.inl c1)
    · rw [if_neg c1]
      by_cases c2 : nxt (mB μ0 u) sz at_ = 40
      · rw [if_pos c2]
        exact f39 (Or.inr c2)
      · rw [if_neg c2]
        refine m_named hu hm (fun g0 μ2 hm2 => ?_) (fun g0 g1 μ2 hm2 => ?_) (fun g0 g1 g2 μ2 hm2 => ?_) (fun g0 g1 g2 μ2 hm2 => ?_)
        · rw [p0 g0] at hK
          exact hK _ μ2 hm2 (fun _ => rfl)
        · rw [p1 g0 g1] at hK
          exact hK _ μ2 hm2 (fun _ => rfl)
        · rw [p2 g0 g1 g2] at hK
          exact hK _ μ2 hm2 (fun _ => rfl)
        · rw [p3 g0 g1 g2 (Or.inr ⟨c1, c2⟩)] at hK
          exact hK _ μ2 hm2 (fun e => by cases e)
theorem m_all {μ0 : sm_Mem} {u sz : Nat} {a b c : Int32} (hu : u ≤ 1) (hz : sz ≤ 50) : ∀ d, d ≤ 5 → ∀ n, 6 * d + 1 ≤ n → MC μ0 u sz a b c n 5 (pPart (mB μ0 u) sz u d) d := by
  have up : ∀ d n, (∀ n, 6 * d + 1 ≤ n → MC μ0 u sz a b c n 5 (pPart (mB μ0 u) sz u d) d) → 6 * d + 6 ≤ n → MC μ0 u sz a b c n 0 (pOr (mB μ0 u) sz (pPart (mB μ0 u) sz u d)) d := by
    intro d n h hn
    obtain ⟨o1, o2, o3, o4, o5⟩ := pOr_ok (B := mB μ0 u) (pPart_ok (mB μ0 u) sz u d)
    obtain ⟨k, rfl⟩ : ∃ k, n = k + 5 := ⟨n - 5, by omega⟩
    exact m_whole hu hz o4 (m_both hu hz o3 (m_compared hu hz o2 (m_sum hu hz o1 (m_product hu hz (pPart_ok (mB μ0 u) sz u d) (h k (by omega))))))
  intro d
  induction d with
  | zero =>
    intro _ n hn
    obtain ⟨k, rfl⟩ : ∃ k, n = k + 1 := ⟨n - 1, by omega⟩
    exact m_factor hu hz (by omega) (fun d2 e => by omega)
  | succ d ih =>
    intro hd n hn
    obtain ⟨k, rfl⟩ : ∃ k, n = k + 1 := ⟨n - 1, by omega⟩
    refine m_factor hu hz hd (fun d2 e => ?_)
    have e2 : d2 = d := by omega
    subst e2
    exact ⟨ih (by omega) k (by omega), up d2 k (ih (by omega)) (by omega)⟩
theorem m_text {μ0 : sm_Mem} {u sz : Nat} {a b c : Int32} (hu : u ≤ 1) (hz : sz ≤ 50) : MC μ0 u sz a b c 50 0 (fun i => pOr (mB μ0 u) sz (pPart (mB μ0 u) sz u 5) i) 5 := by
  obtain ⟨o1, o2, o3, o4, o5⟩ := pOr_ok (B := mB μ0 u) (pPart_ok (mB μ0 u) sz u 5)
  exact m_whole (n := 49) hu hz o4 (m_both hu hz o3 (m_compared hu hz o2 (m_sum hu hz o1 (m_product hu hz (pPart_ok (mB μ0 u) sz u 5) (m_all hu hz 5 (by omega) 45 (by omega))))))

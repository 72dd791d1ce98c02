/-! ===== the class works a read TEXT out ===== -/
def cdOf (μ : sm_Mem) (k n : Nat) : List (Int32 × Int32) := (List.range n).map (fun i => (μ (k + 1) i, μ (k + 2) i))
def stkOk (μ : sm_Mem) (c : Nat) : List Int32 → Prop
  | [] => True
  | x :: r => μ c r.length = x ∧ stkOk μ c r
theorem stk_upd {μ : sm_Mem} {c j : Nat} {v : Int32} : ∀ {st : List Int32}, st.length ≤ j → stkOk μ c st → stkOk (sm_st μ c j v) c st
  | [], _, _ => trivial
  | x :: r, h, hs => by
    have h : r.length + 1 ≤ j := h
    refine ⟨?_, stk_upd (by omega) hs.2⟩
    rw [st_same, if_neg (by omega)]
    exact hs.1
theorem stk_push {μ : sm_Mem} {c : Nat} {v : Int32} {st : List Int32} (h : stkOk μ c st) : stkOk (sm_st μ c st.length v) c (v :: st) :=
  ⟨by rw [st_same, if_pos rfl], stk_upd (Nat.le_refl _) h⟩
theorem cd_drop {μ : sm_Mem} {k n i : Nat} (h : i < n) : (cdOf μ k n).drop i = (μ (k + 1) i, μ (k + 2) i) :: (cdOf μ k n).drop (i + 1) := by
  have hl : i < (cdOf μ k n).length := by simp [cdOf, h]
  rw [List.drop_eq_getElem_cons hl]
  simp [cdOf]
theorem cd_fr {μ μ2 : sm_Mem} {k n : Nat} (h1 : μ2 (k + 1) = μ (k + 1)) (h2 : μ2 (k + 2) = μ (k + 2)) : cdOf μ2 k n = cdOf μ k n := by
  unfold cdOf
  rw [h1, h2]
theorem T_joined_eq (K : Int32 → sm_Mem → Prop) (s x y : Int32) (μ : sm_Mem) (h : K (pj s x y) μ) : w_T_joined K s x y μ := by
  unfold w_T_joined
  intro v1 e1
  subst e1
  unfold pj at h
  repeat' split
  all_goals first
    | (simp_all; done)
    | (refine ⟨by assumption, ?_⟩; simp_all; done)
theorem T_named_eq (K : Int32 → sm_Mem → Prop) (i a b c : Int32) (μ : sm_Mem) (h : K (pnm i a b c) μ) : w_T_named K i a b c μ := by
  unfold w_T_named
  unfold pnm at h
  repeat' split
  all_goals simp_all
theorem x_valueWith {K : Int32 → sm_Mem → Prop} {k : Nat} {a b c : Int32} {μ : sm_Mem} (hT : isText k) {n : Nat} (hn : n ≤ 50) (hlen : μ k 3 = nI n) {v : Int32} (hv : evs a b c (cdOf μ k n) [] = [v]) (hK : ∀ μ2, fr [k + 3] μ μ2 → K v μ2) : w_T_valueWith K k a b c μ := by
  refine ⟨hT, ?_⟩
  unfold w_T_valueWith_6
  refine ⟨fun m x4 x5 μ2 => ∃ (i : Nat) (st : List Int32), m = n - i ∧ i ≤ n ∧ x5 = nI i ∧ x4 = nI st.length ∧ st.length ≤ i ∧ stkOk μ2 (k + 3) st ∧ fr [k + 3] μ μ2 ∧ evs a b c ((cdOf μ k n).drop i) st = [v], ⟨n, 0, [], rfl, Nat.zero_le _, rfl, rfl, Nat.le_refl _, trivial, fr_rfl, hv⟩, ?_⟩
  rintro m x4 x5 μ2 ⟨i, st, rfl, hi, rfl, rfl, hL, hst, hfr, he⟩
  dsimp only
  have f1 : μ2 (k + 1) = μ (k + 1) := hfr _ (by simp)
  have f2 : μ2 (k + 2) = μ (k + 2) := hfr _ (by simp)
  have f0 : μ2 k = μ k := hfr _ (by simp)
  have fk : ∀ (j : Nat) (x : Int32), fr [k + 3] μ (sm_st μ2 (k + 3) j x) := fun j x => fr_st hfr (by simp)
  rw [f0, hlen]
  by_cases hin : i = n
  · subst hin
    rw [if_pos ((nI_le_iff (by omega) (by omega)).mpr (Nat.le_refl _))]
    have h0 : (cdOf μ k i).drop i = [] := List.drop_eq_nil_of_le (by simp [cdOf])
    rw [h0] at he
    have he : st = [v] := he
    subst he
    have h1 : μ2 (k + 3) 0 = v := hst.1
    rw [h1]
    exact hK _ hfr
  · have hlt : i < n := by omega
    rw [if_neg (fun q => absurd ((nI_le_iff (by omega) (by omega)).mp q) (by omega))]
    refine ⟨(vin_iff (by omega)).mpr (by omega), ?_⟩
    intro s hs
    rw [ix_nI (by omega), f1] at hs
    rw [cd_drop hlt, ← hs] at he
    have he : evs a b c ((cdOf μ k n).drop (i + 1)) (ev1 a b c (s, μ (k + 2) i) st) = [v] := he
    have fin : ∀ (st2 : List Int32) (μ3 : sm_Mem), st2.length ≤ i + 1 → stkOk μ3 (k + 3) st2 → fr [k + 3] μ μ3 → evs a b c ((cdOf μ k n).drop (i + 1)) st2 = [v] → w_T_valueWith_171 K (fun a0 a1 μ3 => ∃ k_1, k_1 < n - i ∧ ∃ (i : Nat) (st : List Int32), k_1 = n - i ∧ i ≤ n ∧ a1 = nI i ∧ a0 = nI st.length ∧ st.length ≤ i ∧ stkOk μ3 (k + 3) st ∧ fr [k + 3] μ μ3 ∧ evs a b c ((cdOf μ k n).drop i) st = [v]) k a b c (nI st2.length) (nI i) μ3 := by
      intro st2 μ3 g1 g2 g3 g4
      exact ⟨n - (i + 1), by omega, i + 1, st2, rfl, by omega, (nI_succ i).symm, rfl, g1, g2, g3, g4⟩
    have n50 : ¬ (50 : Int32) ≤ nI st.length := fun q => absurd ((nI_le_iff (a := 50) (by omega) (by omega)).mp q) (by omega)
    have push : ∀ x : Int32, evs a b c ((cdOf μ k n).drop (i + 1)) (x :: st) = [v] → w_T_valueWith_81 K (fun a0 a1 μ3 => ∃ k_1, k_1 < n - i ∧ ∃ (i : Nat) (st : List Int32), k_1 = n - i ∧ i ≤ n ∧ a1 = nI i ∧ a0 = nI st.length ∧ st.length ≤ i ∧ stkOk μ3 (k + 3) st ∧ fr [k + 3] μ μ3 ∧ evs a b c ((cdOf μ k n).drop i) st = [v]) k a b c (nI st.length) (nI i) x (nI st.length) μ2 := by
      intro x hx
      refine ⟨(vin_iff (by omega)).mpr (by omega), ?_⟩
      intro μ3 e3
      rw [ix_nI (by omega)] at e3
      subst e3
      rw [← nI_succ]
      exact fin (x :: st) _ (by show st.length + 1 ≤ i + 1; omega) (stk_push hst) (fk _ _) hx
    by_cases c1 : s = 110
    · rw [if_pos c1]
      unfold w_T_valueWith_38
      rw [if_neg n50, if_pos c1]
      refine ⟨(vin_iff (by omega)).mpr (by omega), ?_⟩
      rw [ix_nI (by omega), f2]
      apply push
      simpa only [ev1, if_pos c1] using he
    · rw [if_neg c1]
      by_cases c2 : s = 97
      · rw [if_pos c2]
        unfold w_T_valueWith_38
        rw [if_neg n50, if_neg c1]
        refine ⟨(vin_iff (by omega)).mpr (by omega), ?_⟩
        apply T_named_eq
        rw [ix_nI (by omega), f2]
        apply push
        simpa only [ev1, if_neg c1, if_pos c2] using he
      · rw [if_neg c2]
        by_cases c3 : s = 33
        · rw [if_pos c3]
          match st, hL, hst, he, fin, push with
          | [], hL, hst, he, fin, push =>
            rw [if_pos (by decide)]
            refine fin [] μ2 (Nat.zero_le _) trivial hfr ?_
            simpa only [ev1, if_neg c1, if_neg c2, if_pos c3] using he
          | x :: r, hL, hst, he, fin, push =>
            have hL : r.length + 1 ≤ i := hL
            have e1 : nI (x :: r).length - 1 = nI r.length := nI_sub (a := r.length + 1) (b := 1) (by omega)
            have g1 : ¬ nI (x :: r).length < (1 : Int32) := fun q => absurd ((nI_lt_iff (a := (x :: r).length) (b := 1) (by show r.length + 1 < _; omega) (by omega)).mp q) (by show ¬ r.length + 1 < 1; omega)
            rw [if_neg g1, e1]
            refine ⟨(vin_iff (by omega)).mpr (by omega), ?_⟩
            rw [ix_nI (by omega), hst.1]
            have he : evs a b c ((cdOf μ k n).drop (i + 1)) ((if x = 0 then 1 else 0) :: r) = [v] := by simpa only [ev1, if_neg c1, if_neg c2, if_pos c3] using he
            have sto : ∀ y : Int32, evs a b c ((cdOf μ k n).drop (i + 1)) (y :: r) = [v] → w_T_valueWith_126 K (fun a0 a1 μ3 => ∃ k_1, k_1 < n - i ∧ ∃ (i : Nat) (st : List Int32), k_1 = n - i ∧ i ≤ n ∧ a1 = nI i ∧ a0 = nI st.length ∧ st.length ≤ i ∧ stkOk μ3 (k + 3) st ∧ fr [k + 3] μ μ3 ∧ evs a b c ((cdOf μ k n).drop i) st = [v]) k a b c (nI (x :: r).length) (nI i) y (nI r.length) μ2 := by
              intro y hy
              refine ⟨(vin_iff (by omega)).mpr (by omega), ?_⟩
              intro μ3 e3
              rw [ix_nI (by omega)] at e3
              subst e3
              exact fin (y :: r) _ (by show r.length + 1 ≤ i + 1; omega) (stk_push hst.2) (fk _ _) hy
            by_cases c4 : x = 0
            · rw [if_pos c4] at he ⊢
              exact sto 1 he
            · rw [if_neg c4] at he ⊢
              exact sto 0 he
        · rw [if_neg c3]
          match st, hL, hst, he, fin, push with
          | [], hL, hst, he, fin, push =>
            rw [if_pos (by decide)]
            refine fin [] μ2 (Nat.zero_le _) trivial hfr ?_
            simpa only [ev1, if_neg c1, if_neg c2, if_neg c3] using he
          | [x], hL, hst, he, fin, push =>
            have hL : 1 ≤ i := hL
            rw [if_pos (by show nI 1 < 2; decide)]
            refine fin [x] μ2 (by show 1 ≤ i + 1; omega) hst hfr ?_
            simpa only [ev1, if_neg c1, if_neg c2, if_neg c3] using he
          | y :: x :: r, hL, hst, he, fin, push =>
            have hL : r.length + 2 ≤ i := hL
            have e1 : nI (y :: x :: r).length - 1 = nI (r.length + 1) := nI_sub (a := r.length + 2) (b := 1) (by omega)
            have e2 : nI (y :: x :: r).length - 2 = nI r.length := nI_sub (a := r.length + 2) (b := 2) (by omega)
            have e3 : nI (y :: x :: r).length + (-1) = nI (r.length + 1) := by rw [← e1, Int32.sub_eq_add_neg]
            have g1 : ¬ nI (y :: x :: r).length < (2 : Int32) := fun q => absurd ((nI_lt_iff (a := (y :: x :: r).length) (b := 2) (by show r.length + 2 < _; omega) (by omega)).mp q) (by show ¬ r.length + 2 < 2; omega)
            rw [if_neg g1, e1, e2]
            refine ⟨(vin_iff (by omega)).mpr (by omega), (vin_iff (by omega)).mpr (by omega), ?_⟩
            apply T_joined_eq
            refine ⟨(vin_iff (by omega)).mpr (by omega), ?_⟩
            intro μ3 e4
            have h1 : μ2 (k + 3) r.length = x := hst.2.1
            have h2 : μ2 (k + 3) (r.length + 1) = y := hst.1
            rw [ix_nI (by omega), ix_nI (by omega), h1, h2] at e4
            subst e4
            rw [e3]
            refine fin (pj s x y :: r) _ (by show r.length + 1 ≤ i + 1; omega) (stk_push hst.2.2) (fk _ _) ?_
            simpa only [ev1, if_neg c1, if_neg c2, if_neg c3] using he

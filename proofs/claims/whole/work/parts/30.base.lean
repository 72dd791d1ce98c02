/-! ===== the pure part: cells as numbers ===== -/
theorem st_rd (μ : sm_Mem) (k j : Nat) (v : Int32) (q i : Nat) : sm_st μ k j v q i = if q = k then (if i = j then v else μ q i) else μ q i := by
  unfold sm_st
  by_cases h : q = k
  · subst h
    simp [upd]
  · simp [h]
theorem st_ne (μ : sm_Mem) (k j : Nat) (v : Int32) (q : Nat) (h : q ≠ k) : sm_st μ k j v q = μ q := by
  unfold sm_st
  simp [h]
theorem st_same (μ : sm_Mem) (k j : Nat) (v : Int32) (i : Nat) : sm_st μ k j v k i = if i = j then v else μ k i := by
  rw [st_rd, if_pos rfl]
theorem cpy_ne (μ : sm_Mem) (k0 k1 sp dp n q : Nat) (h : q ≠ k1) : sm_cpy μ k0 k1 sp dp n q = μ q := by
  unfold sm_cpy
  simp [h]
theorem cpy_rd (μ : sm_Mem) (k0 k1 sp dp n i : Nat) : sm_cpy μ k0 k1 sp dp n k1 i = if dp ≤ i ∧ i < dp + n then μ k0 (sp + (i - dp)) else μ k1 i := by
  unfold sm_cpy va_cpy
  simp
abbrev ix (x : Int32) : Nat := x.toNatClampNeg
/-- a number of 0 .. n -/
def bd (x : Int32) (n : Nat) : Prop := ∃ a : Nat, a ≤ n ∧ x = nI a
theorem ix_nI {a : Nat} (h : a < 2 ^ 31) : (nI a).toNatClampNeg = a := nI_clamp h
theorem bd_ix {x : Int32} {n : Nat} (h : bd x n) (hn : n < 2 ^ 31) : x = nI (ix x) ∧ ix x ≤ n := by
  obtain ⟨a, ha, rfl⟩ := h
  have e : ix (nI a) = a := nI_clamp (by omega)
  rw [e]
  exact ⟨rfl, ha⟩
theorem nI_lt_iff {a b : Nat} (ha : a < 2 ^ 31) (hb : b < 2 ^ 31) : nI a < nI b ↔ a < b := by
  rw [Int32.lt_iff_toInt_lt, nI_toInt ha, nI_toInt hb]
  omega
theorem nI_le_iff {a b : Nat} (ha : a < 2 ^ 31) (hb : b < 2 ^ 31) : nI a ≤ nI b ↔ a ≤ b := by
  rw [Int32.le_iff_toInt_le, nI_toInt ha, nI_toInt hb]
  omega
theorem nI_inj {a b : Nat} (ha : a < 2 ^ 31) (hb : b < 2 ^ 31) : nI a = nI b ↔ a = b := by
  rw [← Int32.toInt_inj, nI_toInt ha, nI_toInt hb]
  omega
theorem nI_mul (a b : Nat) : nI a * nI b = nI (a * b) := (Int32.ofNat_mul a b).symm
theorem nI_sub {a b : Nat} (h : b ≤ a) : nI a - nI b = nI (a - b) := by
  have e : nI a = nI (a - b) + nI b := by rw [nI_add]; congr 1; omega
  rw [e, Int32.add_sub_cancel]
theorem vin_iff {a n : Nat} (ha : a < 2 ^ 31) : vp_in (nI a) n ↔ a < n := by
  unfold vp_in
  rw [nI_clamp ha]
  constructor
  · intro h
    exact Nat.not_le.mp fun q => h (Or.inr q)
  · intro h q
    rcases q with q | q
    · exact nI_pos ha q
    · omega
theorem sub0 {a b : Nat} (ha : a < 2 ^ 30) (hb : b < 2 ^ 30) : (if (0 : Int32) < nI a - nI b then nI a - nI b else 0) = nI (a - b) := by
  by_cases h : b ≤ a
  · rw [nI_sub h]
    by_cases h0 : a - b = 0
    · rw [h0]; rfl
    · have h1 : (0 : Int32) < nI (a - b) := by
        have := (nI_lt_iff (a := 0) (b := a - b) (by omega) (by omega)).mpr (by omega)
        exact this
      rw [if_pos h1]
  · have e : nI a - nI b = -nI (b - a) := by rw [← nI_sub (by omega : a ≤ b), Int32.neg_sub]
    have h1 : ¬ (0 : Int32) < nI a - nI b := by
      rw [e, Int32.lt_iff_toInt_lt]
      have h2 : (nI (b - a)).toInt = ((b - a : Nat) : Int) := nI_toInt (by omega)
      rw [Int32.toInt_neg, h2, show (0 : Int32).toInt = 0 from rfl]
      intro q
      have : (-((b - a : Nat) : Int)).bmod (2 ^ 32) = -((b - a : Nat) : Int) := Int.bmod_eq_of_le (by omega) (by omega)
      rw [this] at q
      omega
    rw [if_neg h1, show a - b = 0 by omega]
    rfl
/-- all cells but those of S are as they were -/
def fr (S : List Nat) (μ μ' : sm_Mem) : Prop := ∀ k : Nat, k ∉ S → μ' k = μ k
theorem fr_rfl {S : List Nat} {μ : sm_Mem} : fr S μ μ := fun _ _ => rfl
theorem fr_trans {S : List Nat} {a b c : sm_Mem} (h : fr S a b) (g : fr S b c) : fr S a c := fun k hk => (g k hk).trans (h k hk)
theorem fr_mono {S T : List Nat} {a b : sm_Mem} (h : fr S a b) (hs : ∀ k, k ∈ S → k ∈ T) : fr T a b := fun k hk => h k fun q => hk (hs k q)
theorem fr_st {S : List Nat} {a b : sm_Mem} (h : fr S a b) {k j : Nat} {v : Int32} (hk : k ∈ S) : fr S a (sm_st b k j v) := fun q hq => by
  rw [st_ne b k j v q (fun e => hq (e ▸ hk))]
  exact h q hq
theorem X_within_eq (K : Int32 → sm_Mem → Prop) (x a b : Int32) (μ : sm_Mem) : w_X_within K x a b μ = if a ≤ x ∧ x ≤ b then K 1 μ else K 0 μ := by
  unfold w_X_within
  by_cases h1 : x < a
  · rw [if_pos h1, if_neg]
    intro q
    exact absurd h1 (Int32.not_lt.mpr q.1)
  · rw [if_neg h1]
    by_cases h2 : b < x
    · rw [if_pos h2, if_neg]
      intro q
      exact absurd h2 (Int32.not_lt.mpr q.2)
    · rw [if_neg h2, if_pos ⟨Int32.not_lt.mp h1, Int32.not_lt.mp h2⟩]
theorem M_in_eq (K : Int32 → sm_Mem → Prop) (x a b : Int32) (μ : sm_Mem) : w_M_in K x a b μ = if a ≤ x ∧ x ≤ b then K 1 μ else K 0 μ := by
  unfold w_M_in
  by_cases h1 : x < a
  · rw [if_pos h1, if_neg]
    intro q
    exact absurd h1 (Int32.not_lt.mpr q.1)
  · rw [if_neg h1]
    by_cases h2 : b < x
    · rw [if_pos h2, if_neg]
      intro q
      exact absurd h2 (Int32.not_lt.mpr q.2)
    · rw [if_neg h2, if_pos ⟨Int32.not_lt.mp h1, Int32.not_lt.mp h2⟩]
theorem D_hasPlace_eq (K : Int32 → sm_Mem → Prop) (x : Int32) (μ : sm_Mem) : w_D_hasPlace K x μ = if 0 ≤ x ∧ x < μ 1 11 then K 1 μ else K 0 μ := by
  unfold w_D_hasPlace
  by_cases h1 : x < 0
  · rw [if_pos h1, if_neg]
    intro q
    exact absurd h1 (Int32.not_lt.mpr q.1)
  · rw [if_neg h1]
    by_cases h2 : μ 1 11 ≤ x
    · rw [if_pos h2, if_neg]
      intro q
      exact absurd h2 (Int32.not_le.mpr q.2)
    · rw [if_neg h2, if_pos ⟨Int32.not_lt.mp h1, Int32.not_le.mp h2⟩]
theorem D_hasNote_eq (K : Int32 → sm_Mem → Prop) (x : Int32) (μ : sm_Mem) : w_D_hasNote K x μ = if 0 ≤ x ∧ x < μ 1 12 then K 1 μ else K 0 μ := by
  unfold w_D_hasNote
  by_cases h1 : x < 0
  · rw [if_pos h1, if_neg]
    intro q
    exact absurd h1 (Int32.not_lt.mpr q.1)
  · rw [if_neg h1]
    by_cases h2 : μ 1 12 ≤ x
    · rw [if_pos h2, if_neg]
      intro q
      exact absurd h2 (Int32.not_le.mpr q.2)
    · rw [if_neg h2, if_pos ⟨Int32.not_lt.mp h1, Int32.not_le.mp h2⟩]
theorem X_error_eq (K : Int32 → sm_Mem → Prop) (μ : sm_Mem) : (w_X_error K 1 μ = K (-1000000001) (sm_st μ 60 1 (μ 60 1 + 1))) ∧ (w_X_error K 2 μ = K (-1000000002) (sm_st μ 60 2 (μ 60 2 + 1))) ∧ (w_X_error K 3 μ = K (-1000000003) (sm_st μ 60 3 (μ 60 3 + 1))) ∧ (w_X_error K 4 μ = K (-1000000004) (sm_st μ 60 4 (μ 60 4 + 1))) ∧ (w_X_error K 5 μ = K (-1000000005) (sm_st μ 60 5 (μ 60 5 + 1))) := by
  refine ⟨?_, ?_, ?_, ?_, ?_⟩ <;>
  · unfold w_X_error
    rw [X_within_eq, if_pos (by decide), if_neg (by decide)]
    apply propext
    constructor
    · intro h
      exact h.2.2 _ rfl
    · intro h
      exact ⟨sm_vin (by decide), sm_vin (by decide), fun m e => by rw [e]; exact h⟩
theorem M_errs_eq (K : Int32 → sm_Mem → Prop) (μ : sm_Mem) : (w_M_errs K (-1000000001) μ = K (-1000000001) (sm_st μ 66 1 (μ 66 1 + 1))) ∧ (w_M_errs K (-1000000002) μ = K (-1000000002) (sm_st μ 66 2 (μ 66 2 + 1))) ∧ (w_M_errs K (-1000000003) μ = K (-1000000003) (sm_st μ 66 3 (μ 66 3 + 1))) ∧ (w_M_errs K (-1000000004) μ = K (-1000000004) (sm_st μ 66 4 (μ 66 4 + 1))) ∧ (w_M_errs K (-1000000005) μ = K (-1000000005) (sm_st μ 66 5 (μ 66 5 + 1))) := by
  refine ⟨?_, ?_, ?_, ?_, ?_⟩ <;>
  · unfold w_M_errs
    apply propext
    constructor
    · intro h
      exact h.2.2 _ rfl
    · intro h
      exact ⟨sm_vin (by decide), sm_vin (by decide), fun m e => by rw [e]; exact h⟩

/-! ===== what notes melt and pay, in numbers ===== -/
theorem nI_mod {a b : Nat} (ha : a < 2 ^ 31) (hb : b < 2 ^ 31) : nI a % nI b = nI (a % b) := by
  apply Int32.toInt_inj.mp
  rw [Int32.toInt_mod, nI_toInt ha, nI_toInt hb, nI_toInt (Nat.lt_of_le_of_lt (Nat.mod_le a b) ha)]
  exact (Int.ofNat_tmod a b).symm
theorem bd_of {x : Int32} {n : Nat} (hn : n < 2 ^ 31) (h0 : 0 ≤ x) (h1 : x ≤ nI n) : bd x n := by
  have e : nI (ix x) = x := by
    apply Int32.toInt_inj.mp
    have h2 := Int32.le_iff_toInt_le.mp h0
    have h3 := Int32.le_iff_toInt_le.mp h1
    rw [nI_toInt hn] at h3
    have h4 : (0 : Int32).toInt = 0 := rfl
    rw [h4] at h2
    have h5 : ix x = x.toInt.toNat := rfl
    rw [nI_toInt (by omega), h5]
    omega
  refine ⟨ix x, ?_, e.symm⟩
  have h3 := Int32.le_iff_toInt_le.mp h1
  rw [nI_toInt hn] at h3
  have h5 : ix x = x.toInt.toNat := rfl
  omega
def cl (n x : Int32) : Int32 := if (if 0 < x then x else 0) < n then (if 0 < x then x else 0) else n
theorem cl_bd {n : Nat} (hn : n < 2 ^ 31) (x : Int32) : bd (cl (nI n) x) n := by
  unfold cl
  have h0 : (0 : Int32) ≤ (if 0 < x then x else 0) := by
    split
    · exact Int32.le_of_lt (by assumption)
    · exact Int32.le_refl _
  generalize (if 0 < x then x else 0) = z at h0 ⊢
  split
  · rename_i h
    exact bd_of hn h0 (Int32.le_of_lt h)
  · exact ⟨n, Nat.le_refl _, rfl⟩
def hF (o : Option pV) (w y h : Int32) : Int32 := cl 99 (match o with | none => (w + y) - 3 | some v => v w y h)
def fF (o : Option pV) (s m w : Int32) : Int32 := match o with | none => (if 5 ≤ s then 0 else 1) | some v => cl 1 (v s m w)
def hN (o : Option pV) (w y h : Int32) : Nat := ix (hF o w y h)
theorem hN_eq (o : Option pV) (w y h : Int32) : hF o w y h = nI (hN o w y h) ∧ hN o w y h ≤ 99 := bd_ix (cl_bd (n := 99) (by omega) _) (by omega)
/-- what a note of a KIND with m melts, by HEAT -/
def mN (kd m h : Nat) : Nat := if kd = 1 then h / 2 else if kd = 2 then h + 2 else if kd = 3 then h - m else if kd = 4 then h / 2 - 1 else if kd = 5 then 2 * (h + 2) else if kd = 6 then h + 9 - m else h
theorem mN_le {kd m h : Nat} (hm : m ≤ 9) (hh : h ≤ 99) : mN kd m h ≤ 202 := by
  unfold mN
  repeat' split
  all_goals omega
def pN (o : Option pV) (kd m w s : Nat) : Nat := if kd = 1 then 2 * s else if kd = 2 then (if fF o (nI s) (nI m) (nI w) = 0 then s else 0) else if kd = 3 then (if s = 0 then 0 else s + m) else if kd = 4 then (if s = 0 then 0 else 2 * s + 5) else if kd = 5 then (if fF o (nI s) (nI m) (nI w) = 0 then s / 2 else 0) else s
theorem pN_le {o : Option pV} {kd m w s : Nat} (hm : m ≤ 9) (hs : s ≤ 999) : pN o kd m w s ≤ 2003 := by
  unfold pN
  repeat' split
  all_goals omega
def lfN (o : Option pV) (kd m : Nat) (w y : Int32) (ho s : Nat) : Nat → Nat
  | 0 => s
  | t + 1 => lfN o kd m w y ho s t - mN kd m (hN o w y (nI ((ho + t) % 24)))
theorem lfN_le {o : Option pV} {kd m : Nat} {w y : Int32} {ho s : Nat} : ∀ t, lfN o kd m w y ho s t ≤ s
  | 0 => Nat.le_refl _
  | t + 1 => Nat.le_trans (Nat.sub_le _ _) (lfN_le t)
/-- the numbers of a duchy: (heat, found), (PLACES, NOTES, WEATHER, HOUR), warmth, roads, kinds, ms, snow, at, owners, (taped, tape), (waits, waiting), z -/
abbrev GH : Type := (Option pV × Option pV) × (Nat × Nat × Nat × Nat) × (Nat → Nat) × (Nat → Nat → Nat) × ((Nat → Nat) × (Nat → Nat) × (Nat → Nat) × (Nat → Nat) × (Nat → Nat)) × (Nat × (Nat → Nat)) × (Nat × (Nat → Int32)) × Int32
abbrev gHt (g : GH) : Option pV := g.1.1
abbrev gFd (g : GH) : Option pV := g.1.2
abbrev gP (g : GH) : Nat := g.2.1.1
abbrev gN (g : GH) : Nat := g.2.1.2.1
abbrev gY (g : GH) : Nat := g.2.1.2.2.1
abbrev gHo (g : GH) : Nat := g.2.1.2.2.2
abbrev gWa (g : GH) : Nat → Nat := g.2.2.1
abbrev gRo (g : GH) : Nat → Nat → Nat := g.2.2.2.1
abbrev gKd (g : GH) : Nat → Nat := g.2.2.2.2.1.1
abbrev gMs (g : GH) : Nat → Nat := g.2.2.2.2.1.2.1
abbrev gSn (g : GH) : Nat → Nat := g.2.2.2.2.1.2.2.1
abbrev gAt (g : GH) : Nat → Nat := g.2.2.2.2.1.2.2.2.1
abbrev gOw (g : GH) : Nat → Nat := g.2.2.2.2.1.2.2.2.2
abbrev gTn (g : GH) : Nat := g.2.2.2.2.2.1.1
abbrev gTp (g : GH) : Nat → Nat := g.2.2.2.2.2.1.2
abbrev gWn (g : GH) : Nat := g.2.2.2.2.2.2.1.1
abbrev gWt (g : GH) : Nat → Int32 := g.2.2.2.2.2.2.1.2
abbrev gZ (g : GH) : Int32 := g.2.2.2.2.2.2.2
/-- numbers in their bounds -/
def gOk (g : GH) : Prop := gP g ≤ 6 ∧ gN g ≤ 10 ∧ gY g ≤ 9 ∧ gHo g ≤ 9999 ∧ (∀ p, p < gP g → gWa g p ≤ 9) ∧ (∀ a b, gRo g a b ≤ 9) ∧ (∀ i, i < gN g → gKd g i ≤ 6 ∧ gMs g i ≤ 9 ∧ gSn g i ≤ 999 ∧ gAt g i < gP g ∧ gOw g i ≤ 3) ∧ gTn g ≤ 50 ∧ (∀ i, i < gTn g → gTp g i ≤ 255) ∧ gWn g ≤ 20
def TX (k : Nat) (μ : sm_Mem) (o : Option pV) : Prop := match o with
  | none => μ k 3 = 0
  | some v => ∃ n : Nat, 0 < n ∧ n ≤ 50 ∧ μ k 3 = nI n ∧ ∀ a b c, evs a b c (cdOf μ k n) [] = [v a b c]
/-- the class' cells from d on hold these numbers -/
def CA (d : Nat) (g : GH) (μ : sm_Mem) : Prop :=
  (μ d 11 = nI (gP g) ∧ μ d 12 = nI (gN g) ∧ μ d 13 = nI (gY g) ∧ μ d 14 = nI (gHo g) ∧ μ d 15 = nI (gTn g) ∧ μ d 16 = nI (gWn g) ∧ μ d 17 = gZ g) ∧
  (∀ p, p < gP g → μ (d + 1) p = nI (gWa g p)) ∧
  (∀ a b, a < 6 → b < 6 → μ (d + 2) (a * 6 + b) = nI (if a < gP g ∧ b < gP g then gRo g a b else 0)) ∧
  (∀ i, i < gN g → μ (d + 3) i = nI (gKd g i) ∧ μ (d + 4) i = nI (gMs g i) ∧ μ (d + 5) i = nI (gSn g i) ∧ μ (d + 6) i = nI (gAt g i) ∧ μ (d + 7) i = nI (gOw g i)) ∧
  (∀ i, i < gTn g → μ (d + 8) i = nI (gTp g i)) ∧ (∀ i, i < gWn g → μ (d + 9) i = gWt g i) ∧
  TX (d + 10) μ (gHt g) ∧ TX (d + 14) μ (gFd g)
def bys (f : Nat → Int32) (u : Nat) : Nat → Int32 := fun i => if i < 50 then f (171 + 50 * u + i) else 0
def TM (u c : Nat) (μ : sm_Mem) (o : Option pV) : Prop := match o with
  | none => μ c (5 + u) = -1
  | some v => ∃ (n : Nat) (cd : List (Int32 × Int32)), n ≤ 50 ∧ μ c (5 + u) = nI n ∧ pText (bys (μ c) u) n u = (true, n, cd, v)
/-- the model's row c holds these numbers -/
def MA (c : Nat) (g : GH) (μ : sm_Mem) : Prop :=
  (μ c 2 = nI (gP g) ∧ μ c 7 = nI (gN g) ∧ μ c 8 = nI (gY g) ∧ μ c 0 = nI (gHo g) ∧ μ c 3 = nI (gTn g) ∧ μ c 4 = nI (gWn g) ∧ μ c 1 = gZ g) ∧
  (∀ p, p < gP g → μ c (9 + p) = nI (gWa g p)) ∧
  (∀ a b, a < gP g → b < gP g → μ c (15 + 6 * a + b) = nI (gRo g a b)) ∧
  (∀ i, i < gN g → μ c (51 + 5 * i) = nI (gKd g i) ∧ μ c (51 + 5 * i + 1) = nI (gMs g i) ∧ μ c (51 + 5 * i + 2) = nI (gSn g i) ∧ μ c (51 + 5 * i + 3) = nI (gAt g i) ∧ μ c (51 + 5 * i + 4) = nI (gOw g i)) ∧
  (∀ i, i < gTn g → μ c (101 + i) = nI (gTp g i)) ∧ (∀ i, i < gWn g → μ c (151 + i) = gWt g i) ∧
  TM 0 c μ (gHt g) ∧ TM 1 c μ (gFd g)
theorem TX_fr {k : Nat} {μ μ2 : sm_Mem} {o : Option pV} (h : TX k μ o) (h0 : μ2 k = μ k) (h1 : μ2 (k + 1) = μ (k + 1)) (h2 : μ2 (k + 2) = μ (k + 2)) : TX k μ2 o := by
  cases o with
  | none => show μ2 k 3 = 0; rw [h0]; exact h
  | some v =>
    obtain ⟨n, a, b, c, e⟩ := h
    exact ⟨n, a, b, by rw [h0]; exact c, fun x y z => by rw [cd_fr h1 h2]; exact e x y z⟩
/-- the cells of a duchy from d on that count -/
def dCells (d : Nat) : List Nat := [d, d + 1, d + 2, d + 3, d + 4, d + 5, d + 6, d + 7, d + 8, d + 9, d + 10, d + 11, d + 12, d + 14, d + 15, d + 16]
theorem CA_fr {d : Nat} {g : GH} {μ μ2 : sm_Mem} (h : CA d g μ) (hf : ∀ k, k ∈ dCells d → μ2 k = μ k) : CA d g μ2 := by
  have f : ∀ k, k ∈ dCells d → μ2 k = μ k := hf
  have e0 := f d (by simp [dCells])
  have e1 := f (d + 1) (by simp [dCells])
  have e2 := f (d + 2) (by simp [dCells])
  have e3 := f (d + 3) (by simp [dCells])
  have e4 := f (d + 4) (by simp [dCells])
  have e5 := f (d + 5) (by simp [dCells])
  have e6 := f (d + 6) (by simp [dCells])
  have e7 := f (d + 7) (by simp [dCells])
  have e8 := f (d + 8) (by simp [dCells])
  have e9 := f (d + 9) (by simp [dCells])
  have e10 := f (d + 10) (by simp [dCells])
  have e11 := f (d + 11) (by simp [dCells])
  have e12 := f (d + 12) (by simp [dCells])
  have e14 := f (d + 14) (by simp [dCells])
  have e15 := f (d + 15) (by simp [dCells])
  have e16 := f (d + 16) (by simp [dCells])
  obtain ⟨a1, a2, a3, a4, a5, a6, a7, a8⟩ := h
  refine ⟨?_, ?_, ?_, ?_, ?_, ?_, TX_fr a7 e10 e11 e12, TX_fr a8 e14 e15 e16⟩
  · rw [e0]; exact a1
  · rw [e1]; exact a2
  · rw [e2]; exact a3
  · rw [e3, e4, e5, e6, e7]; exact a4
  · rw [e8]; exact a5
  · rw [e9]; exact a6
theorem MA_fr {c : Nat} {g : GH} {μ μ2 : sm_Mem} (h : MA c g μ) (hf : μ2 c = μ c) : MA c g μ2 := by
  unfold MA TM at *
  rw [hf]
  exact h
theorem bys_lt {f f2 : Nat → Int32} {u : Nat} (hu : u ≤ 1) (h : ∀ j, j < 271 → f2 j = f j) : bys f2 u = bys f u := by
  funext i
  unfold bys
  by_cases q : i < 50
  · rw [if_pos q, if_pos q, h _ (by omega)]
  · rw [if_neg q, if_neg q]
theorem TM_lt {u c : Nat} {μ μ2 : sm_Mem} {o : Option pV} (hu : u ≤ 1) (h : TM u c μ o) (hf : ∀ j, j < 271 → μ2 c j = μ c j) : TM u c μ2 o := by
  cases o with
  | none => show μ2 c (5 + u) = -1; rw [hf _ (by omega)]; exact h
  | some v =>
    obtain ⟨n, cd, h1, h2, h3⟩ := h
    exact ⟨n, cd, h1, by rw [hf _ (by omega)]; exact h2, by rw [bys_lt hu hf]; exact h3⟩
theorem MA_lt {c : Nat} {g : GH} {μ μ2 : sm_Mem} (hP : gP g ≤ 6) (hN : gN g ≤ 10) (hT : gTn g ≤ 50) (hW : gWn g ≤ 20) (h : MA c g μ) (hf : ∀ j, j < 271 → μ2 c j = μ c j) : MA c g μ2 := by
  obtain ⟨⟨b1, b2, b3, b4, b5, b6, b7⟩, a2, a3, a4, a5, a6, a7, a8⟩ := h
  refine ⟨⟨?_, ?_, ?_, ?_, ?_, ?_, ?_⟩, fun p hp => ?_, fun a b ha hb => ?_, fun i hi => ?_, fun i hi => ?_, fun i hi => ?_, TM_lt (by omega) a7 hf, TM_lt (by omega) a8 hf⟩
  · rw [hf _ (by omega)]; exact b1
  · rw [hf _ (by omega)]; exact b2
  · rw [hf _ (by omega)]; exact b3
  · rw [hf _ (by omega)]; exact b4
  · rw [hf _ (by omega)]; exact b5
  · rw [hf _ (by omega)]; exact b6
  · rw [hf _ (by omega)]; exact b7
  · rw [hf _ (by omega)]; exact a2 p hp
  · rw [hf _ (by omega)]; exact a3 a b ha hb
  · rw [hf _ (by omega), hf _ (by omega), hf _ (by omega), hf _ (by omega), hf _ (by omega)]; exact a4 i hi
  · rw [hf _ (by omega)]; exact a5 i hi
  · rw [hf _ (by omega)]; exact a6 i hi

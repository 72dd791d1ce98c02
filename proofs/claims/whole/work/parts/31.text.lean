/-! ===== TEXTS: what they are worth, how they are read ===== -/
abbrev pV : Type := Int32 → Int32 → Int32 → Int32
abbrev PR : Type := Bool × Nat × List (Int32 × Int32) × pV
def nxt (B : Nat → Int32) (sz at_ : Nat) : Int32 := if at_ < sz then B at_ else -1
def pj (s x y : Int32) : Int32 := if s = 37 then (if y = 0 then 0 else x % y) else if s = 38 then (if x = 0 then 0 else if y = 0 then 0 else 1) else if s = 42 then x * y else if s = 43 then x + y else if s = 45 then x - y else if s = 47 then (if y = 0 then 0 else x / y) else if s = 60 then (if y ≤ x then 0 else 1) else if s = 61 then (if x = y then 1 else 0) else if s = 62 then (if x ≤ y then 0 else 1) else if s = 124 then (if x = 0 then (if y = 0 then 0 else 1) else 1) else 0
def pnm (i a b c : Int32) : Int32 := if i = 0 then a else if i = 1 then b else c
/-- one sign of a read TEXT on a stack, the top first -/
def ev1 (a b c : Int32) (q : Int32 × Int32) (st : List Int32) : List Int32 :=
  if q.1 = 110 then q.2 :: st else if q.1 = 97 then pnm q.2 a b c :: st else if q.1 = 33 then (match st with | [] => [] | x :: r => (if x = 0 then 1 else 0) :: r) else (match st with | y :: x :: r => pj q.1 x y :: r | r => r)
def evs (a b c : Int32) : List (Int32 × Int32) → List Int32 → List Int32
  | [], st => st
  | q :: cd, st => evs a b c cd (ev1 a b c q st)
theorem evs_app (a b c : Int32) : ∀ (x y : List (Int32 × Int32)) (st : List Int32), evs a b c (x ++ y) st = evs a b c y (evs a b c x st)
  | [], _, _ => rfl
  | q :: x, y, st => evs_app a b c x y (ev1 a b c q st)
def ch (B : Nat → Int32) (sz : Nat) (sub : Nat → PR) (isS : Int32 → Bool) : Nat → PR → PR
  | 0, r => r
  | f + 1, r => if r.1 = true ∧ isS (nxt B sz r.2.1) = true then
      ch B sz sub isS f ((sub (r.2.1 + 1)).1, (sub (r.2.1 + 1)).2.1, r.2.2.1 ++ (sub (r.2.1 + 1)).2.2.1 ++ [(nxt B sz r.2.1, 0)], fun a b c => pj (nxt B sz r.2.1) (r.2.2.2 a b c) ((sub (r.2.1 + 1)).2.2.2 a b c))
    else r
def isMul (x : Int32) : Bool := x == 42 || x == 47 || x == 37
def isAdd (x : Int32) : Bool := x == 43 || x == 45
def isCmp (x : Int32) : Bool := x == 60 || x == 61 || x == 62
def isAnd (x : Int32) : Bool := x == 38
def isOr (x : Int32) : Bool := x == 124
def pProd (B : Nat → Int32) (sz : Nat) (part : Nat → PR) (at_ : Nat) : PR := ch B sz part isMul sz (part at_)
def pSum (B : Nat → Int32) (sz : Nat) (part : Nat → PR) (at_ : Nat) : PR := ch B sz (pProd B sz part) isAdd sz (pProd B sz part at_)
def pCmp (B : Nat → Int32) (sz : Nat) (part : Nat → PR) (at_ : Nat) : PR := ch B sz (pSum B sz part) isCmp 1 (pSum B sz part at_)
def pAnd (B : Nat → Int32) (sz : Nat) (part : Nat → PR) (at_ : Nat) : PR := ch B sz (pCmp B sz part) isAnd sz (pCmp B sz part at_)
def pOr (B : Nat → Int32) (sz : Nat) (part : Nat → PR) (at_ : Nat) : PR := ch B sz (pAnd B sz part) isOr sz (pAnd B sz part at_)
def pn (B : Nat → Int32) (sz : Nat) : Nat → Nat → Int32 → Nat × Int32
  | 0, at_, v => (at_, v)
  | f + 1, at_, v => if 48 ≤ nxt B sz at_ ∧ nxt B sz at_ ≤ 57 then pn B sz f (at_ + 1) (v * 10 + nxt B sz at_ - 48) else (at_, v)
def pName (u i : Nat) : Int32 := ((if u = 0 then ([119, 121, 104] : List Int32) else [115, 109, 111])).getD i 0
def pPart (B : Nat → Int32) (sz u : Nat) : Nat → Nat → PR
  | d, at_ =>
    if 48 ≤ nxt B sz at_ ∧ nxt B sz at_ ≤ 57 then (true, (pn B sz 4 at_ 0).1, [(110, (pn B sz 4 at_ 0).2)], fun _ _ _ => (pn B sz 4 at_ 0).2)
    else if nxt B sz at_ = pName u 0 then (true, at_ + 1, [(97, 0)], fun a _ _ => a)
    else if nxt B sz at_ = pName u 1 then (true, at_ + 1, [(97, 1)], fun _ b _ => b)
    else if nxt B sz at_ = pName u 2 then (true, at_ + 1, [(97, 2)], fun _ _ c => c)
    else match d with
      | 0 => (false, at_, [], fun _ _ _ => 0)
      | d + 1 =>
        if nxt B sz at_ = 33 then ((pPart B sz u d (at_ + 1)).1, (pPart B sz u d (at_ + 1)).2.1, (pPart B sz u d (at_ + 1)).2.2.1 ++ [(33, 0)], fun a b c => if (pPart B sz u d (at_ + 1)).2.2.2 a b c = 0 then 1 else 0)
        else if nxt B sz at_ = 40 then
          (if (pOr B sz (pPart B sz u d) (at_ + 1)).1 = true ∧ nxt B sz (pOr B sz (pPart B sz u d) (at_ + 1)).2.1 = 41 then (true, (pOr B sz (pPart B sz u d) (at_ + 1)).2.1 + 1, (pOr B sz (pPart B sz u d) (at_ + 1)).2.2.1, (pOr B sz (pPart B sz u d) (at_ + 1)).2.2.2)
           else (false, (pOr B sz (pPart B sz u d) (at_ + 1)).2.1, (pOr B sz (pPart B sz u d) (at_ + 1)).2.2.1, (pOr B sz (pPart B sz u d) (at_ + 1)).2.2.2))
        else (false, at_, [], fun _ _ _ => 0)
/-- a whole TEXT of a USE -/
def pText (B : Nat → Int32) (sz u : Nat) : PR := pOr B sz (pPart B sz u 5) 0
/-- what holds of a part that was read from at_ on -/
def pOk (sz at_ : Nat) (r : PR) : Prop := at_ ≤ r.2.1 ∧ r.2.1 ≤ sz ∧ r.2.2.1.length + at_ ≤ r.2.1 ∧ (r.1 = true → ∀ (a b c : Int32) (st : List Int32), evs a b c r.2.2.1 st = r.2.2.2 a b c :: st) ∧ (r.1 = true → at_ < r.2.1)
theorem pOk_false {sz at_ p : Nat} {cd : List (Int32 × Int32)} {v : pV} (h1 : at_ ≤ p) (h2 : p ≤ sz) (h3 : cd.length + at_ ≤ p) : pOk sz at_ (false, p, cd, v) :=
  ⟨h1, h2, h3, (fun q => absurd (show false = true from q) (by decide)), (fun q => absurd (show false = true from q) (by decide))⟩
theorem nxt_lt {B : Nat → Int32} {sz at_ : Nat} (h : nxt B sz at_ ≠ -1) : at_ < sz := by
  unfold nxt at h
  by_cases h1 : at_ < sz
  · exact h1
  · rw [if_neg h1] at h
    exact absurd rfl h
theorem ch_ok {B : Nat → Int32} {sz : Nat} {sub : Nat → PR} {isS : Int32 → Bool} (h1 : isS (-1) = false) (h110 : isS 110 = false) (h97 : isS 97 = false) (h33 : isS 33 = false) (hs : ∀ i, i ≤ sz → pOk sz i (sub i)) : ∀ (f at_ : Nat) (r : PR), pOk sz at_ r → pOk sz at_ (ch B sz sub isS f r)
  | 0, _, _, h => h
  | f + 1, at_, r, h => by
    rw [ch]
    by_cases hc : r.1 = true ∧ isS (nxt B sz r.2.1) = true
    · rw [if_pos hc]
      obtain ⟨a1, a2, a3, a4, a5⟩ := h
      have hlt : r.2.1 < sz := nxt_lt (fun q => by rw [q, h1] at hc; exact absurd hc.2 (by decide))
      obtain ⟨b1, b2, b3, b4, b5⟩ := hs (r.2.1 + 1) (by omega)
      refine ch_ok h1 h110 h97 h33 hs f at_ _ ⟨?_, ?_, ?_, ?_, ?_⟩
      · show at_ ≤ (sub (r.2.1 + 1)).2.1
        omega
      · exact b2
      · show (r.2.2.1 ++ (sub (r.2.1 + 1)).2.2.1 ++ [(nxt B sz r.2.1, 0)]).length + at_ ≤ (sub (r.2.1 + 1)).2.1
        simp only [List.length_append, List.length_cons, List.length_nil]
        omega
      · intro hg a b c st
        have hg : (sub (r.2.1 + 1)).1 = true := hg
        show evs a b c (r.2.2.1 ++ (sub (r.2.1 + 1)).2.2.1 ++ [(nxt B sz r.2.1, 0)]) st = pj (nxt B sz r.2.1) (r.2.2.2 a b c) ((sub (r.2.1 + 1)).2.2.2 a b c) :: st
        rw [evs_app, evs_app, a4 hc.1, b4 hg]
        have n1 : ¬ nxt B sz r.2.1 = 110 := fun q => by rw [q, h110] at hc; exact absurd hc.2 (by decide)
        have n2 : ¬ nxt B sz r.2.1 = 97 := fun q => by rw [q, h97] at hc; exact absurd hc.2 (by decide)
        have n3 : ¬ nxt B sz r.2.1 = 33 := fun q => by rw [q, h33] at hc; exact absurd hc.2 (by decide)
        simp only [evs, ev1, if_neg n1, if_neg n2, if_neg n3]
      · intro _
        show at_ < (sub (r.2.1 + 1)).2.1
        omega
    · rw [if_neg hc]
      exact h
theorem pn_ok (B : Nat → Int32) (sz : Nat) : ∀ (f at_ : Nat) (v : Int32), at_ ≤ sz → at_ ≤ (pn B sz f at_ v).1 ∧ (pn B sz f at_ v).1 ≤ sz
  | 0, at_, v, h => ⟨Nat.le_refl _, h⟩
  | f + 1, at_, v, h => by
    rw [pn]
    by_cases hc : 48 ≤ nxt B sz at_ ∧ nxt B sz at_ ≤ 57
    · rw [if_pos hc]
      have hlt : at_ < sz := nxt_lt (fun q => by rw [q] at hc; exact absurd hc.1 (by decide))
      obtain ⟨a, b⟩ := pn_ok B sz f (at_ + 1) (v * 10 + nxt B sz at_ - 48) hlt
      exact ⟨by omega, b⟩
    · rw [if_neg hc]
      exact ⟨Nat.le_refl _, h⟩
theorem pOr_ok {B : Nat → Int32} {sz : Nat} {part : Nat → PR} (hp : ∀ i, i ≤ sz → pOk sz i (part i)) : (∀ i, i ≤ sz → pOk sz i (pProd B sz part i)) ∧ (∀ i, i ≤ sz → pOk sz i (pSum B sz part i)) ∧ (∀ i, i ≤ sz → pOk sz i (pCmp B sz part i)) ∧ (∀ i, i ≤ sz → pOk sz i (pAnd B sz part i)) ∧ (∀ i, i ≤ sz → pOk sz i (pOr B sz part i)) := by
  have a : ∀ i, i ≤ sz → pOk sz i (pProd B sz part i) := fun i hi => ch_ok (by decide) (by decide) (by decide) (by decide) hp _ _ _ (hp i hi)
  have b : ∀ i, i ≤ sz → pOk sz i (pSum B sz part i) := fun i hi => ch_ok (by decide) (by decide) (by decide) (by decide) a _ _ _ (a i hi)
  have c : ∀ i, i ≤ sz → pOk sz i (pCmp B sz part i) := fun i hi => ch_ok (by decide) (by decide) (by decide) (by decide) b _ _ _ (b i hi)
  have d : ∀ i, i ≤ sz → pOk sz i (pAnd B sz part i) := fun i hi => ch_ok (by decide) (by decide) (by decide) (by decide) c _ _ _ (c i hi)
  have e : ∀ i, i ≤ sz → pOk sz i (pOr B sz part i) := fun i hi => ch_ok (by decide) (by decide) (by decide) (by decide) d _ _ _ (d i hi)
  exact ⟨a, b, c, d, e⟩
theorem pPart_ok (B : Nat → Int32) (sz u : Nat) : ∀ (d at_ : Nat), at_ ≤ sz → pOk sz at_ (pPart B sz u d at_) := by
  intro d
  induction d with
  | zero =>
    intro at_ h
    unfold pPart
    split
    · rename_i hc
      have hlt : at_ < sz := nxt_lt (fun q => by rw [q] at hc; exact absurd hc.1 (by decide))
      have h1 := pn_ok B sz 3 (at_ + 1) (0 * 10 + nxt B sz at_ - 48) hlt
      have h2 : pn B sz 4 at_ 0 = pn B sz 3 (at_ + 1) (0 * 10 + nxt B sz at_ - 48) := by rw [pn, if_pos hc]
      refine ⟨?_, ?_, ?_, fun _ a b c st => ?_, ?_⟩ <;> simp only [h2, List.length_cons, List.length_nil] <;> first | omega | rfl
    · split
      · rename_i hc
        have hlt : at_ < sz := nxt_lt (fun q => by rw [q] at hc; revert hc; unfold pName; split <;> decide)
        exact ⟨by show at_ ≤ at_ + 1; omega, by show at_ + 1 ≤ sz; omega, by show 1 + at_ ≤ at_ + 1; omega, fun _ a b c st => rfl, fun _ => Nat.lt_succ_self _⟩
      · split
        · rename_i hc
          have hlt : at_ < sz := nxt_lt (fun q => by rw [q] at hc; revert hc; unfold pName; split <;> decide)
          exact ⟨by show at_ ≤ at_ + 1; omega, by show at_ + 1 ≤ sz; omega, by show 1 + at_ ≤ at_ + 1; omega, fun _ a b c st => rfl, fun _ => Nat.lt_succ_self _⟩
        · split
          · rename_i hc
            have hlt : at_ < sz := nxt_lt (fun q => by rw [q] at hc; revert hc; unfold pName; split <;> decide)
            exact ⟨by show at_ ≤ at_ + 1; omega, by show at_ + 1 ≤ sz; omega, by show 1 + at_ ≤ at_ + 1; omega, fun _ a b c st => rfl, fun _ => Nat.lt_succ_self _⟩
          · exact pOk_false (Nat.le_refl _) h (by show 0 + at_ ≤ at_; omega)
  | succ d ih =>
    intro at_ h
    unfold pPart
    split
    · rename_i hc
      have hlt : at_ < sz := nxt_lt (fun q => by rw [q] at hc; exact absurd hc.1 (by decide))
      have h1 := pn_ok B sz 3 (at_ + 1) (0 * 10 + nxt B sz at_ - 48) hlt
      have h2 : pn B sz 4 at_ 0 = pn B sz 3 (at_ + 1) (0 * 10 + nxt B sz at_ - 48) := by rw [pn, if_pos hc]
      refine ⟨?_, ?_, ?_, fun _ a b c st => ?_, ?_⟩ <;> simp only [h2, List.length_cons, List.length_nil] <;> first | omega | rfl
    · split
      · rename_i hc
        have hlt : at_ < sz := nxt_lt (fun q => by rw [q] at hc; revert hc; unfold pName; split <;> decide)
        exact ⟨by show at_ ≤ at_ + 1; omega, by show at_ + 1 ≤ sz; omega, by show 1 + at_ ≤ at_ + 1; omega, fun _ a b c st => rfl, fun _ => Nat.lt_succ_self _⟩
      · split
        · rename_i hc
          have hlt : at_ < sz := nxt_lt (fun q => by rw [q] at hc; revert hc; unfold pName; split <;> decide)
          exact ⟨by show at_ ≤ at_ + 1; omega, by show at_ + 1 ≤ sz; omega, by show 1 + at_ ≤ at_ + 1; omega, fun _ a b c st => rfl, fun _ => Nat.lt_succ_self _⟩
        · split
          · rename_i hc
            have hlt : at_ < sz := nxt_lt (fun q => by rw [q] at hc; revert hc; unfold pName; split <;> decide)
            exact ⟨by show at_ ≤ at_ + 1; omega, by show at_ + 1 ≤ sz; omega, by show 1 + at_ ≤ at_ + 1; omega, fun _ a b c st => rfl, fun _ => Nat.lt_succ_self _⟩
          · dsimp only
            split
            · rename_i hc
              have hlt : at_ < sz := nxt_lt (fun q => by rw [q] at hc; exact absurd hc (by decide))
              obtain ⟨b1, b2, b3, b4, b5⟩ := ih (at_ + 1) hlt
              refine ⟨?_, b2, ?_, fun hg a b c st => ?_, fun hg => ?_⟩
              · show at_ ≤ (pPart B sz u d (at_ + 1)).2.1
                omega
              · show ((pPart B sz u d (at_ + 1)).2.2.1 ++ [((33 : Int32), (0 : Int32))]).length + at_ ≤ (pPart B sz u d (at_ + 1)).2.1
                simp only [List.length_append, List.length_cons, List.length_nil]
                omega
              · show evs a b c ((pPart B sz u d (at_ + 1)).2.2.1 ++ [((33 : Int32), (0 : Int32))]) st = _
                rw [evs_app, b4 hg]
                rfl
              · show at_ < (pPart B sz u d (at_ + 1)).2.1
                omega
            · split
              · rename_i hc
                have hlt : at_ < sz := nxt_lt (fun q => by rw [q] at hc; exact absurd hc (by decide))
                obtain ⟨b1, b2, b3, b4, b5⟩ := (pOr_ok (B := B) ih).2.2.2.2 (at_ + 1) hlt
                split
                · rename_i hc2
                  have hlt2 : (pOr B sz (pPart B sz u d) (at_ + 1)).2.1 < sz := nxt_lt (fun q => by rw [q] at hc2; exact absurd hc2.2 (by decide))
                  refine ⟨?_, ?_, ?_, fun hg a b c st => b4 hc2.1 a b c st, fun hg => ?_⟩
                  · show at_ ≤ (pOr B sz (pPart B sz u d) (at_ + 1)).2.1 + 1
                    omega
                  · exact hlt2
                  · show (pOr B sz (pPart B sz u d) (at_ + 1)).2.2.1.length + at_ ≤ (pOr B sz (pPart B sz u d) (at_ + 1)).2.1 + 1
                    omega
                  · show at_ < (pOr B sz (pPart B sz u d) (at_ + 1)).2.1 + 1
                    omega
                · exact pOk_false (by omega) b2 (by omega)
              · exact pOk_false (Nat.le_refl _) h (by show 0 + at_ ≤ at_; omega)

/-! ===== changes of a duchy's numbers ===== -/
def gMk (t : Option pV × Option pV) (P N Y H : Nat) (wa : Nat → Nat) (ro : Nat → Nat → Nat) (kd ms sn at_ ow : Nat → Nat) (tp : Nat × (Nat → Nat)) (wt : Nat × (Nat → Int32)) (z : Int32) : GH := (t, (P, N, Y, H), wa, ro, (kd, ms, sn, at_, ow), tp, wt, z)
def fup (f : Nat → Nat) (i v : Nat) : Nat → Nat := fun k => if k = i then v else f k

theorem CA_wa {g : GH} {μ : sm_Mem} {q v : Nat} (hq : q < gP g) (hP : gP g ≤ 6) (hN : gN g ≤ 10) (h : CA 1 g μ) : CA 1 (gMk g.1 (gP g) (gN g) (gY g) (gHo g) (fup (gWa g) q v) (gRo g) (gKd g) (gMs g) (gSn g) (gAt g) (gOw g) g.2.2.2.2.2.1 g.2.2.2.2.2.2.1 (gZ g)) (sm_st μ 2 q (nI v)) := by
  obtain ⟨⟨b1, b2, b3, b4, b5, b6, b7⟩, a2, a3, a4, a5, a6, a7, a8⟩ := h
  refine ⟨⟨?_, ?_, ?_, ?_, ?_, ?_, ?_⟩, ?_, ?_, ?_, ?_, ?_, ?_, ?_⟩
  · show _ = nI (gP g)
    try simp only [Nat.reduceAdd]
    rw [st_ne _ _ _ _ _ (by decide)]
    (repeat' split) <;> first | (exfalso; omega) | assumption | rfl
  · show _ = nI (gN g)
    try simp only [Nat.reduceAdd]
    rw [st_ne _ _ _ _ _ (by decide)]
    (repeat' split) <;> first | (exfalso; omega) | assumption | rfl
  · show _ = nI (gY g)
    try simp only [Nat.reduceAdd]
    rw [st_ne _ _ _ _ _ (by decide)]
    (repeat' split) <;> first | (exfalso; omega) | assumption | rfl
  · show _ = nI (gHo g)
    try simp only [Nat.reduceAdd]
    rw [st_ne _ _ _ _ _ (by decide)]
    (repeat' split) <;> first | (exfalso; omega) | assumption | rfl
  · show _ = nI g.2.2.2.2.2.1.1
    try simp only [Nat.reduceAdd]
    rw [st_ne _ _ _ _ _ (by decide)]
    (repeat' split) <;> first | (exfalso; omega) | assumption | rfl
  · show _ = nI g.2.2.2.2.2.2.1.1
    try simp only [Nat.reduceAdd]
    rw [st_ne _ _ _ _ _ (by decide)]
    (repeat' split) <;> first | (exfalso; omega) | assumption | rfl
  · show _ = (gZ g)
    try simp only [Nat.reduceAdd]
    rw [st_ne _ _ _ _ _ (by decide)]
    (repeat' split) <;> first | (exfalso; omega) | assumption | rfl
  · intro p hp
    have hp : p < (gP g) := hp
    show _ = nI ((fup (gWa g) q v) p)
    unfold fup
    try simp only [Nat.reduceAdd]
    rw [st_same]
    (repeat' split) <;> first | (exfalso; omega) | rfl | exact a2 p (by omega)
  · intro a b ha hb
    show _ = nI (if a < (gP g) ∧ b < (gP g) then (gRo g) a b else 0)
    have h3 := a3 a b ha hb
    try simp only [Nat.reduceAdd]
    rw [st_ne _ _ _ _ _ (by decide)]
    first | exact h3 | ((repeat' split at h3) <;> (repeat' split) <;> first | (exfalso; omega) | assumption | rfl)
  · intro i hi
    have hi : i < (gN g) := hi
    refine ⟨?_, ?_, ?_, ?_, ?_⟩
    · show _ = nI ((gKd g) i)
      skip
      try simp only [Nat.reduceAdd]
      rw [st_ne _ _ _ _ _ (by decide)]
      (repeat' split) <;> first | (exfalso; omega) | rfl | exact (a4 i (by omega)).1
    · show _ = nI ((gMs g) i)
      skip
      try simp only [Nat.reduceAdd]
      rw [st_ne _ _ _ _ _ (by decide)]
      (repeat' split) <;> first | (exfalso; omega) | rfl | exact (a4 i (by omega)).2.1
    · show _ = nI ((gSn g) i)
      skip
      try simp only [Nat.reduceAdd]
      rw [st_ne _ _ _ _ _ (by decide)]
      (repeat' split) <;> first | (exfalso; omega) | rfl | exact (a4 i (by omega)).2.2.1
    · show _ = nI ((gAt g) i)
      skip
      try simp only [Nat.reduceAdd]
      rw [st_ne _ _ _ _ _ (by decide)]
      (repeat' split) <;> first | (exfalso; omega) | rfl | exact (a4 i (by omega)).2.2.2.1
    · show _ = nI ((gOw g) i)
      skip
      try simp only [Nat.reduceAdd]
      rw [st_ne _ _ _ _ _ (by decide)]
      (repeat' split) <;> first | (exfalso; omega) | rfl | exact (a4 i (by omega)).2.2.2.2
  · intro i hi
    have hi : i < g.2.2.2.2.2.1.1 := hi
    show _ = nI (g.2.2.2.2.2.1.2 i)
    try simp only [Nat.reduceAdd]
    rw [st_ne _ _ _ _ _ (by decide)]
    (repeat' split) <;> first | (exfalso; omega) | rfl | exact a5 i (by omega)
  · intro i hi
    have hi : i < g.2.2.2.2.2.2.1.1 := hi
    show _ = g.2.2.2.2.2.2.1.2 i
    try simp only [Nat.reduceAdd]
    rw [st_ne _ _ _ _ _ (by decide)]
    (repeat' split) <;> first | (exfalso; omega) | rfl | exact a6 i (by omega)
  · exact TX_fr a7 (by rw [st_ne _ _ _ _ _ (by decide)]) (by rw [st_ne _ _ _ _ _ (by decide)]) (by rw [st_ne _ _ _ _ _ (by decide)])
  · exact TX_fr a8 (by rw [st_ne _ _ _ _ _ (by decide)]) (by rw [st_ne _ _ _ _ _ (by decide)]) (by rw [st_ne _ _ _ _ _ (by decide)])
theorem MA_wa {g : GH} {μ : sm_Mem} {q v : Nat} (hq : q < gP g) (hP : gP g ≤ 6) (hN : gN g ≤ 10) (h : MA 62 g μ) : MA 62 (gMk g.1 (gP g) (gN g) (gY g) (gHo g) (fup (gWa g) q v) (gRo g) (gKd g) (gMs g) (gSn g) (gAt g) (gOw g) g.2.2.2.2.2.1 g.2.2.2.2.2.2.1 (gZ g)) (sm_st μ 62 (9 + q) (nI v)) := by
  obtain ⟨⟨b1, b2, b3, b4, b5, b6, b7⟩, a2, a3, a4, a5, a6, a7, a8⟩ := h
  refine ⟨⟨?_, ?_, ?_, ?_, ?_, ?_, ?_⟩, ?_, ?_, ?_, ?_, ?_, ?_, ?_⟩
  · show _ = nI (gP g)
    first | (simp only [st_rd, if_true, if_false]; done) | (simp only [st_rd, if_true, if_false]; (repeat' split) <;> first | (exfalso; omega) | assumption | rfl)
  · show _ = nI (gN g)
    first | (simp only [st_rd, if_true, if_false]; done) | (simp only [st_rd, if_true, if_false]; (repeat' split) <;> first | (exfalso; omega) | assumption | rfl)
  · show _ = nI (gY g)
    first | (simp only [st_rd, if_true, if_false]; done) | (simp only [st_rd, if_true, if_false]; (repeat' split) <;> first | (exfalso; omega) | assumption | rfl)
  · show _ = nI (gHo g)
    first | (simp only [st_rd, if_true, if_false]; done) | (simp only [st_rd, if_true, if_false]; (repeat' split) <;> first | (exfalso; omega) | assumption | rfl)
  · show _ = nI g.2.2.2.2.2.1.1
    first | (simp only [st_rd, if_true, if_false]; done) | (simp only [st_rd, if_true, if_false]; (repeat' split) <;> first | (exfalso; omega) | assumption | rfl)
  · show _ = nI g.2.2.2.2.2.2.1.1
    first | (simp only [st_rd, if_true, if_false]; done) | (simp only [st_rd, if_true, if_false]; (repeat' split) <;> first | (exfalso; omega) | assumption | rfl)
  · show _ = (gZ g)
    first | (simp only [st_rd, if_true, if_false]; done) | (simp only [st_rd, if_true, if_false]; (repeat' split) <;> first | (exfalso; omega) | assumption | rfl)
  · intro p hp
    have hp : p < (gP g) := hp
    show _ = nI ((fup (gWa g) q v) p)
    unfold fup
    first | (simp only [st_rd, if_true, if_false]; done) | (simp only [st_rd, if_true, if_false]; (repeat' split) <;> first | (exfalso; omega) | rfl | exact a2 p (by omega))
  · intro a b ha hb
    have ha : a < (gP g) := ha
    have hb : b < (gP g) := hb
    show _ = nI ((gRo g) a b)
    first | (simp only [st_rd, if_true, if_false]; done) | (simp only [st_rd, if_true, if_false]; (repeat' split) <;> first | (exfalso; omega) | rfl | exact a3 a b (by omega) (by omega))
  · intro i hi
    have hi : i < (gN g) := hi
    refine ⟨?_, ?_, ?_, ?_, ?_⟩
    · show _ = nI ((gKd g) i)
      skip
      first | (simp only [st_rd, if_true, if_false]; done) | (simp only [st_rd, if_true, if_false]; (repeat' split) <;> first | (exfalso; omega) | rfl | exact (a4 i (by omega)).1)
    · show _ = nI ((gMs g) i)
      skip
      first | (simp only [st_rd, if_true, if_false]; done) | (simp only [st_rd, if_true, if_false]; (repeat' split) <;> first | (exfalso; omega) | rfl | exact (a4 i (by omega)).2.1)
    · show _ = nI ((gSn g) i)
      skip
      first | (simp only [st_rd, if_true, if_false]; done) | (simp only [st_rd, if_true, if_false]; (repeat' split) <;> first | (exfalso; omega) | rfl | exact (a4 i (by omega)).2.2.1)
    · show _ = nI ((gAt g) i)
      skip
      first | (simp only [st_rd, if_true, if_false]; done) | (simp only [st_rd, if_true, if_false]; (repeat' split) <;> first | (exfalso; omega) | rfl | exact (a4 i (by omega)).2.2.2.1)
    · show _ = nI ((gOw g) i)
      skip
      first | (simp only [st_rd, if_true, if_false]; done) | (simp only [st_rd, if_true, if_false]; (repeat' split) <;> first | (exfalso; omega) | rfl | exact (a4 i (by omega)).2.2.2.2)
  · intro i hi
    have hi : i < g.2.2.2.2.2.1.1 := hi
    show _ = nI (g.2.2.2.2.2.1.2 i)
    first | (simp only [st_rd, if_true, if_false]; done) | (simp only [st_rd, if_true, if_false]; (repeat' split) <;> first | (exfalso; omega) | rfl | exact a5 i (by omega))
  · intro i hi
    have hi : i < g.2.2.2.2.2.2.1.1 := hi
    show _ = g.2.2.2.2.2.2.1.2 i
    first | (simp only [st_rd, if_true, if_false]; done) | (simp only [st_rd, if_true, if_false]; (repeat' split) <;> first | (exfalso; omega) | rfl | exact a6 i (by omega))
  · exact TM_st (by omega) (a7) (by omega) (by omega)
  · exact TM_st (by omega) (a8) (by omega) (by omega)
theorem CA_y {g : GH} {μ : sm_Mem} {v : Nat} (hP : gP g ≤ 6) (hN : gN g ≤ 10) (h : CA 1 g μ) : CA 1 (gMk g.1 (gP g) (gN g) v (gHo g) (gWa g) (gRo g) (gKd g) (gMs g) (gSn g) (gAt g) (gOw g) g.2.2.2.2.2.1 g.2.2.2.2.2.2.1 (gZ g)) (sm_st μ 1 13 (nI v)) := by
  obtain ⟨⟨b1, b2, b3, b4, b5, b6, b7⟩, a2, a3, a4, a5, a6, a7, a8⟩ := h
  refine ⟨⟨?_, ?_, ?_, ?_, ?_, ?_, ?_⟩, ?_, ?_, ?_, ?_, ?_, ?_, ?_⟩
  · show _ = nI (gP g)
    try simp only [Nat.reduceAdd]
    rw [st_same]
    (repeat' split) <;> first | (exfalso; omega) | assumption | rfl
  · show _ = nI (gN g)
    try simp only [Nat.reduceAdd]
    rw [st_same]
    (repeat' split) <;> first | (exfalso; omega) | assumption | rfl
  · show _ = nI v
    try simp only [Nat.reduceAdd]
    rw [st_same]
    (repeat' split) <;> first | (exfalso; omega) | assumption | rfl
  · show _ = nI (gHo g)
    try simp only [Nat.reduceAdd]
    rw [st_same]
    (repeat' split) <;> first | (exfalso; omega) | assumption | rfl
  · show _ = nI g.2.2.2.2.2.1.1
    try simp only [Nat.reduceAdd]
    rw [st_same]
    (repeat' split) <;> first | (exfalso; omega) | assumption | rfl
  · show _ = nI g.2.2.2.2.2.2.1.1
    try simp only [Nat.reduceAdd]
    rw [st_same]
    (repeat' split) <;> first | (exfalso; omega) | assumption | rfl
  · show _ = (gZ g)
    try simp only [Nat.reduceAdd]
    rw [st_same]
    (repeat' split) <;> first | (exfalso; omega) | assumption | rfl
  · intro p hp
    have hp : p < (gP g) := hp
    show _ = nI ((gWa g) p)
    skip
    try simp only [Nat.reduceAdd]
    rw [st_ne _ _ _ _ _ (by decide)]
    (repeat' split) <;> first | (exfalso; omega) | rfl | exact a2 p (by omega)
  · intro a b ha hb
    show _ = nI (if a < (gP g) ∧ b < (gP g) then (gRo g) a b else 0)
    have h3 := a3 a b ha hb
    try simp only [Nat.reduceAdd]
    rw [st_ne _ _ _ _ _ (by decide)]
    first | exact h3 | ((repeat' split at h3) <;> (repeat' split) <;> first | (exfalso; omega) | assumption | rfl)
  · intro i hi
    have hi : i < (gN g) := hi
    refine ⟨?_, ?_, ?_, ?_, ?_⟩
    · show _ = nI ((gKd g) i)
      skip
      try simp only [Nat.reduceAdd]
      rw [st_ne _ _ _ _ _ (by decide)]
      (repeat' split) <;> first | (exfalso; omega) | rfl | exact (a4 i (by omega)).1
    · show _ = nI ((gMs g) i)
      skip
      try simp only [Nat.reduceAdd]
      rw [st_ne _ _ _ _ _ (by decide)]
      (repeat' split) <;> first | (exfalso; omega) | rfl | exact (a4 i (by omega)).2.1
    · show _ = nI ((gSn g) i)
      skip
      try simp only [Nat.reduceAdd]
      rw [st_ne _ _ _ _ _ (by decide)]
      (repeat' split) <;> first | (exfalso; omega) | rfl | exact (a4 i (by omega)).2.2.1
    · show _ = nI ((gAt g) i)
      skip
      try simp only [Nat.reduceAdd]
      rw [st_ne _ _ _ _ _ (by decide)]
      (repeat' split) <;> first | (exfalso; omega) | rfl | exact (a4 i (by omega)).2.2.2.1
    · show _ = nI ((gOw g) i)
      skip
      try simp only [Nat.reduceAdd]
      rw [st_ne _ _ _ _ _ (by decide)]
      (repeat' split) <;> first | (exfalso; omega) | rfl | exact (a4 i (by omega)).2.2.2.2
  · intro i hi
    have hi : i < g.2.2.2.2.2.1.1 := hi
    show _ = nI (g.2.2.2.2.2.1.2 i)
    try simp only [Nat.reduceAdd]
    rw [st_ne _ _ _ _ _ (by decide)]
    (repeat' split) <;> first | (exfalso; omega) | rfl | exact a5 i (by omega)
  · intro i hi
    have hi : i < g.2.2.2.2.2.2.1.1 := hi
    show _ = g.2.2.2.2.2.2.1.2 i
    try simp only [Nat.reduceAdd]
    rw [st_ne _ _ _ _ _ (by decide)]
    (repeat' split) <;> first | (exfalso; omega) | rfl | exact a6 i (by omega)
  · exact TX_fr a7 (by rw [st_ne _ _ _ _ _ (by decide)]) (by rw [st_ne _ _ _ _ _ (by decide)]) (by rw [st_ne _ _ _ _ _ (by decide)])
  · exact TX_fr a8 (by rw [st_ne _ _ _ _ _ (by decide)]) (by rw [st_ne _ _ _ _ _ (by decide)]) (by rw [st_ne _ _ _ _ _ (by decide)])
theorem MA_y {g : GH} {μ : sm_Mem} {v : Nat} (hP : gP g ≤ 6) (hN : gN g ≤ 10) (h : MA 62 g μ) : MA 62 (gMk g.1 (gP g) (gN g) v (gHo g) (gWa g) (gRo g) (gKd g) (gMs g) (gSn g) (gAt g) (gOw g) g.2.2.2.2.2.1 g.2.2.2.2.2.2.1 (gZ g)) (sm_st μ 62 8 (nI v)) := by
  obtain ⟨⟨b1, b2, b3, b4, b5, b6, b7⟩, a2, a3, a4, a5, a6, a7, a8⟩ := h
  refine ⟨⟨?_, ?_, ?_, ?_, ?_, ?_, ?_⟩, ?_, ?_, ?_, ?_, ?_, ?_, ?_⟩
  · show _ = nI (gP g)
    first | (simp only [st_rd, if_true, if_false]; done) | (simp only [st_rd, if_true, if_false]; (repeat' split) <;> first | (exfalso; omega) | assumption | rfl)
  · show _ = nI (gN g)
    first | (simp only [st_rd, if_true, if_false]; done) | (simp only [st_rd, if_true, if_false]; (repeat' split) <;> first | (exfalso; omega) | assumption | rfl)
  · show _ = nI v
    first | (simp only [st_rd, if_true, if_false]; done) | (simp only [st_rd, if_true, if_false]; (repeat' split) <;> first | (exfalso; omega) | assumption | rfl)
  · show _ = nI (gHo g)
    first | (simp only [st_rd, if_true, if_false]; done) | (simp only [st_rd, if_true, if_false]; (repeat' split) <;> first | (exfalso; omega) | assumption | rfl)
  · show _ = nI g.2.2.2.2.2.1.1
    first | (simp only [st_rd, if_true, if_false]; done) | (simp only [st_rd, if_true, if_false]; (repeat' split) <;> first | (exfalso; omega) | assumption | rfl)
  · show _ = nI g.2.2.2.2.2.2.1.1
    first | (simp only [st_rd, if_true, if_false]; done) | (simp only [st_rd, if_true, if_false]; (repeat' split) <;> first | (exfalso; omega) | assumption | rfl)
  · show _ = (gZ g)
    first | (simp only [st_rd, if_true, if_false]; done) | (simp only [st_rd, if_true, if_false]; (repeat' split) <;> first | (exfalso; omega) | assumption | rfl)
  · intro p hp
    have hp : p < (gP g) := hp
    show _ = nI ((gWa g) p)
    skip
    first | (simp only [st_rd, if_true, if_false]; done) | (simp only [st_rd, if_true, if_false]; (repeat' split) <;> first | (exfalso; omega) | rfl | exact a2 p (by omega))
  · intro a b ha hb
    have ha : a < (gP g) := ha
    have hb : b < (gP g) := hb
    show _ = nI ((gRo g) a b)
    first | (simp only [st_rd, if_true, if_false]; done) | (simp only [st_rd, if_true, if_false]; (repeat' split) <;> first | (exfalso; omega) | rfl | exact a3 a b (by omega) (by omega))
  · intro i hi
    have hi : i < (gN g) := hi
    refine ⟨?_, ?_, ?_, ?_, ?_⟩
    · show _ = nI ((gKd g) i)
      skip
      first | (simp only [st_rd, if_true, if_false]; done) | (simp only [st_rd, if_true, if_false]; (repeat' split) <;> first | (exfalso; omega) | rfl | exact (a4 i (by omega)).1)
    · show _ = nI ((gMs g) i)
      skip
      first | (simp only [st_rd, if_true, if_false]; done) | (simp only [st_rd, if_true, if_false]; (repeat' split) <;> first | (exfalso; omega) | rfl | exact (a4 i (by omega)).2.1)
    · show _ = nI ((gSn g) i)
      skip
      first | (simp only [st_rd, if_true, if_false]; done) | (simp only [st_rd, if_true, if_false]; (repeat' split) <;> first | (exfalso; omega) | rfl | exact (a4 i (by omega)).2.2.1)
    · show _ = nI ((gAt g) i)
      skip
      first | (simp only [st_rd, if_true, if_false]; done) | (simp only [st_rd, if_true, if_false]; (repeat' split) <;> first | (exfalso; omega) | rfl | exact (a4 i (by omega)).2.2.2.1)
    · show _ = nI ((gOw g) i)
      skip
      first | (simp only [st_rd, if_true, if_false]; done) | (simp only [st_rd, if_true, if_false]; (repeat' split) <;> first | (exfalso; omega) | rfl | exact (a4 i (by omega)).2.2.2.2)
  · intro i hi
    have hi : i < g.2.2.2.2.2.1.1 := hi
    show _ = nI (g.2.2.2.2.2.1.2 i)
    first | (simp only [st_rd, if_true, if_false]; done) | (simp only [st_rd, if_true, if_false]; (repeat' split) <;> first | (exfalso; omega) | rfl | exact a5 i (by omega))
  · intro i hi
    have hi : i < g.2.2.2.2.2.2.1.1 := hi
    show _ = g.2.2.2.2.2.2.1.2 i
    first | (simp only [st_rd, if_true, if_false]; done) | (simp only [st_rd, if_true, if_false]; (repeat' split) <;> first | (exfalso; omega) | rfl | exact a6 i (by omega))
  · exact TM_st (by omega) (a7) (by omega) (by omega)
  · exact TM_st (by omega) (a8) (by omega) (by omega)
theorem CA_z {g : GH} {μ : sm_Mem} {v : Int32} (hP : gP g ≤ 6) (hN : gN g ≤ 10) (h : CA 1 g μ) : CA 1 (gMk g.1 (gP g) (gN g) (gY g) (gHo g) (gWa g) (gRo g) (gKd g) (gMs g) (gSn g) (gAt g) (gOw g) g.2.2.2.2.2.1 g.2.2.2.2.2.2.1 v) (sm_st μ 1 17 v) := by
  obtain ⟨⟨b1, b2, b3, b4, b5, b6, b7⟩, a2, a3, a4, a5, a6, a7, a8⟩ := h
  refine ⟨⟨?_, ?_, ?_, ?_, ?_, ?_, ?_⟩, ?_, ?_, ?_, ?_, ?_, ?_, ?_⟩
  · show _ = nI (gP g)
    try simp only [Nat.reduceAdd]
    rw [st_same]
    (repeat' split) <;> first | (exfalso; omega) | assumption | rfl
  · show _ = nI (gN g)
    try simp only [Nat.reduceAdd]
    rw [st_same]
    (repeat' split) <;> first | (exfalso; omega) | assumption | rfl
  · show _ = nI (gY g)
    try simp only [Nat.reduceAdd]
    rw [st_same]
    (repeat' split) <;> first | (exfalso; omega) | assumption | rfl
  · show _ = nI (gHo g)
    try simp only [Nat.reduceAdd]
    rw [st_same]
    (repeat' split) <;> first | (exfalso; omega) | assumption | rfl
  · show _ = nI g.2.2.2.2.2.1.1
    try simp only [Nat.reduceAdd]
    rw [st_same]
    (repeat' split) <;> first | (exfalso; omega) | assumption | rfl
  · show _ = nI g.2.2.2.2.2.2.1.1
    try simp only [Nat.reduceAdd]
    rw [st_same]
    (repeat' split) <;> first | (exfalso; omega) | assumption | rfl
  · show _ = v
    try simp only [Nat.reduceAdd]
    rw [st_same]
    (repeat' split) <;> first | (exfalso; omega) | assumption | rfl
  · intro p hp
    have hp : p < (gP g) := hp
    show _ = nI ((gWa g) p)
    skip
    try simp only [Nat.reduceAdd]
    rw [st_ne _ _ _ _ _ (by decide)]
    (repeat' split) <;> first | (exfalso; omega) | rfl | exact a2 p (by omega)
  · intro a b ha hb
    show _ = nI (if a < (gP g) ∧ b < (gP g) then (gRo g) a b else 0)
    have h3 := a3 a b ha hb
    try simp only [Nat.reduceAdd]
    rw [st_ne _ _ _ _ _ (by decide)]
    first | exact h3 | ((repeat' split at h3) <;> (repeat' split) <;> first | (exfalso; omega) | assumption | rfl)
  · intro i hi
    have hi : i < (gN g) := hi
    refine ⟨?_, ?_, ?_, ?_, ?_⟩
    · show _ = nI ((gKd g) i)
      skip
      try simp only [Nat.reduceAdd]
      rw [st_ne _ _ _ _ _ (by decide)]
      (repeat' split) <;> first | (exfalso; omega) | rfl | exact (a4 i (by omega)).1
    · show _ = nI ((gMs g) i)
      skip
      try simp only [Nat.reduceAdd]
      rw [st_ne _ _ _ _ _ (by decide)]
      (repeat' split) <;> first | (exfalso; omega) | rfl | exact (a4 i (by omega)).2.1
    · show _ = nI ((gSn g) i)
      skip
      try simp only [Nat.reduceAdd]
      rw [st_ne _ _ _ _ _ (by decide)]
      (repeat' split) <;> first | (exfalso; omega) | rfl | exact (a4 i (by omega)).2.2.1
    · show _ = nI ((gAt g) i)
      skip
      try simp only [Nat.reduceAdd]
      rw [st_ne _ _ _ _ _ (by decide)]
      (repeat' split) <;> first | (exfalso; omega) | rfl | exact (a4 i (by omega)).2.2.2.1
    · show _ = nI ((gOw g) i)
      skip
      try simp only [Nat.reduceAdd]
      rw [st_ne _ _ _ _ _ (by decide)]
      (repeat' split) <;> first | (exfalso; omega) | rfl | exact (a4 i (by omega)).2.2.2.2
  · intro i hi
    have hi : i < g.2.2.2.2.2.1.1 := hi
    show _ = nI (g.2.2.2.2.2.1.2 i)
    try simp only [Nat.reduceAdd]
    rw [st_ne _ _ _ _ _ (by decide)]
    (repeat' split) <;> first | (exfalso; omega) | rfl | exact a5 i (by omega)
  · intro i hi
    have hi : i < g.2.2.2.2.2.2.1.1 := hi
    show _ = g.2.2.2.2.2.2.1.2 i
    try simp only [Nat.reduceAdd]
    rw [st_ne _ _ _ _ _ (by decide)]
    (repeat' split) <;> first | (exfalso; omega) | rfl | exact a6 i (by omega)
  · exact TX_fr a7 (by rw [st_ne _ _ _ _ _ (by decide)]) (by rw [st_ne _ _ _ _ _ (by decide)]) (by rw [st_ne _ _ _ _ _ (by decide)])
  · exact TX_fr a8 (by rw [st_ne _ _ _ _ _ (by decide)]) (by rw [st_ne _ _ _ _ _ (by decide)]) (by rw [st_ne _ _ _ _ _ (by decide)])
theorem MA_z {g : GH} {μ : sm_Mem} {v : Int32} (hP : gP g ≤ 6) (hN : gN g ≤ 10) (h : MA 62 g μ) : MA 62 (gMk g.1 (gP g) (gN g) (gY g) (gHo g) (gWa g) (gRo g) (gKd g) (gMs g) (gSn g) (gAt g) (gOw g) g.2.2.2.2.2.1 g.2.2.2.2.2.2.1 v) (sm_st μ 62 1 v) := by
  obtain ⟨⟨b1, b2, b3, b4, b5, b6, b7⟩, a2, a3, a4, a5, a6, a7, a8⟩ := h
  refine ⟨⟨?_, ?_, ?_, ?_, ?_, ?_, ?_⟩, ?_, ?_, ?_, ?_, ?_, ?_, ?_⟩
  · show _ = nI (gP g)
    first | (simp only [st_rd, if_true, if_false]; done) | (simp only [st_rd, if_true, if_false]; (repeat' split) <;> first | (exfalso; omega) | assumption | rfl)
  · show _ = nI (gN g)
    first | (simp only [st_rd, if_true, if_false]; done) | (simp only [st_rd, if_true, if_false]; (repeat' split) <;> first | (exfalso; omega) | assumption | rfl)
  · show _ = nI (gY g)
    first | (simp only [st_rd, if_true, if_false]; done) | (simp only [st_rd, if_true, if_false]; (repeat' split) <;> first | (exfalso; omega) | assumption | rfl)
  · show _ = nI (gHo g)
    first | (simp only [st_rd, if_true, if_false]; done) | (simp only [st_rd, if_true, if_false]; (repeat' split) <;> first | (exfalso; omega) | assumption | rfl)
  · show _ = nI g.2.2.2.2.2.1.1
    first | (simp only [st_rd, if_true, if_false]; done) | (simp only [st_rd, if_true, if_false]; (repeat' split) <;> first | (exfalso; omega) | assumption | rfl)
  · show _ = nI g.2.2.2.2.2.2.1.1
    first | (simp only [st_rd, if_true, if_false]; done) | (simp only [st_rd, if_true, if_false]; (repeat' split) <;> first | (exfalso; omega) | assumption | rfl)
  · show _ = v
    first | (simp only [st_rd, if_true, if_false]; done) | (simp only [st_rd, if_true, if_false]; (repeat' split) <;> first | (exfalso; omega) | assumption | rfl)
  · intro p hp
    have hp : p < (gP g) := hp
    show _ = nI ((gWa g) p)
    skip
    first | (simp only [st_rd, if_true, if_false]; done) | (simp only [st_rd, if_true, if_false]; (repeat' split) <;> first | (exfalso; omega) | rfl | exact a2 p (by omega))
  · intro a b ha hb
    have ha : a < (gP g) := ha
    have hb : b < (gP g) := hb
    show _ = nI ((gRo g) a b)
    first | (simp only [st_rd, if_true, if_false]; done) | (simp only [st_rd, if_true, if_false]; (repeat' split) <;> first | (exfalso; omega) | rfl | exact a3 a b (by omega) (by omega))
  · intro i hi
    have hi : i < (gN g) := hi
    refine ⟨?_, ?_, ?_, ?_, ?_⟩
    · show _ = nI ((gKd g) i)
      skip
      first | (simp only [st_rd, if_true, if_false]; done) | (simp only [st_rd, if_true, if_false]; (repeat' split) <;> first | (exfalso; omega) | rfl | exact (a4 i (by omega)).1)
    · show _ = nI ((gMs g) i)
      skip
      first | (simp only [st_rd, if_true, if_false]; done) | (simp only [st_rd, if_true, if_false]; (repeat' split) <;> first | (exfalso; omega) | rfl | exact (a4 i (by omega)).2.1)
    · show _ = nI ((gSn g) i)
      skip
      first | (simp only [st_rd, if_true, if_false]; done) | (simp only [st_rd, if_true, if_false]; (repeat' split) <;> first | (exfalso; omega) | rfl | exact (a4 i (by omega)).2.2.1)
    · show _ = nI ((gAt g) i)
      skip
      first | (simp only [st_rd, if_true, if_false]; done) | (simp only [st_rd, if_true, if_false]; (repeat' split) <;> first | (exfalso; omega) | rfl | exact (a4 i (by omega)).2.2.2.1)
    · show _ = nI ((gOw g) i)
      skip
      first | (simp only [st_rd, if_true, if_false]; done) | (simp only [st_rd, if_true, if_false]; (repeat' split) <;> first | (exfalso; omega) | rfl | exact (a4 i (by omega)).2.2.2.2)
  · intro i hi
    have hi : i < g.2.2.2.2.2.1.1 := hi
    show _ = nI (g.2.2.2.2.2.1.2 i)
    first | (simp only [st_rd, if_true, if_false]; done) | (simp only [st_rd, if_true, if_false]; (repeat' split) <;> first | (exfalso; omega) | rfl | exact a5 i (by omega))
  · intro i hi
    have hi : i < g.2.2.2.2.2.2.1.1 := hi
    show _ = g.2.2.2.2.2.2.1.2 i
    first | (simp only [st_rd, if_true, if_false]; done) | (simp only [st_rd, if_true, if_false]; (repeat' split) <;> first | (exfalso; omega) | rfl | exact a6 i (by omega))
  · exact TM_st (by omega) (a7) (by omega) (by omega)
  · exact TM_st (by omega) (a8) (by omega) (by omega)
theorem CA_sn {g : GH} {μ : sm_Mem} {q v : Nat} (hq : q < gN g) (hP : gP g ≤ 6) (hN : gN g ≤ 10) (h : CA 1 g μ) : CA 1 (gMk g.1 (gP g) (gN g) (gY g) (gHo g) (gWa g) (gRo g) (gKd g) (gMs g) (fup (gSn g) q v) (gAt g) (gOw g) g.2.2.2.2.2.1 g.2.2.2.2.2.2.1 (gZ g)) (sm_st μ 6 q (nI v)) := by
  obtain ⟨⟨b1, b2, b3, b4, b5, b6, b7⟩, a2, a3, a4, a5, a6, a7, a8⟩ := h
  refine ⟨⟨?_, ?_, ?_, ?_, ?_, ?_, ?_⟩, ?_, ?_, ?_, ?_, ?_, ?_, ?_⟩
  · show _ = nI (gP g)
    try simp only [Nat.reduceAdd]
    rw [st_ne _ _ _ _ _ (by decide)]
    (repeat' split) <;> first | (exfalso; omega) | assumption | rfl
  · show _ = nI (gN g)
    try simp only [Nat.reduceAdd]
    rw [st_ne _ _ _ _ _ (by decide)]
    (repeat' split) <;> first | (exfalso; omega) | assumption | rfl
  · show _ = nI (gY g)
    try simp only [Nat.reduceAdd]
    rw [st_ne _ _ _ _ _ (by decide)]
    (repeat' split) <;> first | (exfalso; omega) | assumption | rfl
  · show _ = nI (gHo g)
    try simp only [Nat.reduceAdd]
    rw [st_ne _ _ _ _ _ (by decide)]
    (repeat' split) <;> first | (exfalso; omega) | assumption | rfl
  · show _ = nI g.2.2.2.2.2.1.1
    try simp only [Nat.reduceAdd]
    rw [st_ne _ _ _ _ _ (by decide)]
    (repeat' split) <;> first | (exfalso; omega) | assumption | rfl
  · show _ = nI g.2.2.2.2.2.2.1.1
    try simp only [Nat.reduceAdd]
    rw [st_ne _ _ _ _ _ (by decide)]
    (repeat' split) <;> first | (exfalso; omega) | assumption | rfl
  · show _ = (gZ g)
    try simp only [Nat.reduceAdd]
    rw [st_ne _ _ _ _ _ (by decide)]
    (repeat' split) <;> first | (exfalso; omega) | assumption | rfl
  · intro p hp
    have hp : p < (gP g) := hp
    show _ = nI ((gWa g) p)
    skip
    try simp only [Nat.reduceAdd]
    rw [st_ne _ _ _ _ _ (by decide)]
    (repeat' split) <;> first | (exfalso; omega) | rfl | exact a2 p (by omega)
  · intro a b ha hb
    show _ = nI (if a < (gP g) ∧ b < (gP g) then (gRo g) a b else 0)
    have h3 := a3 a b ha hb
    try simp only [Nat.reduceAdd]
    rw [st_ne _ _ _ _ _ (by decide)]
    first | exact h3 | ((repeat' split at h3) <;> (repeat' split) <;> first | (exfalso; omega) | assumption | rfl)
  · intro i hi
    have hi : i < (gN g) := hi
    refine ⟨?_, ?_, ?_, ?_, ?_⟩
    · show _ = nI ((gKd g) i)
      skip
      try simp only [Nat.reduceAdd]
      rw [st_ne _ _ _ _ _ (by decide)]
      (repeat' split) <;> first | (exfalso; omega) | rfl | exact (a4 i (by omega)).1
    · show _ = nI ((gMs g) i)
      skip
      try simp only [Nat.reduceAdd]
      rw [st_ne _ _ _ _ _ (by decide)]
      (repeat' split) <;> first | (exfalso; omega) | rfl | exact (a4 i (by omega)).2.1
    · show _ = nI ((fup (gSn g) q v) i)
      unfold fup
      try simp only [Nat.reduceAdd]
      rw [st_same]
      (repeat' split) <;> first | (exfalso; omega) | rfl | exact (a4 i (by omega)).2.2.1
    · show _ = nI ((gAt g) i)
      skip
      try simp only [Nat.reduceAdd]
      rw [st_ne _ _ _ _ _ (by decide)]
      (repeat' split) <;> first | (exfalso; omega) | rfl | exact (a4 i (by omega)).2.2.2.1
    · show _ = nI ((gOw g) i)
      skip
      try simp only [Nat.reduceAdd]
      rw [st_ne _ _ _ _ _ (by decide)]
      (repeat' split) <;> first | (exfalso; omega) | rfl | exact (a4 i (by omega)).2.2.2.2
  · intro i hi
    have hi : i < g.2.2.2.2.2.1.1 := hi
    show _ = nI (g.2.2.2.2.2.1.2 i)
    try simp only [Nat.reduceAdd]
    rw [st_ne _ _ _ _ _ (by decide)]
    (repeat' split) <;> first | (exfalso; omega) | rfl | exact a5 i (by omega)
  · intro i hi
    have hi : i < g.2.2.2.2.2.2.1.1 := hi
    show _ = g.2.2.2.2.2.2.1.2 i
    try simp only [Nat.reduceAdd]
    rw [st_ne _ _ _ _ _ (by decide)]
    (repeat' split) <;> first | (exfalso; omega) | rfl | exact a6 i (by omega)
  · exact TX_fr a7 (by rw [st_ne _ _ _ _ _ (by decide)]) (by rw [st_ne _ _ _ _ _ (by decide)]) (by rw [st_ne _ _ _ _ _ (by decide)])
  · exact TX_fr a8 (by rw [st_ne _ _ _ _ _ (by decide)]) (by rw [st_ne _ _ _ _ _ (by decide)]) (by rw [st_ne _ _ _ _ _ (by decide)])
theorem MA_sn {g : GH} {μ : sm_Mem} {q v : Nat} (hq : q < gN g) (hP : gP g ≤ 6) (hN : gN g ≤ 10) (h : MA 62 g μ) : MA 62 (gMk g.1 (gP g) (gN g) (gY g) (gHo g) (gWa g) (gRo g) (gKd g) (gMs g) (fup (gSn g) q v) (gAt g) (gOw g) g.2.2.2.2.2.1 g.2.2.2.2.2.2.1 (gZ g)) (sm_st μ 62 (51 + 5 * q + 2) (nI v)) := by
  obtain ⟨⟨b1, b2, b3, b4, b5, b6, b7⟩, a2, a3, a4, a5, a6, a7, a8⟩ := h
  refine ⟨⟨?_, ?_, ?_, ?_, ?_, ?_, ?_⟩, ?_, ?_, ?_, ?_, ?_, ?_, ?_⟩
  · show _ = nI (gP g)
    first | (simp only [st_rd, if_true, if_false]; done) | (simp only [st_rd, if_true, if_false]; (repeat' split) <;> first | (exfalso; omega) | assumption | rfl)
  · show _ = nI (gN g)
    first | (simp only [st_rd, if_true, if_false]; done) | (simp only [st_rd, if_true, if_false]; (repeat' split) <;> first | (exfalso; omega) | assumption | rfl)
  · show _ = nI (gY g)
    first | (simp only [st_rd, if_true, if_false]; done) | (simp only [st_rd, if_true, if_false]; (repeat' split) <;> first | (exfalso; omega) | assumption | rfl)
  · show _ = nI (gHo g)
    first | (simp only [st_rd, if_true, if_false]; done) | (simp only [st_rd, if_true, if_false]; (repeat' split) <;> first | (exfalso; omega) | assumption | rfl)
  · show _ = nI g.2.2.2.2.2.1.1
    first | (simp only [st_rd, if_true, if_false]; done) | (simp only [st_rd, if_true, if_false]; (repeat' split) <;> first | (exfalso; omega) | assumption | rfl)
  · show _ = nI g.2.2.2.2.2.2.1.1
    first | (simp only [st_rd, if_true, if_false]; done) | (simp only [st_rd, if_true, if_false]; (repeat' split) <;> first | (exfalso; omega) | assumption | rfl)
  · show _ = (gZ g)
    first | (simp only [st_rd, if_true, if_false]; done) | (simp only [st_rd, if_true, if_false]; (repeat' split) <;> first | (exfalso; omega) | assumption | rfl)
  · intro p hp
    have hp : p < (gP g) := hp
    show _ = nI ((gWa g) p)
    skip
    first | (simp only [st_rd, if_true, if_false]; done) | (simp only [st_rd, if_true, if_false]; (repeat' split) <;> first | (exfalso; omega) | rfl | exact a2 p (by omega))
  · intro a b ha hb
    have ha : a < (gP g) := ha
    have hb : b < (gP g) := hb
    show _ = nI ((gRo g) a b)
    first | (simp only [st_rd, if_true, if_false]; done) | (simp only [st_rd, if_true, if_false]; (repeat' split) <;> first | (exfalso; omega) | rfl | exact a3 a b (by omega) (by omega))
  · intro i hi
    have hi : i < (gN g) := hi
    refine ⟨?_, ?_, ?_, ?_, ?_⟩
    · show _ = nI ((gKd g) i)
      skip
      first | (simp only [st_rd, if_true, if_false]; done) | (simp only [st_rd, if_true, if_false]; (repeat' split) <;> first | (exfalso; omega) | rfl | exact (a4 i (by omega)).1)
    · show _ = nI ((gMs g) i)
      skip
      first | (simp only [st_rd, if_true, if_false]; done) | (simp only [st_rd, if_true, if_false]; (repeat' split) <;> first | (exfalso; omega) | rfl | exact (a4 i (by omega)).2.1)
    · show _ = nI ((fup (gSn g) q v) i)
      unfold fup
      first | (simp only [st_rd, if_true, if_false]; done) | (simp only [st_rd, if_true, if_false]; (repeat' split) <;> first | (exfalso; omega) | rfl | exact (a4 i (by omega)).2.2.1)
    · show _ = nI ((gAt g) i)
      skip
      first | (simp only [st_rd, if_true, if_false]; done) | (simp only [st_rd, if_true, if_false]; (repeat' split) <;> first | (exfalso; omega) | rfl | exact (a4 i (by omega)).2.2.2.1)
    · show _ = nI ((gOw g) i)
      skip
      first | (simp only [st_rd, if_true, if_false]; done) | (simp only [st_rd, if_true, if_false]; (repeat' split) <;> first | (exfalso; omega) | rfl | exact (a4 i (by omega)).2.2.2.2)
  · intro i hi
    have hi : i < g.2.2.2.2.2.1.1 := hi
    show _ = nI (g.2.2.2.2.2.1.2 i)
    first | (simp only [st_rd, if_true, if_false]; done) | (simp only [st_rd, if_true, if_false]; (repeat' split) <;> first | (exfalso; omega) | rfl | exact a5 i (by omega))
  · intro i hi
    have hi : i < g.2.2.2.2.2.2.1.1 := hi
    show _ = g.2.2.2.2.2.2.1.2 i
    first | (simp only [st_rd, if_true, if_false]; done) | (simp only [st_rd, if_true, if_false]; (repeat' split) <;> first | (exfalso; omega) | rfl | exact a6 i (by omega))
  · exact TM_st (by omega) (a7) (by omega) (by omega)
  · exact TM_st (by omega) (a8) (by omega) (by omega)
theorem CA_at {g : GH} {μ : sm_Mem} {q v : Nat} (hq : q < gN g) (hP : gP g ≤ 6) (hN : gN g ≤ 10) (h : CA 1 g μ) : CA 1 (gMk g.1 (gP g) (gN g) (gY g) (gHo g) (gWa g) (gRo g) (gKd g) (gMs g) (gSn g) (fup (gAt g) q v) (gOw g) g.2.2.2.2.2.1 g.2.2.2.2.2.2.1 (gZ g)) (sm_st μ 7 q (nI v)) := by
  obtain ⟨⟨b1, b2, b3, b4, b5, b6, b7⟩, a2, a3, a4, a5, a6, a7, a8⟩ := h
  refine ⟨⟨?_, ?_, ?_, ?_, ?_, ?_, ?_⟩, ?_, ?_, ?_, ?_, ?_, ?_, ?_⟩
  · show _ = nI (gP g)
    try simp only [Nat.reduceAdd]
    rw [st_ne _ _ _ _ _ (by decide)]
    (repeat' split) <;> first | (exfalso; omega) | assumption | rfl
  · show _ = nI (gN g)
    try simp only [Nat.reduceAdd]
    rw [st_ne _ _ _ _ _ (by decide)]
    (repeat' split) <;> first | (exfalso; omega) | assumption | rfl
  · show _ = nI (gY g)
    try simp only [Nat.reduceAdd]
    rw [st_ne _ _ _ _ _ (by decide)]
    (repeat' split) <;> first | (exfalso; omega) | assumption | rfl
  · show _ = nI (gHo g)
    try simp only [Nat.reduceAdd]
    rw [st_ne _ _ _ _ _ (by decide)]
    (repeat' split) <;> first | (exfalso; omega) | assumption | rfl
  · show _ = nI g.2.2.2.2.2.1.1
    try simp only [Nat.reduceAdd]
    rw [st_ne _ _ _ _ _ (by decide)]
    (repeat' split) <;> first | (exfalso; omega) | assumption | rfl
  · show _ = nI g.2.2.2.2.2.2.1.1
    try simp only [Nat.reduceAdd]
    rw [st_ne _ _ _ _ _ (by decide)]
    (repeat' split) <;> first | (exfalso; omega) | assumption | rfl
  · show _ = (gZ g)
    try simp only [Nat.reduceAdd]
    rw [st_ne _ _ _ _ _ (by decide)]
    (repeat' split) <;> first | (exfalso; omega) | assumption | rfl
  · intro p hp
    have hp : p < (gP g) := hp
    show _ = nI ((gWa g) p)
    skip
    try simp only [Nat.reduceAdd]
    rw [st_ne _ _ _ _ _ (by decide)]
    (repeat' split) <;> first | (exfalso; omega) | rfl | exact a2 p (by omega)
  · intro a b ha hb
    show _ = nI (if a < (gP g) ∧ b < (gP g) then (gRo g) a b else 0)
    have h3 := a3 a b ha hb
    try simp only [Nat.reduceAdd]
    rw [st_ne _ _ _ _ _ (by decide)]
    first | exact h3 | ((repeat' split at h3) <;> (repeat' split) <;> first | (exfalso; omega) | assumption | rfl)
  · intro i hi
    have hi : i < (gN g) := hi
    refine ⟨?_, ?_, ?_, ?_, ?_⟩
    · show _ = nI ((gKd g) i)
      skip
      try simp only [Nat.reduceAdd]
      rw [st_ne _ _ _ _ _ (by decide)]
      (repeat' split) <;> first | (exfalso; omega) | rfl | exact (a4 i (by omega)).1
    · show _ = nI ((gMs g) i)
      skip
      try simp only [Nat.reduceAdd]
      rw [st_ne _ _ _ _ _ (by decide)]
      (repeat' split) <;> first | (exfalso; omega) | rfl | exact (a4 i (by omega)).2.1
    · show _ = nI ((gSn g) i)
      skip
      try simp only [Nat.reduceAdd]
      rw [st_ne _ _ _ _ _ (by decide)]
      (repeat' split) <;> first | (exfalso; omega) | rfl | exact (a4 i (by omega)).2.2.1
    · show _ = nI ((fup (gAt g) q v) i)
      unfold fup
      try simp only [Nat.reduceAdd]
      rw [st_same]
      (repeat' split) <;> first | (exfalso; omega) | rfl | exact (a4 i (by omega)).2.2.2.1
    · show _ = nI ((gOw g) i)
      skip
      try simp only [Nat.reduceAdd]
      rw [st_ne _ _ _ _ _ (by decide)]
      (repeat' split) <;> first | (exfalso; omega) | rfl | exact (a4 i (by omega)).2.2.2.2
  · intro i hi
    have hi : i < g.2.2.2.2.2.1.1 := hi
    show _ = nI (g.2.2.2.2.2.1.2 i)
    try simp only [Nat.reduceAdd]
    rw [st_ne _ _ _ _ _ (by decide)]
    (repeat' split) <;> first | (exfalso; omega) | rfl | exact a5 i (by omega)
  · intro i hi
    have hi : i < g.2.2.2.2.2.2.1.1 := hi
    show _ = g.2.2.2.2.2.2.1.2 i
    try simp only [Nat.reduceAdd]
    rw [st_ne _ _ _ _ _ (by decide)]
    (repeat' split) <;> first | (exfalso; omega) | rfl | exact a6 i (by omega)
  · exact TX_fr a7 (by rw [st_ne _ _ _ _ _ (by decide)]) (by rw [st_ne _ _ _ _ _ (by decide)]) (by rw [st_ne _ _ _ _ _ (by decide)])
  · exact TX_fr a8 (by rw [st_ne _ _ _ _ _ (by decide)]) (by rw [st_ne _ _ _ _ _ (by decide)]) (by rw [st_ne _ _ _ _ _ (by decide)])
theorem MA_at {g : GH} {μ : sm_Mem} {q v : Nat} (hq : q < gN g) (hP : gP g ≤ 6) (hN : gN g ≤ 10) (h : MA 62 g μ) : MA 62 (gMk g.1 (gP g) (gN g) (gY g) (gHo g) (gWa g) (gRo g) (gKd g) (gMs g) (gSn g) (fup (gAt g) q v) (gOw g) g.2.2.2.2.2.1 g.2.2.2.2.2.2.1 (gZ g)) (sm_st μ 62 (51 + 5 * q + 3) (nI v)) := by
  obtain ⟨⟨b1, b2, b3, b4, b5, b6, b7⟩, a2, a3, a4, a5, a6, a7, a8⟩ := h
  refine ⟨⟨?_, ?_, ?_, ?_, ?_, ?_, ?_⟩, ?_, ?_, ?_, ?_, ?_, ?_, ?_⟩
  · show _ = nI (gP g)
    first | (simp only [st_rd, if_true, if_false]; done) | (simp only [st_rd, if_true, if_false]; (repeat' split) <;> first | (exfalso; omega) | assumption | rfl)
  · show _ = nI (gN g)
    first | (simp only [st_rd, if_true, if_false]; done) | (simp only [st_rd, if_true, if_false]; (repeat' split) <;> first | (exfalso; omega) | assumption | rfl)
  · show _ = nI (gY g)
    first | (simp only [st_rd, if_true, if_false]; done) | (simp only [st_rd, if_true, if_false]; (repeat' split) <;> first | (exfalso; omega) | assumption | rfl)
  · show _ = nI (gHo g)
    first | (simp only [st_rd, if_true, if_false]; done) | (simp only [st_rd, if_true, if_false]; (repeat' split) <;> first | (exfalso; omega) | assumption | rfl)
  · show _ = nI g.2.2.2.2.2.1.1
    first | (simp only [st_rd, if_true, if_false]; done) | (simp only [st_rd, if_true, if_false]; (repeat' split) <;> first | (exfalso; omega) | assumption | rfl)
  · show _ = nI g.2.2.2.2.2.2.1.1
    first | (simp only [st_rd, if_true, if_false]; done) | (simp only [st_rd, if_true, if_false]; (repeat' split) <;> first | (exfalso; omega) | assumption | rfl)
  · show _ = (gZ g)
    first | (simp only [st_rd, if_true, if_false]; done) | (simp only [st_rd, if_true, if_false]; (repeat' split) <;> first | (exfalso; omega) | assumption | rfl)
  · intro p hp
    have hp : p < (gP g) := hp
    show _ = nI ((gWa g) p)
    skip
    first | (simp only [st_rd, if_true, if_false]; done) | (simp only [st_rd, if_true, if_false]; (repeat' split) <;> first | (exfalso; omega) | rfl | exact a2 p (by omega))
  · intro a b ha hb
    have ha : a < (gP g) := ha
    have hb : b < (gP g) := hb
    show _ = nI ((gRo g) a b)
    first | (simp only [st_rd, if_true, if_false]; done) | (simp only [st_rd, if_true, if_false]; (repeat' split) <;> first | (exfalso; omega) | rfl | exact a3 a b (by omega) (by omega))
  · intro i hi
    have hi : i < (gN g) := hi
    refine ⟨?_, ?_, ?_, ?_, ?_⟩
    · show _ = nI ((gKd g) i)
      skip
      first | (simp only [st_rd, if_true, if_false]; done) | (simp only [st_rd, if_true, if_false]; (repeat' split) <;> first | (exfalso; omega) | rfl | exact (a4 i (by omega)).1)
    · show _ = nI ((gMs g) i)
      skip
      first | (simp only [st_rd, if_true, if_false]; done) | (simp only [st_rd, if_true, if_false]; (repeat' split) <;> first | (exfalso; omega) | rfl | exact (a4 i (by omega)).2.1)
    · show _ = nI ((gSn g) i)
      skip
      first | (simp only [st_rd, if_true, if_false]; done) | (simp only [st_rd, if_true, if_false]; (repeat' split) <;> first | (exfalso; omega) | rfl | exact (a4 i (by omega)).2.2.1)
    · show _ = nI ((fup (gAt g) q v) i)
      unfold fup
      first | (simp only [st_rd, if_true, if_false]; done) | (simp only [st_rd, if_true, if_false]; (repeat' split) <;> first | (exfalso; omega) | rfl | exact (a4 i (by omega)).2.2.2.1)
    · show _ = nI ((gOw g) i)
      skip
      first | (simp only [st_rd, if_true, if_false]; done) | (simp only [st_rd, if_true, if_false]; (repeat' split) <;> first | (exfalso; omega) | rfl | exact (a4 i (by omega)).2.2.2.2)
  · intro i hi
    have hi : i < g.2.2.2.2.2.1.1 := hi
    show _ = nI (g.2.2.2.2.2.1.2 i)
    first | (simp only [st_rd, if_true, if_false]; done) | (simp only [st_rd, if_true, if_false]; (repeat' split) <;> first | (exfalso; omega) | rfl | exact a5 i (by omega))
  · intro i hi
    have hi : i < g.2.2.2.2.2.2.1.1 := hi
    show _ = g.2.2.2.2.2.2.1.2 i
    first | (simp only [st_rd, if_true, if_false]; done) | (simp only [st_rd, if_true, if_false]; (repeat' split) <;> first | (exfalso; omega) | rfl | exact a6 i (by omega))
  · exact TM_st (by omega) (a7) (by omega) (by omega)
  · exact TM_st (by omega) (a8) (by omega) (by omega)
theorem CA_ow {g : GH} {μ : sm_Mem} {q v : Nat} (hq : q < gN g) (hP : gP g ≤ 6) (hN : gN g ≤ 10) (h : CA 1 g μ) : CA 1 (gMk g.1 (gP g) (gN g) (gY g) (gHo g) (gWa g) (gRo g) (gKd g) (gMs g) (gSn g) (gAt g) (fup (gOw g) q v) g.2.2.2.2.2.1 g.2.2.2.2.2.2.1 (gZ g)) (sm_st μ 8 q (nI v)) := by
  obtain ⟨⟨b1, b2, b3, b4, b5, b6, b7⟩, a2, a3, a4, a5, a6, a7, a8⟩ := h
  refine ⟨⟨?_, ?_, ?_, ?_, ?_, ?_, ?_⟩, ?_, ?_, ?_, ?_, ?_, ?_, ?_⟩
  · show _ = nI (gP g)
    try simp only [Nat.reduceAdd]
    rw [st_ne _ _ _ _ _ (by decide)]
    (repeat' split) <;> first | (exfalso; omega) | assumption | rfl
  · show _ = nI (gN g)
    try simp only [Nat.reduceAdd]
    rw [st_ne _ _ _ _ _ (by decide)]
    (repeat' split) <;> first | (exfalso; omega) | assumption | rfl
  · show _ = nI (gY g)
    try simp only [Nat.reduceAdd]
    rw [st_ne _ _ _ _ _ (by decide)]
    (repeat' split) <;> first | (exfalso; omega) | assumption | rfl
  · show _ = nI (gHo g)
    try simp only [Nat.reduceAdd]
    rw [st_ne _ _ _ _ _ (by decide)]
    (repeat' split) <;> first | (exfalso; omega) | assumption | rfl
  · show _ = nI g.2.2.2.2.2.1.1
    try simp only [Nat.reduceAdd]
    rw [st_ne _ _ _ _ _ (by decide)]
    (repeat' split) <;> first | (exfalso; omega) | assumption | rfl
  · show _ = nI g.2.2.2.2.2.2.1.1
    try simp only [Nat.reduceAdd]
    rw [st_ne _ _ _ _ _ (by decide)]
    (repeat' split) <;> first | (exfalso; omega) | assumption | rfl
  · show _ = (gZ g)
    try simp only [Nat.reduceAdd]
    rw [st_ne _ _ _ _ _ (by decide)]
    (repeat' split) <;> first | (exfalso; omega) | assumption | rfl
  · intro p hp
    have hp : p < (gP g) := hp
    show _ = nI ((gWa g) p)
    skip
    try simp only [Nat.reduceAdd]
    rw [st_ne _ _ _ _ _ (by decide)]
    (repeat' split) <;> first | (exfalso; omega) | rfl | exact a2 p (by omega)
  · intro a b ha hb
    show _ = nI (if a < (gP g) ∧ b < (gP g) then (gRo g) a b else 0)
    have h3 := a3 a b ha hb
    try simp only [Nat.reduceAdd]
    rw [st_ne _ _ _ _ _ (by decide)]
    first | exact h3 | ((repeat' split at h3) <;> (repeat' split) <;> first | (exfalso; omega) | assumption | rfl)
  · intro i hi
    have hi : i < (gN g) := hi
    refine ⟨?_, ?_, ?_, ?_, ?_⟩
    · show _ = nI ((gKd g) i)
      skip
      try simp only [Nat.reduceAdd]
      rw [st_ne _ _ _ _ _ (by decide)]
      (repeat' split) <;> first | (exfalso; omega) | rfl | exact (a4 i (by omega)).1
    · show _ = nI ((gMs g) i)
      skip
      try simp only [Nat.reduceAdd]
      rw [st_ne _ _ _ _ _ (by decide)]
      (repeat' split) <;> first | (exfalso; omega) | rfl | exact (a4 i (by omega)).2.1
    · show _ = nI ((gSn g) i)
      skip
      try simp only [Nat.reduceAdd]
      rw [st_ne _ _ _ _ _ (by decide)]
      (repeat' split) <;> first | (exfalso; omega) | rfl | exact (a4 i (by omega)).2.2.1
    · show _ = nI ((gAt g) i)
      skip
      try simp only [Nat.reduceAdd]
      rw [st_ne _ _ _ _ _ (by decide)]
      (repeat' split) <;> first | (exfalso; omega) | rfl | exact (a4 i (by omega)).2.2.2.1
    · show _ = nI ((fup (gOw g) q v) i)
      unfold fup
      try simp only [Nat.reduceAdd]
      rw [st_same]
      (repeat' split) <;> first | (exfalso; omega) | rfl | exact (a4 i (by omega)).2.2.2.2
  · intro i hi
    have hi : i < g.2.2.2.2.2.1.1 := hi
    show _ = nI (g.2.2.2.2.2.1.2 i)
    try simp only [Nat.reduceAdd]
    rw [st_ne _ _ _ _ _ (by decide)]
    (repeat' split) <;> first | (exfalso; omega) | rfl | exact a5 i (by omega)
  · intro i hi
    have hi : i < g.2.2.2.2.2.2.1.1 := hi
    show _ = g.2.2.2.2.2.2.1.2 i
    try simp only [Nat.reduceAdd]
    rw [st_ne _ _ _ _ _ (by decide)]
    (repeat' split) <;> first | (exfalso; omega) | rfl | exact a6 i (by omega)
  · exact TX_fr a7 (by rw [st_ne _ _ _ _ _ (by decide)]) (by rw [st_ne _ _ _ _ _ (by decide)]) (by rw [st_ne _ _ _ _ _ (by decide)])
  · exact TX_fr a8 (by rw [st_ne _ _ _ _ _ (by decide)]) (by rw [st_ne _ _ _ _ _ (by decide)]) (by rw [st_ne _ _ _ _ _ (by decide)])
theorem MA_ow {g : GH} {μ : sm_Mem} {q v : Nat} (hq : q < gN g) (hP : gP g ≤ 6) (hN : gN g ≤ 10) (h : MA 62 g μ) : MA 62 (gMk g.1 (gP g) (gN g) (gY g) (gHo g) (gWa g) (gRo g) (gKd g) (gMs g) (gSn g) (gAt g) (fup (gOw g) q v) g.2.2.2.2.2.1 g.2.2.2.2.2.2.1 (gZ g)) (sm_st μ 62 (51 + 5 * q + 4) (nI v)) := by
  obtain ⟨⟨b1, b2, b3, b4, b5, b6, b7⟩, a2, a3, a4, a5, a6, a7, a8⟩ := h
  refine ⟨⟨?_, ?_, ?_, ?_, ?_, ?_, ?_⟩, ?_, ?_, ?_, ?_, ?_, ?_, ?_⟩
  · show _ = nI (gP g)
    first | (simp only [st_rd, if_true, if_false]; done) | (simp only [st_rd, if_true, if_false]; (repeat' split) <;> first | (exfalso; omega) | assumption | rfl)
  · show _ = nI (gN g)
    first | (simp only [st_rd, if_true, if_false]; done) | (simp only [st_rd, if_true, if_false]; (repeat' split) <;> first | (exfalso; omega) | assumption | rfl)
  · show _ = nI (gY g)
    first | (simp only [st_rd, if_true, if_false]; done) | (simp only [st_rd, if_true, if_false]; (repeat' split) <;> first | (exfalso; omega) | assumption | rfl)
  · show _ = nI (gHo g)
    first | (simp only [st_rd, if_true, if_false]; done) | (simp only [st_rd, if_true, if_false]; (repeat' split) <;> first | (exfalso; omega) | assumption | rfl)
  · show _ = nI g.2.2.2.2.2.1.1
    first | (simp only [st_rd, if_true, if_false]; done) | (simp only [st_rd, if_true, if_false]; (repeat' split) <;> first | (exfalso; omega) | assumption | rfl)
  · show _ = nI g.2.2.2.2.2.2.1.1
    first | (simp only [st_rd, if_true, if_false]; done) | (simp only [st_rd, if_true, if_false]; (repeat' split) <;> first | (exfalso; omega) | assumption | rfl)
  · show _ = (gZ g)
    first | (simp only [st_rd, if_true, if_false]; done) | (simp only [st_rd, if_true, if_false]; (repeat' split) <;> first | (exfalso; omega) | assumption | rfl)
  · intro p hp
    have hp : p < (gP g) := hp
    show _ = nI ((gWa g) p)
    skip
    first | (simp only [st_rd, if_true, if_false]; done) | (simp only [st_rd, if_true, if_false]; (repeat' split) <;> first | (exfalso; omega) | rfl | exact a2 p (by omega))
  · intro a b ha hb
    have ha : a < (gP g) := ha
    have hb : b < (gP g) := hb
    show _ = nI ((gRo g) a b)
    first | (simp only [st_rd, if_true, if_false]; done) | (simp only [st_rd, if_true, if_false]; (repeat' split) <;> first | (exfalso; omega) | rfl | exact a3 a b (by omega) (by omega))
  · intro i hi
    have hi : i < (gN g) := hi
    refine ⟨?_, ?_, ?_, ?_, ?_⟩
    · show _ = nI ((gKd g) i)
      skip
      first | (simp only [st_rd, if_true, if_false]; done) | (simp only [st_rd, if_true, if_false]; (repeat' split) <;> first | (exfalso; omega) | rfl | exact (a4 i (by omega)).1)
    · show _ = nI ((gMs g) i)
      skip
      first | (simp only [st_rd, if_true, if_false]; done) | (simp only [st_rd, if_true, if_false]; (repeat' split) <;> first | (exfalso; omega) | rfl | exact (a4 i (by omega)).2.1)
    · show _ = nI ((gSn g) i)
      skip
      first | (simp only [st_rd, if_true, if_false]; done) | (simp only [st_rd, if_true, if_false]; (repeat' split) <;> first | (exfalso; omega) | rfl | exact (a4 i (by omega)).2.2.1)
    · show _ = nI ((gAt g) i)
      skip
      first | (simp only [st_rd, if_true, if_false]; done) | (simp only [st_rd, if_true, if_false]; (repeat' split) <;> first | (exfalso; omega) | rfl | exact (a4 i (by omega)).2.2.2.1)
    · show _ = nI ((fup (gOw g) q v) i)
      unfold fup
      first | (simp only [st_rd, if_true, if_false]; done) | (simp only [st_rd, if_true, if_false]; (repeat' split) <;> first | (exfalso; omega) | rfl | exact (a4 i (by omega)).2.2.2.2)
  · intro i hi
    have hi : i < g.2.2.2.2.2.1.1 := hi
    show _ = nI (g.2.2.2.2.2.1.2 i)
    first | (simp only [st_rd, if_true, if_false]; done) | (simp only [st_rd, if_true, if_false]; (repeat' split) <;> first | (exfalso; omega) | rfl | exact a5 i (by omega))
  · intro i hi
    have hi : i < g.2.2.2.2.2.2.1.1 := hi
    show _ = g.2.2.2.2.2.2.1.2 i
    first | (simp only [st_rd, if_true, if_false]; done) | (simp only [st_rd, if_true, if_false]; (repeat' split) <;> first | (exfalso; omega) | rfl | exact a6 i (by omega))
  · exact TM_st (by omega) (a7) (by omega) (by omega)
  · exact TM_st (by omega) (a8) (by omega) (by omega)
theorem CA_become {g : GH} {μ : sm_Mem} {q v w : Nat} (hq : q < gN g) (hP : gP g ≤ 6) (hN : gN g ≤ 10) (h : CA 1 g μ) : CA 1 (gMk g.1 (gP g) (gN g) (gY g) (gHo g) (gWa g) (gRo g) (fup (gKd g) q v) (fup (gMs g) q w) (gSn g) (gAt g) (gOw g) g.2.2.2.2.2.1 g.2.2.2.2.2.2.1 (gZ g)) (sm_st (sm_st μ 4 q (nI v)) 5 q (nI w)) := by
  obtain ⟨⟨b1, b2, b3, b4, b5, b6, b7⟩, a2, a3, a4, a5, a6, a7, a8⟩ := h
  refine ⟨⟨?_, ?_, ?_, ?_, ?_, ?_, ?_⟩, ?_, ?_, ?_, ?_, ?_, ?_, ?_⟩
  · show _ = nI (gP g)
    try simp only [Nat.reduceAdd]
    rw [st_ne _ _ _ _ _ (by decide)]
    rw [st_ne _ _ _ _ _ (by decide)]
    (repeat' split) <;> first | (exfalso; omega) | assumption | rfl
  · show _ = nI (gN g)
    try simp only [Nat.reduceAdd]
    rw [st_ne _ _ _ _ _ (by decide)]
    rw [st_ne _ _ _ _ _ (by decide)]
    (repeat' split) <;> first | (exfalso; omega) | assumption | rfl
  · show _ = nI (gY g)
    try simp only [Nat.reduceAdd]
    rw [st_ne _ _ _ _ _ (by decide)]
    rw [st_ne _ _ _ _ _ (by decide)]
    (repeat' split) <;> first | (exfalso; omega) | assumption | rfl
  · show _ = nI (gHo g)
    try simp only [Nat.reduceAdd]
    rw [st_ne _ _ _ _ _ (by decide)]
    rw [st_ne _ _ _ _ _ (by decide)]
    (repeat' split) <;> first | (exfalso; omega) | assumption | rfl
  · show _ = nI g.2.2.2.2.2.1.1
    try simp only [Nat.reduceAdd]
    rw [st_ne _ _ _ _ _ (by decide)]
    rw [st_ne _ _ _ _ _ (by decide)]
    (repeat' split) <;> first | (exfalso; omega) | assumption | rfl
  · show _ = nI g.2.2.2.2.2.2.1.1
    try simp only [Nat.reduceAdd]
    rw [st_ne _ _ _ _ _ (by decide)]
    rw [st_ne _ _ _ _ _ (by decide)]
    (repeat' split) <;> first | (exfalso; omega) | assumption | rfl
  · show _ = (gZ g)
    try simp only [Nat.reduceAdd]
    rw [st_ne _ _ _ _ _ (by decide)]
    rw [st_ne _ _ _ _ _ (by decide)]
    (repeat' split) <;> first | (exfalso; omega) | assumption | rfl
  · intro p hp
    have hp : p < (gP g) := hp
    show _ = nI ((gWa g) p)
    skip
    try simp only [Nat.reduceAdd]
    rw [st_ne _ _ _ _ _ (by decide)]
    rw [st_ne _ _ _ _ _ (by decide)]
    (repeat' split) <;> first | (exfalso; omega) | rfl | exact a2 p (by omega)
  · intro a b ha hb
    show _ = nI (if a < (gP g) ∧ b < (gP g) then (gRo g) a b else 0)
    have h3 := a3 a b ha hb
    try simp only [Nat.reduceAdd]
    rw [st_ne _ _ _ _ _ (by decide)]
    rw [st_ne _ _ _ _ _ (by decide)]
    first | exact h3 | ((repeat' split at h3) <;> (repeat' split) <;> first | (exfalso; omega) | assumption | rfl)
  · intro i hi
    have hi : i < (gN g) := hi
    refine ⟨?_, ?_, ?_, ?_, ?_⟩
    · show _ = nI ((fup (gKd g) q v) i)
      unfold fup
      try simp only [Nat.reduceAdd]
      rw [st_ne _ _ _ _ _ (by decide)]
      rw [st_same]
      (repeat' split) <;> first | (exfalso; omega) | rfl | exact (a4 i (by omega)).1
    · show _ = nI ((fup (gMs g) q w) i)
      unfold fup
      try simp only [Nat.reduceAdd]
      rw [st_same]
      rw [st_ne _ _ _ _ _ (by decide)]
      (repeat' split) <;> first | (exfalso; omega) | rfl | exact (a4 i (by omega)).2.1
    · show _ = nI ((gSn g) i)
      skip
      try simp only [Nat.reduceAdd]
      rw [st_ne _ _ _ _ _ (by decide)]
      rw [st_ne _ _ _ _ _ (by decide)]
      (repeat' split) <;> first | (exfalso; omega) | rfl | exact (a4 i (by omega)).2.2.1
    · show _ = nI ((gAt g) i)
      skip
      try simp only [Nat.reduceAdd]
      rw [st_ne _ _ _ _ _ (by decide)]
      rw [st_ne _ _ _ _ _ (by decide)]
      (repeat' split) <;> first | (exfalso; omega) | rfl | exact (a4 i (by omega)).2.2.2.1
    · show _ = nI ((gOw g) i)
      skip
      try simp only [Nat.reduceAdd]
      rw [st_ne _ _ _ _ _ (by decide)]
      rw [st_ne _ _ _ _ _ (by decide)]
      (repeat' split) <;> first | (exfalso; omega) | rfl | exact (a4 i (by omega)).2.2.2.2
  · intro i hi
    have hi : i < g.2.2.2.2.2.1.1 := hi
    show _ = nI (g.2.2.2.2.2.1.2 i)
    try simp only [Nat.reduceAdd]
    rw [st_ne _ _ _ _ _ (by decide)]
    rw [st_ne _ _ _ _ _ (by decide)]
    (repeat' split) <;> first | (exfalso; omega) | rfl | exact a5 i (by omega)
  · intro i hi
    have hi : i < g.2.2.2.2.2.2.1.1 := hi
    show _ = g.2.2.2.2.2.2.1.2 i
    try simp only [Nat.reduceAdd]
    rw [st_ne _ _ _ _ _ (by decide)]
    rw [st_ne _ _ _ _ _ (by decide)]
    (repeat' split) <;> first | (exfalso; omega) | rfl | exact a6 i (by omega)
  · exact TX_fr a7 (by rw [st_ne _ _ _ _ _ (by decide), st_ne _ _ _ _ _ (by decide)]) (by rw [st_ne _ _ _ _ _ (by decide), st_ne _ _ _ _ _ (by decide)]) (by rw [st_ne _ _ _ _ _ (by decide), st_ne _ _ _ _ _ (by decide)])
  · exact TX_fr a8 (by rw [st_ne _ _ _ _ _ (by decide), st_ne _ _ _ _ _ (by decide)]) (by rw [st_ne _ _ _ _ _ (by decide), st_ne _ _ _ _ _ (by decide)]) (by rw [st_ne _ _ _ _ _ (by decide), st_ne _ _ _ _ _ (by decide)])
theorem MA_become {g : GH} {μ : sm_Mem} {q v w : Nat} (hq : q < gN g) (hP : gP g ≤ 6) (hN : gN g ≤ 10) (h : MA 62 g μ) : MA 62 (gMk g.1 (gP g) (gN g) (gY g) (gHo g) (gWa g) (gRo g) (fup (gKd g) q v) (fup (gMs g) q w) (gSn g) (gAt g) (gOw g) g.2.2.2.2.2.1 g.2.2.2.2.2.2.1 (gZ g)) (sm_st (sm_st μ 62 (51 + 5 * q + 1) (nI w)) 62 (51 + 5 * q) (nI v)) := by
  obtain ⟨⟨b1, b2, b3, b4, b5, b6, b7⟩, a2, a3, a4, a5, a6, a7, a8⟩ := h
  refine ⟨⟨?_, ?_, ?_, ?_, ?_, ?_, ?_⟩, ?_, ?_, ?_, ?_, ?_, ?_, ?_⟩
  · show _ = nI (gP g)
    first | (simp only [st_rd, if_true, if_false]; done) | (simp only [st_rd, if_true, if_false]; (repeat' split) <;> first | (exfalso; omega) | assumption | rfl)
  · show _ = nI (gN g)
    first | (simp only [st_rd, if_true, if_false]; done) | (simp only [st_rd, if_true, if_false]; (repeat' split) <;> first | (exfalso; omega) | assumption | rfl)
  · show _ = nI (gY g)
    first | (simp only [st_rd, if_true, if_false]; done) | (simp only [st_rd, if_true, if_false]; (repeat' split) <;> first | (exfalso; omega) | assumption | rfl)
  · show _ = nI (gHo g)
    first | (simp only [st_rd, if_true, if_false]; done) | (simp only [st_rd, if_true, if_false]; (repeat' split) <;> first | (exfalso; omega) | assumption | rfl)
  · show _ = nI g.2.2.2.2.2.1.1
    first | (simp only [st_rd, if_true, if_false]; done) | (simp only [st_rd, if_true, if_false]; (repeat' split) <;> first | (exfalso; omega) | assumption | rfl)
  · show _ = nI g.2.2.2.2.2.2.1.1
    first | (simp only [st_rd, if_true, if_false]; done) | (simp only [st_rd, if_true, if_false]; (repeat' split) <;> first | (exfalso; omega) | assumption | rfl)
  · show _ = (gZ g)
    first | (simp only [st_rd, if_true, if_false]; done) | (simp only [st_rd, if_true, if_false]; (repeat' split) <;> first | (exfalso; omega) | assumption | rfl)
  · intro p hp
    have hp : p < (gP g) := hp
    show _ = nI ((gWa g) p)
    skip
    first | (simp only [st_rd, if_true, if_false]; done) | (simp only [st_rd, if_true, if_false]; (repeat' split) <;> first | (exfalso; omega) | rfl | exact a2 p (by omega))
  · intro a b ha hb
    have ha : a < (gP g) := ha
    have hb : b < (gP g) := hb
    show _ = nI ((gRo g) a b)
    first | (simp only [st_rd, if_true, if_false]; done) | (simp only [st_rd, if_true, if_false]; (repeat' split) <;> first | (exfalso; omega) | rfl | exact a3 a b (by omega) (by omega))
  · intro i hi
    have hi : i < (gN g) := hi
    refine ⟨?_, ?_, ?_, ?_, ?_⟩
    · show _ = nI ((fup (gKd g) q v) i)
      unfold fup
      first | (simp only [st_rd, if_true, if_false]; done) | (simp only [st_rd, if_true, if_false]; (repeat' split) <;> first | (exfalso; omega) | rfl | exact (a4 i (by omega)).1)
    · show _ = nI ((fup (gMs g) q w) i)
      unfold fup
      first | (simp only [st_rd, if_true, if_false]; done) | (simp only [st_rd, if_true, if_false]; (repeat' split) <;> first | (exfalso; omega) | rfl | exact (a4 i (by omega)).2.1)
    · show _ = nI ((gSn g) i)
      skip
      first | (simp only [st_rd, if_true, if_false]; done) | (simp only [st_rd, if_true, if_false]; (repeat' split) <;> first | (exfalso; omega) | rfl | exact (a4 i (by omega)).2.2.1)
    · show _ = nI ((gAt g) i)
      skip
      first | (simp only [st_rd, if_true, if_false]; done) | (simp only [st_rd, if_true, if_false]; (repeat' split) <;> first | (exfalso; omega) | rfl | exact (a4 i (by omega)).2.2.2.1)
    · show _ = nI ((gOw g) i)
      skip
      first | (simp only [st_rd, if_true, if_false]; done) | (simp only [st_rd, if_true, if_false]; (repeat' split) <;> first | (exfalso; omega) | rfl | exact (a4 i (by omega)).2.2.2.2)
  · intro i hi
    have hi : i < g.2.2.2.2.2.1.1 := hi
    show _ = nI (g.2.2.2.2.2.1.2 i)
    first | (simp only [st_rd, if_true, if_false]; done) | (simp only [st_rd, if_true, if_false]; (repeat' split) <;> first | (exfalso; omega) | rfl | exact a5 i (by omega))
  · intro i hi
    have hi : i < g.2.2.2.2.2.2.1.1 := hi
    show _ = g.2.2.2.2.2.2.1.2 i
    first | (simp only [st_rd, if_true, if_false]; done) | (simp only [st_rd, if_true, if_false]; (repeat' split) <;> first | (exfalso; omega) | rfl | exact a6 i (by omega))
  · exact TM_st (by omega) (TM_st (by omega) (a7) (by omega) (by omega)) (by omega) (by omega)
  · exact TM_st (by omega) (TM_st (by omega) (a8) (by omega) (by omega)) (by omega) (by omega)
theorem CA_road {g : GH} {μ : sm_Mem} {a0 b0 v : Nat} (ha0 : a0 < gP g) (hb0 : b0 < gP g) (hP : gP g ≤ 6) (hN : gN g ≤ 10) (h : CA 1 g μ) : CA 1 (gMk g.1 (gP g) (gN g) (gY g) (gHo g) (gWa g) (fun x y => if (x = a0 ∧ y = b0) ∨ (x = b0 ∧ y = a0) then v else gRo g x y) (gKd g) (gMs g) (gSn g) (gAt g) (gOw g) g.2.2.2.2.2.1 g.2.2.2.2.2.2.1 (gZ g)) (sm_st (sm_st μ 3 (a0 * 6 + b0) (nI v)) 3 (b0 * 6 + a0) (nI v)) := by
  obtain ⟨⟨b1, b2, b3, b4, b5, b6, b7⟩, a2, a3, a4, a5, a6, a7, a8⟩ := h
  refine ⟨⟨?_, ?_, ?_, ?_, ?_, ?_, ?_⟩, ?_, ?_, ?_, ?_, ?_, ?_, ?_⟩
  · show _ = nI (gP g)
    try simp only [Nat.reduceAdd]
    rw [st_ne _ _ _ _ _ (by decide)]
    rw [st_ne _ _ _ _ _ (by decide)]
    (repeat' split) <;> first | (exfalso; omega) | assumption | rfl
  · show _ = nI (gN g)
    try simp only [Nat.reduceAdd]
    rw [st_ne _ _ _ _ _ (by decide)]
    rw [st_ne _ _ _ _ _ (by decide)]
    (repeat' split) <;> first | (exfalso; omega) | assumption | rfl
  · show _ = nI (gY g)
    try simp only [Nat.reduceAdd]
    rw [st_ne _ _ _ _ _ (by decide)]
    rw [st_ne _ _ _ _ _ (by decide)]
    (repeat' split) <;> first | (exfalso; omega) | assumption | rfl
  · show _ = nI (gHo g)
    try simp only [Nat.reduceAdd]
    rw [st_ne _ _ _ _ _ (by decide)]
    rw [st_ne _ _ _ _ _ (by decide)]
    (repeat' split) <;> first | (exfalso; omega) | assumption | rfl
  · show _ = nI g.2.2.2.2.2.1.1
    try simp only [Nat.reduceAdd]
    rw [st_ne _ _ _ _ _ (by decide)]
    rw [st_ne _ _ _ _ _ (by decide)]
    (repeat' split) <;> first | (exfalso; omega) | assumption | rfl
  · show _ = nI g.2.2.2.2.2.2.1.1
    try simp only [Nat.reduceAdd]
    rw [st_ne _ _ _ _ _ (by decide)]
    rw [st_ne _ _ _ _ _ (by decide)]
    (repeat' split) <;> first | (exfalso; omega) | assumption | rfl
  · show _ = (gZ g)
    try simp only [Nat.reduceAdd]
    rw [st_ne _ _ _ _ _ (by decide)]
    rw [st_ne _ _ _ _ _ (by decide)]
    (repeat' split) <;> first | (exfalso; omega) | assumption | rfl
  · intro p hp
    have hp : p < (gP g) := hp
    show _ = nI ((gWa g) p)
    skip
    try simp only [Nat.reduceAdd]
    rw [st_ne _ _ _ _ _ (by decide)]
    rw [st_ne _ _ _ _ _ (by decide)]
    (repeat' split) <;> first | (exfalso; omega) | rfl | exact a2 p (by omega)
  · intro a b ha hb
    show _ = nI (if a < (gP g) ∧ b < (gP g) then (fun x y => if (x = a0 ∧ y = b0) ∨ (x = b0 ∧ y = a0) then v else gRo g x y) a b else 0)
    have h3 := a3 a b ha hb
    try simp only [Nat.reduceAdd]
    rw [st_same]
    rw [st_same]
    first | exact h3 | ((repeat' split at h3) <;> (repeat' split) <;> first | (exfalso; omega) | assumption | rfl)
  · intro i hi
    have hi : i < (gN g) := hi
    refine ⟨?_, ?_, ?_, ?_, ?_⟩
    · show _ = nI ((gKd g) i)
      skip
      try simp only [Nat.reduceAdd]
      rw [st_ne _ _ _ _ _ (by decide)]
      rw [st_ne _ _ _ _ _ (by decide)]
      (repeat' split) <;> first | (exfalso; omega) | rfl | exact (a4 i (by omega)).1
    · show _ = nI ((gMs g) i)
      skip
      try simp only [Nat.reduceAdd]
      rw [st_ne _ _ _ _ _ (by decide)]
      rw [st_ne _ _ _ _ _ (by decide)]
      (repeat' split) <;> first | (exfalso; omega) | rfl | exact (a4 i (by omega)).2.1
    · show _ = nI ((gSn g) i)
      skip
      try simp only [Nat.reduceAdd]
      rw [st_ne _ _ _ _ _ (by decide)]
      rw [st_ne _ _ _ _ _ (by decide)]
      (repeat' split) <;> first | (exfalso; omega) | rfl | exact (a4 i (by omega)).2.2.1
    · show _ = nI ((gAt g) i)
      skip
      try simp only [Nat.reduceAdd]
      rw [st_ne _ _ _ _ _ (by decide)]
      rw [st_ne _ _ _ _ _ (by decide)]
      (repeat' split) <;> first | (exfalso; omega) | rfl | exact (a4 i (by omega)).2.2.2.1
    · show _ = nI ((gOw g) i)
      skip
      try simp only [Nat.reduceAdd]
      rw [st_ne _ _ _ _ _ (by decide)]
      rw [st_ne _ _ _ _ _ (by decide)]
      (repeat' split) <;> first | (exfalso; omega) | rfl | exact (a4 i (by omega)).2.2.2.2
  · intro i hi
    have hi : i < g.2.2.2.2.2.1.1 := hi
    show _ = nI (g.2.2.2.2.2.1.2 i)
    try simp only [Nat.reduceAdd]
    rw [st_ne _ _ _ _ _ (by decide)]
    rw [st_ne _ _ _ _ _ (by decide)]
    (repeat' split) <;> first | (exfalso; omega) | rfl | exact a5 i (by omega)
  · intro i hi
    have hi : i < g.2.2.2.2.2.2.1.1 := hi
    show _ = g.2.2.2.2.2.2.1.2 i
    try simp only [Nat.reduceAdd]
    rw [st_ne _ _ _ _ _ (by decide)]
    rw [st_ne _ _ _ _ _ (by decide)]
    (repeat' split) <;> first | (exfalso; omega) | rfl | exact a6 i (by omega)
  · exact TX_fr a7 (by rw [st_ne _ _ _ _ _ (by decide), st_ne _ _ _ _ _ (by decide)]) (by rw [st_ne _ _ _ _ _ (by decide), st_ne _ _ _ _ _ (by decide)]) (by rw [st_ne _ _ _ _ _ (by decide), st_ne _ _ _ _ _ (by decide)])
  · exact TX_fr a8 (by rw [st_ne _ _ _ _ _ (by decide), st_ne _ _ _ _ _ (by decide)]) (by rw [st_ne _ _ _ _ _ (by decide), st_ne _ _ _ _ _ (by decide)]) (by rw [st_ne _ _ _ _ _ (by decide), st_ne _ _ _ _ _ (by decide)])
theorem MA_road {g : GH} {μ : sm_Mem} {a0 b0 v : Nat} (ha0 : a0 < gP g) (hb0 : b0 < gP g) (hP : gP g ≤ 6) (hN : gN g ≤ 10) (h : MA 62 g μ) : MA 62 (gMk g.1 (gP g) (gN g) (gY g) (gHo g) (gWa g) (fun x y => if (x = a0 ∧ y = b0) ∨ (x = b0 ∧ y = a0) then v else gRo g x y) (gKd g) (gMs g) (gSn g) (gAt g) (gOw g) g.2.2.2.2.2.1 g.2.2.2.2.2.2.1 (gZ g)) (sm_st (sm_st μ 62 (15 + 6 * b0 + a0) (nI v)) 62 (15 + 6 * a0 + b0) (nI v)) := by
  obtain ⟨⟨b1, b2, b3, b4, b5, b6, b7⟩, a2, a3, a4, a5, a6, a7, a8⟩ := h
  refine ⟨⟨?_, ?_, ?_, ?_, ?_, ?_, ?_⟩, ?_, ?_, ?_, ?_, ?_, ?_, ?_⟩
  · show _ = nI (gP g)
    first | (simp only [st_rd, if_true, if_false]; done) | (simp only [st_rd, if_true, if_false]; (repeat' split) <;> first | (exfalso; omega) | assumption | rfl)
  · show _ = nI (gN g)
    first | (simp only [st_rd, if_true, if_false]; done) | (simp only [st_rd, if_true, if_false]; (repeat' split) <;> first | (exfalso; omega) | assumption | rfl)
  · show _ = nI (gY g)
    first | (simp only [st_rd, if_true, if_false]; done) | (simp only [st_rd, if_true, if_false]; (repeat' split) <;> first | (exfalso; omega) | assumption | rfl)
  · show _ = nI (gHo g)
    first | (simp only [st_rd, if_true, if_false]; done) | (simp only [st_rd, if_true, if_false]; (repeat' split) <;> first | (exfalso; omega) | assumption | rfl)
  · show _ = nI g.2.2.2.2.2.1.1
    first | (simp only [st_rd, if_true, if_false]; done) | (simp only [st_rd, if_true, if_false]; (repeat' split) <;> first | (exfalso; omega) | assumption | rfl)
  · show _ = nI g.2.2.2.2.2.2.1.1
    first | (simp only [st_rd, if_true, if_false]; done) | (simp only [st_rd, if_true, if_false]; (repeat' split) <;> first | (exfalso; omega) | assumption | rfl)
  · show _ = (gZ g)
    first | (simp only [st_rd, if_true, if_false]; done) | (simp only [st_rd, if_true, if_false]; (repeat' split) <;> first | (exfalso; omega) | assumption | rfl)
  · intro p hp
    have hp : p < (gP g) := hp
    show _ = nI ((gWa g) p)
    skip
    first | (simp only [st_rd, if_true, if_false]; done) | (simp only [st_rd, if_true, if_false]; (repeat' split) <;> first | (exfalso; omega) | rfl | exact a2 p (by omega))
  · intro a b ha hb
    have ha : a < (gP g) := ha
    have hb : b < (gP g) := hb
    show _ = nI ((fun x y => if (x = a0 ∧ y = b0) ∨ (x = b0 ∧ y = a0) then v else gRo g x y) a b)
    first | (simp only [st_rd, if_true, if_false]; done) | (simp only [st_rd, if_true, if_false]; (repeat' split) <;> first | (exfalso; omega) | rfl | exact a3 a b (by omega) (by omega))
  · intro i hi
    have hi : i < (gN g) := hi
    refine ⟨?_, ?_, ?_, ?_, ?_⟩
    · show _ = nI ((gKd g) i)
      skip
      first | (simp only [st_rd, if_true, if_false]; done) | (simp only [st_rd, if_true, if_false]; (repeat' split) <;> first | (exfalso; omega) | rfl | exact (a4 i (by omega)).1)
    · show _ = nI ((gMs g) i)
      skip
      first | (simp only [st_rd, if_true, if_false]; done) | (simp only [st_rd, if_true, if_false]; (repeat' split) <;> first | (exfalso; omega) | rfl | exact (a4 i (by omega)).2.1)
    · show _ = nI ((gSn g) i)
      skip
      first | (simp only [st_rd, if_true, if_false]; done) | (simp only [st_rd, if_true, if_false]; (repeat' split) <;> first | (exfalso; omega) | rfl | exact (a4 i (by omega)).2.2.1)
    · show _ = nI ((gAt g) i)
      skip
      first | (simp only [st_rd, if_true, if_false]; done) | (simp only [st_rd, if_true, if_false]; (repeat' split) <;> first | (exfalso; omega) | rfl | exact (a4 i (by omega)).2.2.2.1)
    · show _ = nI ((gOw g) i)
      skip
      first | (simp only [st_rd, if_true, if_false]; done) | (simp only [st_rd, if_true, if_false]; (repeat' split) <;> first | (exfalso; omega) | rfl | exact (a4 i (by omega)).2.2.2.2)
  · intro i hi
    have hi : i < g.2.2.2.2.2.1.1 := hi
    show _ = nI (g.2.2.2.2.2.1.2 i)
    first | (simp only [st_rd, if_true, if_false]; done) | (simp only [st_rd, if_true, if_false]; (repeat' split) <;> first | (exfalso; omega) | rfl | exact a5 i (by omega))
  · intro i hi
    have hi : i < g.2.2.2.2.2.2.1.1 := hi
    show _ = g.2.2.2.2.2.2.1.2 i
    first | (simp only [st_rd, if_true, if_false]; done) | (simp only [st_rd, if_true, if_false]; (repeat' split) <;> first | (exfalso; omega) | rfl | exact a6 i (by omega))
  · exact TM_st (by omega) (TM_st (by omega) (a7) (by omega) (by omega)) (by omega) (by omega)
  · exact TM_st (by omega) (TM_st (by omega) (a8) (by omega) (by omega)) (by omega) (by omega)
theorem CA_note {g : GH} {μ : sm_Mem} {k1 k2 k3 k4 k5 : Nat} (hP : gP g ≤ 6) (hN : gN g ≤ 10) (hN9 : gN g < 10) (h : CA 1 g μ) : CA 1 (gMk g.1 (gP g) (gN g + 1) (gY g) (gHo g) (gWa g) (gRo g) (fup (gKd g) (gN g) k1) (fup (gMs g) (gN g) k2) (fup (gSn g) (gN g) k3) (fup (gAt g) (gN g) k4) (fup (gOw g) (gN g) k5) g.2.2.2.2.2.1 g.2.2.2.2.2.2.1 (gZ g)) (sm_st (sm_st (sm_st (sm_st (sm_st (sm_st μ 4 (gN g) (nI k1)) 5 (gN g) (nI k2)) 6 (gN g) (nI k3)) 7 (gN g) (nI k4)) 8 (gN g) (nI k5)) 1 12 (nI (gN g + 1))) := by
  obtain ⟨⟨b1, b2, b3, b4, b5, b6, b7⟩, a2, a3, a4, a5, a6, a7, a8⟩ := h
  refine ⟨⟨?_, ?_, ?_, ?_, ?_, ?_, ?_⟩, ?_, ?_, ?_, ?_, ?_, ?_, ?_⟩
  · show _ = nI (gP g)
    try simp only [Nat.reduceAdd]
    rw [st_same]
    rw [st_ne _ _ _ _ _ (by decide)]
    rw [st_ne _ _ _ _ _ (by decide)]
    rw [st_ne _ _ _ _ _ (by decide)]
    rw [st_ne _ _ _ _ _ (by decide)]
    rw [st_ne _ _ _ _ _ (by decide)]
    (repeat' split) <;> first | (exfalso; omega) | assumption | rfl
  · show _ = nI (gN g + 1)
    try simp only [Nat.reduceAdd]
    rw [st_same]
    rw [st_ne _ _ _ _ _ (by decide)]
    rw [st_ne _ _ _ _ _ (by decide)]
    rw [st_ne _ _ _ _ _ (by decide)]
    rw [st_ne _ _ _ _ _ (by decide)]
    rw [st_ne _ _ _ _ _ (by decide)]
    (repeat' split) <;> first | (exfalso; omega) | assumption | rfl
  · show _ = nI (gY g)
    try simp only [Nat.reduceAdd]
    rw [st_same]
    rw [st_ne _ _ _ _ _ (by decide)]
    rw [st_ne _ _ _ _ _ (by decide)]
    rw [st_ne _ _ _ _ _ (by decide)]
    rw [st_ne _ _ _ _ _ (by decide)]
    rw [st_ne _ _ _ _ _ (by decide)]
    (repeat' split) <;> first | (exfalso; omega) | assumption | rfl
  · show _ = nI (gHo g)
    try simp only [Nat.reduceAdd]
    rw [st_same]
    rw [st_ne _ _ _ _ _ (by decide)]
    rw [st_ne _ _ _ _ _ (by decide)]
    rw [st_ne _ _ _ _ _ (by decide)]
    rw [st_ne _ _ _ _ _ (by decide)]
    rw [st_ne _ _ _ _ _ (by decide)]
    (repeat' split) <;> first | (exfalso; omega) | assumption | rfl
  · show _ = nI g.2.2.2.2.2.1.1
    try simp only [Nat.reduceAdd]
    rw [st_same]
    rw [st_ne _ _ _ _ _ (by decide)]
    rw [st_ne _ _ _ _ _ (by decide)]
    rw [st_ne _ _ _ _ _ (by decide)]
    rw [st_ne _ _ _ _ _ (by decide)]
    rw [st_ne _ _ _ _ _ (by decide)]
    (repeat' split) <;> first | (exfalso; omega) | assumption | rfl
  · show _ = nI g.2.2.2.2.2.2.1.1
    try simp only [Nat.reduceAdd]
    rw [st_same]
    rw [st_ne _ _ _ _ _ (by decide)]
    rw [st_ne _ _ _ _ _ (by decide)]
    rw [st_ne _ _ _ _ _ (by decide)]
    rw [st_ne _ _ _ _ _ (by decide)]
    rw [st_ne _ _ _ _ _ (by decide)]
    (repeat' split) <;> first | (exfalso; omega) | assumption | rfl
  · show _ = (gZ g)
    try simp only [Nat.reduceAdd]
    rw [st_same]
    rw [st_ne _ _ _ _ _ (by decide)]
    rw [st_ne _ _ _ _ _ (by decide)]
    rw [st_ne _ _ _ _ _ (by decide)]
    rw [st_ne _ _ _ _ _ (by decide)]
    rw [st_ne _ _ _ _ _ (by decide)]
    (repeat' split) <;> first | (exfalso; omega) | assumption | rfl
  · intro p hp
    have hp : p < (gP g) := hp
    show _ = nI ((gWa g) p)
    skip
    try simp only [Nat.reduceAdd]
    rw [st_ne _ _ _ _ _ (by decide)]
    rw [st_ne _ _ _ _ _ (by decide)]
    rw [st_ne _ _ _ _ _ (by decide)]
    rw [st_ne _ _ _ _ _ (by decide)]
    rw [st_ne _ _ _ _ _ (by decide)]
    rw [st_ne _ _ _ _ _ (by decide)]
    (repeat' split) <;> first | (exfalso; omega) | rfl | exact a2 p (by omega)
  · intro a b ha hb
    show _ = nI (if a < (gP g) ∧ b < (gP g) then (gRo g) a b else 0)
    have h3 := a3 a b ha hb
    try simp only [Nat.reduceAdd]
    rw [st_ne _ _ _ _ _ (by decide)]
    rw [st_ne _ _ _ _ _ (by decide)]
    rw [st_ne _ _ _ _ _ (by decide)]
    rw [st_ne _ _ _ _ _ (by decide)]
    rw [st_ne _ _ _ _ _ (by decide)]
    rw [st_ne _ _ _ _ _ (by decide)]
    first | exact h3 | ((repeat' split at h3) <;> (repeat' split) <;> first | (exfalso; omega) | assumption | rfl)
  · intro i hi
    have hi : i < (gN g + 1) := hi
    refine ⟨?_, ?_, ?_, ?_, ?_⟩
    · show _ = nI ((fup (gKd g) (gN g) k1) i)
      unfold fup
      try simp only [Nat.reduceAdd]
      rw [st_ne _ _ _ _ _ (by decide)]
      rw [st_ne _ _ _ _ _ (by decide)]
      rw [st_ne _ _ _ _ _ (by decide)]
      rw [st_ne _ _ _ _ _ (by decide)]
      rw [st_ne _ _ _ _ _ (by decide)]
      rw [st_same]
      (repeat' split) <;> first | (exfalso; omega) | rfl | exact (a4 i (by omega)).1
    · show _ = nI ((fup (gMs g) (gN g) k2) i)
      unfold fup
      try simp only [Nat.reduceAdd]
      rw [st_ne _ _ _ _ _ (by decide)]
      rw [st_ne _ _ _ _ _ (by decide)]
      rw [st_ne _ _ _ _ _ (by decide)]
      rw [st_ne _ _ _ _ _ (by decide)]
      rw [st_same]
      rw [st_ne _ _ _ _ _ (by decide)]
      (repeat' split) <;> first | (exfalso; omega) | rfl | exact (a4 i (by omega)).2.1
    · show _ = nI ((fup (gSn g) (gN g) k3) i)
      unfold fup
      try simp only [Nat.reduceAdd]
      rw [st_ne _ _ _ _ _ (by decide)]
      rw [st_ne _ _ _ _ _ (by decide)]
      rw [st_ne _ _ _ _ _ (by decide)]
      rw [st_same]
      rw [st_ne _ _ _ _ _ (by decide)]
      rw [st_ne _ _ _ _ _ (by decide)]
      (repeat' split) <;> first | (exfalso; omega) | rfl | exact (a4 i (by omega)).2.2.1
    · show _ = nI ((fup (gAt g) (gN g) k4) i)
      unfold fup
      try simp only [Nat.reduceAdd]
      rw [st_ne _ _ _ _ _ (by decide)]
      rw [st_ne _ _ _ _ _ (by decide)]
      rw [st_same]
      rw [st_ne _ _ _ _ _ (by decide)]
      rw [st_ne _ _ _ _ _ (by decide)]
      rw [st_ne _ _ _ _ _ (by decide)]
      (repeat' split) <;> first | (exfalso; omega) | rfl | exact (a4 i (by omega)).2.2.2.1
    · show _ = nI ((fup (gOw g) (gN g) k5) i)
      unfold fup
      try simp only [Nat.reduceAdd]
      rw [st_ne _ _ _ _ _ (by decide)]
      rw [st_same]
      rw [st_ne _ _ _ _ _ (by decide)]
      rw [st_ne _ _ _ _ _ (by decide)]
      rw [st_ne _ _ _ _ _ (by decide)]
      rw [st_ne _ _ _ _ _ (by decide)]
      (repeat' split) <;> first | (exfalso; omega) | rfl | exact (a4 i (by omega)).2.2.2.2
  · intro i hi
    have hi : i < g.2.2.2.2.2.1.1 := hi
    show _ = nI (g.2.2.2.2.2.1.2 i)
    try simp only [Nat.reduceAdd]
    rw [st_ne _ _ _ _ _ (by decide)]
    rw [st_ne _ _ _ _ _ (by decide)]
    rw [st_ne _ _ _ _ _ (by decide)]
    rw [st_ne _ _ _ _ _ (by decide)]
    rw [st_ne _ _ _ _ _ (by decide)]
    rw [st_ne _ _ _ _ _ (by decide)]
    (repeat' split) <;> first | (exfalso; omega) | rfl | exact a5 i (by omega)
  · intro i hi
    have hi : i < g.2.2.2.2.2.2.1.1 := hi
    show _ = g.2.2.2.2.2.2.1.2 i
    try simp only [Nat.reduceAdd]
    rw [st_ne _ _ _ _ _ (by decide)]
    rw [st_ne _ _ _ _ _ (by decide)]
    rw [st_ne _ _ _ _ _ (by decide)]
    rw [st_ne _ _ _ _ _ (by decide)]
    rw [st_ne _ _ _ _ _ (by decide)]
    rw [st_ne _ _ _ _ _ (by decide)]
    (repeat' split) <;> first | (exfalso; omega) | rfl | exact a6 i (by omega)
  · exact TX_fr a7 (by rw [st_ne _ _ _ _ _ (by decide), st_ne _ _ _ _ _ (by decide), st_ne _ _ _ _ _ (by decide), st_ne _ _ _ _ _ (by decide), st_ne _ _ _ _ _ (by decide), st_ne _ _ _ _ _ (by decide)]) (by rw [st_ne _ _ _ _ _ (by decide), st_ne _ _ _ _ _ (by decide), st_ne _ _ _ _ _ (by decide), st_ne _ _ _ _ _ (by decide), st_ne _ _ _ _ _ (by decide), st_ne _ _ _ _ _ (by decide)]) (by rw [st_ne _ _ _ _ _ (by decide), st_ne _ _ _ _ _ (by decide), st_ne _ _ _ _ _ (by decide), st_ne _ _ _ _ _ (by decide), st_ne _ _ _ _ _ (by decide), st_ne _ _ _ _ _ (by decide)])
  · exact TX_fr a8 (by rw [st_ne _ _ _ _ _ (by decide), st_ne _ _ _ _ _ (by decide), st_ne _ _ _ _ _ (by decide), st_ne _ _ _ _ _ (by decide), st_ne _ _ _ _ _ (by decide), st_ne _ _ _ _ _ (by decide)]) (by rw [st_ne _ _ _ _ _ (by decide), st_ne _ _ _ _ _ (by decide), st_ne _ _ _ _ _ (by decide), st_ne _ _ _ _ _ (by decide), st_ne _ _ _ _ _ (by decide), st_ne _ _ _ _ _ (by decide)]) (by rw [st_ne _ _ _ _ _ (by decide), st_ne _ _ _ _ _ (by decide), st_ne _ _ _ _ _ (by decide), st_ne _ _ _ _ _ (by decide), st_ne _ _ _ _ _ (by decide), st_ne _ _ _ _ _ (by decide)])
theorem MA_note {g : GH} {μ : sm_Mem} {k1 k2 k3 k4 k5 : Nat} (hP : gP g ≤ 6) (hN : gN g ≤ 10) (hN9 : gN g < 10) (h : MA 62 g μ) : MA 62 (gMk g.1 (gP g) (gN g + 1) (gY g) (gHo g) (gWa g) (gRo g) (fup (gKd g) (gN g) k1) (fup (gMs g) (gN g) k2) (fup (gSn g) (gN g) k3) (fup (gAt g) (gN g) k4) (fup (gOw g) (gN g) k5) g.2.2.2.2.2.1 g.2.2.2.2.2.2.1 (gZ g)) (sm_st (sm_st (sm_st (sm_st (sm_st (sm_st μ 62 (51 + 5 * gN g) (nI k1)) 62 (51 + 5 * gN g + 1) (nI k2)) 62 (51 + 5 * gN g + 2) (nI k3)) 62 (51 + 5 * gN g + 3) (nI k4)) 62 (51 + 5 * gN g + 4) (nI k5)) 62 7 (nI (gN g + 1))) := by
  obtain ⟨⟨b1, b2, b3, b4, b5, b6, b7⟩, a2, a3, a4, a5, a6, a7, a8⟩ := h
  refine ⟨⟨?_, ?_, ?_, ?_, ?_, ?_, ?_⟩, ?_, ?_, ?_, ?_, ?_, ?_, ?_⟩
  · show _ = nI (gP g)
    first | (simp only [st_rd, if_true, if_false]; done) | (simp only [st_rd, if_true, if_false]; (repeat' split) <;> first | (exfalso; omega) | assumption | rfl)
  · show _ = nI (gN g + 1)
    first | (simp only [st_rd, if_true, if_false]; done) | (simp only [st_rd, if_true, if_false]; (repeat' split) <;> first | (exfalso; omega) | assumption | rfl)
  · show _ = nI (gY g)
    first | (simp only [st_rd, if_true, if_false]; done) | (simp only [st_rd, if_true, if_false]; (repeat' split) <;> first | (exfalso; omega) | assumption | rfl)
  · show _ = nI (gHo g)
    first | (simp only [st_rd, if_true, if_false]; done) | (simp only [st_rd, if_true, if_false]; (repeat' split) <;> first | (exfalso; omega) | assumption | rfl)
  · show _ = nI g.2.2.2.2.2.1.1
    first | (simp only [st_rd, if_true, if_false]; done) | (simp only [st_rd, if_true, if_false]; (repeat' split) <;> first | (exfalso; omega) | assumption | rfl)
  · show _ = nI g.2.2.2.2.2.2.1.1
    first | (simp only [st_rd, if_true, if_false]; done) | (simp only [st_rd, if_true, if_false]; (repeat' split) <;> first | (exfalso; omega) | assumption | rfl)
  · show _ = (gZ g)
    first | (simp only [st_rd, if_true, if_false]; done) | (simp only [st_rd, if_true, if_false]; (repeat' split) <;> first | (exfalso; omega) | assumption | rfl)
  · intro p hp
    have hp : p < (gP g) := hp
    show _ = nI ((gWa g) p)
    skip
    first | (simp only [st_rd, if_true, if_false]; done) | (simp only [st_rd, if_true, if_false]; (repeat' split) <;> first | (exfalso; omega) | rfl | exact a2 p (by omega))
  · intro a b ha hb
    have ha : a < (gP g) := ha
    have hb : b < (gP g) := hb
    show _ = nI ((gRo g) a b)
    first | (simp only [st_rd, if_true, if_false]; done) | (simp only [st_rd, if_true, if_false]; (repeat' split) <;> first | (exfalso; omega) | rfl | exact a3 a b (by omega) (by omega))
  · intro i hi
    have hi : i < (gN g + 1) := hi
    refine ⟨?_, ?_, ?_, ?_, ?_⟩
    · show _ = nI ((fup (gKd g) (gN g) k1) i)
      unfold fup
      first | (simp only [st_rd, if_true, if_false]; done) | (simp only [st_rd, if_true, if_false]; (repeat' split) <;> first | (exfalso; omega) | rfl | exact (a4 i (by omega)).1)
    · show _ = nI ((fup (gMs g) (gN g) k2) i)
      unfold fup
      first | (simp only [st_rd, if_true, if_false]; done) | (simp only [st_rd, if_true, if_false]; (repeat' split) <;> first | (exfalso; omega) | rfl | exact (a4 i (by omega)).2.1)
    · show _ = nI ((fup (gSn g) (gN g) k3) i)
      unfold fup
      first | (simp only [st_rd, if_true, if_false]; done) | (simp only [st_rd, if_true, if_false]; (repeat' split) <;> first | (exfalso; omega) | rfl | exact (a4 i (by omega)).2.2.1)
    · show _ = nI ((fup (gAt g) (gN g) k4) i)
      unfold fup
      first | (simp only [st_rd, if_true, if_false]; done) | (simp only [st_rd, if_true, if_false]; (repeat' split) <;> first | (exfalso; omega) | rfl | exact (a4 i (by omega)).2.2.2.1)
    · show _ = nI ((fup (gOw g) (gN g) k5) i)
      unfold fup
      first | (simp only [st_rd, if_true, if_false]; done) | (simp only [st_rd, if_true, if_false]; (repeat' split) <;> first | (exfalso; omega) | rfl | exact (a4 i (by omega)).2.2.2.2)
  · intro i hi
    have hi : i < g.2.2.2.2.2.1.1 := hi
    show _ = nI (g.2.2.2.2.2.1.2 i)
    first | (simp only [st_rd, if_true, if_false]; done) | (simp only [st_rd, if_true, if_false]; (repeat' split) <;> first | (exfalso; omega) | rfl | exact a5 i (by omega))
  · intro i hi
    have hi : i < g.2.2.2.2.2.2.1.1 := hi
    show _ = g.2.2.2.2.2.2.1.2 i
    first | (simp only [st_rd, if_true, if_false]; done) | (simp only [st_rd, if_true, if_false]; (repeat' split) <;> first | (exfalso; omega) | rfl | exact a6 i (by omega))
  · exact TM_st (by omega) (TM_st (by omega) (TM_st (by omega) (TM_st (by omega) (TM_st (by omega) (TM_st (by omega) (a7) (by omega) (by omega)) (by omega) (by omega)) (by omega) (by omega)) (by omega) (by omega)) (by omega) (by omega)) (by omega) (by omega)
  · exact TM_st (by omega) (TM_st (by omega) (TM_st (by omega) (TM_st (by omega) (TM_st (by omega) (TM_st (by omega) (a8) (by omega) (by omega)) (by omega) (by omega)) (by omega) (by omega)) (by omega) (by omega)) (by omega) (by omega)) (by omega) (by omega)
theorem CA_tell {g : GH} {μ : sm_Mem} {v : Int32} (hP : gP g ≤ 6) (hN : gN g ≤ 10) (hW : gWn g < 20) (hT : g.2.2.2.2.2.1.1 ≤ 50) (h : CA 1 g μ) : CA 1 (gMk g.1 (gP g) (gN g) (gY g) (gHo g) (gWa g) (gRo g) (gKd g) (gMs g) (gSn g) (gAt g) (gOw g) g.2.2.2.2.2.1 (gWn g + 1, fun k => if k = gWn g then v else gWt g k) (gZ g)) (sm_st (sm_st μ 10 (gWn g) v) 1 16 (nI (gWn g + 1))) := by
  obtain ⟨⟨b1, b2, b3, b4, b5, b6, b7⟩, a2, a3, a4, a5, a6, a7, a8⟩ := h
  refine ⟨⟨?_, ?_, ?_, ?_, ?_, ?_, ?_⟩, ?_, ?_, ?_, ?_, ?_, ?_, ?_⟩
  · show _ = nI (gP g)
    try simp only [Nat.reduceAdd]
    rw [st_same]
    rw [st_ne _ _ _ _ _ (by decide)]
    (repeat' split) <;> first | (exfalso; omega) | assumption | rfl
  · show _ = nI (gN g)
    try simp only [Nat.reduceAdd]
    rw [st_same]
    rw [st_ne _ _ _ _ _ (by decide)]
    (repeat' split) <;> first | (exfalso; omega) | assumption | rfl
  · show _ = nI (gY g)
    try simp only [Nat.reduceAdd]
    rw [st_same]
    rw [st_ne _ _ _ _ _ (by decide)]
    (repeat' split) <;> first | (exfalso; omega) | assumption | rfl
  · show _ = nI (gHo g)
    try simp only [Nat.reduceAdd]
    rw [st_same]
    rw [st_ne _ _ _ _ _ (by decide)]
    (repeat' split) <;> first | (exfalso; omega) | assumption | rfl
  · show _ = nI g.2.2.2.2.2.1.1
    try simp only [Nat.reduceAdd]
    rw [st_same]
    rw [st_ne _ _ _ _ _ (by decide)]
    (repeat' split) <;> first | (exfalso; omega) | assumption | rfl
  · show _ = nI (gWn g + 1, fun k => if k = gWn g then v else gWt g k).1
    try simp only [Nat.reduceAdd]
    rw [st_same]
    rw [st_ne _ _ _ _ _ (by decide)]
    (repeat' split) <;> first | (exfalso; omega) | assumption | rfl
  · show _ = (gZ g)
    try simp only [Nat.reduceAdd]
    rw [st_same]
    rw [st_ne _ _ _ _ _ (by decide)]
    (repeat' split) <;> first | (exfalso; omega) | assumption | rfl
  · intro p hp
    have hp : p < (gP g) := hp
    show _ = nI ((gWa g) p)
    skip
    try simp only [Nat.reduceAdd]
    rw [st_ne _ _ _ _ _ (by decide)]
    rw [st_ne _ _ _ _ _ (by decide)]
    (repeat' split) <;> first | (exfalso; omega) | rfl | exact a2 p (by omega)
  · intro a b ha hb
    show _ = nI (if a < (gP g) ∧ b < (gP g) then (gRo g) a b else 0)
    have h3 := a3 a b ha hb
    try simp only [Nat.reduceAdd]
    rw [st_ne _ _ _ _ _ (by decide)]
    rw [st_ne _ _ _ _ _ (by decide)]
    first | exact h3 | ((repeat' split at h3) <;> (repeat' split) <;> first | (exfalso; omega) | assumption | rfl)
  · intro i hi
    have hi : i < (gN g) := hi
    refine ⟨?_, ?_, ?_, ?_, ?_⟩
    · show _ = nI ((gKd g) i)
      skip
      try simp only [Nat.reduceAdd]
      rw [st_ne _ _ _ _ _ (by decide)]
      rw [st_ne _ _ _ _ _ (by decide)]
      (repeat' split) <;> first | (exfalso; omega) | rfl | exact (a4 i (by omega)).1
    · show _ = nI ((gMs g) i)
      skip
      try simp only [Nat.reduceAdd]
      rw [st_ne _ _ _ _ _ (by decide)]
      rw [st_ne _ _ _ _ _ (by decide)]
      (repeat' split) <;> first | (exfalso; omega) | rfl | exact (a4 i (by omega)).2.1
    · show _ = nI ((gSn g) i)
      skip
      try simp only [Nat.reduceAdd]
      rw [st_ne _ _ _ _ _ (by decide)]
      rw [st_ne _ _ _ _ _ (by decide)]
      (repeat' split) <;> first | (exfalso; omega) | rfl | exact (a4 i (by omega)).2.2.1
    · show _ = nI ((gAt g) i)
      skip
      try simp only [Nat.reduceAdd]
      rw [st_ne _ _ _ _ _ (by decide)]
      rw [st_ne _ _ _ _ _ (by decide)]
      (repeat' split) <;> first | (exfalso; omega) | rfl | exact (a4 i (by omega)).2.2.2.1
    · show _ = nI ((gOw g) i)
      skip
      try simp only [Nat.reduceAdd]
      rw [st_ne _ _ _ _ _ (by decide)]
      rw [st_ne _ _ _ _ _ (by decide)]
      (repeat' split) <;> first | (exfalso; omega) | rfl | exact (a4 i (by omega)).2.2.2.2
  · intro i hi
    have hi : i < g.2.2.2.2.2.1.1 := hi
    show _ = nI (g.2.2.2.2.2.1.2 i)
    try simp only [Nat.reduceAdd]
    rw [st_ne _ _ _ _ _ (by decide)]
    rw [st_ne _ _ _ _ _ (by decide)]
    (repeat' split) <;> first | (exfalso; omega) | rfl | exact a5 i (by omega)
  · intro i hi
    have hi : i < (gWn g + 1, fun k => if k = gWn g then v else gWt g k).1 := hi
    show _ = (gWn g + 1, fun k => if k = gWn g then v else gWt g k).2 i
    try simp only [Nat.reduceAdd]
    rw [st_ne _ _ _ _ _ (by decide)]
    rw [st_same]
    (repeat' split) <;> first | (exfalso; omega) | rfl | exact a6 i (by omega)
  · exact TX_fr a7 (by rw [st_ne _ _ _ _ _ (by decide), st_ne _ _ _ _ _ (by decide)]) (by rw [st_ne _ _ _ _ _ (by decide), st_ne _ _ _ _ _ (by decide)]) (by rw [st_ne _ _ _ _ _ (by decide), st_ne _ _ _ _ _ (by decide)])
  · exact TX_fr a8 (by rw [st_ne _ _ _ _ _ (by decide), st_ne _ _ _ _ _ (by decide)]) (by rw [st_ne _ _ _ _ _ (by decide), st_ne _ _ _ _ _ (by decide)]) (by rw [st_ne _ _ _ _ _ (by decide), st_ne _ _ _ _ _ (by decide)])
theorem MA_tell {g : GH} {μ : sm_Mem} {v : Int32} (hP : gP g ≤ 6) (hN : gN g ≤ 10) (hW : gWn g < 20) (hT : g.2.2.2.2.2.1.1 ≤ 50) (h : MA 62 g μ) : MA 62 (gMk g.1 (gP g) (gN g) (gY g) (gHo g) (gWa g) (gRo g) (gKd g) (gMs g) (gSn g) (gAt g) (gOw g) g.2.2.2.2.2.1 (gWn g + 1, fun k => if k = gWn g then v else gWt g k) (gZ g)) (sm_st (sm_st μ 62 (151 + gWn g) v) 62 4 (nI (gWn g + 1))) := by
  obtain ⟨⟨b1, b2, b3, b4, b5, b6, b7⟩, a2, a3, a4, a5, a6, a7, a8⟩ := h
  refine ⟨⟨?_, ?_, ?_, ?_, ?_, ?_, ?_⟩, ?_, ?_, ?_, ?_, ?_, ?_, ?_⟩
  · show _ = nI (gP g)
    first | (simp only [st_rd, if_true, if_false]; done) | (simp only [st_rd, if_true, if_false]; (repeat' split) <;> first | (exfalso; omega) | assumption | rfl)
  · show _ = nI (gN g)
    first | (simp only [st_rd, if_true, if_false]; done) | (simp only [st_rd, if_true, if_false]; (repeat' split) <;> first | (exfalso; omega) | assumption | rfl)
  · show _ = nI (gY g)
    first | (simp only [st_rd, if_true, if_false]; done) | (simp only [st_rd, if_true, if_false]; (repeat' split) <;> first | (exfalso; omega) | assumption | rfl)
  · show _ = nI (gHo g)
    first | (simp only [st_rd, if_true, if_false]; done) | (simp only [st_rd, if_true, if_false]; (repeat' split) <;> first | (exfalso; omega) | assumption | rfl)
  · show _ = nI g.2.2.2.2.2.1.1
    first | (simp only [st_rd, if_true, if_false]; done) | (simp only [st_rd, if_true, if_false]; (repeat' split) <;> first | (exfalso; omega) | assumption | rfl)
  · show _ = nI (gWn g + 1, fun k => if k = gWn g then v else gWt g k).1
    first | (simp only [st_rd, if_true, if_false]; done) | (simp only [st_rd, if_true, if_false]; (repeat' split) <;> first | (exfalso; omega) | assumption | rfl)
  · show _ = (gZ g)
    first | (simp only [st_rd, if_true, if_false]; done) | (simp only [st_rd, if_true, if_false]; (repeat' split) <;> first | (exfalso; omega) | assumption | rfl)
  · intro p hp
    have hp : p < (gP g) := hp
    show _ = nI ((gWa g) p)
    skip
    first | (simp only [st_rd, if_true, if_false]; done) | (simp only [st_rd, if_true, if_false]; (repeat' split) <;> first | (exfalso; omega) | rfl | exact a2 p (by omega))
  · intro a b ha hb
    have ha : a < (gP g) := ha
    have hb : b < (gP g) := hb
    show _ = nI ((gRo g) a b)
    first | (simp only [st_rd, if_true, if_false]; done) | (simp only [st_rd, if_true, if_false]; (repeat' split) <;> first | (exfalso; omega) | rfl | exact a3 a b (by omega) (by omega))
  · intro i hi
    have hi : i < (gN g) := hi
    refine ⟨?_, ?_, ?_, ?_, ?_⟩
    · show _ = nI ((gKd g) i)
      skip
      first | (simp only [st_rd, if_true, if_false]; done) | (simp only [st_rd, if_true, if_false]; (repeat' split) <;> first | (exfalso; omega) | rfl | exact (a4 i (by omega)).1)
    · show _ = nI ((gMs g) i)
      skip
      first | (simp only [st_rd, if_true, if_false]; done) | (simp only [st_rd, if_true, if_false]; (repeat' split) <;> first | (exfalso; omega) | rfl | exact (a4 i (by omega)).2.1)
    · show _ = nI ((gSn g) i)
      skip
      first | (simp only [st_rd, if_true, if_false]; done) | (simp only [st_rd, if_true, if_false]; (repeat' split) <;> first | (exfalso; omega) | rfl | exact (a4 i (by omega)).2.2.1)
    · show _ = nI ((gAt g) i)
      skip
      first | (simp only [st_rd, if_true, if_false]; done) | (simp only [st_rd, if_true, if_false]; (repeat' split) <;> first | (exfalso; omega) | rfl | exact (a4 i (by omega)).2.2.2.1)
    · show _ = nI ((gOw g) i)
      skip
      first | (simp only [st_rd, if_true, if_false]; done) | (simp only [st_rd, if_true, if_false]; (repeat' split) <;> first | (exfalso; omega) | rfl | exact (a4 i (by omega)).2.2.2.2)
  · intro i hi
    have hi : i < g.2.2.2.2.2.1.1 := hi
    show _ = nI (g.2.2.2.2.2.1.2 i)
    first | (simp only [st_rd, if_true, if_false]; done) | (simp only [st_rd, if_true, if_false]; (repeat' split) <;> first | (exfalso; omega) | rfl | exact a5 i (by omega))
  · intro i hi
    have hi : i < (gWn g + 1, fun k => if k = gWn g then v else gWt g k).1 := hi
    show _ = (gWn g + 1, fun k => if k = gWn g then v else gWt g k).2 i
    first | (simp only [st_rd, if_true, if_false]; done) | (simp only [st_rd, if_true, if_false]; (repeat' split) <;> first | (exfalso; omega) | rfl | exact a6 i (by omega))
  · exact TM_st (by omega) (TM_st (by omega) (a7) (by omega) (by omega)) (by omega) (by omega)
  · exact TM_st (by omega) (TM_st (by omega) (a8) (by omega) (by omega)) (by omega) (by omega)
theorem CA_wclr {g : GH} {μ : sm_Mem} (hP : gP g ≤ 6) (hN : gN g ≤ 10) (h : CA 1 g μ) : CA 1 (gMk g.1 (gP g) (gN g) (gY g) (gHo g) (gWa g) (gRo g) (gKd g) (gMs g) (gSn g) (gAt g) (gOw g) g.2.2.2.2.2.1 (0, gWt g) (gZ g)) (sm_st μ 1 16 (nI 0)) := by
  obtain ⟨⟨b1, b2, b3, b4, b5, b6, b7⟩, a2, a3, a4, a5, a6, a7, a8⟩ := h
  refine ⟨⟨?_, ?_, ?_, ?_, ?_, ?_, ?_⟩, ?_, ?_, ?_, ?_, ?_, ?_, ?_⟩
  · show _ = nI (gP g)
    try simp only [Nat.reduceAdd]
    rw [st_same]
    (repeat' split) <;> first | (exfalso; omega) | assumption | rfl
  · show _ = nI (gN g)
    try simp only [Nat.reduceAdd]
    rw [st_same]
    (repeat' split) <;> first | (exfalso; omega) | assumption | rfl
  · show _ = nI (gY g)
    try simp only [Nat.reduceAdd]
    rw [st_same]
    (repeat' split) <;> first | (exfalso; omega) | assumption | rfl
  · show _ = nI (gHo g)
    try simp only [Nat.reduceAdd]
    rw [st_same]
    (repeat' split) <;> first | (exfalso; omega) | assumption | rfl
  · show _ = nI g.2.2.2.2.2.1.1
    try simp only [Nat.reduceAdd]
    rw [st_same]
    (repeat' split) <;> first | (exfalso; omega) | assumption | rfl
  · show _ = nI (0, gWt g).1
    try simp only [Nat.reduceAdd]
    rw [st_same]
    (repeat' split) <;> first | (exfalso; omega) | assumption | rfl
  · show _ = (gZ g)
    try simp only [Nat.reduceAdd]
    rw [st_same]
    (repeat' split) <;> first | (exfalso; omega) | assumption | rfl
  · intro p hp
    have hp : p < (gP g) := hp
    show _ = nI ((gWa g) p)
    skip
    try simp only [Nat.reduceAdd]
    rw [st_ne _ _ _ _ _ (by decide)]
    (repeat' split) <;> first | (exfalso; omega) | rfl | exact a2 p (by omega)
  · intro a b ha hb
    show _ = nI (if a < (gP g) ∧ b < (gP g) then (gRo g) a b else 0)
    have h3 := a3 a b ha hb
    try simp only [Nat.reduceAdd]
    rw [st_ne _ _ _ _ _ (by decide)]
    first | exact h3 | ((repeat' split at h3) <;> (repeat' split) <;> first | (exfalso; omega) | assumption | rfl)
  · intro i hi
    have hi : i < (gN g) := hi
    refine ⟨?_, ?_, ?_, ?_, ?_⟩
    · show _ = nI ((gKd g) i)
      skip
      try simp only [Nat.reduceAdd]
      rw [st_ne _ _ _ _ _ (by decide)]
      (repeat' split) <;> first | (exfalso; omega) | rfl | exact (a4 i (by omega)).1
    · show _ = nI ((gMs g) i)
      skip
      try simp only [Nat.reduceAdd]
      rw [st_ne _ _ _ _ _ (by decide)]
      (repeat' split) <;> first | (exfalso; omega) | rfl | exact (a4 i (by omega)).2.1
    · show _ = nI ((gSn g) i)
      skip
      try simp only [Nat.reduceAdd]
      rw [st_ne _ _ _ _ _ (by decide)]
      (repeat' split) <;> first | (exfalso; omega) | rfl | exact (a4 i (by omega)).2.2.1
    · show _ = nI ((gAt g) i)
      skip
      try simp only [Nat.reduceAdd]
      rw [st_ne _ _ _ _ _ (by decide)]
      (repeat' split) <;> first | (exfalso; omega) | rfl | exact (a4 i (by omega)).2.2.2.1
    · show _ = nI ((gOw g) i)
      skip
      try simp only [Nat.reduceAdd]
      rw [st_ne _ _ _ _ _ (by decide)]
      (repeat' split) <;> first | (exfalso; omega) | rfl | exact (a4 i (by omega)).2.2.2.2
  · intro i hi
    have hi : i < g.2.2.2.2.2.1.1 := hi
    show _ = nI (g.2.2.2.2.2.1.2 i)
    try simp only [Nat.reduceAdd]
    rw [st_ne _ _ _ _ _ (by decide)]
    (repeat' split) <;> first | (exfalso; omega) | rfl | exact a5 i (by omega)
  · intro i hi
    have hi : i < (0, gWt g).1 := hi
    show _ = (0, gWt g).2 i
    try simp only [Nat.reduceAdd]
    rw [st_ne _ _ _ _ _ (by decide)]
    (repeat' split) <;> first | (exfalso; omega) | rfl | exact a6 i (by omega)
  · exact TX_fr a7 (by rw [st_ne _ _ _ _ _ (by decide)]) (by rw [st_ne _ _ _ _ _ (by decide)]) (by rw [st_ne _ _ _ _ _ (by decide)])
  · exact TX_fr a8 (by rw [st_ne _ _ _ _ _ (by decide)]) (by rw [st_ne _ _ _ _ _ (by decide)]) (by rw [st_ne _ _ _ _ _ (by decide)])
theorem MA_wclr {g : GH} {μ : sm_Mem} (hP : gP g ≤ 6) (hN : gN g ≤ 10) (h : MA 62 g μ) : MA 62 (gMk g.1 (gP g) (gN g) (gY g) (gHo g) (gWa g) (gRo g) (gKd g) (gMs g) (gSn g) (gAt g) (gOw g) g.2.2.2.2.2.1 (0, gWt g) (gZ g)) (sm_st μ 62 4 (nI 0)) := by
  obtain ⟨⟨b1, b2, b3, b4, b5, b6, b7⟩, a2, a3, a4, a5, a6, a7, a8⟩ := h
  refine ⟨⟨?_, ?_, ?_, ?_, ?_, ?_, ?_⟩, ?_, ?_, ?_, ?_, ?_, ?_, ?_⟩
  · show _ = nI (gP g)
    first | (simp only [st_rd, if_true, if_false]; done) | (simp only [st_rd, if_true, if_false]; (repeat' split) <;> first | (exfalso; omega) | assumption | rfl)
  · show _ = nI (gN g)
    first | (simp only [st_rd, if_true, if_false]; done) | (simp only [st_rd, if_true, if_false]; (repeat' split) <;> first | (exfalso; omega) | assumption | rfl)
  · show _ = nI (gY g)
    first | (simp only [st_rd, if_true, if_false]; done) | (simp only [st_rd, if_true, if_false]; (repeat' split) <;> first | (exfalso; omega) | assumption | rfl)
  · show _ = nI (gHo g)
    first | (simp only [st_rd, if_true, if_false]; done) | (simp only [st_rd, if_true, if_false]; (repeat' split) <;> first | (exfalso; omega) | assumption | rfl)
  · show _ = nI g.2.2.2.2.2.1.1
    first | (simp only [st_rd, if_true, if_false]; done) | (simp only [st_rd, if_true, if_false]; (repeat' split) <;> first | (exfalso; omega) | assumption | rfl)
  · show _ = nI (0, gWt g).1
    first | (simp only [st_rd, if_true, if_false]; done) | (simp only [st_rd, if_true, if_false]; (repeat' split) <;> first | (exfalso; omega) | assumption | rfl)
  · show _ = (gZ g)
    first | (simp only [st_rd, if_true, if_false]; done) | (simp only [st_rd, if_true, if_false]; (repeat' split) <;> first | (exfalso; omega) | assumption | rfl)
  · intro p hp
    have hp : p < (gP g) := hp
    show _ = nI ((gWa g) p)
    skip
    first | (simp only [st_rd, if_true, if_false]; done) | (simp only [st_rd, if_true, if_false]; (repeat' split) <;> first | (exfalso; omega) | rfl | exact a2 p (by omega))
  · intro a b ha hb
    have ha : a < (gP g) := ha
    have hb : b < (gP g) := hb
    show _ = nI ((gRo g) a b)
    first | (simp only [st_rd, if_true, if_false]; done) | (simp only [st_rd, if_true, if_false]; (repeat' split) <;> first | (exfalso; omega) | rfl | exact a3 a b (by omega) (by omega))
  · intro i hi
    have hi : i < (gN g) := hi
    refine ⟨?_, ?_, ?_, ?_, ?_⟩
    · show _ = nI ((gKd g) i)
      skip
      first | (simp only [st_rd, if_true, if_false]; done) | (simp only [st_rd, if_true, if_false]; (repeat' split) <;> first | (exfalso; omega) | rfl | exact (a4 i (by omega)).1)
    · show _ = nI ((gMs g) i)
      skip
      first | (simp only [st_rd, if_true, if_false]; done) | (simp only [st_rd, if_true, if_false]; (repeat' split) <;> first | (exfalso; omega) | rfl | exact (a4 i (by omega)).2.1)
    · show _ = nI ((gSn g) i)
      skip
      first | (simp only [st_rd, if_true, if_false]; done) | (simp only [st_rd, if_true, if_false]; (repeat' split) <;> first | (exfalso; omega) | rfl | exact (a4 i (by omega)).2.2.1)
    · show _ = nI ((gAt g) i)
      skip
      first | (simp only [st_rd, if_true, if_false]; done) | (simp only [st_rd, if_true, if_false]; (repeat' split) <;> first | (exfalso; omega) | rfl | exact (a4 i (by omega)).2.2.2.1)
    · show _ = nI ((gOw g) i)
      skip
      first | (simp only [st_rd, if_true, if_false]; done) | (simp only [st_rd, if_true, if_false]; (repeat' split) <;> first | (exfalso; omega) | rfl | exact (a4 i (by omega)).2.2.2.2)
  · intro i hi
    have hi : i < g.2.2.2.2.2.1.1 := hi
    show _ = nI (g.2.2.2.2.2.1.2 i)
    first | (simp only [st_rd, if_true, if_false]; done) | (simp only [st_rd, if_true, if_false]; (repeat' split) <;> first | (exfalso; omega) | rfl | exact a5 i (by omega))
  · intro i hi
    have hi : i < (0, gWt g).1 := hi
    show _ = (0, gWt g).2 i
    first | (simp only [st_rd, if_true, if_false]; done) | (simp only [st_rd, if_true, if_false]; (repeat' split) <;> first | (exfalso; omega) | rfl | exact a6 i (by omega))
  · exact TM_st (by omega) (a7) (by omega) (by omega)
  · exact TM_st (by omega) (a8) (by omega) (by omega)
theorem CA_tclr {g : GH} {μ : sm_Mem} (hP : gP g ≤ 6) (hN : gN g ≤ 10) (h : CA 1 g μ) : CA 1 (gMk g.1 (gP g) (gN g) (gY g) (gHo g) (gWa g) (gRo g) (gKd g) (gMs g) (gSn g) (gAt g) (gOw g) (0, gTp g) g.2.2.2.2.2.2.1 (gZ g)) (sm_st μ 1 15 (nI 0)) := by
  obtain ⟨⟨b1, b2, b3, b4, b5, b6, b7⟩, a2, a3, a4, a5, a6, a7, a8⟩ := h
  refine ⟨⟨?_, ?_, ?_, ?_, ?_, ?_, ?_⟩, ?_, ?_, ?_, ?_, ?_, ?_, ?_⟩
  · show _ = nI (gP g)
    try simp only [Nat.reduceAdd]
    rw [st_same]
    (repeat' split) <;> first | (exfalso; omega) | assumption | rfl
  · show _ = nI (gN g)
    try simp only [Nat.reduceAdd]
    rw [st_same]
    (repeat' split) <;> first | (exfalso; omega) | assumption | rfl
  · show _ = nI (gY g)
    try simp only [Nat.reduceAdd]
    rw [st_same]
    (repeat' split) <;> first | (exfalso; omega) | assumption | rfl
  · show _ = nI (gHo g)
    try simp only [Nat.reduceAdd]
    rw [st_same]
    (repeat' split) <;> first | (exfalso; omega) | assumption | rfl
  · show _ = nI (0, gTp g).1
    try simp only [Nat.reduceAdd]
    rw [st_same]
    (repeat' split) <;> first | (exfalso; omega) | assumption | rfl
  · show _ = nI g.2.2.2.2.2.2.1.1
    try simp only [Nat.reduceAdd]
    rw [st_same]
    (repeat' split) <;> first | (exfalso; omega) | assumption | rfl
  · show _ = (gZ g)
    try simp only [Nat.reduceAdd]
    rw [st_same]
    (repeat' split) <;> first | (exfalso; omega) | assumption | rfl
  · intro p hp
    have hp : p < (gP g) := hp
    show _ = nI ((gWa g) p)
    skip
    try simp only [Nat.reduceAdd]
    rw [st_ne _ _ _ _ _ (by decide)]
    (repeat' split) <;> first | (exfalso; omega) | rfl | exact a2 p (by omega)
  · intro a b ha hb
    show _ = nI (if a < (gP g) ∧ b < (gP g) then (gRo g) a b else 0)
    have h3 := a3 a b ha hb
    try simp only [Nat.reduceAdd]
    rw [st_ne _ _ _ _ _ (by decide)]
    first | exact h3 | ((repeat' split at h3) <;> (repeat' split) <;> first | (exfalso; omega) | assumption | rfl)
  · intro i hi
    have hi : i < (gN g) := hi
    refine ⟨?_, ?_, ?_, ?_, ?_⟩
    · show _ = nI ((gKd g) i)
      skip
      try simp only [Nat.reduceAdd]
      rw [st_ne _ _ _ _ _ (by decide)]
      (repeat' split) <;> first | (exfalso; omega) | rfl | exact (a4 i (by omega)).1
    · show _ = nI ((gMs g) i)
      skip
      try simp only [Nat.reduceAdd]
      rw [st_ne _ _ _ _ _ (by decide)]
      (repeat' split) <;> first | (exfalso; omega) | rfl | exact (a4 i (by omega)).2.1
    · show _ = nI ((gSn g) i)
      skip
      try simp only [Nat.reduceAdd]
      rw [st_ne _ _ _ _ _ (by decide)]
      (repeat' split) <;> first | (exfalso; omega) | rfl | exact (a4 i (by omega)).2.2.1
    · show _ = nI ((gAt g) i)
      skip
      try simp only [Nat.reduceAdd]
      rw [st_ne _ _ _ _ _ (by decide)]
      (repeat' split) <;> first | (exfalso; omega) | rfl | exact (a4 i (by omega)).2.2.2.1
    · show _ = nI ((gOw g) i)
      skip
      try simp only [Nat.reduceAdd]
      rw [st_ne _ _ _ _ _ (by decide)]
      (repeat' split) <;> first | (exfalso; omega) | rfl | exact (a4 i (by omega)).2.2.2.2
  · intro i hi
    have hi : i < (0, gTp g).1 := hi
    show _ = nI ((0, gTp g).2 i)
    try simp only [Nat.reduceAdd]
    rw [st_ne _ _ _ _ _ (by decide)]
    (repeat' split) <;> first | (exfalso; omega) | rfl | exact a5 i (by omega)
  · intro i hi
    have hi : i < g.2.2.2.2.2.2.1.1 := hi
    show _ = g.2.2.2.2.2.2.1.2 i
    try simp only [Nat.reduceAdd]
    rw [st_ne _ _ _ _ _ (by decide)]
    (repeat' split) <;> first | (exfalso; omega) | rfl | exact a6 i (by omega)
  · exact TX_fr a7 (by rw [st_ne _ _ _ _ _ (by decide)]) (by rw [st_ne _ _ _ _ _ (by decide)]) (by rw [st_ne _ _ _ _ _ (by decide)])
  · exact TX_fr a8 (by rw [st_ne _ _ _ _ _ (by decide)]) (by rw [st_ne _ _ _ _ _ (by decide)]) (by rw [st_ne _ _ _ _ _ (by decide)])
theorem MA_tclr {g : GH} {μ : sm_Mem} (hP : gP g ≤ 6) (hN : gN g ≤ 10) (h : MA 62 g μ) : MA 62 (gMk g.1 (gP g) (gN g) (gY g) (gHo g) (gWa g) (gRo g) (gKd g) (gMs g) (gSn g) (gAt g) (gOw g) (0, gTp g) g.2.2.2.2.2.2.1 (gZ g)) (sm_st μ 62 3 (nI 0)) := by
  obtain ⟨⟨b1, b2, b3, b4, b5, b6, b7⟩, a2, a3, a4, a5, a6, a7, a8⟩ := h
  refine ⟨⟨?_, ?_, ?_, ?_, ?_, ?_, ?_⟩, ?_, ?_, ?_, ?_, ?_, ?_, ?_⟩
  · show _ = nI (gP g)
    first | (simp only [st_rd, if_true, if_false]; done) | (simp only [st_rd, if_true, if_false]; (repeat' split) <;> first | (exfalso; omega) | assumption | rfl)
  · show _ = nI (gN g)
    first | (simp only [st_rd, if_true, if_false]; done) | (simp only [st_rd, if_true, if_false]; (repeat' split) <;> first | (exfalso; omega) | assumption | rfl)
  · show _ = nI (gY g)
    first | (simp only [st_rd, if_true, if_false]; done) | (simp only [st_rd, if_true, if_false]; (repeat' split) <;> first | (exfalso; omega) | assumption | rfl)
  · show _ = nI (gHo g)
    first | (simp only [st_rd, if_true, if_false]; done) | (simp only [st_rd, if_true, if_false]; (repeat' split) <;> first | (exfalso; omega) | assumption | rfl)
  · show _ = nI (0, gTp g).1
    first | (simp only [st_rd, if_true, if_false]; done) | (simp only [st_rd, if_true, if_false]; (repeat' split) <;> first | (exfalso; omega) | assumption | rfl)
  · show _ = nI g.2.2.2.2.2.2.1.1
    first | (simp only [st_rd, if_true, if_false]; done) | (simp only [st_rd, if_true, if_false]; (repeat' split) <;> first | (exfalso; omega) | assumption | rfl)
  · show _ = (gZ g)
    first | (simp only [st_rd, if_true, if_false]; done) | (simp only [st_rd, if_true, if_false]; (repeat' split) <;> first | (exfalso; omega) | assumption | rfl)
  · intro p hp
    have hp : p < (gP g) := hp
    show _ = nI ((gWa g) p)
    skip
    first | (simp only [st_rd, if_true, if_false]; done) | (simp only [st_rd, if_true, if_false]; (repeat' split) <;> first | (exfalso; omega) | rfl | exact a2 p (by omega))
  · intro a b ha hb
    have ha : a < (gP g) := ha
    have hb : b < (gP g) := hb
    show _ = nI ((gRo g) a b)
    first | (simp only [st_rd, if_true, if_false]; done) | (simp only [st_rd, if_true, if_false]; (repeat' split) <;> first | (exfalso; omega) | rfl | exact a3 a b (by omega) (by omega))
  · intro i hi
    have hi : i < (gN g) := hi
    refine ⟨?_, ?_, ?_, ?_, ?_⟩
    · show _ = nI ((gKd g) i)
      skip
      first | (simp only [st_rd, if_true, if_false]; done) | (simp only [st_rd, if_true, if_false]; (repeat' split) <;> first | (exfalso; omega) | rfl | exact (a4 i (by omega)).1)
    · show _ = nI ((gMs g) i)
      skip
      first | (simp only [st_rd, if_true, if_false]; done) | (simp only [st_rd, if_true, if_false]; (repeat' split) <;> first | (exfalso; omega) | rfl | exact (a4 i (by omega)).2.1)
    · show _ = nI ((gSn g) i)
      skip
      first | (simp only [st_rd, if_true, if_false]; done) | (simp only [st_rd, if_true, if_false]; (repeat' split) <;> first | (exfalso; omega) | rfl | exact (a4 i (by omega)).2.2.1)
    · show _ = nI ((gAt g) i)
      skip
      first | (simp only [st_rd, if_true, if_false]; done) | (simp only [st_rd, if_true, if_false]; (repeat' split) <;> first | (exfalso; omega) | rfl | exact (a4 i (by omega)).2.2.2.1)
    · show _ = nI ((gOw g) i)
      skip
      first | (simp only [st_rd, if_true, if_false]; done) | (simp only [st_rd, if_true, if_false]; (repeat' split) <;> first | (exfalso; omega) | rfl | exact (a4 i (by omega)).2.2.2.2)
  · intro i hi
    have hi : i < (0, gTp g).1 := hi
    show _ = nI ((0, gTp g).2 i)
    first | (simp only [st_rd, if_true, if_false]; done) | (simp only [st_rd, if_true, if_false]; (repeat' split) <;> first | (exfalso; omega) | rfl | exact a5 i (by omega))
  · intro i hi
    have hi : i < g.2.2.2.2.2.2.1.1 := hi
    show _ = g.2.2.2.2.2.2.1.2 i
    first | (simp only [st_rd, if_true, if_false]; done) | (simp only [st_rd, if_true, if_false]; (repeat' split) <;> first | (exfalso; omega) | rfl | exact a6 i (by omega))
  · exact TM_st (by omega) (a7) (by omega) (by omega)
  · exact TM_st (by omega) (a8) (by omega) (by omega)

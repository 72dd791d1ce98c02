/-! ===== what holds at the law's entry ===== -/
def sm_tm : Nat → Term := fun i => match i with
  | 0 => .string "SnowMoney$Reader" 22
  | 1 => .string "SnowMoney" 129
  | _ => .string "SnowMoney" 131
abbrev sm_fl : List Cond := flatC (Jvm.Cond.and given_1 narrow_1)
theorem fl_A : ∀ j, j < 7 → Cond.eq (.elem (.static "SnowMoney$Kinds" "ABOVE" "[I") (.int (Int32.ofNat j))) (.int (sm_above.getD j 0)) ∈ sm_fl := by decide +kernel
theorem fl_B : ∀ j, j < 28 → Cond.eq (.elem (.static "SnowMoney$Voices" "BODIES" "[I") (.int (Int32.ofNat j))) (.int (sm_bodies.getD j 0)) ∈ sm_fl := by decide +kernel
theorem fl_s1 : ∀ i, i < 3 → Cond.exactly (sm_tm i) "java/lang/String" ∈ sm_fl := by decide +kernel
theorem fl_s2 : ∀ i, i < 3 → Cond.eq (.field (sm_tm i) "java/lang/String" "coder" "B") (.int 0) ∈ sm_fl := by decide +kernel
theorem fl_s3 : ∀ i, i < 3 → Cond.arrayOf (.field (sm_tm i) "java/lang/String" "value" "[B") .byte ∈ sm_fl := by decide +kernel
theorem fl_s4 : ∀ i, i < 3 → Cond.eq (.length (.field (sm_tm i) "java/lang/String" "value" "[B")) (.int (Int32.ofNat (sm_slen.getD i 0))) ∈ sm_fl := by decide +kernel
theorem fl_s5 : ∀ i, i < 3 → ∀ j, j < sm_slen.getD i 0 → Cond.eq (.elem (.field (sm_tm i) "java/lang/String" "value" "[B") (.int (Int32.ofNat j))) (.int ((sm_sbyt.getD i []).getD j 0)) ∈ sm_fl := by decide +kernel
theorem fl_s6 : ∀ i, i < 3 → ∀ j, j < 3 → i = j ∨ Cond.not (Cond.eq (sm_tm i) (sm_tm j)) ∈ sm_fl ∨ Cond.not (Cond.eq (sm_tm j) (sm_tm i)) ∈ sm_fl := by decide +kernel
theorem fl_c : Cond.eq (.static "java/lang/String" "COMPACT_STRINGS" "Z") (.int 1) ∈ sm_fl := by decide +kernel
theorem fl_a1 : Cond.arrayOf (.static "SnowMoney$Kinds" "ABOVE" "[I") .int ∈ sm_fl := by decide +kernel
theorem fl_a2 : Cond.eq (.length (.static "SnowMoney$Kinds" "ABOVE" "[I")) (.int (Int32.ofNat 7)) ∈ sm_fl := by decide +kernel
theorem fl_b1 : Cond.arrayOf (.static "SnowMoney$Voices" "BODIES" "[I") .int ∈ sm_fl := by decide +kernel
theorem fl_b2 : Cond.eq (.length (.static "SnowMoney$Voices" "BODIES" "[I")) (.int (Int32.ofNat 28)) ∈ sm_fl := by decide +kernel
theorem sm_facts {s : State} {args : Array Value} {A : Nat → Prop} (hgv : (Jvm.Cond.and given_1 narrow_1).before args s = true) (hts : ∀ w ∈ lw_tbl, w.before args s = true) (hA : ∀ a : Nat, a < s.heap.size → ¬ A a) : ∃ (tA tB : Nat) (adK adV : Nat → Nat), (va_Z "SnowMoney$Kinds" "ABOVE" "[I" (.ref tA) A s s.heap ∧ va_T .int tA 7 (fun j => .int (sm_above.getD j 0)) A s s.heap ∧ va_Z "SnowMoney$Voices" "BODIES" "[I" (.ref tB) A s s.heap ∧ va_T .int tB 28 (fun j => .int (sm_bodies.getD j 0)) A s s.heap ∧ vk_S 3 sm_slen sm_sbyt adK adV A s s.heap ∧ va_Z "java/lang/String" "COMPACT_STRINGS" "Z" (.int 1) A s s.heap) ∧ (vk_R "SnowMoney$Reader" 22 "" (adK 0) s ∧ vk_R "SnowMoney" 129 "wyh" (adK 1) s ∧ vk_R "SnowMoney" 131 "smo" (adK 2) s) := by
  have hs := flat_of_before _ hgv
  obtain ⟨tA, hA1, hA2⟩ := va_Tof (tm := .static "SnowMoney$Kinds" "ABOVE" "[I") (ty := .int) (N := 7) (f := fun j => .int (sm_above.getD j 0)) (by decide) (hs _ fl_a1) (va_eqt (hs _ fl_a2)) (fun j hj => va_eqt (hs _ (fl_A j hj))) hA
  obtain ⟨tB, hB1, hB2⟩ := va_Tof (tm := .static "SnowMoney$Voices" "BODIES" "[I") (ty := .int) (N := 28) (f := fun j => .int (sm_bodies.getD j 0)) (by decide) (hs _ fl_b1) (va_eqt (hs _ fl_b2)) (fun j hj => va_eqt (hs _ (fl_B j hj))) hA
  obtain ⟨adK, adV, hS, hR⟩ := vk_Sof (tm := sm_tm) (len := sm_slen) (byt := sm_sbyt) (N := 3) (show ∀ i : Nat, i < 3 → sm_slen.getD i 0 < 2 ^ 31 by decide) (fun i hi => hs _ (fl_s1 i hi)) (fun i hi => hs _ (fl_s2 i hi)) (fun i hi => hs _ (fl_s3 i hi)) (fun i hi => hs _ (fl_s4 i hi)) (fun i hi j hj => hs _ (fl_s5 i hi j hj)) (fun i j hi hj hij => ((fl_s6 i hi j hj).resolve_left hij).imp (hs _) (hs _)) hA
  exact ⟨tA, tB, adK, adV, ⟨va_Zref (hts (.laysStatic "SnowMoney$Kinds" "ABOVE" "[I") (List.mem_append_right _ (List.mem_of_getElem? (i := 369) (by decide +kernel)))) (hts (.initialized "SnowMoney$Kinds") (List.mem_append_right _ (List.mem_of_getElem? (i := 10) (by decide +kernel)))) hA1 hA, hA2, va_Zref (hts (.laysStatic "SnowMoney$Voices" "BODIES" "[I") (List.mem_append_right _ (List.mem_of_getElem? (i := 767) (by decide +kernel)))) (hts (.initialized "SnowMoney$Voices") (List.mem_append_right _ (List.mem_of_getElem? (i := 6) (by decide +kernel)))) hB1 hA, hB2, hS, va_Zof (hts (.laysStatic "java/lang/String" "COMPACT_STRINGS" "Z") (List.mem_append_right _ (List.mem_of_getElem? (i := 475) (by decide +kernel)))) (hts (.initialized "java/lang/String") (List.mem_append_right _ (List.mem_of_getElem? (i := 12) (by decide +kernel)))) (va_eqi (hs _ fl_c)) hA⟩, vk_R.of (hts (.stringRef "SnowMoney$Reader" 22 "") (List.mem_append_right _ (List.mem_of_getElem? (i := 180) (by decide +kernel)))) (hR 0 (by decide)), vk_R.of (hts (.stringRef "SnowMoney" 129 "wyh") (List.mem_append_right _ (List.mem_of_getElem? (i := 408) (by decide +kernel)))) (hR 1 (by decide)), vk_R.of (hts (.stringRef "SnowMoney" 131 "smo") (List.mem_append_right _ (List.mem_of_getElem? (i := 409) (by decide +kernel)))) (hR 2 (by decide))⟩
theorem sm_classes {s : State} {args : Array Value} (hts : ∀ w ∈ lw_tbl, w.before args s = true) : ∃ (D : va_G) (cI cS : ClassId), va_K D sm_cls (sk_tys cI cS) s := by
  have htm : ∀ w ∈ sm_tbl, w.before args s = true := fun w hw => hts w (List.mem_filter.mp hw).1
  obtain ⟨c0, j0, h0⟩ := u_known (C := "SnowMoney$Duchy") (T := sm_T0) (N := 18) (n := 18) htm sm_F0.2.1 (hts (.instantiable "SnowMoney$Duchy" 18) (List.mem_append_right _ (List.mem_of_getElem? (i := 28) (by decide +kernel))))
  obtain ⟨c1, j1, h1⟩ := u_known (C := "SnowMoney$Foresight") (T := sm_T1) (N := 9) (n := 9) htm sm_F1.2.1 (hts (.instantiable "SnowMoney$Foresight" 9) (List.mem_append_right _ (List.mem_of_getElem? (i := 137) (by decide +kernel))))
  obtain ⟨c2, j2, h2⟩ := u_known (C := "SnowMoney$Reader") (T := sm_T2) (N := 5) (n := 5) htm sm_F2.2.1 (hts (.instantiable "SnowMoney$Reader" 5) (List.mem_append_right _ (List.mem_of_getElem? (i := 173) (by decide +kernel))))
  obtain ⟨c3, j3, h3⟩ := u_known (C := "SnowMoney$Sheet") (T := sm_T3) (N := 3) (n := 3) htm sm_F3.2.1 (hts (.instantiable "SnowMoney$Sheet" 3) (List.mem_append_right _ (List.mem_of_getElem? (i := 225) (by decide +kernel))))
  obtain ⟨c4, j4, h4⟩ := u_known (C := "SnowMoney$Text") (T := sm_T4) (N := 4) (n := 4) htm sm_F4.2.1 (hts (.instantiable "SnowMoney$Text" 4) (List.mem_append_right _ (List.mem_of_getElem? (i := 34) (by decide +kernel))))
  obtain ⟨c5, j5, h5⟩ := u_known (C := "SnowMoney$Voices") (T := sm_T5) (N := 5) (n := 5) htm sm_F5.2.1 (hts (.instantiable "SnowMoney$Voices" 5) (List.mem_append_right _ (List.mem_of_getElem? (i := 200) (by decide +kernel))))
  obtain ⟨c6, j6, h6⟩ := u_known (C := "SnowMoney") (T := sm_T6) (N := 8) (n := 8) htm sm_F6.2.1 (hts (.instantiable "SnowMoney" 8) (List.mem_append_right _ (List.mem_of_getElem? (i := 20) (by decide +kernel))))
  obtain ⟨c7, j7, h7⟩ := u_known (C := "SnowMoneyModel") (T := sm_T7) (N := 28) (n := 28) htm sm_F7.2.1 (hts (.instantiable "SnowMoneyModel" 28) (List.mem_append_right _ (List.mem_of_getElem? (i := 853) (by decide +kernel))))
  obtain ⟨cI, kI, pI, g1, g2, g3⟩ := Cond.arrayClass_spec (hts (.arrayClass .int) (List.mem_append_right _ (List.mem_of_getElem? (i := 52) (by decide +kernel))))
  obtain ⟨pS, cS, kS, f1, f2, f3, f4, f5⟩ := Cond.arrayOver_spec (hts (.arrayOver (.object "SnowMoney$Sheet")) (List.mem_append_right _ (List.mem_of_getElem? (i := 224) (by decide +kernel))))
  refine ⟨(fun k => match k with | 0 => c0 | 1 => c1 | 2 => c2 | 3 => c3 | 4 => c4 | 5 => c5 | 6 => c6 | _ => c7, fun k => match k with | 0 => j0 | 1 => j1 | 2 => j2 | 3 => j3 | 4 => j4 | 5 => j5 | 6 => j6 | _ => j7), cI, cS, ?_, ?_⟩
  · intro k q hq
    match k, hq with
    | 0, hq => cases hq; exact h0
    | 1, hq => cases hq; exact h1
    | 2, hq => cases hq; exact h2
    | 3, hq => cases hq; exact h3
    | 4, hq => cases hq; exact h4
    | 5, hq => cases hq; exact h5
    | 6, hq => cases hq; exact h6
    | 7, hq => cases hq; exact h7
    | k + 8, hq => simp [sm_cls] at hq
  · intro k q hq
    match k, hq with
    | 0, hq =>
      cases hq
      exact ⟨fun n z => ⟨fun k h => (by cases h), kI, g2, pI, g3⟩, g1⟩
    | 1, hq =>
      cases hq
      exact ⟨fun n z => ⟨fun k h => (by cases h), kS, f3, pS, f4⟩, kS, pS, f3, f4, f1, f5⟩
    | k + 2, hq => simp at hq
theorem sm_nests {s : State} {args : Array Value} {a1 : Nat} (hts : ∀ w ∈ lw_tbl, w.before args s = true) (hR : vk_R "SnowMoney$Reader" 22 "" a1 s) : sk_N a1 s :=
  ⟨hR, va_AO.of (hts (.arrayOver (.object "SnowMoney$Sheet")) (List.mem_append_right _ (List.mem_of_getElem? (i := 224) (by decide +kernel)))), va_Nw.of rfl (hts (.methodLinkNest "SnowMoney" 9 ⟨"SnowMoney$Duchy", "<init>", "()V"⟩ "SnowMoney") (List.mem_append_right _ (List.mem_of_getElem? (i := 29) (by decide +kernel)))), va_Nw.of rfl (hts (.methodLinkNest "SnowMoney$Duchy" 39 ⟨"SnowMoney$Text", "<init>", "()V"⟩ "SnowMoney") (List.mem_append_right _ (List.mem_of_getElem? (i := 35) (by decide +kernel)))), va_Nw.of rfl (hts (.methodLinkNest "SnowMoney" 30 ⟨"SnowMoney$Reader", "<init>", "()V"⟩ "SnowMoney") (List.mem_append_right _ (List.mem_of_getElem? (i := 174) (by decide +kernel)))), va_Nw.of rfl (hts (.methodLinkNest "SnowMoney$Reader" 9 ⟨"SnowMoney$Text", "<init>", "()V"⟩ "SnowMoney") (List.mem_append_right _ (List.mem_of_getElem? (i := 179) (by decide +kernel)))), va_Nw.of rfl (hts (.methodLinkNest "SnowMoney" 37 ⟨"SnowMoney$Voices", "<init>", "()V"⟩ "SnowMoney") (List.mem_append_right _ (List.mem_of_getElem? (i := 201) (by decide +kernel)))), va_Nw.of rfl (hts (.methodLinkNest "SnowMoney" 48 ⟨"SnowMoney$Sheet", "<init>", "()V"⟩ "SnowMoney") (List.mem_append_right _ (List.mem_of_getElem? (i := 226) (by decide +kernel))))⟩

set_option maxHeartbeats 4000000 in
set_option maxRecDepth 100000 in
/-- THE LAW, from its entry -/
theorem whole_start {p : Program} {e : Env} {s : State} {m : MethodId} {below : List Frame} {meth : Method} {c : Code} (l : Launch) (hflags : l.flags = flags0) {b L : Nat} {xs : Nat → Int32} (hL : L ≤ 3072) (C0 : lw_At p s m meth c b L xs) : W p l e room_1 s m #[Value.ref b] below meth c s.heap [] 0 0 (lw_Z below #[Value.ref b] s) (entryFrame m ([Value.ref b] : List Value).toArray 4) := by
  obtain ⟨hx, hb, hr, hml, hown, hts, hX, hbl, hlocks, hgv⟩ := id C0
  have hA : ∀ a : Nat, a < s.heap.size → ¬ (fun q : Nat => s.heap.size ≤ q) a := fun a h => Nat.not_le.mpr h
  obtain ⟨tA, tB, aK, aV, ⟨z1, z2, z3, z4, z5, z6⟩, z7, z8, z9⟩ := sm_facts (A := fun q : Nat => s.heap.size ≤ q) hgv hts hA
  obtain ⟨D, cI, cS, hK⟩ := sm_classes hts
  have htm : ∀ w ∈ sm_tbl, w.before #[Value.ref b] s = true := fun w hw => hts w (List.mem_filter.mp hw).1
  have C : sk_C p s m #[Value.ref b] c code 4 "SnowMoneyLaw" (fun q : Nat => s.heap.size ≤ q) D cI cS (aK 0) := ⟨hx, hb, hml, hown, htm, hK, fun _ h => h, sm_nests hts z7⟩
  have start : sk_W p l e room_1 s m #[Value.ref b] below meth c (fun q : Nat => s.heap.size ≤ q) (lw_Z below #[Value.ref b] s) D 4 0 0 0 [] [(0, .ref b)] [] := by
    refine sk_new C sm_F6 kw_90 kw_91 kw_92 (fs := kf_X) kd_X (Nat.le_of_ble_eq_true rfl) (Nat.le_of_ble_eq_true rfl) (fun q1 => [(q1, .inr (6, [.null, .null, .null, .null, .null, .null, .null, .int 0]))]) (fun _ => rfl) dL_0 (fun q1 => ?_)
    refine sk_dup C rfl dL_3 ?_
    refine sk_call C (wr := []) [] (kc_X l) kwok_95 kw_96 rfl 0 rfl [] rfl rfl (by decide) (fun u2 => po_X u2 q1 cI cS (aK 0)) (fun _ => rfl) rfl ⟨Nat.le_of_ble_eq_true rfl, Nat.le_of_ble_eq_true rfl⟩ (Nat.le_of_ble_eq_true rfl) ⟨Nat.le_of_ble_eq_true rfl, Nat.le_of_ble_eq_true rfl⟩ dL_4 (fun u2 => ?_)
    refine sk_astore_n C (lo2 := [(1, .ref q1), (0, .ref b)]) rfl (by decide) dL_7 rfl ?_
    refine sk_new C sm_F7 kw_97 kw_98 kw_99 (fs := kf_M) kd_M (Nat.le_of_ble_eq_true rfl) (Nat.le_of_ble_eq_true rfl) (fun q3 => (po_X u2 q1 cI cS (aK 0) ++ ([(q3, .inr (7, [.null, .null, .null, .null, .int 0, .int 0, .null, .int 0, .int 0, .int 0, .int 0, .int 0, .int 0, .int 0, .int 0, .int 0, .null, .int 0, .int 0, .null, .null, .null, .null, .null, .int 0, .int 0, .int 0, .int 0]))]))) (fun _ => rfl) dL_8 (fun q3 => ?_)
    refine sk_dup C rfl dL_11 ?_
    refine sk_call C (wr := po_X u2 q1 cI cS (aK 0)) [] (kc_M l) kwok_102 kw_103 rfl 61 rfl [0, 1, 2, 3, 4, 5, 6, 7, 8, 9, 10, 11, 12, 13, 14, 15, 16, 17, 18, 19, 20, 21, 22, 23, 24, 25, 26, 27, 28, 29, 30, 31, 32, 33, 34, 35, 36, 37, 38, 39, 40, 41, 42, 43, 44, 45, 46, 47, 48, 49, 50, 51, 52, 53, 54, 55, 56, 57, 58, 59, 60] rfl rfl (by decide) (fun u4 => (po_X u2 q1 cI cS (aK 0) ++ (po_M u4 q3 cI cS (aK 0)))) (fun _ => rfl) rfl ⟨Nat.le_of_ble_eq_true rfl, Nat.le_of_ble_eq_true rfl⟩ (Nat.le_of_ble_eq_true rfl) ⟨Nat.le_of_ble_eq_true rfl, Nat.le_of_ble_eq_true rfl⟩ dL_12 (fun u4 => ?_)
    refine sk_astore_n C (lo2 := [(2, .ref q3), (1, .ref q1), (0, .ref b)]) rfl (by decide) dL_15 rfl ?_
    refine sk_iconst C (v := 0) dL_16 (by decide) ?_
    refine sk_istore_n C (lo2 := [(3, .int 0), (2, .ref q3), (1, .ref q1), (0, .ref b)]) rfl (by decide) dL_17 rfl ?_
    intro H locs ls hP hD hS hLs
    rw [sm_wl0 (aV := aV) (tA := tA) (tB := tB) (b := b) (D := D)] at hP hD
    have CC : sm_C p s m #[Value.ref b] c code 4 "SnowMoneyLaw" (fun q : Nat => s.heap.size ≤ q) (sm_ad q1 q3 u2 u4 aK aV tA tB b, D.1, D.2, cI, cS) := by
      refine ⟨hx, hb, hml, hown, htm, hK, fun _ h => h, ⟨z1, z2, z3, z4, ?_, z6⟩, z7, z8, z9⟩
      have e1 : ∀ i, i < 3 → sm_ad q1 q3 u2 u4 aK aV tA tB b (100 + i) = aK i := fun i hi => by
        rcases (by omega : i = 0 ∨ i = 1 ∨ i = 2) with rfl | rfl | rfl <;> rfl
      have e2 : ∀ i, i < 3 → sm_ad q1 q3 u2 u4 aK aV tA tB b (120 + i) = aV i := fun i hi => by
        rcases (by omega : i = 0 ∨ i = 1 ∨ i = 2) with rfl | rfl | rfl <;> rfl
      refine ⟨fun i hi => ?_, fun i j hi hj he => z5.2 i j hi hj ?_⟩
      · have h1 := z5.1 i hi
        rw [← e1 i hi, ← e2 i hi] at h1
        exact h1
      · have he : sm_ad q1 q3 u2 u4 aK aV tA tB b (100 + i) = sm_ad q1 q3 u2 u4 aK aV tA tB b (100 + j) := he
        rw [e1 i hi, e1 j hj] at he
        exact he
    exact law_loop hL C0 CC rfl ⟨Nat.le_of_ble_eq_true rfl, Nat.le_of_ble_eq_true rfl⟩ (L + 1) 0 0 sm_mu0 (Nat.zero_le _) (by omega) (Nat.le_refl _) mu0_RR H locs ls hP hD hS (lv_sub hLs [3, 2, 1, 0] rfl)
  have hl := lv_entry ([.ref b]) (n := 4) (Nat.le_of_ble_eq_true rfl)
  rw [lg_entry_eq]
  generalize (lg_sl ([.ref b]) ++ List.replicate (4 - (lg_sl ([.ref b])).length) Slot.unset).toArray = ls at hl ⊢
  have hl : lv_has ls 4 [(0, .ref b)] := hl
  exact start s.heap [] ls (fun k q h => by simp at h) ⟨fun i j p q h => by simp at h, fun k q h => by simp at h⟩ va_S.rf hl

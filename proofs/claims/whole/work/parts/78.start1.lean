theorem kw_90 : Cond.classLink "SnowMoneyLaw" 7 "SnowMoney" ∈ sm_tbl := sm_in (List.mem_append_right _ (List.mem_of_getElem? (i := 19) (by decide +kernel))) (by decide +kernel)
theorem kw_91 : Cond.instantiable "SnowMoney" 8 ∈ sm_tbl := sm_in (List.mem_append_right _ (List.mem_of_getElem? (i := 20) (by decide +kernel))) (by decide +kernel)
theorem kw_92 : Cond.initialized "SnowMoney" ∈ sm_tbl := sm_in (List.mem_append_right _ (List.mem_of_getElem? (i := 1) (by decide +kernel))) (by decide +kernel)
theorem kw_93 : Cond.methodLink "SnowMoneyLaw" 9 ⟨"SnowMoney", "<init>", "()V"⟩ ∈ sm_tbl := sm_in (List.mem_append_right _ (List.mem_of_getElem? (i := 21) (by decide +kernel))) (by decide +kernel)
theorem kw_94 : Cond.code ⟨"SnowMoney", "<init>", "()V"⟩ prog_1_method_1_code 2 none ∈ sm_tbl := sm_in (List.mem_append_right _ (List.mem_of_getElem? (i := 23) (by decide +kernel))) (by decide +kernel)
theorem kwok_95 : sm_okB "SnowMoneyLaw" 9 ⟨"SnowMoney", "<init>", "()V"⟩ prog_1_method_1_code 2 none 0 := ⟨kw_93, kw_92, kw_94, by decide +kernel⟩
theorem kw_96 : Cond.instanceMethod ⟨"SnowMoney", "<init>", "()V"⟩ ∈ sm_tbl := sm_in (List.mem_append_right _ (List.mem_of_getElem? (i := 22) (by decide +kernel))) (by decide +kernel)
theorem kw_97 : Cond.classLink "SnowMoneyLaw" 10 "SnowMoneyModel" ∈ sm_tbl := sm_in (List.mem_append_right _ (List.mem_of_getElem? (i := 852) (by decide +kernel))) (by decide +kernel)
theorem kw_98 : Cond.instantiable "SnowMoneyModel" 28 ∈ sm_tbl := sm_in (List.mem_append_right _ (List.mem_of_getElem? (i := 853) (by decide +kernel))) (by decide +kernel)
theorem kw_99 : Cond.initialized "SnowMoneyModel" ∈ sm_tbl := sm_in (List.mem_append_right _ (List.mem_of_getElem? (i := 8) (by decide +kernel))) (by decide +kernel)
theorem kw_100 : Cond.methodLink "SnowMoneyLaw" 12 ⟨"SnowMoneyModel", "<init>", "()V"⟩ ∈ sm_tbl := sm_in (List.mem_append_right _ (List.mem_of_getElem? (i := 854) (by decide +kernel))) (by decide +kernel)
theorem kw_101 : Cond.code ⟨"SnowMoneyModel", "<init>", "()V"⟩ prog_10_method_1_code 1 none ∈ sm_tbl := sm_in (List.mem_append_right _ (List.mem_of_getElem? (i := 856) (by decide +kernel))) (by decide +kernel)
theorem kwok_102 : sm_okB "SnowMoneyLaw" 12 ⟨"SnowMoneyModel", "<init>", "()V"⟩ prog_10_method_1_code 1 none 0 := ⟨kw_100, kw_99, kw_101, by decide +kernel⟩
theorem kw_103 : Cond.instanceMethod ⟨"SnowMoneyModel", "<init>", "()V"⟩ ∈ sm_tbl := sm_in (List.mem_append_right _ (List.mem_of_getElem? (i := 855) (by decide +kernel))) (by decide +kernel)
def sm_fd (j : Nat) : Int32 := if j = 13 then 2 else if j = 17 then 1 else 0
def sm_fr : Nat → Int32 := upd (upd (upd (upd (fun _ => 0) 1 1) 8 2) 5 (-1)) 6 (-1)
def sm_mu0 : sm_Mem := fun k => match k with
  | 1 => sm_fd
  | 19 => sm_fd
  | 62 => sm_fr
  | _ => fun _ => 0
def sm_g0 : GH := ((none, none), (0, 0, 2, 0), (fun _ => 0), (fun _ _ => 0), ((fun _ => 0), (fun _ => 0), (fun _ => 0), (fun _ => 0), (fun _ => 0)), (0, fun _ => 0), (0, fun _ => 0), 1)
theorem g0_ok : gOk sm_g0 := ⟨by decide, by decide, by decide, by decide, fun p hp => absurd (show p < 0 from hp) (by omega), fun _ _ => by show 0 ≤ 9; omega, fun i hi => absurd (show i < 0 from hi) (by omega), by decide, fun i hi => absurd (show i < 0 from hi) (by omega), by decide⟩
theorem mu0_CA : CA 1 sm_g0 sm_mu0 := by
  refine ⟨⟨rfl, rfl, rfl, rfl, rfl, rfl, rfl⟩, fun p hp => absurd (show p < 0 from hp) (by omega), fun a b _ _ => ?_, fun i hi => absurd (show i < 0 from hi) (by omega), fun i hi => absurd (show i < 0 from hi) (by omega), fun i hi => absurd (show i < 0 from hi) (by omega), rfl, rfl⟩
  show (0 : Int32) = nI (if a < 0 ∧ b < 0 then 0 else 0)
  rw [ite_self]
  rfl
theorem mu0_MA : MA 62 sm_g0 sm_mu0 := ⟨⟨rfl, rfl, rfl, rfl, rfl, rfl, rfl⟩, fun p hp => absurd (show p < 0 from hp) (by omega), fun a b ha _ => absurd (show a < 0 from ha) (by omega), fun i hi => absurd (show i < 0 from hi) (by omega), fun i hi => absurd (show i < 0 from hi) (by omega), fun i hi => absurd (show i < 0 from hi) (by omega), rfl, rfl⟩
theorem mu0_RR : RR 0 sm_mu0 := by
  refine ⟨⟨sm_g0, g0_ok, mu0_CA, mu0_MA⟩, rfl, fun k _ => rfl, ⟨0, by omega, rfl, rfl, fun i hi => absurd hi (by omega)⟩, fun s hs => ?_, ⟨0, Nat.le_refl _, rfl, rfl, rfl, fun h => absurd h (by omega)⟩⟩
  rcases (by omega : s = 0 ∨ s = 1 ∨ s = 2 ∨ s = 3) with rfl | rfl | rfl | rfl <;> exact ⟨0, 0, Or.inl rfl, by omega, rfl, rfl, rfl, rfl, fun _ => rfl, fun i _ => rfl⟩
def sm_ad (qX qM : Nat) (uX uM aK aV : Nat → Nat) (tA tB b : Nat) : Nat → Nat := fun k => if k = 0 then qX else if k < 61 then uX (k - 1) else if k = 61 then qM else if k < 73 then uM (k - 62) else if k < 110 then aK (k - 100) else if k = 110 then tA else if k = 111 then tB else if k < 130 then aV (k - 120) else b
theorem sm_rowsF {qX qM : Nat} {uX uM aK aV : Nat → Nat} {tA tB b : Nat} : (va_up (va_up (va_up (va_up (fun _ => none) 0 (some (uX 51))) 1 (some (uX 53))) 2 (some (uX 55))) 3 (some (uX 57))) = fun i => (([52, 54, 56, 58] : List Nat)[i]?).map (sm_ad qX qM uX uM aK aV tA tB b) := by
  funext i
  match i with
  | 0 => rfl
  | 1 => rfl
  | 2 => rfl
  | 3 => rfl
  | i + 4 =>
    simp [va_up]
def xI {α β : Type} (f : Nat → α → β) : Nat → List α → List β
  | _, [] => []
  | k, a :: l => f k a :: xI f (k + 1) l
theorem xI_eq {α β : Type} (f : Nat → α → β) (l : List α) : l.mapIdx f = xI f 0 l := by
  have h : ∀ (l : List α) (k : Nat), xI f k l = l.mapIdx (fun i => f (k + i)) := by
    intro l
    induction l with
    | nil => intro k; rfl
    | cons a l ih =>
      intro k
      rw [List.mapIdx_cons]
      show f k a :: xI f (k + 1) l = _
      rw [ih]
      simp [Nat.add_assoc, Nat.add_comm 1]
  rw [h]
  simp
theorem xI_cons {α β : Type} {f : Nat → α → β} {k j : Nat} {x : β} {xs : List β} {a : α} {l : List α} (h : x = f k a) (hj : k + 1 = j) (h1 : xs = xI f j l) : x :: xs = xI f k (a :: l) := by subst hj; subst h; subst h1; rfl
theorem ce_obj {ad : Nat → Nat} {cI cS : ClassId} {ci : Nat} {fl : List Nat} {f : Nat → Int32} {h k : Nat} {vs : List Value} (e : h = ad k) (e1 : vs = xI (fun j d => sm_fv ad f j d) 0 fl) : ((h, .inr (ci, vs)) : Nat × va_E) = (ad k, sm_cE ad cI cS (1, ci, fl) f) := by
  subst e; subst e1
  rw [← xI_eq]
  rfl
theorem ce_arr {ad : Nat → Nat} {cI cS : ClassId} {n : Nat} {fl : List Nat} {f g : Nat → Int32} {h k : Nat} (e : h = ad k) (e1 : g = f) : ((h, .inl (cI, n, .inl g)) : Nat × va_E) = (ad k, sm_cE ad cI cS (0, n, fl) f) := by
  subst e; subst e1; rfl
set_option maxHeartbeats 4000000 in
set_option maxRecDepth 100000 in
theorem sm_wl0 {qX qM : Nat} {uX uM aK aV : Nat → Nat} {tA tB b : Nat} {D : va_G} {cI cS : ClassId} : po_X uX qX cI cS (aK 0) ++ po_M uM qM cI cS (aK 0) = sm_wl (sm_ad qX qM uX uM aK aV tA tB b, D.1, D.2, cI, cS) sm_mu0 := by
  unfold po_X po_M
  rw [sm_rowsF (qX := qX) (qM := qM) (uM := uM) (aK := aK) (aV := aV) (tA := tA) (tB := tB) (b := b)]
  unfold sm_wl
  rw [xI_eq]
  unfold sm_lays
  simp only [List.cons_append, List.nil_append]
  refine xI_cons (ce_obj rfl ((xI_cons rfl rfl (xI_cons rfl rfl (xI_cons rfl rfl (xI_cons rfl rfl (xI_cons rfl rfl (xI_cons rfl rfl (xI_cons rfl rfl (xI_cons rfl rfl rfl)))))))))) rfl ?_
  refine xI_cons (ce_obj rfl ((xI_cons rfl rfl (xI_cons rfl rfl (xI_cons rfl rfl (xI_cons rfl rfl (xI_cons rfl rfl (xI_cons rfl rfl (xI_cons rfl rfl (xI_cons rfl rfl (xI_cons rfl rfl (xI_cons rfl rfl (xI_cons rfl rfl (xI_cons rfl rfl (xI_cons rfl rfl (xI_cons rfl rfl (xI_cons rfl rfl (xI_cons rfl rfl (xI_cons rfl rfl (xI_cons rfl rfl rfl)))))))))))))))))))) rfl ?_
  refine xI_cons (ce_arr rfl rfl) rfl ?_
  refine xI_cons (ce_arr rfl rfl) rfl ?_
  refine xI_cons (ce_arr rfl rfl) rfl ?_
  refine xI_cons (ce_arr rfl rfl) rfl ?_
  refine xI_cons (ce_arr rfl rfl) rfl ?_
  refine xI_cons (ce_arr rfl rfl) rfl ?_
  refine xI_cons (ce_arr rfl rfl) rfl ?_
  refine xI_cons (ce_arr rfl rfl) rfl ?_
  refine xI_cons (ce_arr rfl rfl) rfl ?_
  refine xI_cons (ce_obj rfl ((xI_cons rfl rfl (xI_cons rfl rfl (xI_cons rfl rfl (xI_cons rfl rfl rfl)))))) rfl ?_
  refine xI_cons (ce_arr rfl rfl) rfl ?_
  refine xI_cons (ce_arr rfl rfl) rfl ?_
  refine xI_cons (ce_arr rfl rfl) rfl ?_
  refine xI_cons (ce_obj rfl ((xI_cons rfl rfl (xI_cons rfl rfl (xI_cons rfl rfl (xI_cons rfl rfl rfl)))))) rfl ?_
  refine xI_cons (ce_arr rfl rfl) rfl ?_
  refine xI_cons (ce_arr rfl rfl) rfl ?_
  refine xI_cons (ce_arr rfl rfl) rfl ?_
  refine xI_cons (ce_obj rfl ((xI_cons rfl rfl (xI_cons rfl rfl (xI_cons rfl rfl (xI_cons rfl rfl (xI_cons rfl rfl (xI_cons rfl rfl (xI_cons rfl rfl (xI_cons rfl rfl (xI_cons rfl rfl (xI_cons rfl rfl (xI_cons rfl rfl (xI_cons rfl rfl (xI_cons rfl rfl (xI_cons rfl rfl (xI_cons rfl rfl (xI_cons rfl rfl (xI_cons rfl rfl (xI_cons rfl rfl rfl)))))))))))))))))))) rfl ?_
  refine xI_cons (ce_arr rfl rfl) rfl ?_
  refine xI_cons (ce_arr rfl rfl) rfl ?_
  refine xI_cons (ce_arr rfl rfl) rfl ?_
  refine xI_cons (ce_arr rfl rfl) rfl ?_
  refine xI_cons (ce_arr rfl rfl) rfl ?_
  refine xI_cons (ce_arr rfl rfl) rfl ?_
  refine xI_cons (ce_arr rfl rfl) rfl ?_
  refine xI_cons (ce_arr rfl rfl) rfl ?_
  refine xI_cons (ce_arr rfl rfl) rfl ?_
  refine xI_cons (ce_obj rfl ((xI_cons rfl rfl (xI_cons rfl rfl (xI_cons rfl rfl (xI_cons rfl rfl rfl)))))) rfl ?_
  refine xI_cons (ce_arr rfl rfl) rfl ?_
  refine xI_cons (ce_arr rfl rfl) rfl ?_
  refine xI_cons (ce_arr rfl rfl) rfl ?_
  refine xI_cons (ce_obj rfl ((xI_cons rfl rfl (xI_cons rfl rfl (xI_cons rfl rfl (xI_cons rfl rfl rfl)))))) rfl ?_
  refine xI_cons (ce_arr rfl rfl) rfl ?_
  refine xI_cons (ce_arr rfl rfl) rfl ?_
  refine xI_cons (ce_arr rfl rfl) rfl ?_
  refine xI_cons (ce_obj rfl ((xI_cons rfl rfl (xI_cons rfl rfl (xI_cons rfl rfl (xI_cons rfl rfl (xI_cons rfl rfl (xI_cons rfl rfl (xI_cons rfl rfl (xI_cons rfl rfl (xI_cons rfl rfl rfl))))))))))) rfl ?_
  refine xI_cons (ce_arr rfl rfl) rfl ?_
  refine xI_cons (ce_arr rfl rfl) rfl ?_
  refine xI_cons (ce_arr rfl rfl) rfl ?_
  refine xI_cons (ce_arr rfl rfl) rfl ?_
  refine xI_cons (ce_arr rfl rfl) rfl ?_
  refine xI_cons (ce_obj rfl ((xI_cons rfl rfl (xI_cons rfl rfl (xI_cons rfl rfl (xI_cons rfl rfl (xI_cons rfl rfl rfl))))))) rfl ?_
  refine xI_cons (ce_obj rfl ((xI_cons rfl rfl (xI_cons rfl rfl (xI_cons rfl rfl (xI_cons rfl rfl rfl)))))) rfl ?_
  refine xI_cons (ce_arr rfl rfl) rfl ?_
  refine xI_cons (ce_arr rfl rfl) rfl ?_
  refine xI_cons (ce_arr rfl rfl) rfl ?_
  refine xI_cons (ce_arr rfl rfl) rfl ?_
  refine xI_cons (ce_obj rfl ((xI_cons rfl rfl (xI_cons rfl rfl (xI_cons rfl rfl (xI_cons rfl rfl (xI_cons rfl rfl rfl))))))) rfl ?_
  refine xI_cons (ce_arr rfl rfl) rfl ?_
  refine xI_cons (rfl) rfl ?_
  refine xI_cons (ce_obj rfl ((xI_cons rfl rfl (xI_cons rfl rfl (xI_cons rfl rfl rfl))))) rfl ?_
  refine xI_cons (ce_arr rfl rfl) rfl ?_
  refine xI_cons (ce_obj rfl ((xI_cons rfl rfl (xI_cons rfl rfl (xI_cons rfl rfl rfl))))) rfl ?_
  refine xI_cons (ce_arr rfl rfl) rfl ?_
  refine xI_cons (ce_obj rfl ((xI_cons rfl rfl (xI_cons rfl rfl (xI_cons rfl rfl rfl))))) rfl ?_
  refine xI_cons (ce_arr rfl rfl) rfl ?_
  refine xI_cons (ce_obj rfl ((xI_cons rfl rfl (xI_cons rfl rfl (xI_cons rfl rfl rfl))))) rfl ?_
  refine xI_cons (ce_arr rfl rfl) rfl ?_
  refine xI_cons (ce_arr rfl rfl) rfl ?_
  refine xI_cons (ce_obj rfl ((xI_cons rfl rfl (xI_cons rfl rfl (xI_cons rfl rfl (xI_cons rfl rfl (xI_cons rfl rfl (xI_cons rfl rfl (xI_cons rfl rfl (xI_cons rfl rfl (xI_cons rfl rfl (xI_cons rfl rfl (xI_cons rfl rfl (xI_cons rfl rfl (xI_cons rfl rfl (xI_cons rfl rfl (xI_cons rfl rfl (xI_cons rfl rfl (xI_cons rfl rfl (xI_cons rfl rfl (xI_cons rfl rfl (xI_cons rfl rfl (xI_cons rfl rfl (xI_cons rfl rfl (xI_cons rfl rfl (xI_cons rfl rfl (xI_cons rfl rfl (xI_cons rfl rfl (xI_cons rfl rfl (xI_cons rfl rfl rfl)))))))))))))))))))))))))))))) rfl ?_
  refine xI_cons (ce_arr rfl rfl) rfl ?_
  refine xI_cons (ce_arr rfl rfl) rfl ?_
  refine xI_cons (ce_arr rfl rfl) rfl ?_
  refine xI_cons (ce_arr rfl rfl) rfl ?_
  refine xI_cons (ce_arr rfl rfl) rfl ?_
  refine xI_cons (ce_arr rfl rfl) rfl ?_
  refine xI_cons (ce_arr rfl rfl) rfl ?_
  refine xI_cons (ce_arr rfl rfl) rfl ?_
  refine xI_cons (ce_arr rfl rfl) rfl ?_
  refine xI_cons (ce_arr rfl rfl) rfl ?_
  refine xI_cons (ce_arr rfl rfl) rfl ?_
  rfl

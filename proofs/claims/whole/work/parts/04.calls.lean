
def sm_args : Nat → List sm_V → List (Nat × sm_V)
  | _, [] => []
  | i, v :: vs => (i, v) :: sm_args (if sm_cat v = 2 then i + 2 else i + 1) vs
theorem sm_args_eq (ad : Nat → Nat) : ∀ (i : Nat) (vs : List sm_V), lv_args i (vs.map (sm_cv ad)) = (sm_args i vs).map fun q => (q.1, sm_cv ad q.2)
  | _, [] => rfl
  | i, v :: vs => by
    simp only [List.map_cons, lv_args, sm_args, sm_cat_cv]
    rw [sm_args_eq ad _ vs]
def sm_Pre (G : sm_G) (sz : Nat) (As : List sm_V) (μ : sm_Mem) : Array Value → State → Prop := va_Pc (As.map (sm_cv G.1)) (fun U => U.heap.size = sz ∧ va_P (sm_D G) sm_cls (sm_wl G μ) U.heap ∧ va_K (sm_D G) sm_cls (sm_tys G) U ∧ va_D (fun _ => True) (sm_wl G μ) ∧ sm_SF G.1 (va_A (sm_wl G μ) sz) U U.heap ∧ sm_SR G.1 U)
def sm_Po (G : sm_G) (A : Nat → Prop) (μ : sm_Mem) (t : State) : Prop := va_P (sm_D G) sm_cls (sm_wl G μ) t.heap ∧ va_K (sm_D G) sm_cls (sm_tys G) t ∧ va_D A (sm_wl G μ)
theorem sm_blind {G : sm_G} {sz : Nat} {As : List sm_V} {μ : sm_Mem} : FrameBlind (sm_Pre G sz As μ) := by
  intro a U g mk h
  obtain ⟨h0, h1, h2, h3, h4, h5, h6⟩ := h
  exact ⟨h0, h1, h2, va_K.moved (u := U) (U := U.calling g mk a) (Vm.Alike.refl U.vm) h3, h4, sm_SF.moved (u := U) (U := U.calling g mk a) (Vm.Alike.refl U.vm) h5, sm_SR.same (s := U) (U := U.calling g mk a) rfl h6⟩
def sm_MI (l : Launch) (y : MethodName) (cc : ByteArray) (nL : Nat) (ret : Option FieldType) (rm : Room) (As : List sm_V) (μ : sm_Mem) (K : Int32 → sm_Mem → Prop) : Prop := ∀ (G : sm_G) (sz : Nat), Met l y (.code y cc nL ret :: sm_tbl) rm (sm_Pre G sz As μ) (va_Qi K (fun μ' t => sm_Po G (va_A (sm_wl G μ) sz) μ' t) (va_A (sm_wl G μ) sz)) 0 0 (va_A (sm_wl G μ) sz)
def sm_MV (l : Launch) (y : MethodName) (cc : ByteArray) (nL : Nat) (rm : Room) (As : List sm_V) (μ : sm_Mem) (K : sm_Mem → Prop) : Prop := ∀ (G : sm_G) (sz : Nat), Met l y (.code y cc nL none :: sm_tbl) rm (sm_Pre G sz As μ) (va_Qv K (fun μ' t => sm_Po G (va_A (sm_wl G μ) sz) μ' t) (va_A (sm_wl G μ) sz)) 0 0 (va_A (sm_wl G μ) sz)
def sm_MR (l : Launch) (y : MethodName) (cc : ByteArray) (nL : Nat) (ret : Option FieldType) (rm : Room) (As : List sm_V) (μ : sm_Mem) (K : Option Nat → sm_Mem → Prop) : Prop := ∀ (G : sm_G) (sz : Nat), Met l y (.code y cc nL ret :: sm_tbl) rm (sm_Pre G sz As μ) (va_Qq (fun r μ' => ∃ k : Option Nat, r = k.map G.1 ∧ K k μ') (fun μ' t => sm_Po G (va_A (sm_wl G μ) sz) μ' t) (va_A (sm_wl G μ) sz)) 0 0 (va_A (sm_wl G μ) sz)

theorem sm_ofI {l : Launch} {y : MethodName} {cc : ByteArray} {nL : Nat} {ty : FieldType} {rm : Room} {As : List sm_V} {μ : sm_Mem} {K : Int32 → sm_Mem → Prop} (hy : plainName y.cls = true) (hn : ∀ ad : Nat → Nat, (lg_sl (As.map (sm_cv ad))).length ≤ nL) (body : ∀ (p : Program) (e : Env) (s : State) (m : MethodId) (args : Array Value) (below : List Frame) (meth : Method) (c : Code) (A : Nat → Prop) (Q : State → Prop) (G : sm_G), sm_C p s m args c cc nL y.cls A G → (∀ (pc : Nat) (v : Int32) (μ2 : sm_Mem) (lo : List (Nat × sm_V)), decode cc pc = .ok (.ireturn, 1) → narrow ty (.int v) = .int v → K v μ2 → sm_W p l e rm s m args below meth c A Q G nL 0 0 pc [sm_I v] lo μ2) → sm_W p l e rm s m args below meth c A Q G nL 0 0 0 [] (sm_args 0 As) μ) : sm_MI l y cc nL (some ty) rm As μ K := by
  intro G sz
  refine Met.ofW (cc := cc) (maxL := nL) (ret := (some ty)) hy rfl ?_
  intro p e s m args below meth c s₁ B hml hv
  obtain ⟨rfl, hsz, hP, hK, hD0, hSF, hSR⟩ := hv
  subst hsz
  have hts0 := atoms_spec (ws := (.code y cc nL (some ty) :: sm_tbl)) B.pre
  have C : sm_C p s m (As.map (sm_cv G.1)).toArray c cc nL y.cls (va_A (sm_wl G μ) s.heap.size) G := ⟨B.exec, B.bytes, hml, findClass_of_methodNamed B.named, fun w hw => hts0 w (List.mem_cons_of_mem _ hw), hK, fun q h => Or.inr h, hSF, hSR⟩
  have hl := lv_entry (As.map (sm_cv G.1)) (hn G.1)
  rw [sm_args_eq] at hl
  rw [lg_entry_eq]
  refine body p e s m _ below meth c _ _ G C ?_ s.heap [] _ hP hD0.self va_S.rf hl
  intro pc v μ2 lo hd hn hk H locs ls hP hD hS hL
  exact W.zret B.exec B.bytes B.returns hn (fun t ht hW => ⟨⟨v, μ2, rfl, hk, by rw [ht]; exact hP, va_K.moved hW.alike hK, hD⟩, hS.F ht⟩) hS.2.2 hd B.notSynchronized
theorem sm_ofV {l : Launch} {y : MethodName} {cc : ByteArray} {nL : Nat}  {rm : Room} {As : List sm_V} {μ : sm_Mem} {K : sm_Mem → Prop} (hy : plainName y.cls = true) (hn : ∀ ad : Nat → Nat, (lg_sl (As.map (sm_cv ad))).length ≤ nL) (body : ∀ (p : Program) (e : Env) (s : State) (m : MethodId) (args : Array Value) (below : List Frame) (meth : Method) (c : Code) (A : Nat → Prop) (Q : State → Prop) (G : sm_G), sm_C p s m args c cc nL y.cls A G → (∀ (pc : Nat) (μ2 : sm_Mem) (lo : List (Nat × sm_V)), decode cc pc = .ok (.return_, 1) → K μ2 → sm_W p l e rm s m args below meth c A Q G nL 0 0 pc [] lo μ2) → sm_W p l e rm s m args below meth c A Q G nL 0 0 0 [] (sm_args 0 As) μ) : sm_MV l y cc nL rm As μ K := by
  intro G sz
  refine Met.ofW (cc := cc) (maxL := nL) (ret := none) hy rfl ?_
  intro p e s m args below meth c s₁ B hml hv
  obtain ⟨rfl, hsz, hP, hK, hD0, hSF, hSR⟩ := hv
  subst hsz
  have hts0 := atoms_spec (ws := (.code y cc nL none :: sm_tbl)) B.pre
  have C : sm_C p s m (As.map (sm_cv G.1)).toArray c cc nL y.cls (va_A (sm_wl G μ) s.heap.size) G := ⟨B.exec, B.bytes, hml, findClass_of_methodNamed B.named, fun w hw => hts0 w (List.mem_cons_of_mem _ hw), hK, fun q h => Or.inr h, hSF, hSR⟩
  have hl := lv_entry (As.map (sm_cv G.1)) (hn G.1)
  rw [sm_args_eq] at hl
  rw [lg_entry_eq]
  refine body p e s m _ below meth c _ _ G C ?_ s.heap [] _ hP hD0.self va_S.rf hl
  intro pc μ2 lo hd hk H locs ls hP hD hS hL
  exact W.vret B.exec B.bytes B.returns (fun t ht hW => ⟨⟨μ2, rfl, hk, by rw [ht]; exact hP, va_K.moved hW.alike hK, hD⟩, hS.F ht⟩) hS.2.2 hd B.notSynchronized
def sm_ro : Option Nat → sm_V := fun k => Sum.inr (Sum.inl k)
theorem sm_ofR {l : Launch} {y : MethodName} {cc : ByteArray} {nL : Nat} {cn : String} {rm : Room} {As : List sm_V} {μ : sm_Mem} {K : Option Nat → sm_Mem → Prop} (hy : plainName y.cls = true) (hn : ∀ ad : Nat → Nat, (lg_sl (As.map (sm_cv ad))).length ≤ nL) (body : ∀ (p : Program) (e : Env) (s : State) (m : MethodId) (args : Array Value) (below : List Frame) (meth : Method) (c : Code) (A : Nat → Prop) (Q : State → Prop) (G : sm_G), sm_C p s m args c cc nL y.cls A G → (∀ (pc : Nat) (v : Option Nat) (μ2 : sm_Mem) (lo : List (Nat × sm_V)), decode cc pc = .ok (.areturn, 1) → K v μ2 → sm_W p l e rm s m args below meth c A Q G nL 0 0 pc [sm_ro v] lo μ2) → sm_W p l e rm s m args below meth c A Q G nL 0 0 0 [] (sm_args 0 As) μ) : sm_MR l y cc nL (some (.object cn)) rm As μ K := by
  intro G sz
  refine Met.ofW (cc := cc) (maxL := nL) (ret := (some (.object cn))) hy rfl ?_
  intro p e s m args below meth c s₁ B hml hv
  obtain ⟨rfl, hsz, hP, hK, hD0, hSF, hSR⟩ := hv
  subst hsz
  have hts0 := atoms_spec (ws := (.code y cc nL (some (.object cn)) :: sm_tbl)) B.pre
  have C : sm_C p s m (As.map (sm_cv G.1)).toArray c cc nL y.cls (va_A (sm_wl G μ) s.heap.size) G := ⟨B.exec, B.bytes, hml, findClass_of_methodNamed B.named, fun w hw => hts0 w (List.mem_cons_of_mem _ hw), hK, fun q h => Or.inr h, hSF, hSR⟩
  have hl := lv_entry (As.map (sm_cv G.1)) (hn G.1)
  rw [sm_args_eq] at hl
  rw [lg_entry_eq]
  refine body p e s m _ below meth c _ _ G C ?_ s.heap [] _ hP hD0.self va_S.rf hl
  intro pc v μ2 lo hd hk H locs ls hP hD hS hL
  have e1 : sm_cv G.1 (sm_ro v) = va_rf (v.map G.1) := by cases v <;> rfl
  show W _ _ _ _ _ _ _ _ _ _ _ _ _ _ _ (F0 m pc ls [sm_cv G.1 (sm_ro v)])
  rw [e1]
  exact W.aret B.exec B.bytes B.returns (Or.inl ⟨cn, rfl⟩) (va_rf_or _) (fun t ht hW => ⟨⟨v.map G.1, μ2, rfl, ⟨v, rfl, hk⟩, by rw [ht]; exact hP, va_K.moved hW.alike hK, hD⟩, hS.F ht⟩) hS.2.2 hd B.notSynchronized

def sm_okB (own : String) (idx : Nat) (y : MethodName) (cc : ByteArray) (nL : Nat) (ret : Option FieldType) (n : Nat) : Prop := Cond.methodLink own idx y ∈ sm_tbl ∧ Cond.initialized y.cls ∈ sm_tbl ∧ Cond.code y cc nL ret ∈ sm_tbl ∧ (y.cls ≠ "java/lang/invoke/MethodHandle" ∧ y.cls ≠ "java/lang/invoke/VarHandle" ∧ (parseMethodDescriptor y.desc).map (fun d => d.parameters.length) = some n)
def sm_okV (own : String) (idx : Nat) (y : MethodName) (cc : ByteArray) (nL : Nat) (ret : Option FieldType) (n : Nat) : Prop := sm_okB own idx y cc nL ret n ∧ Cond.instanceMethod y ∈ sm_tbl ∧ Cond.selects y.cls y y ∈ sm_tbl
def sm_okS (own : String) (idx : Nat) (y : MethodName) (cc : ByteArray) (nL : Nat) (ret : Option FieldType) (n : Nat) : Prop := sm_okB own idx y cc nL ret n ∧ Cond.static y ∈ sm_tbl
theorem sm_goodIn {y : MethodName} {cc : ByteArray} {nL : Nat} {ret : Option FieldType} (h : Cond.code y cc nL ret ∈ sm_tbl) : GoodIn sm_tbl (.code y cc nL ret :: sm_tbl) := by
  refine goodIn_of _ ?_ |> fun (hh : GoodIn sm_tbl sm_tbl) => ?_
  · intro w hw
    rcases List.mem_cons.mp hw with rfl | hw
    · exact hh _ h
    · exact hh _ hw
  · exact List.all_eq_true.mpr fun w hw => by
      have h1 := List.all_eq_true.mp sm_good w hw
      simp [hw, h1]
theorem sm_isC {G : sm_G} {μ : sm_Mem} : (List.range (sm_wl G μ).length).map (fun i => (sm_wl G μ)[i]?) = (sm_wl G μ).map some := by
  apply List.ext_getElem?
  intro i
  simp only [List.getElem?_map, List.getElem?_range]
  by_cases hi : i < (sm_wl G μ).length
  · simp [hi]
  · simp [hi]

section SMC
variable {p : Program} {l : Launch} {e : Env} {R : Room} {s : State} {m : MethodId} {args : Array Value} {below : List Frame} {meth : Method} {c : Code} {A : Nat → Prop} {Q : State → Prop} {G : sm_G} {nL kc ks : Nat} {cc : ByteArray} {own : String} {pc : Nat} {stk : List sm_V} {lo : List (Nat × sm_V)} {μ : sm_Mem}

theorem sm_callB (C : sm_C p s m args c cc nL own A G) {ix n yL : Nat} {y : MethodName} {yc : ByteArray} {ret : Option FieldType} {rm : Room} (ok : sm_okB own ix y yc yL ret n) (hrc : rm.cells = 0) (hrs : rm.slots = 0) (hR : rm.frames + 1 ≤ R.frames ∧ 8 + (yL + 11) + rm.locals ≤ R.locals) : CallB R s args own ix y yc yL ret (.code y yc yL ret :: sm_tbl) rm 0 0 n :=
  callB_of n C.2.2.2.2.1 (sm_goodIn ok.2.2.1) rfl hrc hrs (C.2.2.2.2.1 _ ok.2.1) (C.2.2.2.2.1 _ ok.1) ok.2.2.2 hR
theorem sm_pre (C : sm_C p s m args c cc nL own A G) {As : List sm_V} {H : Heap} {locs : List Loc} (hP : va_P (sm_D G) sm_cls (sm_wl G μ) H) (hD : va_D A (sm_wl G μ)) (hS : va_S A s.heap H locs) : ∀ U : State, U.heap = H → s.WarmedH U.vm → sm_Pre G H.size As μ (As.map (sm_cv G.1)).toArray U := by
  intro U hU hW
  have hF := va_free (wc := sm_wl G μ) hD hS C.2.2.2.2.2.2.1 _ sm_isC
  refine ⟨rfl, by rw [hU], by rw [hU]; exact hP, va_K.moved hW.alike C.2.2.2.2.2.1, hD.weaken (fun _ _ _ _ => trivial), ?_, C.2.2.2.2.2.2.2.2.warm hW⟩
  rw [hU]
  exact ((C.2.2.2.2.2.2.2.1.kept hS.2.1).narrow hF).moved hW.alike
theorem sm_back {μ2 : sm_Mem} {H H1 : Heap} {t : State} {locs : List Loc} (C : sm_C p s m args c cc nL own A G) (hP : va_P (sm_D G) sm_cls (sm_wl G μ) H) (hD : va_D A (sm_wl G μ)) (hS : va_S A s.heap H locs) (ht : t.heap = H1) (hk : ∀ q : Nat, q < H.size → ¬ va_A (sm_wl G μ) H.size q → H1[q]? = H[q]?) (hB : sm_Po G (va_A (sm_wl G μ) H.size) μ2 t) : va_P (sm_D G) sm_cls (sm_wl G μ2) H1 ∧ va_D A (sm_wl G μ2) := by
  have hF := va_free (wc := sm_wl G μ) hD hS C.2.2.2.2.2.2.1 _ sm_isC
  obtain ⟨hP1, hK1, hD1⟩ := hB
  rw [ht] at hP1
  have hj := va_join (wr := []) (w1 := sm_wl G μ2) (wc := sm_wl G μ) hP hD (List.range (sm_wl G μ).length) [] sm_isC rfl rfl (fun _ h => nomatch h) hk hF hP1 hD1
  rw [List.nil_append] at hj
  exact hj

theorem sr_callVI (C : sm_C p s m args c cc nL own A G) {ix n yL : Nat} {y : MethodName} {yc : ByteArray} {ret : Option FieldType} {rm : Room} (As : List sm_V) {k ci N : Nat} {fl : List Nat} {T : u_T} {K : Int32 → sm_Mem → Prop} (hM : sm_MI l y yc yL ret rm (sm_R k :: As) μ K) (ok : sm_okV own ix y yc yL ret n) (hl : sm_lays[k]? = some (1, ci, fl)) (hcl : sm_cls[ci]? = some (y.cls, T, N)) (hn : As.length = n) (hrc : rm.cells = 0) (hrs : rm.slots = 0) (hR : rm.frames + 1 ≤ R.frames ∧ 8 + (yL + 11) + rm.locals ≤ R.locals) (hcat : (stk.map sm_cat).sum ≤ 8) (hf : kc ≤ R.cells ∧ ks ≤ R.slots) (hd : decode cc pc = .ok (.invokevirtual ix, 3)) (kk : ∀ (r : Int32) (μ2 : sm_Mem), K r μ2 → sm_W p l e R s m args below meth c A Q G nL kc ks (pc + 3) (sm_I r :: stk) lo μ2) : sm_W p l e R s m args below meth c A Q G nL kc ks pc (As.reverse ++ sm_R k :: stk) lo μ := by
  intro H locs ls hP hD hS hL
  have hF := va_free (wc := sm_wl G μ) hD hS C.2.2.2.2.2.2.1 _ sm_isC
  have hc : ((stk.map (sm_cv G.1)).map fun v => v.category).sum ≤ 8 := by
    have e1 : (stk.map (sm_cv G.1)).map (fun v => v.category) = stk.map sm_cat := by rw [List.map_map]; exact List.map_congr_left fun v _ => sm_cat_cv G.1 v
    rw [e1]; exact hcat
  have hrun := va_runV (H := H) (locs := locs) (cells := kc) (slots := ks) (g := F0 m pc ls ((As.reverse ++ sm_R k :: stk).map (sm_cv G.1))) (rest := stk.map (sm_cv G.1)) (As := As.map (sm_cv G.1)) (e := e) (below := below) (meth := meth) (nL := nL) ⟨C.1, C.2.1, C.2.2.1, C.2.2.2.1, C.2.2.2.2.1⟩ (hM G H.size) ⟨sm_callB C ok.1 hrc hrs hR, C.2.2.2.2.1 _ ok.2.1, C.2.2.2.2.1 _ ok.2.2⟩ ⟨sm_blind, va_recv C.2.2.2.2.2.1 hP hcl (sm_obj hl), sm_pre C (As := sm_R k :: As) hP hD hS⟩ rfl (List.length_map (as := As) (sm_cv G.1) |>.trans hn) hL.1 (by simp [List.map_reverse, sm_cv]) (lv_room hc) hd hf
  refine va_calli hrun hS (fun q _ h => hF q h) hF (fun r u t H1 locs1 ht hvm hw hB hz1 hk1 hS1 => ?_)
  obtain ⟨hP1, hD1⟩ := sm_back C hP hD hS ht hk1 hB
  exact kk r u hw H1 locs1 ls hP1 hD1 hS1 hL
theorem sr_callSI (C : sm_C p s m args c cc nL own A G) {ix n yL : Nat} {y : MethodName} {yc : ByteArray} {ret : Option FieldType} {rm : Room} (As : List sm_V) {K : Int32 → sm_Mem → Prop} (hM : sm_MI l y yc yL ret rm As μ K) (ok : sm_okS own ix y yc yL ret n) (hn : As.length = n) (hrc : rm.cells = 0) (hrs : rm.slots = 0) (hR : rm.frames + 1 ≤ R.frames ∧ 8 + (yL + 11) + rm.locals ≤ R.locals) (hcat : (stk.map sm_cat).sum ≤ 8) (hf : kc ≤ R.cells ∧ ks ≤ R.slots) (hd : decode cc pc = .ok (.invokestatic ix, 3)) (kk : ∀ (r : Int32) (μ2 : sm_Mem), K r μ2 → sm_W p l e R s m args below meth c A Q G nL kc ks (pc + 3) (sm_I r :: stk) lo μ2) : sm_W p l e R s m args below meth c A Q G nL kc ks pc (As.reverse ++ stk) lo μ := by
  intro H locs ls hP hD hS hL
  have hF := va_free (wc := sm_wl G μ) hD hS C.2.2.2.2.2.2.1 _ sm_isC
  have hc : ((stk.map (sm_cv G.1)).map fun v => v.category).sum ≤ 8 := by
    have e1 : (stk.map (sm_cv G.1)).map (fun v => v.category) = stk.map sm_cat := by rw [List.map_map]; exact List.map_congr_left fun v _ => sm_cat_cv G.1 v
    rw [e1]; exact hcat
  have hrun := va_runS (H := H) (locs := locs) (cells := kc) (slots := ks) (g := F0 m pc ls ((As.reverse ++ stk).map (sm_cv G.1))) (rest := stk.map (sm_cv G.1)) (As := As.map (sm_cv G.1)) (e := e) (below := below) (meth := meth) (nL := nL) ⟨C.1, C.2.1, C.2.2.1, C.2.2.2.1, C.2.2.2.2.1⟩ (hM G H.size) ⟨sm_callB C ok.1 hrc hrs hR, C.2.2.2.2.1 _ ok.2⟩ ⟨sm_blind, sm_pre C (As := As) hP hD hS⟩ rfl (List.length_map (as := As) (sm_cv G.1) |>.trans hn) hL.1 (by simp [List.map_reverse, sm_cv]) (lv_room hc) hd hf
  refine va_calli hrun hS (fun q _ h => hF q h) hF (fun r u t H1 locs1 ht hvm hw hB hz1 hk1 hS1 => ?_)
  obtain ⟨hP1, hD1⟩ := sm_back C hP hD hS ht hk1 hB
  exact kk r u hw H1 locs1 ls hP1 hD1 hS1 hL
theorem sr_callVV (C : sm_C p s m args c cc nL own A G) {ix n yL : Nat} {y : MethodName} {yc : ByteArray} {rm : Room} (As : List sm_V) {k ci N : Nat} {fl : List Nat} {T : u_T} {K : sm_Mem → Prop} (hM : sm_MV l y yc yL rm (sm_R k :: As) μ K) (ok : sm_okV own ix y yc yL none n) (hl : sm_lays[k]? = some (1, ci, fl)) (hcl : sm_cls[ci]? = some (y.cls, T, N)) (hn : As.length = n) (hrc : rm.cells = 0) (hrs : rm.slots = 0) (hR : rm.frames + 1 ≤ R.frames ∧ 8 + (yL + 11) + rm.locals ≤ R.locals) (hcat : (stk.map sm_cat).sum ≤ 8) (hf : kc ≤ R.cells ∧ ks ≤ R.slots) (hd : decode cc pc = .ok (.invokevirtual ix, 3)) (kk : ∀ (μ2 : sm_Mem), K μ2 → sm_W p l e R s m args below meth c A Q G nL kc ks (pc + 3) stk lo μ2) : sm_W p l e R s m args below meth c A Q G nL kc ks pc (As.reverse ++ sm_R k :: stk) lo μ := by
  intro H locs ls hP hD hS hL
  have hF := va_free (wc := sm_wl G μ) hD hS C.2.2.2.2.2.2.1 _ sm_isC
  have hc : ((stk.map (sm_cv G.1)).map fun v => v.category).sum ≤ 8 := by
    have e1 : (stk.map (sm_cv G.1)).map (fun v => v.category) = stk.map sm_cat := by rw [List.map_map]; exact List.map_congr_left fun v _ => sm_cat_cv G.1 v
    rw [e1]; exact hcat
  have hrun := va_runV (H := H) (locs := locs) (cells := kc) (slots := ks) (g := F0 m pc ls ((As.reverse ++ sm_R k :: stk).map (sm_cv G.1))) (rest := stk.map (sm_cv G.1)) (As := As.map (sm_cv G.1)) (e := e) (below := below) (meth := meth) (nL := nL) ⟨C.1, C.2.1, C.2.2.1, C.2.2.2.1, C.2.2.2.2.1⟩ (hM G H.size) ⟨sm_callB C ok.1 hrc hrs hR, C.2.2.2.2.1 _ ok.2.1, C.2.2.2.2.1 _ ok.2.2⟩ ⟨sm_blind, va_recv C.2.2.2.2.2.1 hP hcl (sm_obj hl), sm_pre C (As := sm_R k :: As) hP hD hS⟩ rfl (List.length_map (as := As) (sm_cv G.1) |>.trans hn) hL.1 (by simp [List.map_reverse, sm_cv]) (lv_room hc) hd hf
  refine va_callv hrun hS (fun q _ h => hF q h) hF (fun u t H1 locs1 ht hvm hw hB hz1 hk1 hS1 => ?_)
  obtain ⟨hP1, hD1⟩ := sm_back C hP hD hS ht hk1 hB
  exact kk u hw H1 locs1 ls hP1 hD1 hS1 hL
theorem sr_callSV (C : sm_C p s m args c cc nL own A G) {ix n yL : Nat} {y : MethodName} {yc : ByteArray} {rm : Room} (As : List sm_V) {K : sm_Mem → Prop} (hM : sm_MV l y yc yL rm As μ K) (ok : sm_okS own ix y yc yL none n) (hn : As.length = n) (hrc : rm.cells = 0) (hrs : rm.slots = 0) (hR : rm.frames + 1 ≤ R.frames ∧ 8 + (yL + 11) + rm.locals ≤ R.locals) (hcat : (stk.map sm_cat).sum ≤ 8) (hf : kc ≤ R.cells ∧ ks ≤ R.slots) (hd : decode cc pc = .ok (.invokestatic ix, 3)) (kk : ∀ (μ2 : sm_Mem), K μ2 → sm_W p l e R s m args below meth c A Q G nL kc ks (pc + 3) stk lo μ2) : sm_W p l e R s m args below meth c A Q G nL kc ks pc (As.reverse ++ stk) lo μ := by
  intro H locs ls hP hD hS hL
  have hF := va_free (wc := sm_wl G μ) hD hS C.2.2.2.2.2.2.1 _ sm_isC
  have hc : ((stk.map (sm_cv G.1)).map fun v => v.category).sum ≤ 8 := by
    have e1 : (stk.map (sm_cv G.1)).map (fun v => v.category) = stk.map sm_cat := by rw [List.map_map]; exact List.map_congr_left fun v _ => sm_cat_cv G.1 v
    rw [e1]; exact hcat
  have hrun := va_runS (H := H) (locs := locs) (cells := kc) (slots := ks) (g := F0 m pc ls ((As.reverse ++ stk).map (sm_cv G.1))) (rest := stk.map (sm_cv G.1)) (As := As.map (sm_cv G.1)) (e := e) (below := below) (meth := meth) (nL := nL) ⟨C.1, C.2.1, C.2.2.1, C.2.2.2.1, C.2.2.2.2.1⟩ (hM G H.size) ⟨sm_callB C ok.1 hrc hrs hR, C.2.2.2.2.1 _ ok.2⟩ ⟨sm_blind, sm_pre C (As := As) hP hD hS⟩ rfl (List.length_map (as := As) (sm_cv G.1) |>.trans hn) hL.1 (by simp [List.map_reverse, sm_cv]) (lv_room hc) hd hf
  refine va_callv hrun hS (fun q _ h => hF q h) hF (fun u t H1 locs1 ht hvm hw hB hz1 hk1 hS1 => ?_)
  obtain ⟨hP1, hD1⟩ := sm_back C hP hD hS ht hk1 hB
  exact kk u hw H1 locs1 ls hP1 hD1 hS1 hL
theorem sr_callVR (C : sm_C p s m args c cc nL own A G) {ix n yL : Nat} {y : MethodName} {yc : ByteArray} {ret : Option FieldType} {rm : Room} (As : List sm_V) {k ci N : Nat} {fl : List Nat} {T : u_T} {K : Option Nat → sm_Mem → Prop} (hM : sm_MR l y yc yL ret rm (sm_R k :: As) μ K) (ok : sm_okV own ix y yc yL ret n) (hl : sm_lays[k]? = some (1, ci, fl)) (hcl : sm_cls[ci]? = some (y.cls, T, N)) (hn : As.length = n) (hrc : rm.cells = 0) (hrs : rm.slots = 0) (hR : rm.frames + 1 ≤ R.frames ∧ 8 + (yL + 11) + rm.locals ≤ R.locals) (hcat : (stk.map sm_cat).sum ≤ 8) (hf : kc ≤ R.cells ∧ ks ≤ R.slots) (hd : decode cc pc = .ok (.invokevirtual ix, 3)) (kk : ∀ (r : Option Nat) (μ2 : sm_Mem), K r μ2 → sm_W p l e R s m args below meth c A Q G nL kc ks (pc + 3) (sm_ro r :: stk) lo μ2) : sm_W p l e R s m args below meth c A Q G nL kc ks pc (As.reverse ++ sm_R k :: stk) lo μ := by
  intro H locs ls hP hD hS hL
  have hF := va_free (wc := sm_wl G μ) hD hS C.2.2.2.2.2.2.1 _ sm_isC
  have hc : ((stk.map (sm_cv G.1)).map fun v => v.category).sum ≤ 8 := by
    have e1 : (stk.map (sm_cv G.1)).map (fun v => v.category) = stk.map sm_cat := by rw [List.map_map]; exact List.map_congr_left fun v _ => sm_cat_cv G.1 v
    rw [e1]; exact hcat
  have hrun := va_runV (H := H) (locs := locs) (cells := kc) (slots := ks) (g := F0 m pc ls ((As.reverse ++ sm_R k :: stk).map (sm_cv G.1))) (rest := stk.map (sm_cv G.1)) (As := As.map (sm_cv G.1)) (e := e) (below := below) (meth := meth) (nL := nL) ⟨C.1, C.2.1, C.2.2.1, C.2.2.2.1, C.2.2.2.2.1⟩ (hM G H.size) ⟨sm_callB C ok.1 hrc hrs hR, C.2.2.2.2.1 _ ok.2.1, C.2.2.2.2.1 _ ok.2.2⟩ ⟨sm_blind, va_recv C.2.2.2.2.2.1 hP hcl (sm_obj hl), sm_pre C (As := sm_R k :: As) hP hD hS⟩ rfl (List.length_map (as := As) (sm_cv G.1) |>.trans hn) hL.1 (by simp [List.map_reverse, sm_cv]) (lv_room hc) hd hf
  refine va_callq hrun hS (fun q _ h => hF q h) hF (fun r u t H1 locs1 ht hvm hw hB hz1 hk1 hS1 => ?_)
  obtain ⟨hP1, hD1⟩ := sm_back C hP hD hS ht hk1 hB
  obtain ⟨k9, rfl, hw⟩ := hw
  have e1 : va_rf (k9.map G.1) = sm_cv G.1 (sm_ro k9) := by cases k9 <;> rfl
  rw [e1]
  exact kk k9 u hw H1 locs1 ls hP1 hD1 hS1 hL
theorem sr_mmax (C : sm_C p s m args c cc nL own A G) {ix : Nat} {x y : Int32} (hw : Cond.methodLink own ix Lib.Math.max.name ∈ sm_tbl) (hw2 : Cond.static Lib.Math.max.name ∈ sm_tbl) (hw3 : Cond.initialized "java/lang/Math" ∈ sm_tbl) (hw4 : Cond.code Lib.Math.max.name Lib.Math.max.code 2 (some .int) ∈ sm_tbl) (hfr : 1 ≤ R.frames) (hlo : (stk.map sm_cat).sum + 13 ≤ R.locals) (hf : kc ≤ R.cells ∧ ks ≤ R.slots) (hd : decode cc pc = .ok (.invokestatic ix, 3)) (k : sm_W p l e R s m args below meth c A Q G nL kc ks (pc + 3) (sm_I (if x < y then y else x) :: stk) lo μ) : sm_W p l e R s m args below meth c A Q G nL kc ks pc (sm_I y :: sm_I x :: stk) lo μ := by
  intro H locs ls hP hD hS hL
  have e1 : (stk.map (sm_cv G.1)).map (fun v => v.category) = stk.map sm_cat := by rw [List.map_map]; exact List.map_congr_left fun v _ => sm_cat_cv G.1 v
  exact va_mmax C.1 C.2.1 (C.2.2.1.trans hL.1.symm) C.2.2.2.1 (C.2.2.2.2.1 _ hw) (C.2.2.2.2.1 _ hw2) (C.2.2.2.2.1 _ hw3) (C.2.2.2.2.1 _ hw4) hfr (by rw [e1]; exact hlo) hf.1 hf.2 hd (k H locs ls hP hD hS hL)
theorem sr_mmin (C : sm_C p s m args c cc nL own A G) {ix : Nat} {x y : Int32} (hw : Cond.methodLink own ix Lib.Math.min.name ∈ sm_tbl) (hw2 : Cond.static Lib.Math.min.name ∈ sm_tbl) (hw3 : Cond.initialized "java/lang/Math" ∈ sm_tbl) (hw4 : Cond.code Lib.Math.min.name Lib.Math.min.code 2 (some .int) ∈ sm_tbl) (hfr : 1 ≤ R.frames) (hlo : (stk.map sm_cat).sum + 13 ≤ R.locals) (hf : kc ≤ R.cells ∧ ks ≤ R.slots) (hd : decode cc pc = .ok (.invokestatic ix, 3)) (k : sm_W p l e R s m args below meth c A Q G nL kc ks (pc + 3) (sm_I (if y < x then y else x) :: stk) lo μ) : sm_W p l e R s m args below meth c A Q G nL kc ks pc (sm_I y :: sm_I x :: stk) lo μ := by
  intro H locs ls hP hD hS hL
  have e1 : (stk.map (sm_cv G.1)).map (fun v => v.category) = stk.map sm_cat := by rw [List.map_map]; exact List.map_congr_left fun v _ => sm_cat_cv G.1 v
  exact va_mmin C.1 C.2.1 (C.2.2.1.trans hL.1.symm) C.2.2.2.1 (C.2.2.2.2.1 _ hw) (C.2.2.2.2.1 _ hw2) (C.2.2.2.2.1 _ hw3) (C.2.2.2.2.1 _ hw4) hfr (by rw [e1]; exact hlo) hf.1 hf.2 hd (k H locs ls hP hD hS hL)
theorem sr_copy (C : sm_C p s m args c cc nL own A G) {ix k0 k1 n0 n1 : Nat} {f0 f1 : List Nat} {sp dp n : Int32} (hl0 : sm_lays[k0]? = some (0, n0, f0)) (hl1 : sm_lays[k1]? = some (0, n1, f1)) (h1 : ¬ sp < 0) (h2 : ¬ dp < 0) (h3 : ¬ n < 0) (h4 : sp.toNatClampNeg + n.toNatClampNeg ≤ n0) (h5 : dp.toNatClampNeg + n.toNatClampNeg ≤ n1) (hw : Cond.methodLink own ix arraycopyName ∈ sm_tbl) (hw1 : Cond.native arraycopyName ∈ sm_tbl) (hw2 : Cond.static arraycopyName ∈ sm_tbl) (hw3 : Cond.initialized "java/lang/System" ∈ sm_tbl) (hfr : 1 ≤ R.frames) (hlo : (stk.map sm_cat).sum + (nativeFrameWords "java/lang/System" "arraycopy" 5 + 11) ≤ R.locals) (hd : decode cc pc = .ok (.invokestatic ix, 3)) (k : sm_W p l e R s m args below meth c A Q G nL kc ks (pc + 3) stk lo (sm_cpy μ k0 k1 sp.toNatClampNeg dp.toNatClampNeg n.toNatClampNeg)) : sm_W p l e R s m args below meth c A Q G nL kc ks pc (sm_I n :: sm_I dp :: sm_R k1 :: sm_I sp :: sm_R k0 :: stk) lo μ := by
  intro H locs ls hP hD hS hL
  have e1 : (stk.map (sm_cv G.1)).map (fun v => v.category) = stk.map sm_cat := by rw [List.map_map]; exact List.map_congr_left fun v _ => sm_cat_cv G.1 v
  refine va_copyi C.1 C.2.1 (C.2.2.1.trans hL.1.symm) C.2.2.2.1 (C.2.2.2.2.1 _ hw) (C.2.2.2.2.1 _ hw1) (C.2.2.2.2.1 _ hw2) (C.2.2.2.2.1 _ hw3) C.2.2.2.2.2.1 hP hD hS k0 k1 0 0 (sm_arr hl0) (sm_arr hl1) rfl rfl rfl h1 h2 h3 h4 h5 (fun _ _ => rfl) hfr (by rw [e1]; exact hlo) hd (fun H1 locs1 hP1 hD1 hS1 => ?_)
  rw [sm_setC hl1] at hP1 hD1
  exact k H1 locs1 ls hP1 hD1 hS1 hL
theorem sr_tabA (C : sm_C p s m args c cc nL own A G) {i : Int32} (hi : vp_in i 7) (hd : decode cc pc = .ok (.iaload, 1)) (k2 : sm_W p l e R s m args below meth c A Q G nL kc ks (pc + 1) (sm_I (sm_above.getD i.toNatClampNeg 0) :: stk) lo μ) : sm_W p l e R s m args below meth c A Q G nL kc ks pc (sm_I i :: sm_R 110 :: stk) lo μ := by
  intro H locs ls hP hD hS hL
  exact va_ti C.1 C.2.1 C.2.2.2.2.2.2.2.1.2.1 hS hi rfl hd (k2 H locs ls hP hD hS hL)
theorem sr_tabB (C : sm_C p s m args c cc nL own A G) {i : Int32} (hi : vp_in i 28) (hd : decode cc pc = .ok (.iaload, 1)) (k2 : sm_W p l e R s m args below meth c A Q G nL kc ks (pc + 1) (sm_I (sm_bodies.getD i.toNatClampNeg 0) :: stk) lo μ) : sm_W p l e R s m args below meth c A Q G nL kc ks pc (sm_I i :: sm_R 111 :: stk) lo μ := by
  intro H locs ls hP hD hS hL
  exact va_ti C.1 C.2.1 C.2.2.2.2.2.2.2.1.2.2.2.1 hS hi rfl hd (k2 H locs ls hP hD hS hL)
theorem sm_vin {i : Int32} {n : Nat} (h : decide (¬ (i < 0 ∨ n ≤ i.toNatClampNeg)) = true) : vp_in i n := of_decide_eq_true (p := ¬ (i < 0 ∨ n ≤ i.toNatClampNeg)) h
theorem sm_ne {x v : Int32} {z : Int} (h : ¬ x = v) (hv : v.toInt = z) : x.toInt ≠ z := fun q => h (Int32.toInt_inj.mp (q.trans hv.symm))
theorem sr_ialdJ (C : sm_C p s m args c cc nL own A G) {k n j : Nat} {fl : List Nat} (hl : sm_lays[k]? = some (0, n, fl)) {i : Int32} (hi : vp_in i n) (hj : i.toNatClampNeg = j) (hd : decode cc pc = .ok (.iaload, 1)) (k2 : sm_W p l e R s m args below meth c A Q G nL kc ks (pc + 1) (sm_I (μ k j) :: stk) lo μ) : sm_W p l e R s m args below meth c A Q G nL kc ks pc (sm_I i :: sm_R k :: stk) lo μ := by
  subst hj
  exact sr_iald C hl hi hd k2
theorem sr_iastJ (C : sm_C p s m args c cc nL own A G) {k n j : Nat} {fl : List Nat} (hl : sm_lays[k]? = some (0, n, fl)) {i x : Int32} (hi : vp_in i n) (hj : i.toNatClampNeg = j) (hd : decode cc pc = .ok (.iastore, 1)) (k2 : sm_W p l e R s m args below meth c A Q G nL kc ks (pc + 1) stk lo (sm_st μ k j x)) : sm_W p l e R s m args below meth c A Q G nL kc ks pc (sm_I x :: sm_I i :: sm_R k :: stk) lo μ := by
  subst hj
  exact sr_iast C hl hi hd k2
end SMC
def sm_lp0 (body : (sm_Mem → Prop) → sm_Mem → Prop) (μ : sm_Mem) : Prop := ∃ I : Nat → sm_Mem → Prop, (∃ n, I n μ) ∧ ∀ (n : Nat) (μ : sm_Mem), I n μ → body (fun μ => ∃ k, k < n ∧ I k μ) μ
theorem sm_lp0_sound {body : (sm_Mem → Prop) → sm_Mem → Prop} {P : sm_Mem → Prop} (hb : ∀ (J : sm_Mem → Prop) (μ : sm_Mem), (∀ (μ : sm_Mem), J μ → P μ) → body J μ → P μ) { μ : sm_Mem} (h : sm_lp0 body μ) : P μ := by
  obtain ⟨I, ⟨n, hn⟩, hI⟩ := h
  have key : ∀ (n : Nat) (μ : sm_Mem), I n μ → P μ := by
    intro n
    induction n using Nat.strongRecOn with
    | _ n ih =>
      intro μ hy
      exact hb _ μ (fun μ hz => by obtain ⟨k, hk, hz⟩ := hz; exact ih k hk μ hz) (hI n μ hy)
  exact key n μ hn
def sm_lp1 (body : (Int32 → sm_Mem → Prop) → Int32 → sm_Mem → Prop) (a0 : Int32) (μ : sm_Mem) : Prop := ∃ I : Nat → Int32 → sm_Mem → Prop, (∃ n, I n a0 μ) ∧ ∀ (n : Nat) (a0 : Int32) (μ : sm_Mem), I n a0 μ → body (fun a0 μ => ∃ k, k < n ∧ I k a0 μ) a0 μ
theorem sm_lp1_sound {body : (Int32 → sm_Mem → Prop) → Int32 → sm_Mem → Prop} {P : Int32 → sm_Mem → Prop} (hb : ∀ (J : Int32 → sm_Mem → Prop) (a0 : Int32) (μ : sm_Mem), (∀ (a0 : Int32) (μ : sm_Mem), J a0 μ → P a0 μ) → body J a0 μ → P a0 μ) {a0 : Int32} { μ : sm_Mem} (h : sm_lp1 body a0 μ) : P a0 μ := by
  obtain ⟨I, ⟨n, hn⟩, hI⟩ := h
  have key : ∀ (n : Nat) (a0 : Int32) (μ : sm_Mem), I n a0 μ → P a0 μ := by
    intro n
    induction n using Nat.strongRecOn with
    | _ n ih =>
      intro a0 μ hy
      exact hb _ a0 μ (fun a0 μ hz => by obtain ⟨k, hk, hz⟩ := hz; exact ih k hk a0 μ hz) (hI n a0 μ hy)
  exact key n a0 μ hn
def sm_lp2 (body : (Int32 → Int32 → sm_Mem → Prop) → Int32 → Int32 → sm_Mem → Prop) (a0 a1 : Int32) (μ : sm_Mem) : Prop := ∃ I : Nat → Int32 → Int32 → sm_Mem → Prop, (∃ n, I n a0 a1 μ) ∧ ∀ (n : Nat) (a0 a1 : Int32) (μ : sm_Mem), I n a0 a1 μ → body (fun a0 a1 μ => ∃ k, k < n ∧ I k a0 a1 μ) a0 a1 μ
theorem sm_lp2_sound {body : (Int32 → Int32 → sm_Mem → Prop) → Int32 → Int32 → sm_Mem → Prop} {P : Int32 → Int32 → sm_Mem → Prop} (hb : ∀ (J : Int32 → Int32 → sm_Mem → Prop) (a0 a1 : Int32) (μ : sm_Mem), (∀ (a0 a1 : Int32) (μ : sm_Mem), J a0 a1 μ → P a0 a1 μ) → body J a0 a1 μ → P a0 a1 μ) {a0 a1 : Int32} { μ : sm_Mem} (h : sm_lp2 body a0 a1 μ) : P a0 a1 μ := by
  obtain ⟨I, ⟨n, hn⟩, hI⟩ := h
  have key : ∀ (n : Nat) (a0 a1 : Int32) (μ : sm_Mem), I n a0 a1 μ → P a0 a1 μ := by
    intro n
    induction n using Nat.strongRecOn with
    | _ n ih =>
      intro a0 a1 μ hy
      exact hb _ a0 a1 μ (fun a0 a1 μ hz => by obtain ⟨k, hk, hz⟩ := hz; exact ih k hk a0 a1 μ hz) (hI n a0 a1 μ hy)
  exact key n a0 a1 μ hn
def sm_lp3 (body : (Int32 → Int32 → Int32 → sm_Mem → Prop) → Int32 → Int32 → Int32 → sm_Mem → Prop) (a0 a1 a2 : Int32) (μ : sm_Mem) : Prop := ∃ I : Nat → Int32 → Int32 → Int32 → sm_Mem → Prop, (∃ n, I n a0 a1 a2 μ) ∧ ∀ (n : Nat) (a0 a1 a2 : Int32) (μ : sm_Mem), I n a0 a1 a2 μ → body (fun a0 a1 a2 μ => ∃ k, k < n ∧ I k a0 a1 a2 μ) a0 a1 a2 μ
theorem sm_lp3_sound {body : (Int32 → Int32 → Int32 → sm_Mem → Prop) → Int32 → Int32 → Int32 → sm_Mem → Prop} {P : Int32 → Int32 → Int32 → sm_Mem → Prop} (hb : ∀ (J : Int32 → Int32 → Int32 → sm_Mem → Prop) (a0 a1 a2 : Int32) (μ : sm_Mem), (∀ (a0 a1 a2 : Int32) (μ : sm_Mem), J a0 a1 a2 μ → P a0 a1 a2 μ) → body J a0 a1 a2 μ → P a0 a1 a2 μ) {a0 a1 a2 : Int32} { μ : sm_Mem} (h : sm_lp3 body a0 a1 a2 μ) : P a0 a1 a2 μ := by
  obtain ⟨I, ⟨n, hn⟩, hI⟩ := h
  have key : ∀ (n : Nat) (a0 a1 a2 : Int32) (μ : sm_Mem), I n a0 a1 a2 μ → P a0 a1 a2 μ := by
    intro n
    induction n using Nat.strongRecOn with
    | _ n ih =>
      intro a0 a1 a2 μ hy
      exact hb _ a0 a1 a2 μ (fun a0 a1 a2 μ hz => by obtain ⟨k, hk, hz⟩ := hz; exact ih k hk a0 a1 a2 μ hz) (hI n a0 a1 a2 μ hy)
  exact key n a0 a1 a2 μ hn
def sm_lp4 (body : (Int32 → Int32 → Int32 → Int32 → sm_Mem → Prop) → Int32 → Int32 → Int32 → Int32 → sm_Mem → Prop) (a0 a1 a2 a3 : Int32) (μ : sm_Mem) : Prop := ∃ I : Nat → Int32 → Int32 → Int32 → Int32 → sm_Mem → Prop, (∃ n, I n a0 a1 a2 a3 μ) ∧ ∀ (n : Nat) (a0 a1 a2 a3 : Int32) (μ : sm_Mem), I n a0 a1 a2 a3 μ → body (fun a0 a1 a2 a3 μ => ∃ k, k < n ∧ I k a0 a1 a2 a3 μ) a0 a1 a2 a3 μ
theorem sm_lp4_sound {body : (Int32 → Int32 → Int32 → Int32 → sm_Mem → Prop) → Int32 → Int32 → Int32 → Int32 → sm_Mem → Prop} {P : Int32 → Int32 → Int32 → Int32 → sm_Mem → Prop} (hb : ∀ (J : Int32 → Int32 → Int32 → Int32 → sm_Mem → Prop) (a0 a1 a2 a3 : Int32) (μ : sm_Mem), (∀ (a0 a1 a2 a3 : Int32) (μ : sm_Mem), J a0 a1 a2 a3 μ → P a0 a1 a2 a3 μ) → body J a0 a1 a2 a3 μ → P a0 a1 a2 a3 μ) {a0 a1 a2 a3 : Int32} { μ : sm_Mem} (h : sm_lp4 body a0 a1 a2 a3 μ) : P a0 a1 a2 a3 μ := by
  obtain ⟨I, ⟨n, hn⟩, hI⟩ := h
  have key : ∀ (n : Nat) (a0 a1 a2 a3 : Int32) (μ : sm_Mem), I n a0 a1 a2 a3 μ → P a0 a1 a2 a3 μ := by
    intro n
    induction n using Nat.strongRecOn with
    | _ n ih =>
      intro a0 a1 a2 a3 μ hy
      exact hb _ a0 a1 a2 a3 μ (fun a0 a1 a2 a3 μ hz => by obtain ⟨k, hk, hz⟩ := hz; exact ih k hk a0 a1 a2 a3 μ hz) (hI n a0 a1 a2 a3 μ hy)
  exact key n a0 a1 a2 a3 μ hn
def sm_lp5 (body : (Int32 → Int32 → Int32 → Int32 → Int32 → sm_Mem → Prop) → Int32 → Int32 → Int32 → Int32 → Int32 → sm_Mem → Prop) (a0 a1 a2 a3 a4 : Int32) (μ : sm_Mem) : Prop := ∃ I : Nat → Int32 → Int32 → Int32 → Int32 → Int32 → sm_Mem → Prop, (∃ n, I n a0 a1 a2 a3 a4 μ) ∧ ∀ (n : Nat) (a0 a1 a2 a3 a4 : Int32) (μ : sm_Mem), I n a0 a1 a2 a3 a4 μ → body (fun a0 a1 a2 a3 a4 μ => ∃ k, k < n ∧ I k a0 a1 a2 a3 a4 μ) a0 a1 a2 a3 a4 μ
theorem sm_lp5_sound {body : (Int32 → Int32 → Int32 → Int32 → Int32 → sm_Mem → Prop) → Int32 → Int32 → Int32 → Int32 → Int32 → sm_Mem → Prop} {P : Int32 → Int32 → Int32 → Int32 → Int32 → sm_Mem → Prop} (hb : ∀ (J : Int32 → Int32 → Int32 → Int32 → Int32 → sm_Mem → Prop) (a0 a1 a2 a3 a4 : Int32) (μ : sm_Mem), (∀ (a0 a1 a2 a3 a4 : Int32) (μ : sm_Mem), J a0 a1 a2 a3 a4 μ → P a0 a1 a2 a3 a4 μ) → body J a0 a1 a2 a3 a4 μ → P a0 a1 a2 a3 a4 μ) {a0 a1 a2 a3 a4 : Int32} { μ : sm_Mem} (h : sm_lp5 body a0 a1 a2 a3 a4 μ) : P a0 a1 a2 a3 a4 μ := by
  obtain ⟨I, ⟨n, hn⟩, hI⟩ := h
  have key : ∀ (n : Nat) (a0 a1 a2 a3 a4 : Int32) (μ : sm_Mem), I n a0 a1 a2 a3 a4 μ → P a0 a1 a2 a3 a4 μ := by
    intro n
    induction n using Nat.strongRecOn with
    | _ n ih =>
      intro a0 a1 a2 a3 a4 μ hy
      exact hb _ a0 a1 a2 a3 a4 μ (fun a0 a1 a2 a3 a4 μ hz => by obtain ⟨k, hk, hz⟩ := hz; exact ih k hk a0 a1 a2 a3 a4 μ hz) (hI n a0 a1 a2 a3 a4 μ hy)
  exact key n a0 a1 a2 a3 a4 μ hn
def sm_lp6 (body : (Int32 → Int32 → Int32 → Int32 → Int32 → Int32 → sm_Mem → Prop) → Int32 → Int32 → Int32 → Int32 → Int32 → Int32 → sm_Mem → Prop) (a0 a1 a2 a3 a4 a5 : Int32) (μ : sm_Mem) : Prop := ∃ I : Nat → Int32 → Int32 → Int32 → Int32 → Int32 → Int32 → sm_Mem → Prop, (∃ n, I n a0 a1 a2 a3 a4 a5 μ) ∧ ∀ (n : Nat) (a0 a1 a2 a3 a4 a5 : Int32) (μ : sm_Mem), I n a0 a1 a2 a3 a4 a5 μ → body (fun a0 a1 a2 a3 a4 a5 μ => ∃ k, k < n ∧ I k a0 a1 a2 a3 a4 a5 μ) a0 a1 a2 a3 a4 a5 μ
theorem sm_lp6_sound {body : (Int32 → Int32 → Int32 → Int32 → Int32 → Int32 → sm_Mem → Prop) → Int32 → Int32 → Int32 → Int32 → Int32 → Int32 → sm_Mem → Prop} {P : Int32 → Int32 → Int32 → Int32 → Int32 → Int32 → sm_Mem → Prop} (hb : ∀ (J : Int32 → Int32 → Int32 → Int32 → Int32 → Int32 → sm_Mem → Prop) (a0 a1 a2 a3 a4 a5 : Int32) (μ : sm_Mem), (∀ (a0 a1 a2 a3 a4 a5 : Int32) (μ : sm_Mem), J a0 a1 a2 a3 a4 a5 μ → P a0 a1 a2 a3 a4 a5 μ) → body J a0 a1 a2 a3 a4 a5 μ → P a0 a1 a2 a3 a4 a5 μ) {a0 a1 a2 a3 a4 a5 : Int32} { μ : sm_Mem} (h : sm_lp6 body a0 a1 a2 a3 a4 a5 μ) : P a0 a1 a2 a3 a4 a5 μ := by
  obtain ⟨I, ⟨n, hn⟩, hI⟩ := h
  have key : ∀ (n : Nat) (a0 a1 a2 a3 a4 a5 : Int32) (μ : sm_Mem), I n a0 a1 a2 a3 a4 a5 μ → P a0 a1 a2 a3 a4 a5 μ := by
    intro n
    induction n using Nat.strongRecOn with
    | _ n ih =>
      intro a0 a1 a2 a3 a4 a5 μ hy
      exact hb _ a0 a1 a2 a3 a4 a5 μ (fun a0 a1 a2 a3 a4 a5 μ hz => by obtain ⟨k, hk, hz⟩ := hz; exact ih k hk a0 a1 a2 a3 a4 a5 μ hz) (hI n a0 a1 a2 a3 a4 a5 μ hy)
  exact key n a0 a1 a2 a3 a4 a5 μ hn
def isText (k : Nat) : Prop := sm_lays[k]? = some (1, 4, [k + 3, k + 4, k + 5, 0]) ∧ sm_lays[k + 1]? = some (0, 50, []) ∧ sm_lays[k + 2]? = some (0, 50, []) ∧ sm_lays[k + 3]? = some (0, 50, [])
def isSheet (k : Nat) : Prop := sm_lays[k]? = some (1, 3, [k + 3, 0, 0]) ∧ sm_lays[k + 1]? = some (0, 40, [])
def isArr (k n : Nat) : Prop := sm_lays[k]? = some (0, n, [])
def sm_find (x : Int32) : List Int32 → Int32 → Int32
  | [], _ => -1
  | y :: ys, i => if x = y then i else sm_find x ys (i + 1)
/-- where a sign stands in the c-th of the three texts, -1: nowhere -/
def sm_idx (c : Nat) (x : Int32) : Int32 := sm_find x (sm_sbyt.getD c []) 0

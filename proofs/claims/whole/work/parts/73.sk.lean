/-! ===== constructors: worlds that grow ===== -/
abbrev sk_tys (cI cS : ClassId) : List (ClassId × FieldType) := [(cI, .int), (cS, .object "SnowMoney$Sheet")]
def sk_N (a1 : Nat) (U : State) : Prop := vk_R "SnowMoney$Reader" 22 "" a1 U ∧ va_AO "SnowMoney$Sheet" U ∧ va_Nw (.methodLinkNest "SnowMoney" 9 ⟨"SnowMoney$Duchy", "<init>", "()V"⟩ "SnowMoney") U ∧ va_Nw (.methodLinkNest "SnowMoney$Duchy" 39 ⟨"SnowMoney$Text", "<init>", "()V"⟩ "SnowMoney") U ∧ va_Nw (.methodLinkNest "SnowMoney" 30 ⟨"SnowMoney$Reader", "<init>", "()V"⟩ "SnowMoney") U ∧ va_Nw (.methodLinkNest "SnowMoney$Reader" 9 ⟨"SnowMoney$Text", "<init>", "()V"⟩ "SnowMoney") U ∧ va_Nw (.methodLinkNest "SnowMoney" 37 ⟨"SnowMoney$Voices", "<init>", "()V"⟩ "SnowMoney") U ∧ va_Nw (.methodLinkNest "SnowMoney" 48 ⟨"SnowMoney$Sheet", "<init>", "()V"⟩ "SnowMoney") U
theorem sk_N.warm {a1 : Nat} {s U : State} (hW : s.WarmedH U.vm) (h : sk_N a1 s) : sk_N a1 U := ⟨h.1.warm hW, va_AO.moved hW.alike h.2.1, va_Nw.warmM hW h.2.2.1, va_Nw.warmM hW h.2.2.2.1, va_Nw.warmM hW h.2.2.2.2.1, va_Nw.warmM hW h.2.2.2.2.2.1, va_Nw.warmM hW h.2.2.2.2.2.2.1, va_Nw.warmM hW h.2.2.2.2.2.2.2⟩
theorem sk_N.same {a1 : Nat} {u U : State} (hv : U.vm = u.vm) (h : sk_N a1 u) : sk_N a1 U := ⟨h.1.same hv, va_AO.moved (by rw [hv]; exact Vm.Alike.refl _) h.2.1, va_Nw.same rfl hv.symm h.2.2.1, va_Nw.same rfl hv.symm h.2.2.2.1, va_Nw.same rfl hv.symm h.2.2.2.2.1, va_Nw.same rfl hv.symm h.2.2.2.2.2.1, va_Nw.same rfl hv.symm h.2.2.2.2.2.2.1, va_Nw.same rfl hv.symm h.2.2.2.2.2.2.2⟩
def sk_C (p : Program) (s : State) (m : MethodId) (args : Array Value) (c : Code) (cc : ByteArray) (nL : Nat) (own : String) (A : Nat → Prop) (D : va_G) (cI cS : ClassId) (a1 : Nat) : Prop :=
  p.tables.exec = Jvm.exec ∧ c.code = cc ∧ c.maxLocals = nL ∧ s.vm.findClass own = some m.cls ∧ (∀ w ∈ sm_tbl, w.before args s = true) ∧ va_K D sm_cls (sk_tys cI cS) s ∧ (∀ q : Nat, s.heap.size ≤ q → A q) ∧ sk_N a1 s
def sk_W (p : Program) (l : Launch) (e : Env) (R : Room) (s : State) (m : MethodId) (args : Array Value) (below : List Frame) (meth : Method) (c : Code) (A : Nat → Prop) (Q : State → Prop) (D : va_G) (nL kc ks : Nat) (pc : Nat) (stk : List Value) (lo : List (Nat × Value)) (ws : va_W) : Prop :=
  ∀ (H : Heap) (locs : List Loc) (ls : Array Slot), va_P D sm_cls ws H → va_D A ws → va_S A s.heap H locs → lv_has ls nL lo → W p l e R s m args below meth c H locs kc ks Q (F0 m pc ls stk)
def sk_Pre (D : va_G) (cI cS : ClassId) (a1 h0 sz ci : Nat) (fs0 As : List Value) : Array Value → State → Prop := va_Pc (.ref h0 :: As) (fun U => U.heap.size = sz ∧ va_P D sm_cls [(h0, .inr (ci, fs0))] U.heap ∧ va_K D sm_cls (sk_tys cI cS) U ∧ va_D (fun _ => True) [(h0, .inr (ci, fs0))] ∧ sk_N a1 U)
def sk_M (l : Launch) (y : MethodName) (cc : ByteArray) (nL : Nat) (rm : Room) (ci : Nat) (fs0 As : List Value) (mc ms : Nat) (post : (Nat → Nat) → Nat → ClassId → ClassId → Nat → va_W) : Prop := ∀ (D : va_G) (cI cS : ClassId) (a1 h0 sz : Nat), Met l y (.code y cc nL none :: sm_tbl) rm (sk_Pre D cI cS a1 h0 sz ci fs0 As) (va_Qv (fun _ : Nat → Nat => True) (fun u t => va_P D sm_cls (post u h0 cI cS a1) t.heap ∧ va_K D sm_cls (sk_tys cI cS) t ∧ va_D (va_A [(h0, .inr (ci, fs0))] sz) (post u h0 cI cS a1)) (va_A [(h0, .inr (ci, fs0))] sz)) mc ms (va_A [(h0, .inr (ci, fs0))] sz)
theorem sk_blind {D : va_G} {cI cS : ClassId} {a1 h0 sz ci : Nat} {fs0 As : List Value} : FrameBlind (sk_Pre D cI cS a1 h0 sz ci fs0 As) := by
  intro a U g mk h
  obtain ⟨h0, h1, h2, h3, h4, h5⟩ := h
  exact ⟨h0, h1, h2, va_K.moved (u := U) (U := U.calling g mk a) (Vm.Alike.refl U.vm) h3, h4, sk_N.same (u := U) (U := U.calling g mk a) rfl h5⟩
theorem sk_of {l : Launch} {y : MethodName} {cc : ByteArray} {nL : Nat} {rm : Room} {ci mc ms : Nat} {fs0 As : List Value} {post : (Nat → Nat) → Nat → ClassId → ClassId → Nat → va_W} (hy : plainName y.cls = true) (hy2 : y.name = "<init>") (hn : ∀ h0 : Nat, (lg_sl (.ref h0 :: As)).length ≤ nL) (body : ∀ (p : Program) (e : Env) (s : State) (m : MethodId) (args : Array Value) (below : List Frame) (meth : Method) (c : Code) (A : Nat → Prop) (Q : State → Prop) (D : va_G) (cI cS : ClassId) (a1 h0 : Nat), sk_C p s m args c cc nL y.cls A D cI cS a1 → meth.name = "<init>" → (∀ (pc kc ks : Nat) (lo : List (Nat × Value)) (ws : va_W) (is : List Nat) (u : Nat → Nat), decode cc pc = .ok (.return_, 1) → kc ≤ mc → ks ≤ ms → va_nd is = true → is.map (fun i => ws[i]?) = (post u h0 cI cS a1).map some → is.filterMap (fun i => ws[i]?) = post u h0 cI cS a1 → sk_W p l e rm s m args below meth c A Q D nL kc ks pc [] lo ws) → sk_W p l e rm s m args below meth c A Q D nL 0 0 0 [] (lv_args 0 (.ref h0 :: As)) [(h0, .inr (ci, fs0))]) : sk_M l y cc nL rm ci fs0 As mc ms post := by
  intro D cI cS a1 h0 sz
  refine Met.ofW (cc := cc) (maxL := nL) (ret := none) hy rfl ?_
  intro p e s m args below meth c s₁ B hml hv
  obtain ⟨rfl, hsz, hP, hK, hD0, hR⟩ := hv
  subst hsz
  have hts0 := atoms_spec (ws := (.code y cc nL none :: sm_tbl)) B.pre
  have hin : meth.name = "<init>" := (name_of_methodNamed B.named B.method).1.trans hy2
  have C : sk_C p s m (Value.ref h0 :: As).toArray c cc nL y.cls (va_A [(h0, .inr (ci, fs0))] s.heap.size) D cI cS a1 := ⟨B.exec, B.bytes, hml, findClass_of_methodNamed B.named, fun w hw => hts0 w (List.mem_cons_of_mem _ hw), hK, fun q h => Or.inr h, hR⟩
  have hl := lv_entry (Value.ref h0 :: As) (hn h0)
  rw [lg_entry_eq]
  refine body p e s m _ below meth c _ _ D cI cS a1 h0 C hin ?_ s.heap [] _ hP hD0.self va_S.rf hl
  intro pc kc ks lo ws is u hd hkc hks hnd hmap hfm H locs ls hP hD hS hL
  refine W.widen (k := mc) (n := ms) hkc hks ?_
  exact W.vret B.exec B.bytes B.returns (fun t ht hW => ⟨⟨u, rfl, trivial, by rw [ht]; exact hP.sub is hfm, va_K.moved hW.alike hK, hD.sub is hnd hmap⟩, hS.F ht⟩) hS.2.2 hd B.notSynchronized
section SK
variable {p : Program} {l : Launch} {e : Env} {R : Room} {s : State} {m : MethodId} {args : Array Value} {below : List Frame} {meth : Method} {c : Code} {A : Nat → Prop} {Q : State → Prop} {D : va_G} {cI cS : ClassId} {a1 nL kc ks : Nat} {cc : ByteArray} {own : String} {pc : Nat} {stk : List Value} {lo : List (Nat × Value)} {ws : va_W}
theorem sk_aload_n (C : sk_C p s m args c cc nL own A D cI cS a1) (z : Nat) {w : Fin 4} {i x : Nat} (hi : (w : Nat) = i) (hl : lo[z]? = some (i, .ref x)) (hd : decode cc pc = .ok (.aload_n w, 1)) (k : sk_W p l e R s m args below meth c A Q D nL kc ks (pc + 1) (.ref x :: stk) lo ws) : sk_W p l e R s m args below meth c A Q D nL kc ks pc stk lo ws := by
  intro H locs ls hP hD hS hL
  exact lv_aload_n C.1 C.2.1 hd hi (lv_at hL z hl) (k H locs ls hP hD hS hL)
theorem sk_iload_n (C : sk_C p s m args c cc nL own A D cI cS a1) (z : Nat) {w : Fin 4} {i : Nat} {x : Int32} (hi : (w : Nat) = i) (hl : lo[z]? = some (i, .int x)) (hd : decode cc pc = .ok (.iload_n w, 1)) (k : sk_W p l e R s m args below meth c A Q D nL kc ks (pc + 1) (.int x :: stk) lo ws) : sk_W p l e R s m args below meth c A Q D nL kc ks pc stk lo ws := by
  intro H locs ls hP hD hS hL
  exact lv_iload_n C.1 C.2.1 hd hi (lv_at hL z hl) (k H locs ls hP hD hS hL)
theorem sk_iconst (C : sk_C p s m args c cc nL own A D cI cS a1) {n : Int} {v : Int32} (hd : decode cc pc = .ok (.iconst n, 1)) (hv : Int32.ofInt n = v) (k : sk_W p l e R s m args below meth c A Q D nL kc ks (pc + 1) (.int v :: stk) lo ws) : sk_W p l e R s m args below meth c A Q D nL kc ks pc stk lo ws := by
  intro H locs ls hP hD hS hL
  exact lv_iconst C.1 C.2.1 hd hv (k H locs ls hP hD hS hL)
theorem sk_bipush (C : sk_C p s m args c cc nL own A D cI cS a1) {n : Int} {v : Int32} (hd : decode cc pc = .ok (.bipush n, 2)) (hv : (Int8.ofInt n).toInt32 = v) (k : sk_W p l e R s m args below meth c A Q D nL kc ks (pc + 2) (.int v :: stk) lo ws) : sk_W p l e R s m args below meth c A Q D nL kc ks pc stk lo ws := by
  intro H locs ls hP hD hS hL
  exact lv_bipush C.1 C.2.1 hd hv (k H locs ls hP hD hS hL)
theorem sk_sipush (C : sk_C p s m args c cc nL own A D cI cS a1) {n : Int} {v : Int32} (hd : decode cc pc = .ok (.sipush n, 3)) (hv : (Int16.ofInt n).toInt32 = v) (k : sk_W p l e R s m args below meth c A Q D nL kc ks (pc + 3) (.int v :: stk) lo ws) : sk_W p l e R s m args below meth c A Q D nL kc ks pc stk lo ws := by
  intro H locs ls hP hD hS hL
  exact lv_sipush C.1 C.2.1 hd hv (k H locs ls hP hD hS hL)
theorem sk_dup (C : sk_C p s m args c cc nL own A D cI cS a1) {v : Value} (hv : v.category = 1) (hd : decode cc pc = .ok (.dup, 1)) (k : sk_W p l e R s m args below meth c A Q D nL kc ks (pc + 1) (v :: v :: stk) lo ws) : sk_W p l e R s m args below meth c A Q D nL kc ks pc (v :: stk) lo ws := by
  intro H locs ls hP hD hS hL
  exact lv_dup C.1 C.2.1 hd hv (k H locs ls hP hD hS hL)
theorem sk_goto (C : sk_C p s m args c cc nL own A D cI cS a1) {off : Int} {tgt : Nat} (ht : (pc : Int) + off = (tgt : Int)) (hd : decode cc pc = .ok (.goto off, 3)) (k : sk_W p l e R s m args below meth c A Q D nL kc ks tgt stk lo ws) : sk_W p l e R s m args below meth c A Q D nL kc ks pc stk lo ws := by
  intro H locs ls hP hD hS hL
  exact lv_goto C.1 C.2.1 hd ht (k H locs ls hP hD hS hL)
theorem sk_geT (C : sk_C p s m args c cc nL own A D cI cS a1) {x y : Int32} {off : Int} {tgt : Nat} (hd : decode cc pc = .ok (.if_icmp .ge off, 3)) (ht : (pc : Int) + off = (tgt : Int)) (h : y ≤ x) (k : sk_W p l e R s m args below meth c A Q D nL kc ks tgt stk lo ws) : sk_W p l e R s m args below meth c A Q D nL kc ks pc (.int y :: .int x :: stk) lo ws := by
  intro H locs ls hP hD hS hL
  exact lv_icmp_ge C.1 C.2.1 hd ht (fun _ => k H locs ls hP hD hS hL) (fun z => absurd h z)
theorem sk_geF (C : sk_C p s m args c cc nL own A D cI cS a1) {x y : Int32} {off : Int} {tgt : Nat} (hd : decode cc pc = .ok (.if_icmp .ge off, 3)) (ht : (pc : Int) + off = (tgt : Int)) (h : ¬ y ≤ x) (k : sk_W p l e R s m args below meth c A Q D nL kc ks (pc + 3) stk lo ws) : sk_W p l e R s m args below meth c A Q D nL kc ks pc (.int y :: .int x :: stk) lo ws := by
  intro H locs ls hP hD hS hL
  exact lv_icmp_ge C.1 C.2.1 hd ht (fun z => absurd z h) (fun _ => k H locs ls hP hD hS hL)
theorem sk_istore_n (C : sk_C p s m args c cc nL own A D cI cS a1) {w : Fin 4} {i : Nat} {x : Int32} {lo2 : List (Nat × Value)} (hi : (w : Nat) = i) (hn : i < nL) (hd : decode cc pc = .ok (.istore_n w, 1)) (hl : (i, Value.int x) :: lo.filter (fun q => !(q.1 == i) && !(q.1 + 1 == i && q.2.category == 2)) = lo2) (k : sk_W p l e R s m args below meth c A Q D nL kc ks (pc + 1) stk lo2 ws) : sk_W p l e R s m args below meth c A Q D nL kc ks pc (.int x :: stk) lo ws := by
  intro H locs ls hP hD hS hL
  exact lv_istore_n C.1 C.2.1 hd hi hL hn hl (fun ls hL => k H locs ls hP hD hS hL)
theorem sk_astore_n (C : sk_C p s m args c cc nL own A D cI cS a1) {w : Fin 4} {i x : Nat} {lo2 : List (Nat × Value)} (hi : (w : Nat) = i) (hn : i < nL) (hd : decode cc pc = .ok (.astore_n w, 1)) (hl : (i, Value.ref x) :: lo.filter (fun q => !(q.1 == i) && !(q.1 + 1 == i && q.2.category == 2)) = lo2) (k : sk_W p l e R s m args below meth c A Q D nL kc ks (pc + 1) stk lo2 ws) : sk_W p l e R s m args below meth c A Q D nL kc ks pc (.ref x :: stk) lo ws := by
  intro H locs ls hP hD hS hL
  exact lv_astore_n C.1 C.2.1 hd hi hL hn hl (fun ls hL => k H locs ls hP hD hS hL)
theorem sk_iinc (C : sk_C p s m args c cc nL own A D cI cS a1) (z : Nat) {i : Nat} {n : Int} {x v : Int32} {lo2 : List (Nat × Value)} (hz : lo[z]? = some (i, .int x)) (hn : i < nL) (hd : decode cc pc = .ok (.iinc i n, 3)) (hv : x + Int32.ofInt n = v) (hl : (i, Value.int v) :: lo.filter (fun q => !(q.1 == i) && !(q.1 + 1 == i && q.2.category == 2)) = lo2) (k : sk_W p l e R s m args below meth c A Q D nL kc ks (pc + 3) stk lo2 ws) : sk_W p l e R s m args below meth c A Q D nL kc ks pc stk lo ws := by
  intro H locs ls hP hD hS hL
  exact lv_iinc C.1 C.2.1 hd hL hz hv hn hl (fun ls hL => k H locs ls hP hD hS hL)
theorem sk_objInit (C : sk_C p s m args c cc nL own A D cI cS a1) {ix h : Nat} (hw : Cond.methodLink own ix Lib.objectInit ∈ sm_tbl) (hw1 : Cond.instanceMethod Lib.objectInit ∈ sm_tbl) (hw2 : Cond.code Lib.objectInit ⟨#[0xb1]⟩ 1 none ∈ sm_tbl) (hfr : 1 ≤ R.frames) (hlo : (stk.map fun v => v.category).sum + 12 ≤ R.locals) (hd : decode cc pc = .ok (.invokespecial ix, 3)) (k : sk_W p l e R s m args below meth c A Q D nL kc ks (pc + 3) stk lo ws) : sk_W p l e R s m args below meth c A Q D nL kc ks pc (.ref h :: stk) lo ws := by
  intro H locs ls hP hD hS hL
  refine W.objInit C.1 C.2.1 C.2.2.2.1 (C.2.2.2.2.1 _ hw) (C.2.2.2.2.1 _ hw1) (C.2.2.2.2.1 _ hw2) rfl (by rw [C.2.2.1]; exact hL.1) rfl hd hfr (by show 2 * 0 + (stk.map fun v => v.category).sum + 12 ≤ R.locals; omega) ?_
  refine W.eq (g2 := F0 m (pc + 3) ls stk) rfl ?_
  exact k H locs ls hP hD hS hL
theorem sk_ldcS (C : sk_C p s m args c cc nL own A D cI cS a1) (ho : own = "SnowMoney$Reader") (hd : decode cc pc = .ok (.ldc 22, 2)) (k : sk_W p l e R s m args below meth c A Q D nL kc ks (pc + 2) (.ref a1 :: stk) lo ws) : sk_W p l e R s m args below meth c A Q D nL kc ks pc stk lo ws := by
  intro H locs ls hP hD hS hL
  have hown := C.2.2.2.1
  rw [ho] at hown
  exact va_ldcS C.1 C.2.1 hown C.2.2.2.2.2.2.2.1 hd (k H locs ls hP hD hS hL)
theorem sk_newa (C : sk_C p s m args c cc nL own A D cI cS a1) (hw : Cond.arrayClass .int ∈ sm_tbl) {n : Int32} {N : Nat} (hn : ¬ n < 0) (hN : n.toNatClampNeg = N) (hby : N * 4 ≤ 536870912) (hc : kc + 1 ≤ R.cells) (hs : ks + N ≤ R.slots) (ws2 : Nat → va_W) (h2 : ∀ q, ws ++ [(q, .inl (cI, N, .inl (fun _ => 0)))] = ws2 q) (hd : decode cc pc = .ok (.newarray .int, 2)) (k : ∀ q, sk_W p l e R s m args below meth c A Q D nL (kc + 1) (ks + N) (pc + 2) (.ref q :: stk) lo (ws2 q)) : sk_W p l e R s m args below meth c A Q D nL kc ks pc (.int n :: stk) lo ws := by
  intro H locs ls hP hD hS hL
  refine va_newa (atype := .int) (ty := .int) (a0 := (N, .inl (fun _ => 0))) C.1 C.2.1 (C.2.2.2.2.1 _ hw) rfl C.2.2.2.2.2.1 hP hD hS C.2.2.2.2.2.2.1 (fun cA => rfl) hn hN hby hc hs hd (fun q cA H1 hK1 hP1 hD1 hS1 => ?_)
  have e : cA = cI := by
    have h1 := (hK1.2 2 (cA, .int) rfl).2
    have h2 := (C.2.2.2.2.2.1.2 0 (cI, .int) rfl).2
    exact Option.some.inj (h1.symm.trans h2)
  rw [e, h2 q] at hP1 hD1
  exact k q H1 locs ls hP1 hD1 hS1 hL
theorem sk_newq (C : sk_C p s m args c cc nL own A D cI cS a1) {ix : Nat} (hw : Cond.classLink own ix "SnowMoney$Sheet" ∈ sm_tbl) {n : Int32} {N : Nat} (hn : ¬ n < 0) (hN : n.toNatClampNeg = N) (hby : N * 4 ≤ 536870912) (hc : kc + 1 ≤ R.cells) (hs : ks + N ≤ R.slots) (ws2 : Nat → va_W) (h2 : ∀ q, ws ++ [(q, .inl (cS, N, .inr (.inr (.inr (.inr (fun _ => none))))))] = ws2 q) (hd : decode cc pc = .ok (.anewarray ix, 3)) (k : ∀ q, sk_W p l e R s m args below meth c A Q D nL (kc + 1) (ks + N) (pc + 3) (.ref q :: stk) lo (ws2 q)) : sk_W p l e R s m args below meth c A Q D nL kc ks pc (.int n :: stk) lo ws := by
  intro H locs ls hP hD hS hL
  refine va_newq C.1 C.2.1 C.2.2.2.1 (C.2.2.2.2.1 _ hw) C.2.2.2.2.2.2.2.2.1 C.2.2.2.2.2.1 hP hD hS C.2.2.2.2.2.2.1 hn hN hby hc hs hd (fun q cA H1 hK1 hP1 hD1 hS1 => ?_)
  have e : cA = cS := by
    obtain ⟨_, _, _, _, _, h1⟩ := (hK1.2 2 (cA, .object "SnowMoney$Sheet") rfl).2
    obtain ⟨_, _, _, _, _, h2⟩ := (C.2.2.2.2.2.1.2 1 (cS, .object "SnowMoney$Sheet") rfl).2
    exact Option.some.inj (h1.symm.trans h2)
  rw [e, h2 q] at hP1 hD1
  exact k q H1 locs ls hP1 hD1 hS1 hL
theorem sk_new (C : sk_C p s m args c cc nL own A D cI cS a1) {ix ci N : Nat} {Cn : String} {T : u_T} {t : Nat → FieldType} (F : sm_F ci Cn T t N) (hw : Cond.classLink own ix Cn ∈ sm_tbl) (hw1 : Cond.instantiable Cn N ∈ sm_tbl) (hw2 : Cond.initialized Cn ∈ sm_tbl) {fs : List Value} (hfs : ∀ j, j < N → defaultValue (t j) = vp_V fs j) (hc : kc + 1 ≤ R.cells) (hs : ks + N ≤ R.slots) (ws2 : Nat → va_W) (h2 : ∀ q, ws ++ [(q, .inr (ci, fs))] = ws2 q) (hd : decode cc pc = .ok (.new ix, 3)) (k : ∀ q, sk_W p l e R s m args below meth c A Q D nL (kc + 1) (ks + N) (pc + 3) (.ref q :: stk) lo (ws2 q)) : sk_W p l e R s m args below meth c A Q D nL kc ks pc stk lo ws := by
  intro H locs ls hP hD hS hL
  exact va_new C.1 C.2.1 C.2.2.2.2.1 F.2.1 t F.2.2.1 C.2.2.2.1 (C.2.2.2.2.1 _ hw) (C.2.2.2.2.1 _ hw1) (C.2.2.2.2.1 _ hw2) C.2.2.2.2.2.1 hP hD hS C.2.2.2.2.2.2.1 F.1 hfs hc hs hd (fun q H1 hP1 hD1 hS1 => by rw [h2 q] at hP1 hD1; exact k q H1 locs ls hP1 hD1 hS1 hL)
theorem sk_putF (C : sk_C p s m args c cc nL own A D cI cS a1) (hin : meth.name = "<init>") {ix ci N a : Nat} {Cn : String} {T : u_T} {t : Nat → FieldType} {fs : List Value} (F : sm_F ci Cn T t N) (q0 : Nat) (he : ws[q0]? = some (a, .inr (ci, fs))) (j : Nat) (hw : Cond.fieldLink own ix (T j).1 (T j).2.1 (T j).2.2.1 ∈ sm_tbl) (hN : j < N) (hfin : (T j).2.2.2 = true) (hdecl : (T j).1 = own) {ty : FieldType} {v : Value} (hty : parseFieldDescriptor (T j).2.2.1 = some ty) (hna : narrow ty v = v) (hfit : fits ty v = true) (hl : j < fs.length) {ws2 : va_W} (h2 : ws.set q0 (a, .inr (ci, fs.set j v)) = ws2) (hd : decode cc pc = .ok (.putfield ix, 3)) (k : sk_W p l e R s m args below meth c A Q D nL kc ks (pc + 3) stk lo ws2) : sk_W p l e R s m args below meth c A Q D nL kc ks pc (v :: .ref a :: stk) lo ws := by
  subst h2
  intro H locs ls hP hD hS hL
  exact va_putF C.1 C.2.1 C.2.2.2.2.1 F.2.1 t F.2.2.1 F.2.2.2 C.2.2.2.1 C.2.2.2.2.2.1 hP hD hS q0 he F.1 j hN (C.2.2.2.2.1 _ hw) (fun _ h => h) hfin hin hdecl hty hna hfit hl hd (fun H1 locs1 hP1 hD1 hS1 => k H1 locs1 ls hP1 hD1 hS1 hL)
theorem sk_put (C : sk_C p s m args c cc nL own A D cI cS a1) {ix ci N a : Nat} {Cn : String} {T : u_T} {t : Nat → FieldType} {fs : List Value} (F : sm_F ci Cn T t N) (q0 : Nat) (he : ws[q0]? = some (a, .inr (ci, fs))) (j : Nat) (hw : Cond.fieldLink own ix (T j).1 (T j).2.1 (T j).2.2.1 ∈ sm_tbl) (hN : j < N) (hfin : (T j).2.2.2 = false) {ty : FieldType} {v : Value} (hty : parseFieldDescriptor (T j).2.2.1 = some ty) (hna : narrow ty v = v) (hfit : fits ty v = true) (hl : j < fs.length) {ws2 : va_W} (h2 : ws.set q0 (a, .inr (ci, fs.set j v)) = ws2) (hd : decode cc pc = .ok (.putfield ix, 3)) (k : sk_W p l e R s m args below meth c A Q D nL kc ks (pc + 3) stk lo ws2) : sk_W p l e R s m args below meth c A Q D nL kc ks pc (v :: .ref a :: stk) lo ws := by
  subst h2
  intro H locs ls hP hD hS hL
  exact va_put C.1 C.2.1 C.2.2.2.2.1 F.2.1 t F.2.2.1 F.2.2.2 C.2.2.2.1 C.2.2.2.2.2.1 hP hD hS q0 he F.1 j hN (C.2.2.2.2.1 _ hw) (fun _ h => h) hfin hty hna hfit hl hd (fun H1 locs1 hP1 hD1 hS1 => k H1 locs1 ls hP1 hD1 hS1 hL)
theorem sk_get (C : sk_C p s m args c cc nL own A D cI cS a1) {ix ci N a : Nat} {Cn : String} {T : u_T} {t : Nat → FieldType} {fs : List Value} (F : sm_F ci Cn T t N) (q0 : Nat) (he : ws[q0]? = some (a, .inr (ci, fs))) (j : Nat) (hw : Cond.fieldLink own ix (T j).1 (T j).2.1 (T j).2.2.1 ∈ sm_tbl) (hN : j < N) {v : Value} (hv : fs[j]? = some v) (hd : decode cc pc = .ok (.getfield ix, 3)) (k : sk_W p l e R s m args below meth c A Q D nL kc ks (pc + 3) (v :: stk) lo ws) : sk_W p l e R s m args below meth c A Q D nL kc ks pc (.ref a :: stk) lo ws := by
  intro H locs ls hP hD hS hL
  exact va_get C.1 C.2.1 C.2.2.2.2.1 F.2.1 C.2.2.2.1 C.2.2.2.2.2.1 hP q0 he F.1 j hN (C.2.2.2.2.1 _ hw) (fun _ h => h) hv hd (k H locs ls hP hD hS hL)
theorem sk_iast (C : sk_C p s m args c cc nL own A D cI cS a1) {a n : Nat} {f : Nat → Int32} {i x : Int32} (q0 : Nat) (he : ws[q0]? = some (a, .inl (cI, n, .inl f))) (hi : vp_in i n) {ws2 : va_W} (h2 : ws.set q0 (a, .inl (cI, n, .inl (upd f i.toNatClampNeg x))) = ws2) (hd : decode cc pc = .ok (.iastore, 1)) (k : sk_W p l e R s m args below meth c A Q D nL kc ks (pc + 1) stk lo ws2) : sk_W p l e R s m args below meth c A Q D nL kc ks pc (.int x :: .int i :: .ref a :: stk) lo ws := by
  subst h2
  intro H locs ls hP hD hS hL
  exact va_iast C.1 C.2.1 C.2.2.2.2.2.1 hP hD hS q0 0 he rfl hi hd (fun H1 locs1 hP1 hD1 hS1 => k H1 locs1 ls hP1 hD1 hS1 hL)
theorem sk_alenS (C : sk_C p s m args c cc nL own A D cI cS a1) {a n : Nat} {f : Nat → Option Nat} {v : Int32} (q0 : Nat) (he : ws[q0]? = some (a, .inl (cS, n, .inr (.inr (.inr (.inr f)))))) (hv : Int32.ofNat n = v) (hd : decode cc pc = .ok (.arraylength, 1)) (k : sk_W p l e R s m args below meth c A Q D nL kc ks (pc + 1) (.int v :: stk) lo ws) : sk_W p l e R s m args below meth c A Q D nL kc ks pc (.ref a :: stk) lo ws := by
  intro H locs ls hP hD hS hL
  exact va_alen C.1 C.2.1 C.2.2.2.2.2.1 hP q0 1 he rfl hv hd (k H locs ls hP hD hS hL)
theorem sk_aast (C : sk_C p s m args c cc nL own A D cI cS a1) {a n v : Nat} {f : Nat → Option Nat} {i : Int32} {vs : List Value} (q0 qk : Nat) (he : ws[q0]? = some (a, .inl (cS, n, .inr (.inr (.inr (.inr f)))))) (hv : ws[qk]? = some (v, .inr (3, vs))) (hi : vp_in i n) {ws2 : va_W} (h2 : ws.set q0 (a, .inl (cS, n, .inr (.inr (.inr (.inr (va_up f i.toNatClampNeg (some v))))))) = ws2) (hd : decode cc pc = .ok (.aastore, 1)) (k : sk_W p l e R s m args below meth c A Q D nL kc ks (pc + 1) stk lo ws2 ) : sk_W p l e R s m args below meth c A Q D nL kc ks pc (.ref v :: .int i :: .ref a :: stk) lo ws := by
  subst h2
  intro H locs ls hP hD hS hL
  exact va_astq (r := ("SnowMoney$Sheet", sm_T3, 3)) C.1 C.2.1 C.2.2.2.2.2.1 hP hD hS q0 1 qk 3 he rfl hv rfl hi hd (fun H1 locs1 hP1 hD1 hS1 => k H1 locs1 ls hP1 hD1 hS1 hL)
theorem sk_call (C : sk_C p s m args c cc nL own A D cI cS a1) {ix n yL h ci : Nat} {y : MethodName} {yc : ByteArray} {rm : Room} {fs0 : List Value} {post : (Nat → Nat) → Nat → ClassId → ClassId → Nat → va_W} {wr : va_W} (As : List Value) (hM : sk_M l y yc yL rm ci fs0 As rm.cells rm.slots post) (ok : sm_okB own ix y yc yL none n) (hw : Cond.instanceMethod y ∈ sm_tbl) (hy : y.name = "<init>") (q0 : Nat) (he : ws[q0]? = some (h, .inr (ci, fs0))) (isR : List Nat) (hR0 : isR.map (fun i => ws[i]?) = wr.map some) (hnd : va_nd isR = true) (hdis : ∀ i ∈ isR, i ∉ [q0]) (ws2 : (Nat → Nat) → va_W) (h2 : ∀ u, wr ++ post u h cI cS a1 = ws2 u) (hn : As.length = n) (hR : rm.frames + 1 ≤ R.frames ∧ 8 + (yL + 11) + rm.locals ≤ R.locals) (hcat : (stk.map fun v => v.category).sum ≤ 8) (hf : kc + rm.cells ≤ R.cells ∧ ks + rm.slots ≤ R.slots) (hd : decode cc pc = .ok (.invokespecial ix, 3)) (k : ∀ u : Nat → Nat, sk_W p l e R s m args below meth c A Q D nL (kc + rm.cells) (ks + rm.slots) (pc + 3) stk lo (ws2 u)) : sk_W p l e R s m args below meth c A Q D nL kc ks pc (As.reverse ++ .ref h :: stk) lo ws := by
  intro H locs ls hP hD hS hL
  have hmap : [q0].map (fun i => ws[i]?) = ([(h, .inr (ci, fs0))] : va_W).map some := by
    show [ws[q0]?] = _
    rw [he]
    rfl
  have hPc : va_P D sm_cls [(h, .inr (ci, fs0))] H := hP.sub [q0] (by simp [List.filterMap_cons, he])
  have hDc : va_D A [(h, .inr (ci, fs0))] := hD.sub [q0] rfl hmap
  have hFc := va_free (wc := [(h, .inr (ci, fs0))]) hD hS C.2.2.2.2.2.2.1 [q0] hmap
  have cw : CallB R s args own ix y yc yL none (.code y yc yL none :: sm_tbl) rm rm.cells rm.slots n := callB_of n C.2.2.2.2.1 (sm_goodIn ok.2.2.1) rfl rfl rfl (C.2.2.2.2.1 _ ok.2.1) (C.2.2.2.2.1 _ ok.1) ok.2.2.2 hR
  refine va_callv (va_runI (H := H) (As := As) (rest := stk) ⟨C.1, C.2.1, C.2.2.1, C.2.2.2.1, C.2.2.2.2.1⟩ (hM D cI cS a1 h H.size) ⟨cw, hy, C.2.2.2.2.1 _ hw⟩ ⟨sk_blind, fun U hU hW => ⟨rfl, by rw [hU], by rw [hU]; exact hPc, va_K.moved hW.alike C.2.2.2.2.2.1, hDc.weaken (fun _ _ _ _ => trivial), C.2.2.2.2.2.2.2.warm hW⟩⟩ rfl hn hL.1 rfl (lv_room hcat) hd hf) hS (fun q _ h => hFc q h) hFc (fun u t H1 locs1 ht hvm hw hB hz1 hk1 hS1 => ?_)
  obtain ⟨hP1, hK1, hD1⟩ := hB
  rw [ht] at hP1
  obtain ⟨hP2, hD2⟩ := va_join (wr := wr) (w1 := post u h cI cS a1) hP hD [q0] isR hmap hR0 hnd hdis hk1 hFc hP1 hD1
  rw [h2 u] at hP2 hD2
  exact k u H1 locs1 ls hP2 hD2 hS1 hL
theorem sk_callN (C : sk_C p s m args c cc nL own A D cI cS a1) {ix n yL h ci : Nat} {y : MethodName} {yc : ByteArray} {rm : Room} {fs0 : List Value} {post : (Nat → Nat) → Nat → ClassId → ClassId → Nat → va_W} {wr : va_W} (As : List Value) (hM : sk_M l y yc yL rm ci fs0 As rm.cells rm.slots post) (hl : va_Nw (.methodLinkNest own ix y "SnowMoney") s) (hini : Cond.initialized y.cls ∈ sm_tbl) (hcode : Cond.code y yc yL none ∈ sm_tbl) (hdesc : y.cls ≠ "java/lang/invoke/MethodHandle" ∧ y.cls ≠ "java/lang/invoke/VarHandle" ∧ (parseMethodDescriptor y.desc).map (fun d => d.parameters.length) = some n) (hw : Cond.instanceMethod y ∈ sm_tbl) (hy : y.name = "<init>") (q0 : Nat) (he : ws[q0]? = some (h, .inr (ci, fs0))) (isR : List Nat) (hR0 : isR.map (fun i => ws[i]?) = wr.map some) (hnd : va_nd isR = true) (hdis : ∀ i ∈ isR, i ∉ [q0]) (ws2 : (Nat → Nat) → va_W) (h2 : ∀ u, wr ++ post u h cI cS a1 = ws2 u) (hn : As.length = n) (hR : rm.frames + 1 ≤ R.frames ∧ 8 + (yL + 11) + rm.locals ≤ R.locals) (hcat : (stk.map fun v => v.category).sum ≤ 8) (hf : kc + rm.cells ≤ R.cells ∧ ks + rm.slots ≤ R.slots) (hd : decode cc pc = .ok (.invokespecial ix, 3)) (k : ∀ u : Nat → Nat, sk_W p l e R s m args below meth c A Q D nL (kc + rm.cells) (ks + rm.slots) (pc + 3) stk lo (ws2 u)) : sk_W p l e R s m args below meth c A Q D nL kc ks pc (As.reverse ++ .ref h :: stk) lo ws := by
  intro H locs ls hP hD hS hL
  have hmap : [q0].map (fun i => ws[i]?) = ([(h, .inr (ci, fs0))] : va_W).map some := by
    show [ws[q0]?] = _
    rw [he]
    rfl
  have hPc : va_P D sm_cls [(h, .inr (ci, fs0))] H := hP.sub [q0] (by simp [List.filterMap_cons, he])
  have hDc : va_D A [(h, .inr (ci, fs0))] := hD.sub [q0] rfl hmap
  have hFc := va_free (wc := [(h, .inr (ci, fs0))]) hD hS C.2.2.2.2.2.2.1 [q0] hmap
  have cw : va_CN R s args own ix y "SnowMoney" yc yL none (.code y yc yL none :: sm_tbl) rm rm.cells rm.slots n := va_cnB n C.2.2.2.2.1 (sm_goodIn hcode) rfl rfl rfl hl (C.2.2.2.2.1 _ hini) hdesc hR
  refine va_callv (va_runIN (H := H) (As := As) (rest := stk) ⟨C.1, C.2.1, C.2.2.1, C.2.2.2.1, C.2.2.2.2.1⟩ (hM D cI cS a1 h H.size) ⟨cw, hy, C.2.2.2.2.1 _ hw⟩ ⟨sk_blind, fun U hU hW => ⟨rfl, by rw [hU], by rw [hU]; exact hPc, va_K.moved hW.alike C.2.2.2.2.2.1, hDc.weaken (fun _ _ _ _ => trivial), C.2.2.2.2.2.2.2.warm hW⟩⟩ rfl hn hL.1 rfl (lv_room hcat) hd hf) hS (fun q _ h => hFc q h) hFc (fun u t H1 locs1 ht hvm hw hB hz1 hk1 hS1 => ?_)
  obtain ⟨hP1, hK1, hD1⟩ := hB
  rw [ht] at hP1
  obtain ⟨hP2, hD2⟩ := va_join (wr := wr) (w1 := post u h cI cS a1) hP hD [q0] isR hmap hR0 hnd hdis hk1 hFc hP1 hD1
  rw [h2 u] at hP2 hD2
  exact k u H1 locs1 ls hP2 hD2 hS1 hL
end SK

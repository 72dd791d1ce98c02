
def sm_tbl : List Cond := lw_tbl.filter goodWord
theorem sm_good : sm_tbl.all goodWord = true := List.all_eq_true.mpr fun _ h => (List.mem_filter.mp h).2
theorem sm_in {w : Cond} (h : w ∈ lw_tbl) (g : goodWord w = true) : w ∈ sm_tbl := List.mem_filter.mpr ⟨h, g⟩
theorem sm_rem (x y : Int32) : x - x / y * y = x % y := by
  apply Int32.toInt_inj.mp
  have h1 : ((x % y).toInt).bmod (2 ^ 32) = (x % y).toInt := Int32.toInt_bmod _
  rw [← h1, Int32.toInt_mod, Int.tmod_def, Int32.toInt_sub, Int32.toInt_mul, Int32.toInt_div]
  simp [Int.mul_comm]
abbrev sm_V : Type := Int32 ⊕ (Option Nat ⊕ Int64)
abbrev sm_I (x : Int32) : sm_V := Sum.inl x
abbrev sm_R (k : Nat) : sm_V := Sum.inr (Sum.inl (some k))
abbrev sm_N : sm_V := Sum.inr (Sum.inl none)
abbrev sm_L (x : Int64) : sm_V := Sum.inr (Sum.inr x)
def sm_cv (ad : Nat → Nat) : sm_V → Value
  | Sum.inl x => .int x
  | Sum.inr (Sum.inl none) => .null
  | Sum.inr (Sum.inl (some k)) => .ref (ad k)
  | Sum.inr (Sum.inr x) => .long x
def sm_cat : sm_V → Nat
  | Sum.inr (Sum.inr _) => 2
  | _ => 1
theorem sm_cat_cv (ad : Nat → Nat) (v : sm_V) : (sm_cv ad v).category = sm_cat v := by
  rcases v with x | (_ | k) | x <;> rfl
abbrev sm_Mem : Type := Nat → Nat → Int32
def sm_st (μ : sm_Mem) (k j : Nat) (v : Int32) : sm_Mem := fun q => if q = k then upd (μ k) j v else μ q
def sm_cpy (μ : sm_Mem) (k0 k1 sp dp n : Nat) : sm_Mem := fun q => if q = k1 then va_cpy (μ k0) (μ k1) sp dp n else μ q
def sm_fv (ad : Nat → Nat) (f : Nat → Int32) (j d : Nat) : Value := if d = 0 then .int (f j) else if d = 1 then .ref (ad (100 + (f j).toNatClampNeg)) else .ref (ad (d - 2))
def sm_cE (ad : Nat → Nat) (cI cS : ClassId) (q : Nat × Nat × List Nat) (f : Nat → Int32) : va_E := match q with
  | (0, n, _) => .inl (cI, n, .inl f)
  | (1, ci, fl) => .inr (ci, fl.mapIdx (fun j d => sm_fv ad f j d))
  | (_, n, fl) => .inl (cS, n, .inr (.inr (.inr (.inr (fun i => (fl[i]?).map ad)))))
abbrev sm_G : Type := (Nat → Nat) × (Nat → ClassId) × (Nat → Nat → Nat) × ClassId × ClassId
def sm_wl (G : sm_G) (μ : sm_Mem) : va_W := sm_lays.mapIdx (fun k q => (G.1 k, sm_cE G.1 G.2.2.2.1 G.2.2.2.2 q (μ k)))
theorem sm_wl_get {G : sm_G} {μ : sm_Mem} {k : Nat} {q : Nat × Nat × List Nat} (h : sm_lays[k]? = some q) : (sm_wl G μ)[k]? = some (G.1 k, sm_cE G.1 G.2.2.2.1 G.2.2.2.2 q (μ k)) := by
  simp [sm_wl, h]
theorem sm_wl_set {G : sm_G} {μ : sm_Mem} {k : Nat} {q : Nat × Nat × List Nat} {f : Nat → Int32} (h : sm_lays[k]? = some q) : (sm_wl G μ).set k (G.1 k, sm_cE G.1 G.2.2.2.1 G.2.2.2.2 q f) = sm_wl G (fun z => if z = k then f else μ z) := by
  apply List.ext_getElem?
  intro i
  rw [List.getElem?_set]
  by_cases hi : k = i
  · subst hi
    obtain ⟨hk, hq⟩ := List.getElem?_eq_some_iff.mp h
    simp [sm_wl, hk, hq]
  · have hi' : ¬ i = k := fun q => hi q.symm
    simp [sm_wl, hi, hi']
theorem sm_fl_set {ad : Nat → Nat} {f : Nat → Int32} {fl : List Nat} {j : Nat} {v : Int32} (h : fl[j]? = some 0) : (fl.mapIdx (fun j d => sm_fv ad f j d)).set j (.int v) = fl.mapIdx (fun i d => sm_fv ad (upd f j v) i d) := by
  apply List.ext_getElem?
  intro i
  rw [List.getElem?_set]
  by_cases hi : j = i
  · subst hi
    obtain ⟨hk, hq⟩ := List.getElem?_eq_some_iff.mp h
    simp [hk, hq, sm_fv, upd]
  · have hi' : ¬ i = j := fun q => hi q.symm
    rw [if_neg hi, List.getElem?_mapIdx, List.getElem?_mapIdx]
    simp only [sm_fv, upd, if_neg hi']
theorem sm_fl_setS {ad : Nat → Nat} {f : Nat → Int32} {fl : List Nat} {j : Nat} {v : Int32} (h : fl[j]? = some 1) : (fl.mapIdx (fun j d => sm_fv ad f j d)).set j (.ref (ad (100 + v.toNatClampNeg))) = fl.mapIdx (fun i d => sm_fv ad (upd f j v) i d) := by
  apply List.ext_getElem?
  intro i
  rw [List.getElem?_set]
  by_cases hi : j = i
  · subst hi
    obtain ⟨hk, hq⟩ := List.getElem?_eq_some_iff.mp h
    simp [hk, hq, sm_fv, upd]
  · have hi' : ¬ i = j := fun q => hi q.symm
    rw [if_neg hi, List.getElem?_mapIdx, List.getElem?_mapIdx]
    simp only [sm_fv, upd, if_neg hi']
def sm_above : List Int32 := [-1, 0, 0, 0, 1, 2, 3]
def sm_bodies : List Int32 := [10, 11, 12, 13, 20, 0, 0, 0, 0, 30, 0, 0, 0, 0, 40, 0, 0, 0, 0, 50, 0, 60, 0, 0, 0, 0, 70, 71]
def sm_slen : List Nat := [0, 3, 3]
def sm_sbyt : List (List Int32) := [[], [119, 121, 104], [115, 109, 111]]
/-- what nobody writes: two tables, three texts, a flag of the JDK's -/
def sm_SF (ad : Nat → Nat) (A : Nat → Prop) (U : State) (H : Heap) : Prop :=
  va_Z "SnowMoney$Kinds" "ABOVE" "[I" (.ref (ad 110)) A U H ∧ va_T .int (ad 110) 7 (fun j => .int (sm_above.getD j 0)) A U H ∧
  va_Z "SnowMoney$Voices" "BODIES" "[I" (.ref (ad 111)) A U H ∧ va_T .int (ad 111) 28 (fun j => .int (sm_bodies.getD j 0)) A U H ∧
  vk_S 3 sm_slen sm_sbyt (fun i => ad (100 + i)) (fun i => ad (120 + i)) A U H ∧ va_Z "java/lang/String" "COMPACT_STRINGS" "Z" (.int 1) A U H
theorem sm_SF.moved {ad : Nat → Nat} {A : Nat → Prop} {u U : State} {H : Heap} (hvm : u.vm.Alike U.vm) (h : sm_SF ad A u H) : sm_SF ad A U H :=
  ⟨h.1.moved hvm, h.2.1.moved hvm, h.2.2.1.moved hvm, h.2.2.2.1.moved hvm, h.2.2.2.2.1.moved hvm, h.2.2.2.2.2.moved hvm⟩
theorem sm_SF.kept {ad : Nat → Nat} {A : Nat → Prop} {U : State} {H H1 : Heap} (h : sm_SF ad A U H) (hq : ∀ a : Nat, a < H.size → ¬ A a → H1[a]? = H[a]?) : sm_SF ad A U H1 :=
  ⟨h.1.kept hq, h.2.1.kept hq, h.2.2.1.kept hq, h.2.2.2.1.kept hq, h.2.2.2.2.1.kept hq, h.2.2.2.2.2.kept hq⟩
theorem sm_SF.narrow {ad : Nat → Nat} {A B : Nat → Prop} {U : State} {H : Heap} (h : sm_SF ad A U H) (hAB : ∀ q, B q → A q) : sm_SF ad B U H :=
  ⟨h.1.narrow hAB, h.2.1.narrow hAB, h.2.2.1.narrow hAB, h.2.2.2.1.narrow hAB, h.2.2.2.2.1.narrow hAB, h.2.2.2.2.2.narrow hAB⟩
/-- the String constants that instructions load -/
def sm_SR (ad : Nat → Nat) (U : State) : Prop := vk_R "SnowMoney$Reader" 22 "" (ad 100) U ∧ vk_R "SnowMoney" 129 "wyh" (ad 101) U ∧ vk_R "SnowMoney" 131 "smo" (ad 102) U
theorem sm_SR.warm {ad : Nat → Nat} {s U : State} (hW : s.WarmedH U.vm) (h : sm_SR ad s) : sm_SR ad U := ⟨h.1.warm hW, h.2.1.warm hW, h.2.2.warm hW⟩
theorem sm_SR.same {ad : Nat → Nat} {s U : State} (hv : U.vm = s.vm) (h : sm_SR ad s) : sm_SR ad U := ⟨h.1.same hv, h.2.1.same hv, h.2.2.same hv⟩
abbrev sm_tys (G : sm_G) : List (ClassId × FieldType) := [(G.2.2.2.1, .int), (G.2.2.2.2, .object "SnowMoney$Sheet")]
abbrev sm_D (G : sm_G) : va_G := (G.2.1, G.2.2.1)
/-- a frame's fixed facts -/
def sm_C (p : Program) (s : State) (m : MethodId) (args : Array Value) (c : Code) (cc : ByteArray) (nL : Nat) (own : String) (A : Nat → Prop) (G : sm_G) : Prop :=
  p.tables.exec = Jvm.exec ∧ c.code = cc ∧ c.maxLocals = nL ∧ s.vm.findClass own = some m.cls ∧ (∀ w ∈ sm_tbl, w.before args s = true) ∧ va_K (sm_D G) sm_cls (sm_tys G) s ∧ (∀ q : Nat, s.heap.size ≤ q → A q) ∧ sm_SF G.1 A s s.heap ∧ sm_SR G.1 s
/-- the machine at pc, with this stack, these locals, these cells, comes to Q -/
def sm_W (p : Program) (l : Launch) (e : Env) (R : Room) (s : State) (m : MethodId) (args : Array Value) (below : List Frame) (meth : Method) (c : Code) (A : Nat → Prop) (Q : State → Prop) (G : sm_G) (nL kc ks : Nat) (pc : Nat) (stk : List sm_V) (lo : List (Nat × sm_V)) (μ : sm_Mem) : Prop :=
  ∀ (H : Heap) (locs : List Loc) (ls : Array Slot), va_P (sm_D G) sm_cls (sm_wl G μ) H → va_D A (sm_wl G μ) → va_S A s.heap H locs → lv_has ls nL (lo.map fun q => (q.1, sm_cv G.1 q.2)) → W p l e R s m args below meth c H locs kc ks Q (F0 m pc ls (stk.map (sm_cv G.1)))
def sm_keep (i : Nat) (q : Nat × sm_V) : Bool := !(q.1 == i) && !(q.1 + 1 == i && sm_cat q.2 == 2)
theorem sm_filter (ad : Nat → Nat) (i : Nat) (lo : List (Nat × sm_V)) : (lo.map fun q => (q.1, sm_cv ad q.2)).filter (fun q => !(q.1 == i) && !(q.1 + 1 == i && q.2.category == 2)) = (lo.filter (sm_keep i)).map fun q => (q.1, sm_cv ad q.2) := by
  rw [List.filter_map]
  congr 1
  apply List.filter_congr
  intro q _
  simp [sm_keep, sm_cat_cv]
theorem sm_lo {ad : Nat → Nat} {ls : Array Slot} {nL : Nat} {lo : List (Nat × sm_V)} (h : lv_has ls nL (lo.map fun q => (q.1, sm_cv ad q.2))) {z i : Nat} {v : sm_V} (hl : lo[z]? = some (i, v)) : ls[i]? = some (.val (sm_cv ad v)) := by
  refine lv_at h z (i := i) ?_
  simp [hl]

section SMR
variable {p : Program} {l : Launch} {e : Env} {R : Room} {s : State} {m : MethodId} {args : Array Value} {below : List Frame} {meth : Method} {c : Code} {A : Nat → Prop} {Q : State → Prop} {G : sm_G} {nL kc ks : Nat} {cc : ByteArray} {own : String} {pc : Nat} {stk : List sm_V} {lo : List (Nat × sm_V)} {μ : sm_Mem}
theorem sr_iconst (C : sm_C p s m args c cc nL own A G) {n : Int} {v : Int32} (hd : decode cc pc = .ok (.iconst n, 1)) (hv : Int32.ofInt n = v) (k : sm_W p l e R s m args below meth c A Q G nL kc ks (pc + 1) (sm_I v :: stk) lo μ) : sm_W p l e R s m args below meth c A Q G nL kc ks pc stk lo μ := by
  intro H locs ls hP hD hS hL
  exact lv_iconst C.1 C.2.1 hd hv (k H locs ls hP hD hS hL)
theorem sr_bipush (C : sm_C p s m args c cc nL own A G) {n : Int} {v : Int32} (hd : decode cc pc = .ok (.bipush n, 2)) (hv : (Int8.ofInt n).toInt32 = v) (k : sm_W p l e R s m args below meth c A Q G nL kc ks (pc + 2) (sm_I v :: stk) lo μ) : sm_W p l e R s m args below meth c A Q G nL kc ks pc stk lo μ := by
  intro H locs ls hP hD hS hL
  exact lv_bipush C.1 C.2.1 hd hv (k H locs ls hP hD hS hL)
theorem sr_sipush (C : sm_C p s m args c cc nL own A G) {n : Int} {v : Int32} (hd : decode cc pc = .ok (.sipush n, 3)) (hv : (Int16.ofInt n).toInt32 = v) (k : sm_W p l e R s m args below meth c A Q G nL kc ks (pc + 3) (sm_I v :: stk) lo μ) : sm_W p l e R s m args below meth c A Q G nL kc ks pc stk lo μ := by
  intro H locs ls hP hD hS hL
  exact lv_sipush C.1 C.2.1 hd hv (k H locs ls hP hD hS hL)
theorem sr_ldc (C : sm_C p s m args c cc nL own A G) {ix : Nat} {v : Int32} (hw : Cond.constant own ix v ∈ sm_tbl) (hd : decode cc pc = .ok (.ldc ix, 2)) (k : sm_W p l e R s m args below meth c A Q G nL kc ks (pc + 2) (sm_I v :: stk) lo μ) : sm_W p l e R s m args below meth c A Q G nL kc ks pc stk lo μ := by
  intro H locs ls hP hD hS hL
  exact lv_ldc C.1 C.2.1 C.2.2.2.1 (C.2.2.2.2.1 _ hw) hd (k H locs ls hP hD hS hL)
theorem sr_ldcw (C : sm_C p s m args c cc nL own A G) {ix : Nat} {v : Int32} (hw : Cond.constant own ix v ∈ sm_tbl) (hd : decode cc pc = .ok (.ldc_w ix, 3)) (k : sm_W p l e R s m args below meth c A Q G nL kc ks (pc + 3) (sm_I v :: stk) lo μ) : sm_W p l e R s m args below meth c A Q G nL kc ks pc stk lo μ := by
  intro H locs ls hP hD hS hL
  exact lv_ldcw C.1 C.2.1 C.2.2.2.1 (C.2.2.2.2.1 _ hw) hd (k H locs ls hP hD hS hL)
theorem sr_ldcS (C : sm_C p s m args c cc nL own A G) {ix q : Nat} {tx : String} (hw : vk_R own ix tx (G.1 q) s) (hd : decode cc pc = .ok (.ldc ix, 2)) (k : sm_W p l e R s m args below meth c A Q G nL kc ks (pc + 2) (sm_R q :: stk) lo μ) : sm_W p l e R s m args below meth c A Q G nL kc ks pc stk lo μ := by
  intro H locs ls hP hD hS hL
  exact va_ldcS C.1 C.2.1 C.2.2.2.1 hw hd (k H locs ls hP hD hS hL)
theorem sr_null (C : sm_C p s m args c cc nL own A G) (hd : decode cc pc = .ok (.aconst_null, 1)) (k : sm_W p l e R s m args below meth c A Q G nL kc ks (pc + 1) (sm_N :: stk) lo μ) : sm_W p l e R s m args below meth c A Q G nL kc ks pc stk lo μ := by
  intro H locs ls hP hD hS hL
  exact lv_null C.1 C.2.1 hd (k H locs ls hP hD hS hL)
theorem sr_iload_n (C : sm_C p s m args c cc nL own A G) (z : Nat) {w : Fin 4} {i : Nat} {x : Int32} (hi : (w : Nat) = i) (hl : lo[z]? = some (i, sm_I x)) (hd : decode cc pc = .ok (.iload_n w, 1)) (k : sm_W p l e R s m args below meth c A Q G nL kc ks (pc + 1) (sm_I x :: stk) lo μ) : sm_W p l e R s m args below meth c A Q G nL kc ks pc stk lo μ := by
  intro H locs ls hP hD hS hL
  exact lv_iload_n C.1 C.2.1 hd hi (sm_lo hL hl) (k H locs ls hP hD hS hL)
theorem sr_iload (C : sm_C p s m args c cc nL own A G) (z : Nat) {i : Nat} {x : Int32} (hl : lo[z]? = some (i, sm_I x)) (hd : decode cc pc = .ok (.iload i, 2)) (k : sm_W p l e R s m args below meth c A Q G nL kc ks (pc + 2) (sm_I x :: stk) lo μ) : sm_W p l e R s m args below meth c A Q G nL kc ks pc stk lo μ := by
  intro H locs ls hP hD hS hL
  exact lv_iload C.1 C.2.1 hd (sm_lo hL hl) (k H locs ls hP hD hS hL)
theorem sr_aload_n (C : sm_C p s m args c cc nL own A G) (z : Nat) {w : Fin 4} {i : Nat} {x : Nat} (hi : (w : Nat) = i) (hl : lo[z]? = some (i, sm_R x)) (hd : decode cc pc = .ok (.aload_n w, 1)) (k : sm_W p l e R s m args below meth c A Q G nL kc ks (pc + 1) (sm_R x :: stk) lo μ) : sm_W p l e R s m args below meth c A Q G nL kc ks pc stk lo μ := by
  intro H locs ls hP hD hS hL
  exact lv_aload_n C.1 C.2.1 hd hi (sm_lo hL hl) (k H locs ls hP hD hS hL)
theorem sr_aload (C : sm_C p s m args c cc nL own A G) (z : Nat) {i : Nat} {x : Nat} (hl : lo[z]? = some (i, sm_R x)) (hd : decode cc pc = .ok (.aload i, 2)) (k : sm_W p l e R s m args below meth c A Q G nL kc ks (pc + 2) (sm_R x :: stk) lo μ) : sm_W p l e R s m args below meth c A Q G nL kc ks pc stk lo μ := by
  intro H locs ls hP hD hS hL
  exact lv_aload C.1 C.2.1 hd (sm_lo hL hl) (k H locs ls hP hD hS hL)
theorem sr_aloadN_n (C : sm_C p s m args c cc nL own A G) (z : Nat) {w : Fin 4} {i : Nat} (hi : (w : Nat) = i) (hl : lo[z]? = some (i, sm_N)) (hd : decode cc pc = .ok (.aload_n w, 1)) (k : sm_W p l e R s m args below meth c A Q G nL kc ks (pc + 1) (sm_N :: stk) lo μ) : sm_W p l e R s m args below meth c A Q G nL kc ks pc stk lo μ := by
  intro H locs ls hP hD hS hL
  exact lv_aload_nN C.1 C.2.1 hd hi (sm_lo hL hl) (k H locs ls hP hD hS hL)
theorem sr_aloadN (C : sm_C p s m args c cc nL own A G) (z : Nat) {i : Nat} (hl : lo[z]? = some (i, sm_N)) (hd : decode cc pc = .ok (.aload i, 2)) (k : sm_W p l e R s m args below meth c A Q G nL kc ks (pc + 2) (sm_N :: stk) lo μ) : sm_W p l e R s m args below meth c A Q G nL kc ks pc stk lo μ := by
  intro H locs ls hP hD hS hL
  exact lv_aloadN C.1 C.2.1 hd (sm_lo hL hl) (k H locs ls hP hD hS hL)
theorem sr_lload_n (C : sm_C p s m args c cc nL own A G) (z : Nat) {w : Fin 4} {i : Nat} {x : Int64} (hi : (w : Nat) = i) (hl : lo[z]? = some (i, sm_L x)) (hd : decode cc pc = .ok (.lload_n w, 1)) (k : sm_W p l e R s m args below meth c A Q G nL kc ks (pc + 1) (sm_L x :: stk) lo μ) : sm_W p l e R s m args below meth c A Q G nL kc ks pc stk lo μ := by
  intro H locs ls hP hD hS hL
  exact lv_lload_n C.1 C.2.1 hd hi (sm_lo hL hl) (k H locs ls hP hD hS hL)
theorem sr_istore_n (C : sm_C p s m args c cc nL own A G) {w : Fin 4} {i : Nat} {x : Int32} (hi : (w : Nat) = i) (hn : i < nL) (hd : decode cc pc = .ok (.istore_n w, 1)) (k : sm_W p l e R s m args below meth c A Q G nL kc ks (pc + 1) stk ((i, sm_I x) :: lo.filter (sm_keep i)) μ) : sm_W p l e R s m args below meth c A Q G nL kc ks pc (sm_I x :: stk) lo μ := by
  intro H locs ls hP hD hS hL
  exact lv_istore_n C.1 C.2.1 hd hi hL hn (by rw [sm_filter]; rfl) (fun ls hL => k H locs ls hP hD hS hL)
theorem sr_istore (C : sm_C p s m args c cc nL own A G) {i : Nat} {x : Int32} (hn : i < nL) (hd : decode cc pc = .ok (.istore i, 2)) (k : sm_W p l e R s m args below meth c A Q G nL kc ks (pc + 2) stk ((i, sm_I x) :: lo.filter (sm_keep i)) μ) : sm_W p l e R s m args below meth c A Q G nL kc ks pc (sm_I x :: stk) lo μ := by
  intro H locs ls hP hD hS hL
  exact lv_istore C.1 C.2.1 hd hL hn (by rw [sm_filter]; rfl) (fun ls hL => k H locs ls hP hD hS hL)
theorem sr_astore_n (C : sm_C p s m args c cc nL own A G) {w : Fin 4} {i : Nat} {x : Nat} (hi : (w : Nat) = i) (hn : i < nL) (hd : decode cc pc = .ok (.astore_n w, 1)) (k : sm_W p l e R s m args below meth c A Q G nL kc ks (pc + 1) stk ((i, sm_R x) :: lo.filter (sm_keep i)) μ) : sm_W p l e R s m args below meth c A Q G nL kc ks pc (sm_R x :: stk) lo μ := by
  intro H locs ls hP hD hS hL
  exact lv_astore_n C.1 C.2.1 hd hi hL hn (by rw [sm_filter]; rfl) (fun ls hL => k H locs ls hP hD hS hL)
theorem sr_astore (C : sm_C p s m args c cc nL own A G) {i : Nat} {x : Nat} (hn : i < nL) (hd : decode cc pc = .ok (.astore i, 2)) (k : sm_W p l e R s m args below meth c A Q G nL kc ks (pc + 2) stk ((i, sm_R x) :: lo.filter (sm_keep i)) μ) : sm_W p l e R s m args below meth c A Q G nL kc ks pc (sm_R x :: stk) lo μ := by
  intro H locs ls hP hD hS hL
  exact lv_astore C.1 C.2.1 hd hL hn (by rw [sm_filter]; rfl) (fun ls hL => k H locs ls hP hD hS hL)
theorem sr_astoreN_n (C : sm_C p s m args c cc nL own A G) {w : Fin 4} {i : Nat} (hi : (w : Nat) = i) (hn : i < nL) (hd : decode cc pc = .ok (.astore_n w, 1)) (k : sm_W p l e R s m args below meth c A Q G nL kc ks (pc + 1) stk ((i, sm_N) :: lo.filter (sm_keep i)) μ) : sm_W p l e R s m args below meth c A Q G nL kc ks pc (sm_N :: stk) lo μ := by
  intro H locs ls hP hD hS hL
  exact lv_astore_nN C.1 C.2.1 hd hi hL hn (by rw [sm_filter]; rfl) (fun ls hL => k H locs ls hP hD hS hL)
theorem sr_astoreN (C : sm_C p s m args c cc nL own A G) {i : Nat} (hn : i < nL) (hd : decode cc pc = .ok (.astore i, 2)) (k : sm_W p l e R s m args below meth c A Q G nL kc ks (pc + 2) stk ((i, sm_N) :: lo.filter (sm_keep i)) μ) : sm_W p l e R s m args below meth c A Q G nL kc ks pc (sm_N :: stk) lo μ := by
  intro H locs ls hP hD hS hL
  exact lv_astoreN C.1 C.2.1 hd hL hn (by rw [sm_filter]; rfl) (fun ls hL => k H locs ls hP hD hS hL)
theorem sr_iinc (C : sm_C p s m args c cc nL own A G) (z : Nat) {i : Nat} {n : Int} {x v : Int32} (hl : lo[z]? = some (i, sm_I x)) (hn : i < nL) (hd : decode cc pc = .ok (.iinc i n, 3)) (hv : x + Int32.ofInt n = v) (k : sm_W p l e R s m args below meth c A Q G nL kc ks (pc + 3) stk ((i, sm_I v) :: lo.filter (sm_keep i)) μ) : sm_W p l e R s m args below meth c A Q G nL kc ks pc stk lo μ := by
  intro H locs ls hP hD hS hL
  exact lv_iinc C.1 C.2.1 hd hL (k := z) (by simp [hl]; rfl) hv hn (by rw [sm_filter]; rfl) (fun ls hL => k H locs ls hP hD hS hL)
theorem sr_iadd (C : sm_C p s m args c cc nL own A G) {x y : Int32} (hd : decode cc pc = .ok (.iadd, 1)) (k : sm_W p l e R s m args below meth c A Q G nL kc ks (pc + 1) (sm_I (x + y) :: stk) lo μ) : sm_W p l e R s m args below meth c A Q G nL kc ks pc (sm_I y :: sm_I x :: stk) lo μ := by
  intro H locs ls hP hD hS hL
  exact lv_iadd C.1 C.2.1 hd (k H locs ls hP hD hS hL)
theorem sr_isub (C : sm_C p s m args c cc nL own A G) {x y : Int32} (hd : decode cc pc = .ok (.isub, 1)) (k : sm_W p l e R s m args below meth c A Q G nL kc ks (pc + 1) (sm_I (x - y) :: stk) lo μ) : sm_W p l e R s m args below meth c A Q G nL kc ks pc (sm_I y :: sm_I x :: stk) lo μ := by
  intro H locs ls hP hD hS hL
  exact lv_isub C.1 C.2.1 hd (k H locs ls hP hD hS hL)
theorem sr_imul (C : sm_C p s m args c cc nL own A G) {x y : Int32} (hd : decode cc pc = .ok (.imul, 1)) (k : sm_W p l e R s m args below meth c A Q G nL kc ks (pc + 1) (sm_I (x * y) :: stk) lo μ) : sm_W p l e R s m args below meth c A Q G nL kc ks pc (sm_I y :: sm_I x :: stk) lo μ := by
  intro H locs ls hP hD hS hL
  exact lv_imul C.1 C.2.1 hd (k H locs ls hP hD hS hL)
theorem sr_iand (C : sm_C p s m args c cc nL own A G) {x y : Int32} (hd : decode cc pc = .ok (.iand, 1)) (k : sm_W p l e R s m args below meth c A Q G nL kc ks (pc + 1) (sm_I (x &&& y) :: stk) lo μ) : sm_W p l e R s m args below meth c A Q G nL kc ks pc (sm_I y :: sm_I x :: stk) lo μ := by
  intro H locs ls hP hD hS hL
  exact lv_iand C.1 C.2.1 hd (k H locs ls hP hD hS hL)
theorem sr_ior (C : sm_C p s m args c cc nL own A G) {x y : Int32} (hd : decode cc pc = .ok (.ior, 1)) (k : sm_W p l e R s m args below meth c A Q G nL kc ks (pc + 1) (sm_I (x ||| y) :: stk) lo μ) : sm_W p l e R s m args below meth c A Q G nL kc ks pc (sm_I y :: sm_I x :: stk) lo μ := by
  intro H locs ls hP hD hS hL
  exact lv_ior C.1 C.2.1 hd (k H locs ls hP hD hS hL)
theorem sr_ixor (C : sm_C p s m args c cc nL own A G) {x y : Int32} (hd : decode cc pc = .ok (.ixor, 1)) (k : sm_W p l e R s m args below meth c A Q G nL kc ks (pc + 1) (sm_I (x ^^^ y) :: stk) lo μ) : sm_W p l e R s m args below meth c A Q G nL kc ks pc (sm_I y :: sm_I x :: stk) lo μ := by
  intro H locs ls hP hD hS hL
  exact lv_ixor C.1 C.2.1 hd (k H locs ls hP hD hS hL)
theorem sr_ishl (C : sm_C p s m args c cc nL own A G) {x y : Int32} (hd : decode cc pc = .ok (.ishl, 1)) (k : sm_W p l e R s m args below meth c A Q G nL kc ks (pc + 1) (sm_I (x <<< (y &&& 31)) :: stk) lo μ) : sm_W p l e R s m args below meth c A Q G nL kc ks pc (sm_I y :: sm_I x :: stk) lo μ := by
  intro H locs ls hP hD hS hL
  exact lv_ishl C.1 C.2.1 hd (k H locs ls hP hD hS hL)
theorem sr_ishr (C : sm_C p s m args c cc nL own A G) {x y : Int32} (hd : decode cc pc = .ok (.ishr, 1)) (k : sm_W p l e R s m args below meth c A Q G nL kc ks (pc + 1) (sm_I (x >>> (y &&& 31)) :: stk) lo μ) : sm_W p l e R s m args below meth c A Q G nL kc ks pc (sm_I y :: sm_I x :: stk) lo μ := by
  intro H locs ls hP hD hS hL
  exact lv_ishr C.1 C.2.1 hd (k H locs ls hP hD hS hL)
theorem sr_idiv (C : sm_C p s m args c cc nL own A G) {x y : Int32} (hz : ¬ y = 0) (hd : decode cc pc = .ok (.idiv, 1)) (k : sm_W p l e R s m args below meth c A Q G nL kc ks (pc + 1) (sm_I (x / y) :: stk) lo μ) : sm_W p l e R s m args below meth c A Q G nL kc ks pc (sm_I y :: sm_I x :: stk) lo μ := by
  intro H locs ls hP hD hS hL
  exact lv_idiv C.1 C.2.1 hd hz (k H locs ls hP hD hS hL)
theorem sr_irem (C : sm_C p s m args c cc nL own A G) {x y : Int32} (hz : ¬ y = 0) (hd : decode cc pc = .ok (.irem, 1)) (k : sm_W p l e R s m args below meth c A Q G nL kc ks (pc + 1) (sm_I (x % y) :: stk) lo μ) : sm_W p l e R s m args below meth c A Q G nL kc ks pc (sm_I y :: sm_I x :: stk) lo μ := by
  intro H locs ls hP hD hS hL
  exact lv_irem C.1 C.2.1 hd hz (by rw [sm_rem]; exact k H locs ls hP hD hS hL)
theorem sr_iushr (C : sm_C p s m args c cc nL own A G) {x y : Int32} (hd : decode cc pc = .ok (.iushr, 1)) (k : sm_W p l e R s m args below meth c A Q G nL kc ks (pc + 1) (sm_I (x.toUInt32 >>> (y.toUInt32 &&& Int32.toUInt32 31)).toInt32 :: stk) lo μ) : sm_W p l e R s m args below meth c A Q G nL kc ks pc (sm_I y :: sm_I x :: stk) lo μ := by
  intro H locs ls hP hD hS hL
  exact lv_iushr C.1 C.2.1 hd rfl (k H locs ls hP hD hS hL)
theorem sr_ineg (C : sm_C p s m args c cc nL own A G) {x : Int32} (hd : decode cc pc = .ok (.ineg, 1)) (k : sm_W p l e R s m args below meth c A Q G nL kc ks (pc + 1) (sm_I (-x) :: stk) lo μ) : sm_W p l e R s m args below meth c A Q G nL kc ks pc (sm_I x :: stk) lo μ := by
  intro H locs ls hP hD hS hL
  exact lv_ineg C.1 C.2.1 hd (k H locs ls hP hD hS hL)
theorem sr_i2b (C : sm_C p s m args c cc nL own A G) {x : Int32} (hd : decode cc pc = .ok (.i2b, 1)) (k : sm_W p l e R s m args below meth c A Q G nL kc ks (pc + 1) (sm_I x.toInt8.toInt32 :: stk) lo μ) : sm_W p l e R s m args below meth c A Q G nL kc ks pc (sm_I x :: stk) lo μ := by
  intro H locs ls hP hD hS hL
  exact lv_i2b C.1 C.2.1 hd rfl (k H locs ls hP hD hS hL)
theorem sr_i2s (C : sm_C p s m args c cc nL own A G) {x : Int32} (hd : decode cc pc = .ok (.i2s, 1)) (k : sm_W p l e R s m args below meth c A Q G nL kc ks (pc + 1) (sm_I x.toInt16.toInt32 :: stk) lo μ) : sm_W p l e R s m args below meth c A Q G nL kc ks pc (sm_I x :: stk) lo μ := by
  intro H locs ls hP hD hS hL
  exact lv_i2s C.1 C.2.1 hd rfl (k H locs ls hP hD hS hL)
theorem sr_i2c (C : sm_C p s m args c cc nL own A G) {x : Int32} (hd : decode cc pc = .ok (.i2c, 1)) (k : sm_W p l e R s m args below meth c A Q G nL kc ks (pc + 1) (sm_I (x.toUInt32 % 65536).toInt32 :: stk) lo μ) : sm_W p l e R s m args below meth c A Q G nL kc ks pc (sm_I x :: stk) lo μ := by
  intro H locs ls hP hD hS hL
  exact lv_i2c C.1 C.2.1 hd rfl (k H locs ls hP hD hS hL)
theorem sr_i2l (C : sm_C p s m args c cc nL own A G) {x : Int32} (hd : decode cc pc = .ok (.i2l, 1)) (k : sm_W p l e R s m args below meth c A Q G nL kc ks (pc + 1) (sm_L x.toInt64 :: stk) lo μ) : sm_W p l e R s m args below meth c A Q G nL kc ks pc (sm_I x :: stk) lo μ := by
  intro H locs ls hP hD hS hL
  exact lv_i2l C.1 C.2.1 hd rfl (k H locs ls hP hD hS hL)
theorem sr_l2i (C : sm_C p s m args c cc nL own A G) {x : Int64} (hd : decode cc pc = .ok (.l2i, 1)) (k : sm_W p l e R s m args below meth c A Q G nL kc ks (pc + 1) (sm_I x.toInt32 :: stk) lo μ) : sm_W p l e R s m args below meth c A Q G nL kc ks pc (sm_L x :: stk) lo μ := by
  intro H locs ls hP hD hS hL
  exact lv_l2i C.1 C.2.1 hd rfl (k H locs ls hP hD hS hL)
theorem sr_land (C : sm_C p s m args c cc nL own A G) {x y : Int64} (hd : decode cc pc = .ok (.land, 1)) (k : sm_W p l e R s m args below meth c A Q G nL kc ks (pc + 1) (sm_L (x &&& y) :: stk) lo μ) : sm_W p l e R s m args below meth c A Q G nL kc ks pc (sm_L y :: sm_L x :: stk) lo μ := by
  intro H locs ls hP hD hS hL
  exact lv_land C.1 C.2.1 hd (k H locs ls hP hD hS hL)
theorem sr_lor (C : sm_C p s m args c cc nL own A G) {x y : Int64} (hd : decode cc pc = .ok (.lor, 1)) (k : sm_W p l e R s m args below meth c A Q G nL kc ks (pc + 1) (sm_L (x ||| y) :: stk) lo μ) : sm_W p l e R s m args below meth c A Q G nL kc ks pc (sm_L y :: sm_L x :: stk) lo μ := by
  intro H locs ls hP hD hS hL
  exact lv_lor C.1 C.2.1 hd (k H locs ls hP hD hS hL)
theorem sr_lshl (C : sm_C p s m args c cc nL own A G) {x : Int64} {y : Int32} (hd : decode cc pc = .ok (.lshl, 1)) (k : sm_W p l e R s m args below meth c A Q G nL kc ks (pc + 1) (sm_L (x <<< (y.toInt64 &&& 63)) :: stk) lo μ) : sm_W p l e R s m args below meth c A Q G nL kc ks pc (sm_I y :: sm_L x :: stk) lo μ := by
  intro H locs ls hP hD hS hL
  exact lv_lshl C.1 C.2.1 hd rfl (k H locs ls hP hD hS hL)
theorem sr_lshr (C : sm_C p s m args c cc nL own A G) {x : Int64} {y : Int32} (hd : decode cc pc = .ok (.lshr, 1)) (k : sm_W p l e R s m args below meth c A Q G nL kc ks (pc + 1) (sm_L (x >>> (y.toInt64 &&& 63)) :: stk) lo μ) : sm_W p l e R s m args below meth c A Q G nL kc ks pc (sm_I y :: sm_L x :: stk) lo μ := by
  intro H locs ls hP hD hS hL
  exact lv_lshr C.1 C.2.1 hd rfl (k H locs ls hP hD hS hL)
theorem sr_lushr (C : sm_C p s m args c cc nL own A G) {x : Int64} {y : Int32} (hd : decode cc pc = .ok (.lushr, 1)) (k : sm_W p l e R s m args below meth c A Q G nL kc ks (pc + 1) (sm_L (x.toUInt64 >>> (y.toInt64.toUInt64 &&& Int64.toUInt64 63)).toInt64 :: stk) lo μ) : sm_W p l e R s m args below meth c A Q G nL kc ks pc (sm_I y :: sm_L x :: stk) lo μ := by
  intro H locs ls hP hD hS hL
  exact lv_lushr C.1 C.2.1 hd rfl (k H locs ls hP hD hS hL)
theorem sr_ldc2 (C : sm_C p s m args c cc nL own A G) {ix : Nat} {v : Int64} (hw : Cond.constantLong own ix v ∈ sm_tbl) (hd : decode cc pc = .ok (.ldc2_w ix, 3)) (k : sm_W p l e R s m args below meth c A Q G nL kc ks (pc + 3) (sm_L v :: stk) lo μ) : sm_W p l e R s m args below meth c A Q G nL kc ks pc stk lo μ := by
  intro H locs ls hP hD hS hL
  exact lv_ldc2 C.1 C.2.1 C.2.2.2.1 (C.2.2.2.2.1 _ hw) hd (k H locs ls hP hD hS hL)
theorem sr_dup (C : sm_C p s m args c cc nL own A G) {v : sm_V} (h1 : sm_cat v = 1) (hd : decode cc pc = .ok (.dup, 1)) (k : sm_W p l e R s m args below meth c A Q G nL kc ks (pc + 1) (v :: v :: stk) lo μ) : sm_W p l e R s m args below meth c A Q G nL kc ks pc (v :: stk) lo μ := by
  intro H locs ls hP hD hS hL
  exact lv_dup C.1 C.2.1 hd ((sm_cat_cv G.1 v).trans h1) (k H locs ls hP hD hS hL)
theorem sr_dup2 (C : sm_C p s m args c cc nL own A G) {v w : sm_V} (h1 : sm_cat v = 1) (h2 : sm_cat w = 1) (hd : decode cc pc = .ok (.dup2, 1)) (k : sm_W p l e R s m args below meth c A Q G nL kc ks (pc + 1) (v :: w :: v :: w :: stk) lo μ) : sm_W p l e R s m args below meth c A Q G nL kc ks pc (v :: w :: stk) lo μ := by
  intro H locs ls hP hD hS hL
  exact lv_dup2_11 C.1 C.2.1 hd ((sm_cat_cv G.1 v).trans h1) ((sm_cat_cv G.1 w).trans h2) (k H locs ls hP hD hS hL)
theorem sr_pop (C : sm_C p s m args c cc nL own A G) {v : sm_V} (h1 : sm_cat v = 1) (hd : decode cc pc = .ok (.pop, 1)) (k : sm_W p l e R s m args below meth c A Q G nL kc ks (pc + 1) stk lo μ) : sm_W p l e R s m args below meth c A Q G nL kc ks pc (v :: stk) lo μ := by
  intro H locs ls hP hD hS hL
  exact lv_pop C.1 C.2.1 hd ((sm_cat_cv G.1 v).trans h1) (k H locs ls hP hD hS hL)
theorem sr_goto (C : sm_C p s m args c cc nL own A G) {off : Int} {tgt : Nat} (ht : (pc : Int) + off = (tgt : Int)) (hd : decode cc pc = .ok (.goto off, 3)) (k : sm_W p l e R s m args below meth c A Q G nL kc ks tgt stk lo μ) : sm_W p l e R s m args below meth c A Q G nL kc ks pc stk lo μ := by
  intro H locs ls hP hD hS hL
  exact lv_goto C.1 C.2.1 hd ht (k H locs ls hP hD hS hL)
theorem sr_icmp_eq (C : sm_C p s m args c cc nL own A G) {x y : Int32} {off : Int} {tgt : Nat} (hd : decode cc pc = .ok (.if_icmp .eq off, 3)) (ht : (pc : Int) + off = (tgt : Int)) (kt : x = y → sm_W p l e R s m args below meth c A Q G nL kc ks tgt stk lo μ) (kf : ¬ x = y → sm_W p l e R s m args below meth c A Q G nL kc ks (pc + 3) stk lo μ) : sm_W p l e R s m args below meth c A Q G nL kc ks pc (sm_I y :: sm_I x :: stk) lo μ := by
  intro H locs ls hP hD hS hL
  exact lv_icmp_eq C.1 C.2.1 hd ht (fun q => kt q H locs ls hP hD hS hL) (fun q => kf q H locs ls hP hD hS hL)
theorem sr_if_eq (C : sm_C p s m args c cc nL own A G) {x : Int32} {off : Int} {tgt : Nat} (hd : decode cc pc = .ok (.ifCond .eq off, 3)) (ht : (pc : Int) + off = (tgt : Int)) (kt : x = 0 → sm_W p l e R s m args below meth c A Q G nL kc ks tgt stk lo μ) (kf : ¬ x = 0 → sm_W p l e R s m args below meth c A Q G nL kc ks (pc + 3) stk lo μ) : sm_W p l e R s m args below meth c A Q G nL kc ks pc (sm_I x :: stk) lo μ := by
  intro H locs ls hP hD hS hL
  exact lv_if_eq C.1 C.2.1 hd ht (fun q => kt q H locs ls hP hD hS hL) (fun q => kf q H locs ls hP hD hS hL)
theorem sr_icmp_ne (C : sm_C p s m args c cc nL own A G) {x y : Int32} {off : Int} {tgt : Nat} (hd : decode cc pc = .ok (.if_icmp .ne off, 3)) (ht : (pc : Int) + off = (tgt : Int)) (kt : ¬ x = y → sm_W p l e R s m args below meth c A Q G nL kc ks tgt stk lo μ) (kf : x = y → sm_W p l e R s m args below meth c A Q G nL kc ks (pc + 3) stk lo μ) : sm_W p l e R s m args below meth c A Q G nL kc ks pc (sm_I y :: sm_I x :: stk) lo μ := by
  intro H locs ls hP hD hS hL
  exact lv_icmp_ne C.1 C.2.1 hd ht (fun q => kt q H locs ls hP hD hS hL) (fun q => kf q H locs ls hP hD hS hL)
theorem sr_if_ne (C : sm_C p s m args c cc nL own A G) {x : Int32} {off : Int} {tgt : Nat} (hd : decode cc pc = .ok (.ifCond .ne off, 3)) (ht : (pc : Int) + off = (tgt : Int)) (kt : ¬ x = 0 → sm_W p l e R s m args below meth c A Q G nL kc ks tgt stk lo μ) (kf : x = 0 → sm_W p l e R s m args below meth c A Q G nL kc ks (pc + 3) stk lo μ) : sm_W p l e R s m args below meth c A Q G nL kc ks pc (sm_I x :: stk) lo μ := by
  intro H locs ls hP hD hS hL
  exact lv_if_ne C.1 C.2.1 hd ht (fun q => kt q H locs ls hP hD hS hL) (fun q => kf q H locs ls hP hD hS hL)
theorem sr_icmp_lt (C : sm_C p s m args c cc nL own A G) {x y : Int32} {off : Int} {tgt : Nat} (hd : decode cc pc = .ok (.if_icmp .lt off, 3)) (ht : (pc : Int) + off = (tgt : Int)) (kt : x < y → sm_W p l e R s m args below meth c A Q G nL kc ks tgt stk lo μ) (kf : ¬ x < y → sm_W p l e R s m args below meth c A Q G nL kc ks (pc + 3) stk lo μ) : sm_W p l e R s m args below meth c A Q G nL kc ks pc (sm_I y :: sm_I x :: stk) lo μ := by
  intro H locs ls hP hD hS hL
  exact lv_icmp_lt C.1 C.2.1 hd ht (fun q => kt q H locs ls hP hD hS hL) (fun q => kf q H locs ls hP hD hS hL)
theorem sr_if_lt (C : sm_C p s m args c cc nL own A G) {x : Int32} {off : Int} {tgt : Nat} (hd : decode cc pc = .ok (.ifCond .lt off, 3)) (ht : (pc : Int) + off = (tgt : Int)) (kt : x < 0 → sm_W p l e R s m args below meth c A Q G nL kc ks tgt stk lo μ) (kf : ¬ x < 0 → sm_W p l e R s m args below meth c A Q G nL kc ks (pc + 3) stk lo μ) : sm_W p l e R s m args below meth c A Q G nL kc ks pc (sm_I x :: stk) lo μ := by
  intro H locs ls hP hD hS hL
  exact lv_if_lt C.1 C.2.1 hd ht (fun q => kt q H locs ls hP hD hS hL) (fun q => kf q H locs ls hP hD hS hL)
theorem sr_icmp_ge (C : sm_C p s m args c cc nL own A G) {x y : Int32} {off : Int} {tgt : Nat} (hd : decode cc pc = .ok (.if_icmp .ge off, 3)) (ht : (pc : Int) + off = (tgt : Int)) (kt : y ≤ x → sm_W p l e R s m args below meth c A Q G nL kc ks tgt stk lo μ) (kf : ¬ y ≤ x → sm_W p l e R s m args below meth c A Q G nL kc ks (pc + 3) stk lo μ) : sm_W p l e R s m args below meth c A Q G nL kc ks pc (sm_I y :: sm_I x :: stk) lo μ := by
  intro H locs ls hP hD hS hL
  exact lv_icmp_ge C.1 C.2.1 hd ht (fun q => kt q H locs ls hP hD hS hL) (fun q => kf q H locs ls hP hD hS hL)
theorem sr_if_ge (C : sm_C p s m args c cc nL own A G) {x : Int32} {off : Int} {tgt : Nat} (hd : decode cc pc = .ok (.ifCond .ge off, 3)) (ht : (pc : Int) + off = (tgt : Int)) (kt : 0 ≤ x → sm_W p l e R s m args below meth c A Q G nL kc ks tgt stk lo μ) (kf : ¬ 0 ≤ x → sm_W p l e R s m args below meth c A Q G nL kc ks (pc + 3) stk lo μ) : sm_W p l e R s m args below meth c A Q G nL kc ks pc (sm_I x :: stk) lo μ := by
  intro H locs ls hP hD hS hL
  exact lv_if_ge C.1 C.2.1 hd ht (fun q => kt q H locs ls hP hD hS hL) (fun q => kf q H locs ls hP hD hS hL)
theorem sr_icmp_gt (C : sm_C p s m args c cc nL own A G) {x y : Int32} {off : Int} {tgt : Nat} (hd : decode cc pc = .ok (.if_icmp .gt off, 3)) (ht : (pc : Int) + off = (tgt : Int)) (kt : y < x → sm_W p l e R s m args below meth c A Q G nL kc ks tgt stk lo μ) (kf : ¬ y < x → sm_W p l e R s m args below meth c A Q G nL kc ks (pc + 3) stk lo μ) : sm_W p l e R s m args below meth c A Q G nL kc ks pc (sm_I y :: sm_I x :: stk) lo μ := by
  intro H locs ls hP hD hS hL
  exact lv_icmp_gt C.1 C.2.1 hd ht (fun q => kt q H locs ls hP hD hS hL) (fun q => kf q H locs ls hP hD hS hL)
theorem sr_if_gt (C : sm_C p s m args c cc nL own A G) {x : Int32} {off : Int} {tgt : Nat} (hd : decode cc pc = .ok (.ifCond .gt off, 3)) (ht : (pc : Int) + off = (tgt : Int)) (kt : 0 < x → sm_W p l e R s m args below meth c A Q G nL kc ks tgt stk lo μ) (kf : ¬ 0 < x → sm_W p l e R s m args below meth c A Q G nL kc ks (pc + 3) stk lo μ) : sm_W p l e R s m args below meth c A Q G nL kc ks pc (sm_I x :: stk) lo μ := by
  intro H locs ls hP hD hS hL
  exact lv_if_gt C.1 C.2.1 hd ht (fun q => kt q H locs ls hP hD hS hL) (fun q => kf q H locs ls hP hD hS hL)
theorem sr_icmp_le (C : sm_C p s m args c cc nL own A G) {x y : Int32} {off : Int} {tgt : Nat} (hd : decode cc pc = .ok (.if_icmp .le off, 3)) (ht : (pc : Int) + off = (tgt : Int)) (kt : x ≤ y → sm_W p l e R s m args below meth c A Q G nL kc ks tgt stk lo μ) (kf : ¬ x ≤ y → sm_W p l e R s m args below meth c A Q G nL kc ks (pc + 3) stk lo μ) : sm_W p l e R s m args below meth c A Q G nL kc ks pc (sm_I y :: sm_I x :: stk) lo μ := by
  intro H locs ls hP hD hS hL
  exact lv_icmp_le C.1 C.2.1 hd ht (fun q => kt q H locs ls hP hD hS hL) (fun q => kf q H locs ls hP hD hS hL)
theorem sr_if_le (C : sm_C p s m args c cc nL own A G) {x : Int32} {off : Int} {tgt : Nat} (hd : decode cc pc = .ok (.ifCond .le off, 3)) (ht : (pc : Int) + off = (tgt : Int)) (kt : x ≤ 0 → sm_W p l e R s m args below meth c A Q G nL kc ks tgt stk lo μ) (kf : ¬ x ≤ 0 → sm_W p l e R s m args below meth c A Q G nL kc ks (pc + 3) stk lo μ) : sm_W p l e R s m args below meth c A Q G nL kc ks pc (sm_I x :: stk) lo μ := by
  intro H locs ls hP hD hS hL
  exact lv_if_le C.1 C.2.1 hd ht (fun q => kt q H locs ls hP hD hS hL) (fun q => kf q H locs ls hP hD hS hL)
theorem sr_ifnullR (C : sm_C p s m args c cc nL own A G) {off : Int} {x : Nat} (hd : decode cc pc = .ok (.ifnull off, 3)) (k : sm_W p l e R s m args below meth c A Q G nL kc ks (pc + 3) stk lo μ) : sm_W p l e R s m args below meth c A Q G nL kc ks pc (sm_R x :: stk) lo μ := by
  intro H locs ls hP hD hS hL
  exact lv_ifnull C.1 C.2.1 hd (k H locs ls hP hD hS hL)
theorem sr_ifnullN (C : sm_C p s m args c cc nL own A G) {off : Int} {tgt : Nat} (ht : (pc : Int) + off = (tgt : Int)) (hd : decode cc pc = .ok (.ifnull off, 3)) (k : sm_W p l e R s m args below meth c A Q G nL kc ks tgt stk lo μ) : sm_W p l e R s m args below meth c A Q G nL kc ks pc (sm_N :: stk) lo μ := by
  intro H locs ls hP hD hS hL
  exact lv_ifnullN C.1 C.2.1 hd ht (k H locs ls hP hD hS hL)
theorem sr_ifnonnullR (C : sm_C p s m args c cc nL own A G) {off : Int} {tgt : Nat} {x : Nat} (ht : (pc : Int) + off = (tgt : Int)) (hd : decode cc pc = .ok (.ifnonnull off, 3)) (k : sm_W p l e R s m args below meth c A Q G nL kc ks tgt stk lo μ) : sm_W p l e R s m args below meth c A Q G nL kc ks pc (sm_R x :: stk) lo μ := by
  intro H locs ls hP hD hS hL
  exact lv_ifnonnull C.1 C.2.1 hd ht (k H locs ls hP hD hS hL)
theorem sr_ifnonnullN (C : sm_C p s m args c cc nL own A G) {off : Int} (hd : decode cc pc = .ok (.ifnonnull off, 3)) (k : sm_W p l e R s m args below meth c A Q G nL kc ks (pc + 3) stk lo μ) : sm_W p l e R s m args below meth c A Q G nL kc ks pc (sm_N :: stk) lo μ := by
  intro H locs ls hP hD hS hL
  exact lv_ifnonnullN C.1 C.2.1 hd (k H locs ls hP hD hS hL)
theorem sr_mask (C : sm_C p s m args c cc nL own A G) (zs : List Nat) {lo2 : List (Nat × sm_V)} (h : zs.filterMap (fun z => lo[z]?) = lo2) (k : sm_W p l e R s m args below meth c A Q G nL kc ks pc stk lo2 μ) : sm_W p l e R s m args below meth c A Q G nL kc ks pc stk lo μ := by
  intro H locs ls hP hD hS hL
  refine k H locs ls hP hD hS (lv_sub hL zs ?_)
  subst h
  simp [lv_pick, List.map_filterMap]
theorem sr_tableIn (C : sm_C p s m args c cc nL own A G) {dflt tl th : Int} {offs : Array Int} {len : Nat} {x : Int32} {off : Int} {tgt : Nat} (hd : decode cc pc = .ok (.tableswitch dflt tl th offs, len)) (h1 : ¬ x.toInt < tl) (h2 : ¬ th < x.toInt) (ho : offs[(x.toInt - tl).toNat]? = some off) (ht : (pc : Int) + off = (tgt : Int)) (k : sm_W p l e R s m args below meth c A Q G nL kc ks tgt stk lo μ) : sm_W p l e R s m args below meth c A Q G nL kc ks pc (sm_I x :: stk) lo μ := by
  intro H locs ls hP hD hS hL
  exact lv_tableIn C.1 C.2.1 hd h1 h2 ho ht (k H locs ls hP hD hS hL)
theorem sr_tableOut (C : sm_C p s m args c cc nL own A G) {dflt tl th : Int} {offs : Array Int} {len : Nat} {x : Int32} {tgt : Nat} (hd : decode cc pc = .ok (.tableswitch dflt tl th offs, len)) (h : x.toInt < tl ∨ th < x.toInt) (ht : (pc : Int) + dflt = (tgt : Int)) (k : sm_W p l e R s m args below meth c A Q G nL kc ks tgt stk lo μ) : sm_W p l e R s m args below meth c A Q G nL kc ks pc (sm_I x :: stk) lo μ := by
  intro H locs ls hP hD hS hL
  exact lv_tableOut C.1 C.2.1 hd h ht (k H locs ls hP hD hS hL)
theorem sr_lookup (C : sm_C p s m args c cc nL own A G) {dflt : Int} {ps : Array (Int × Int)} {len : Nat} {x : Int32} {off : Int} {tgt : Nat} (hd : decode cc pc = .ok (.lookupswitch dflt ps, len)) (hp : (ps.toList.zip (ps.toList.drop 1)).all (fun (a, next) => a.1 < next.1) = true) (ho : Op.lookupswitch.offset ps.toList dflt x.toInt = off) (ht : (pc : Int) + off = (tgt : Int)) (k : sm_W p l e R s m args below meth c A Q G nL kc ks tgt stk lo μ) : sm_W p l e R s m args below meth c A Q G nL kc ks pc (sm_I x :: stk) lo μ := by
  intro H locs ls hP hD hS hL
  exact lv_lookup C.1 C.2.1 hd hp ho ht (k H locs ls hP hD hS hL)

def sm_F (ci : Nat) (Cn : String) (T : u_T) (t : Nat → FieldType) (N : Nat) : Prop := sm_cls[ci]? = some (Cn, T, N) ∧ (∀ w ∈ u_ws Cn T N, w ∈ sm_tbl) ∧ (∀ k, k < N → parseFieldDescriptor (T k).2.2.1 = some (t k)) ∧ (∀ a, a < N → ∀ b, b < N → a ≠ b → (T a).2.1 ≠ (T b).2.1)
theorem sm_obj {k ci : Nat} {fl : List Nat} (hl : sm_lays[k]? = some (1, ci, fl)) : (sm_wl G μ)[k]? = some (G.1 k, .inr (ci, fl.mapIdx (fun j d => sm_fv G.1 (μ k) j d))) := sm_wl_get hl
theorem sm_arr {k n : Nat} {fl : List Nat} (hl : sm_lays[k]? = some (0, n, fl)) : (sm_wl G μ)[k]? = some (G.1 k, .inl (G.2.2.2.1, n, .inl (μ k))) := sm_wl_get hl
theorem sm_cE1 (ad : Nat → Nat) (cI cS : ClassId) (ci : Nat) (fl : List Nat) (f : Nat → Int32) : sm_cE ad cI cS (1, ci, fl) f = .inr (ci, fl.mapIdx (fun j d => sm_fv ad f j d)) := rfl
theorem sm_cE0 (ad : Nat → Nat) (cI cS : ClassId) (n : Nat) (fl : List Nat) (f : Nat → Int32) : sm_cE ad cI cS (0, n, fl) f = .inl (cI, n, .inl f) := rfl
theorem sm_setI {k ci j : Nat} {fl : List Nat} {v : Int32} (hl : sm_lays[k]? = some (1, ci, fl)) (hj : fl[j]? = some 0) : (sm_wl G μ).set k (G.1 k, .inr (ci, (fl.mapIdx (fun j d => sm_fv G.1 (μ k) j d)).set j (.int v))) = sm_wl G (sm_st μ k j v) := by
  have h := sm_wl_set (G := G) (μ := μ) (f := upd (μ k) j v) hl
  rw [sm_cE1] at h
  rw [sm_fl_set hj]
  exact h
theorem sm_setS {k ci j : Nat} {fl : List Nat} {v : Int32} (hl : sm_lays[k]? = some (1, ci, fl)) (hj : fl[j]? = some 1) : (sm_wl G μ).set k (G.1 k, .inr (ci, (fl.mapIdx (fun j d => sm_fv G.1 (μ k) j d)).set j (.ref (G.1 (100 + v.toNatClampNeg))))) = sm_wl G (sm_st μ k j v) := by
  have h := sm_wl_set (G := G) (μ := μ) (f := upd (μ k) j v) hl
  rw [sm_cE1] at h
  rw [sm_fl_setS hj]
  exact h
theorem sm_setA {k n i : Nat} {fl : List Nat} {v : Int32} (hl : sm_lays[k]? = some (0, n, fl)) : (sm_wl G μ).set k (G.1 k, .inl (G.2.2.2.1, n, .inl (upd (μ k) i v))) = sm_wl G (sm_st μ k i v) := by
  have h := sm_wl_set (G := G) (μ := μ) (f := upd (μ k) i v) hl
  rw [sm_cE0] at h
  exact h
theorem sm_setC {k0 k n a b z : Nat} {fl : List Nat} (hl : sm_lays[k]? = some (0, n, fl)) : (sm_wl G μ).set k (G.1 k, .inl (G.2.2.2.1, n, .inl (va_cpy (μ k0) (μ k) a b z))) = sm_wl G (sm_cpy μ k0 k a b z) := by
  have h := sm_wl_set (G := G) (μ := μ) (f := va_cpy (μ k0) (μ k) a b z) hl
  rw [sm_cE0] at h
  exact h
theorem sm_rows {k n : Nat} {fl : List Nat} (hl : sm_lays[k]? = some (2, n, fl)) : (sm_wl G μ)[k]? = some (G.1 k, .inl (G.2.2.2.2, n, .inr (.inr (.inr (.inr (fun i => (fl[i]?).map G.1)))))) := sm_wl_get hl

theorem sr_getI (C : sm_C p s m args c cc nL own A G) {ix k ci N : Nat} {Cn : String} {T : u_T} {t : Nat → FieldType} {fl : List Nat} (F : sm_F ci Cn T t N) (j : Nat) (hw : Cond.fieldLink own ix (T j).1 (T j).2.1 (T j).2.2.1 ∈ sm_tbl) (hl : sm_lays[k]? = some (1, ci, fl)) (hj : fl[j]? = some 0) (hN : j < N) (hd : decode cc pc = .ok (.getfield ix, 3)) (k2 : sm_W p l e R s m args below meth c A Q G nL kc ks (pc + 3) (sm_I (μ k j) :: stk) lo μ) : sm_W p l e R s m args below meth c A Q G nL kc ks pc (sm_R k :: stk) lo μ := by
  intro H locs ls hP hD hS hL
  exact va_get C.1 C.2.1 C.2.2.2.2.1 F.2.1 C.2.2.2.1 C.2.2.2.2.2.1 hP k (sm_obj hl) F.1 j hN (C.2.2.2.2.1 _ hw) (fun _ h => h) (v := sm_cv G.1 (sm_I (μ k j))) (by rw [List.getElem?_mapIdx, hj]; rfl) hd (k2 H locs ls hP hD hS hL)
theorem sr_getR (C : sm_C p s m args c cc nL own A G) {ix k ci N : Nat} {Cn : String} {T : u_T} {t : Nat → FieldType} {fl : List Nat} (F : sm_F ci Cn T t N) (j : Nat) (hw : Cond.fieldLink own ix (T j).1 (T j).2.1 (T j).2.2.1 ∈ sm_tbl) (hl : sm_lays[k]? = some (1, ci, fl)) {r : Nat} (hj : fl[j]? = some (r + 2)) (hN : j < N) (hd : decode cc pc = .ok (.getfield ix, 3)) (k2 : sm_W p l e R s m args below meth c A Q G nL kc ks (pc + 3) (sm_R r :: stk) lo μ) : sm_W p l e R s m args below meth c A Q G nL kc ks pc (sm_R k :: stk) lo μ := by
  intro H locs ls hP hD hS hL
  exact va_get C.1 C.2.1 C.2.2.2.2.1 F.2.1 C.2.2.2.1 C.2.2.2.2.2.1 hP k (sm_obj hl) F.1 j hN (C.2.2.2.2.1 _ hw) (fun _ h => h) (v := sm_cv G.1 (sm_R r)) (by rw [List.getElem?_mapIdx, hj]; rfl) hd (k2 H locs ls hP hD hS hL)
theorem sr_getS (C : sm_C p s m args c cc nL own A G) {ix k ci N : Nat} {Cn : String} {T : u_T} {t : Nat → FieldType} {fl : List Nat} (F : sm_F ci Cn T t N) (j : Nat) (hw : Cond.fieldLink own ix (T j).1 (T j).2.1 (T j).2.2.1 ∈ sm_tbl) (hl : sm_lays[k]? = some (1, ci, fl)) (hj : fl[j]? = some 1) (hN : j < N) (hd : decode cc pc = .ok (.getfield ix, 3)) (k2 : sm_W p l e R s m args below meth c A Q G nL kc ks (pc + 3) (sm_R (100 + (μ k j).toNatClampNeg) :: stk) lo μ) : sm_W p l e R s m args below meth c A Q G nL kc ks pc (sm_R k :: stk) lo μ := by
  intro H locs ls hP hD hS hL
  exact va_get C.1 C.2.1 C.2.2.2.2.1 F.2.1 C.2.2.2.1 C.2.2.2.2.2.1 hP k (sm_obj hl) F.1 j hN (C.2.2.2.2.1 _ hw) (fun _ h => h) (v := sm_cv G.1 (sm_R (100 + (μ k j).toNatClampNeg))) (by rw [List.getElem?_mapIdx, hj]; rfl) hd (k2 H locs ls hP hD hS hL)
theorem sr_putI (C : sm_C p s m args c cc nL own A G) {ix k ci N : Nat} {Cn : String} {T : u_T} {t : Nat → FieldType} {fl : List Nat} (F : sm_F ci Cn T t N) (j : Nat) (hw : Cond.fieldLink own ix (T j).1 (T j).2.1 (T j).2.2.1 ∈ sm_tbl) (hl : sm_lays[k]? = some (1, ci, fl)) {x : Int32} (hty : parseFieldDescriptor (T j).2.2.1 = some .int) (hj : fl[j]? = some 0) (hN : j < N) (hfin : (T j).2.2.2 = false) (hd : decode cc pc = .ok (.putfield ix, 3)) (k2 : sm_W p l e R s m args below meth c A Q G nL kc ks (pc + 3) stk lo (sm_st μ k j x)) : sm_W p l e R s m args below meth c A Q G nL kc ks pc (sm_I x :: sm_R k :: stk) lo μ := by
  intro H locs ls hP hD hS hL
  have hlen : j < (fl.mapIdx (fun j d => sm_fv G.1 (μ k) j d)).length := by rw [List.length_mapIdx]; exact (List.getElem?_eq_some_iff.mp hj).1
  refine va_put C.1 C.2.1 C.2.2.2.2.1 F.2.1 t F.2.2.1 F.2.2.2 C.2.2.2.1 C.2.2.2.2.2.1 hP hD hS k (sm_obj hl) F.1 j hN (C.2.2.2.2.1 _ hw) (fun _ h => h) hfin (v := .int x) hty rfl rfl hlen hd (fun H1 locs1 hP1 hD1 hS1 => ?_)
  rw [sm_setI hl hj] at hP1 hD1
  exact k2 H1 locs1 ls hP1 hD1 hS1 hL
theorem sr_putZ (C : sm_C p s m args c cc nL own A G) {ix k ci N : Nat} {Cn : String} {T : u_T} {t : Nat → FieldType} {fl : List Nat} (F : sm_F ci Cn T t N) (j : Nat) (hw : Cond.fieldLink own ix (T j).1 (T j).2.1 (T j).2.2.1 ∈ sm_tbl) (hl : sm_lays[k]? = some (1, ci, fl)) {x : Int32} (hx : x = 0 ∨ x = 1) (hty : parseFieldDescriptor (T j).2.2.1 = some .boolean) (hj : fl[j]? = some 0) (hN : j < N) (hfin : (T j).2.2.2 = false) (hd : decode cc pc = .ok (.putfield ix, 3)) (k2 : sm_W p l e R s m args below meth c A Q G nL kc ks (pc + 3) stk lo (sm_st μ k j x)) : sm_W p l e R s m args below meth c A Q G nL kc ks pc (sm_I x :: sm_R k :: stk) lo μ := by
  intro H locs ls hP hD hS hL
  have hlen : j < (fl.mapIdx (fun j d => sm_fv G.1 (μ k) j d)).length := by rw [List.length_mapIdx]; exact (List.getElem?_eq_some_iff.mp hj).1
  refine va_put C.1 C.2.1 C.2.2.2.2.1 F.2.1 t F.2.2.1 F.2.2.2 C.2.2.2.1 C.2.2.2.2.2.1 hP hD hS k (sm_obj hl) F.1 j hN (C.2.2.2.2.1 _ hw) (fun _ h => h) hfin (v := .int x) hty (by rcases hx with rfl | rfl <;> rfl) (by rcases hx with rfl | rfl <;> rfl) hlen hd (fun H1 locs1 hP1 hD1 hS1 => ?_)
  rw [sm_setI hl hj] at hP1 hD1
  exact k2 H1 locs1 ls hP1 hD1 hS1 hL
theorem sr_putS (C : sm_C p s m args c cc nL own A G) {ix k ci N : Nat} {Cn : String} {T : u_T} {t : Nat → FieldType} {fl : List Nat} (F : sm_F ci Cn T t N) (j : Nat) (hw : Cond.fieldLink own ix (T j).1 (T j).2.1 (T j).2.2.1 ∈ sm_tbl) (hl : sm_lays[k]? = some (1, ci, fl)) {x : Int32} (hty : parseFieldDescriptor (T j).2.2.1 = some (.object "java/lang/String")) (hj : fl[j]? = some 1) (hN : j < N) (hfin : (T j).2.2.2 = false) (hd : decode cc pc = .ok (.putfield ix, 3)) (k2 : sm_W p l e R s m args below meth c A Q G nL kc ks (pc + 3) stk lo (sm_st μ k j x)) : sm_W p l e R s m args below meth c A Q G nL kc ks pc (sm_R (100 + x.toNatClampNeg) :: sm_R k :: stk) lo μ := by
  intro H locs ls hP hD hS hL
  have hlen : j < (fl.mapIdx (fun j d => sm_fv G.1 (μ k) j d)).length := by rw [List.length_mapIdx]; exact (List.getElem?_eq_some_iff.mp hj).1
  refine va_put C.1 C.2.1 C.2.2.2.2.1 F.2.1 t F.2.2.1 F.2.2.2 C.2.2.2.1 C.2.2.2.2.2.1 hP hD hS k (sm_obj hl) F.1 j hN (C.2.2.2.2.1 _ hw) (fun _ h => h) hfin (v := .ref (G.1 (100 + x.toNatClampNeg))) hty rfl rfl hlen hd (fun H1 locs1 hP1 hD1 hS1 => ?_)
  rw [sm_setS hl hj] at hP1 hD1
  exact k2 H1 locs1 ls hP1 hD1 hS1 hL
theorem sr_iald (C : sm_C p s m args c cc nL own A G) {k n : Nat} {fl : List Nat} (hl : sm_lays[k]? = some (0, n, fl)) {i : Int32} (hi : vp_in i n) (hd : decode cc pc = .ok (.iaload, 1)) (k2 : sm_W p l e R s m args below meth c A Q G nL kc ks (pc + 1) (sm_I (μ k i.toNatClampNeg) :: stk) lo μ) : sm_W p l e R s m args below meth c A Q G nL kc ks pc (sm_I i :: sm_R k :: stk) lo μ := by
  intro H locs ls hP hD hS hL
  exact va_iald C.1 C.2.1 C.2.2.2.2.2.1 hP k 0 (sm_arr hl) rfl hi hd (k2 H locs ls hP hD hS hL)
theorem sr_iast (C : sm_C p s m args c cc nL own A G) {k n : Nat} {fl : List Nat} (hl : sm_lays[k]? = some (0, n, fl)) {i x : Int32} (hi : vp_in i n) (hd : decode cc pc = .ok (.iastore, 1)) (k2 : sm_W p l e R s m args below meth c A Q G nL kc ks (pc + 1) stk lo (sm_st μ k i.toNatClampNeg x)) : sm_W p l e R s m args below meth c A Q G nL kc ks pc (sm_I x :: sm_I i :: sm_R k :: stk) lo μ := by
  intro H locs ls hP hD hS hL
  refine va_iast C.1 C.2.1 C.2.2.2.2.2.1 hP hD hS k 0 (sm_arr hl) rfl hi hd (fun H1 locs1 hP1 hD1 hS1 => ?_)
  rw [sm_setA hl] at hP1 hD1
  exact k2 H1 locs1 ls hP1 hD1 hS1 hL
theorem sr_alen (C : sm_C p s m args c cc nL own A G) {k n : Nat} {fl : List Nat} (hl : sm_lays[k]? = some (0, n, fl)) {v : Int32} (hv : Int32.ofNat n = v) (hd : decode cc pc = .ok (.arraylength, 1)) (k2 : sm_W p l e R s m args below meth c A Q G nL kc ks (pc + 1) (sm_I v :: stk) lo μ) : sm_W p l e R s m args below meth c A Q G nL kc ks pc (sm_R k :: stk) lo μ := by
  intro H locs ls hP hD hS hL
  exact va_alen C.1 C.2.1 C.2.2.2.2.2.1 hP k 0 (sm_arr hl) rfl hv hd (k2 H locs ls hP hD hS hL)
theorem sr_alenR (C : sm_C p s m args c cc nL own A G) {k n : Nat} {fl : List Nat} (hl : sm_lays[k]? = some (2, n, fl)) {v : Int32} (hv : Int32.ofNat n = v) (hd : decode cc pc = .ok (.arraylength, 1)) (k2 : sm_W p l e R s m args below meth c A Q G nL kc ks (pc + 1) (sm_I v :: stk) lo μ) : sm_W p l e R s m args below meth c A Q G nL kc ks pc (sm_R k :: stk) lo μ := by
  intro H locs ls hP hD hS hL
  exact va_alen C.1 C.2.1 C.2.2.2.2.2.1 hP k 1 (sm_rows hl) rfl hv hd (k2 H locs ls hP hD hS hL)
theorem sr_aald (C : sm_C p s m args c cc nL own A G) {k n r : Nat} {fl : List Nat} (hl : sm_lays[k]? = some (2, n, fl)) {i : Int32} (hi : vp_in i n) (hr : fl[i.toNatClampNeg]? = some r) (hd : decode cc pc = .ok (.aaload, 1)) (k2 : sm_W p l e R s m args below meth c A Q G nL kc ks (pc + 1) (sm_R r :: stk) lo μ) : sm_W p l e R s m args below meth c A Q G nL kc ks pc (sm_I i :: sm_R k :: stk) lo μ := by
  intro H locs ls hP hD hS hL
  have h9 := k2 H locs ls hP hD hS hL
  refine va_aldq C.1 C.2.1 C.2.2.2.2.2.1 hP k 1 (sm_rows hl) rfl hi hd ?_
  rw [hr]
  exact h9
theorem sr_tlenA (C : sm_C p s m args c cc nL own A G) {v : Int32} (hv : Int32.ofNat 7 = v) (hd : decode cc pc = .ok (.arraylength, 1)) (k2 : sm_W p l e R s m args below meth c A Q G nL kc ks (pc + 1) (sm_I v :: stk) lo μ) : sm_W p l e R s m args below meth c A Q G nL kc ks pc (sm_R 110 :: stk) lo μ := by
  intro H locs ls hP hD hS hL
  exact va_tlen C.1 C.2.1 C.2.2.2.2.2.2.2.1.2.1 hS hv hd (k2 H locs ls hP hD hS hL)
theorem sr_tlenB (C : sm_C p s m args c cc nL own A G) {v : Int32} (hv : Int32.ofNat 28 = v) (hd : decode cc pc = .ok (.arraylength, 1)) (k2 : sm_W p l e R s m args below meth c A Q G nL kc ks (pc + 1) (sm_I v :: stk) lo μ) : sm_W p l e R s m args below meth c A Q G nL kc ks pc (sm_R 111 :: stk) lo μ := by
  intro H locs ls hP hD hS hL
  exact va_tlen C.1 C.2.1 C.2.2.2.2.2.2.2.1.2.2.2.1 hS hv hd (k2 H locs ls hP hD hS hL)
theorem sr_getsA (C : sm_C p s m args c cc nL own A G) {ix : Nat} (hw : Cond.fieldLink own ix "SnowMoney$Kinds" "ABOVE" "[I" ∈ sm_tbl) (hd : decode cc pc = .ok (.getstatic ix, 3)) (k2 : sm_W p l e R s m args below meth c A Q G nL kc ks (pc + 3) (sm_R 110 :: stk) lo μ) : sm_W p l e R s m args below meth c A Q G nL kc ks pc stk lo μ := by
  intro H locs ls hP hD hS hL
  exact va_gets C.1 C.2.1 C.2.2.2.2.2.2.2.1.1 hS C.2.2.2.1 (C.2.2.2.2.1 _ hw) (fun _ h => h) hd (k2 H locs ls hP hD hS hL)
theorem sr_getsB (C : sm_C p s m args c cc nL own A G) {ix : Nat} (hw : Cond.fieldLink own ix "SnowMoney$Voices" "BODIES" "[I" ∈ sm_tbl) (hd : decode cc pc = .ok (.getstatic ix, 3)) (k2 : sm_W p l e R s m args below meth c A Q G nL kc ks (pc + 3) (sm_R 111 :: stk) lo μ) : sm_W p l e R s m args below meth c A Q G nL kc ks pc stk lo μ := by
  intro H locs ls hP hD hS hL
  exact va_gets C.1 C.2.1 C.2.2.2.2.2.2.2.1.2.2.1 hS C.2.2.2.1 (C.2.2.2.2.1 _ hw) (fun _ h => h) hd (k2 H locs ls hP hD hS hL)
end SMR

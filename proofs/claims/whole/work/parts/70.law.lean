/-! ===== the law, in the words of the cells ===== -/
section LAW
variable {p : Program} {l : Launch} {e : Env} {s : State} {m : MethodId} {below : List Frame} {meth : Method} {c : Code} {A : Nat → Prop} {Q : State → Prop} {G : sm_G} {kc ks b L i cnt : Nat} {xs : Nat → Int32} {μ : sm_Mem}
theorem sr_sld {R : Room} {pc nL : Nat} {cc : ByteArray} {own : String} {args : Array Value} {stk : List sm_V} {lo : List (Nat × sm_V)} (C : sm_C p s m args c cc nL own A G) (hX : va_X b L xs s s.heap ∧ b < s.heap.size ∧ ¬ A b ∧ G.1 130 = b) {j : Int32} (hj : vp_in j L) (hd : decode cc pc = .ok (.iaload, 1)) (k : sm_W p l e R s m args below meth c A Q G nL kc ks (pc + 1) (sm_I (xs j.toNatClampNeg) :: stk) lo μ) : sm_W p l e R s m args below meth c A Q G nL kc ks pc (sm_I j :: sm_R 130 :: stk) lo μ := by
  intro H locs ls hP hD hS hL
  have e1 : (sm_I j :: sm_R 130 :: stk).map (sm_cv G.1) = .int j :: .ref b :: stk.map (sm_cv G.1) := by
    show .int j :: .ref (G.1 130) :: stk.map (sm_cv G.1) = _
    rw [hX.2.2.2]
  rw [e1]
  exact va_sld C.1 C.2.1 hX.1 hX.2.1 hX.2.2.1 hS hj hd (k H locs ls hP hD hS hL)
theorem sr_slen {R : Room} {pc nL : Nat} {cc : ByteArray} {own : String} {args : Array Value} {stk : List sm_V} {lo : List (Nat × sm_V)} (C : sm_C p s m args c cc nL own A G) (hX : va_X b L xs s s.heap ∧ b < s.heap.size ∧ ¬ A b ∧ G.1 130 = b) (hd : decode cc pc = .ok (.arraylength, 1)) (k : sm_W p l e R s m args below meth c A Q G nL kc ks (pc + 1) (sm_I (nI L) :: stk) lo μ) : sm_W p l e R s m args below meth c A Q G nL kc ks pc (sm_R 130 :: stk) lo μ := by
  intro H locs ls hP hD hS hL
  have e1 : (sm_R 130 :: stk).map (sm_cv G.1) = .ref b :: stk.map (sm_cv G.1) := by
    show .ref (G.1 130) :: stk.map (sm_cv G.1) = _
    rw [hX.2.2.2]
  rw [e1]
  exact va_slen C.1 C.2.1 hX.1 hX.2.1 hX.2.2.1 hS hd (k H locs ls hP hD hS hL)
end LAW
theorem sm_si {i L j : Nat} (hi : i + 6 ≤ L) (hL : L ≤ 3072) (hj : j < 6) : vp_in (nI i + nI j) L := by
  rw [nI_add]
  exact (vin_iff (by omega)).mpr (by omega)
def lwLo (i : Nat) : List (Nat × sm_V) := [(0, sm_R 130), (1, sm_R 0), (2, sm_R 61), (3, sm_I (nI i))]
set_option maxHeartbeats 4000000 in
set_option maxRecDepth 100000 in
theorem lc_place {p : Program} {l : Launch} {e : Env} {s : State} {m : MethodId} {args : Array Value} {below : List Frame} {meth : Method} {c : Code} {A : Nat → Prop} {Q : State → Prop} {G : sm_G} {kc ks b L i cnt : Nat} {xs : Nat → Int32} {μ : sm_Mem} (C : sm_C p s m args c code 4 "SnowMoneyLaw" A G) (hX : va_X b L xs s s.heap ∧ b < s.heap.size ∧ ¬ A b ∧ G.1 130 = b) (hL : L ≤ 3072) (hi : i + 6 ≤ L) (hcn : cnt ≤ i) (hf : kc ≤ room_1.cells ∧ ks ≤ room_1.slots) (hR : RR cnt μ) (kk : ∀ μ2, RR (cnt + 1) μ2 → sm_W p l e room_1 s m args below meth c A Q G 4 kc ks 1565 [] (lwLo i) μ2) : sm_W p l e room_1 s m args below meth c A Q G 4 kc ks 212 [] (lwLo i) μ := by
  refine sr_aload_n C 1 rfl rfl dL_212 ?_
  refine sr_aload_n C 0 rfl rfl dL_213 ?_
  refine sr_iload_n C 3 rfl rfl dL_214 ?_
  refine sr_iconst C (v := nI 1) dL_215 (by decide) ?_
  refine sr_iadd C dL_216 ?_
  refine sr_sld C hX (sm_si hi hL (j := 1) (by omega)) dL_217 ?_
  refine sr_callVI C [sm_I _] (P_X_place l (T_place cnt _ μ hR)) lok_0 sm_l0 rfl rfl rfl rfl ⟨Nat.le_of_ble_eq_true rfl, Nat.le_of_ble_eq_true rfl⟩ (Nat.le_of_ble_eq_true rfl) hf dL_218 (fun r1 μ1 h => ?_)
  refine sr_aload_n C 2 rfl rfl dL_221 ?_
  refine sr_aload_n C 0 rfl rfl dL_222 ?_
  refine sr_iload_n C 3 rfl rfl dL_223 ?_
  refine sr_iconst C (v := nI 1) dL_224 (by decide) ?_
  refine sr_iadd C dL_225 ?_
  refine sr_sld C hX (sm_si hi hL (j := 1) (by omega)) dL_226 ?_
  refine sr_callVI C [sm_I _] (P_M_place l h) lok_1 sm_l61 rfl rfl rfl rfl ⟨Nat.le_of_ble_eq_true rfl, Nat.le_of_ble_eq_true rfl⟩ (Nat.le_of_ble_eq_true rfl) hf dL_227 (fun r2 μ2 h2 => ?_)
  refine sr_icmp_eq C (tgt := 1565) dL_230 (by decide) (fun _ => kk μ2 h2.2) (fun hne => absurd h2.1 hne)
set_option maxHeartbeats 4000000 in
set_option maxRecDepth 100000 in
theorem lc_warm {p : Program} {l : Launch} {e : Env} {s : State} {m : MethodId} {args : Array Value} {below : List Frame} {meth : Method} {c : Code} {A : Nat → Prop} {Q : State → Prop} {G : sm_G} {kc ks b L i cnt : Nat} {xs : Nat → Int32} {μ : sm_Mem} (C : sm_C p s m args c code 4 "SnowMoneyLaw" A G) (hX : va_X b L xs s s.heap ∧ b < s.heap.size ∧ ¬ A b ∧ G.1 130 = b) (hL : L ≤ 3072) (hi : i + 6 ≤ L) (hcn : cnt ≤ i) (hf : kc ≤ room_1.cells ∧ ks ≤ room_1.slots) (hR : RR cnt μ) (kk : ∀ μ2, RR (cnt + 1) μ2 → sm_W p l e room_1 s m args below meth c A Q G 4 kc ks 1565 [] (lwLo i) μ2) : sm_W p l e room_1 s m args below meth c A Q G 4 kc ks 235 [] (lwLo i) μ := by
  refine sr_aload_n C 1 rfl rfl dL_235 ?_
  refine sr_aload_n C 0 rfl rfl dL_236 ?_
  refine sr_iload_n C 3 rfl rfl dL_237 ?_
  refine sr_iconst C (v := nI 1) dL_238 (by decide) ?_
  refine sr_iadd C dL_239 ?_
  refine sr_sld C hX (sm_si hi hL (j := 1) (by omega)) dL_240 ?_
  refine sr_aload_n C 0 rfl rfl dL_241 ?_
  refine sr_iload_n C 3 rfl rfl dL_242 ?_
  refine sr_iconst C (v := nI 2) dL_243 (by decide) ?_
  refine sr_iadd C dL_244 ?_
  refine sr_sld C hX (sm_si hi hL (j := 2) (by omega)) dL_245 ?_
  refine sr_callVI C [sm_I _, sm_I _] (P_X_warm l (T_warm cnt _ _ μ hR)) lok_2 sm_l0 rfl rfl rfl rfl ⟨Nat.le_of_ble_eq_true rfl, Nat.le_of_ble_eq_true rfl⟩ (Nat.le_of_ble_eq_true rfl) hf dL_246 (fun r1 μ1 h => ?_)
  refine sr_aload_n C 2 rfl rfl dL_249 ?_
  refine sr_aload_n C 0 rfl rfl dL_250 ?_
  refine sr_iload_n C 3 rfl rfl dL_251 ?_
  refine sr_iconst C (v := nI 1) dL_252 (by decide) ?_
  refine sr_iadd C dL_253 ?_
  refine sr_sld C hX (sm_si hi hL (j := 1) (by omega)) dL_254 ?_
  refine sr_aload_n C 0 rfl rfl dL_255 ?_
  refine sr_iload_n C 3 rfl rfl dL_256 ?_
  refine sr_iconst C (v := nI 2) dL_257 (by decide) ?_
  refine sr_iadd C dL_258 ?_
  refine sr_sld C hX (sm_si hi hL (j := 2) (by omega)) dL_259 ?_
  refine sr_callVI C [sm_I _, sm_I _] (P_M_warm l h) lok_3 sm_l61 rfl rfl rfl rfl ⟨Nat.le_of_ble_eq_true rfl, Nat.le_of_ble_eq_true rfl⟩ (Nat.le_of_ble_eq_true rfl) hf dL_260 (fun r2 μ2 h2 => ?_)
  refine sr_icmp_eq C (tgt := 1565) dL_263 (by decide) (fun _ => kk μ2 h2.2) (fun hne => absurd h2.1 hne)
set_option maxHeartbeats 4000000 in
set_option maxRecDepth 100000 in
theorem lc_ofPlace {p : Program} {l : Launch} {e : Env} {s : State} {m : MethodId} {args : Array Value} {below : List Frame} {meth : Method} {c : Code} {A : Nat → Prop} {Q : State → Prop} {G : sm_G} {kc ks b L i cnt : Nat} {xs : Nat → Int32} {μ : sm_Mem} (C : sm_C p s m args c code 4 "SnowMoneyLaw" A G) (hX : va_X b L xs s s.heap ∧ b < s.heap.size ∧ ¬ A b ∧ G.1 130 = b) (hL : L ≤ 3072) (hi : i + 6 ≤ L) (hcn : cnt ≤ i) (hf : kc ≤ room_1.cells ∧ ks ≤ room_1.slots) (hR : RR cnt μ) (kk : ∀ μ2, RR (cnt + 1) μ2 → sm_W p l e room_1 s m args below meth c A Q G 4 kc ks 1565 [] (lwLo i) μ2) : sm_W p l e room_1 s m args below meth c A Q G 4 kc ks 268 [] (lwLo i) μ := by
  refine sr_aload_n C 1 rfl rfl dL_268 ?_
  refine sr_aload_n C 0 rfl rfl dL_269 ?_
  refine sr_iload_n C 3 rfl rfl dL_270 ?_
  refine sr_iconst C (v := nI 1) dL_271 (by decide) ?_
  refine sr_iadd C dL_272 ?_
  refine sr_sld C hX (sm_si hi hL (j := 1) (by omega)) dL_273 ?_
  refine sr_aload_n C 0 rfl rfl dL_274 ?_
  refine sr_iload_n C 3 rfl rfl dL_275 ?_
  refine sr_iconst C (v := nI 2) dL_276 (by decide) ?_
  refine sr_iadd C dL_277 ?_
  refine sr_sld C hX (sm_si hi hL (j := 2) (by omega)) dL_278 ?_
  refine sr_callVI C [sm_I _, sm_I _] (P_X_ofPlace l (T_ofPlace cnt _ _ μ hR)) lok_4 sm_l0 rfl rfl rfl rfl ⟨Nat.le_of_ble_eq_true rfl, Nat.le_of_ble_eq_true rfl⟩ (Nat.le_of_ble_eq_true rfl) hf dL_279 (fun r1 μ1 h => ?_)
  refine sr_aload_n C 2 rfl rfl dL_282 ?_
  refine sr_aload_n C 0 rfl rfl dL_283 ?_
  refine sr_iload_n C 3 rfl rfl dL_284 ?_
  refine sr_iconst C (v := nI 1) dL_285 (by decide) ?_
  refine sr_iadd C dL_286 ?_
  refine sr_sld C hX (sm_si hi hL (j := 1) (by omega)) dL_287 ?_
  refine sr_aload_n C 0 rfl rfl dL_288 ?_
  refine sr_iload_n C 3 rfl rfl dL_289 ?_
  refine sr_iconst C (v := nI 2) dL_290 (by decide) ?_
  refine sr_iadd C dL_291 ?_
  refine sr_sld C hX (sm_si hi hL (j := 2) (by omega)) dL_292 ?_
  refine sr_callVI C [sm_I _, sm_I _] (P_M_ofPlace l h) lok_5 sm_l61 rfl rfl rfl rfl ⟨Nat.le_of_ble_eq_true rfl, Nat.le_of_ble_eq_true rfl⟩ (Nat.le_of_ble_eq_true rfl) hf dL_293 (fun r2 μ2 h2 => ?_)
  refine sr_icmp_eq C (tgt := 1565) dL_296 (by decide) (fun _ => kk μ2 h2.2) (fun hne => absurd h2.1 hne)
set_option maxHeartbeats 4000000 in
set_option maxRecDepth 100000 in
theorem lc_road {p : Program} {l : Launch} {e : Env} {s : State} {m : MethodId} {args : Array Value} {below : List Frame} {meth : Method} {c : Code} {A : Nat → Prop} {Q : State → Prop} {G : sm_G} {kc ks b L i cnt : Nat} {xs : Nat → Int32} {μ : sm_Mem} (C : sm_C p s m args c code 4 "SnowMoneyLaw" A G) (hX : va_X b L xs s s.heap ∧ b < s.heap.size ∧ ¬ A b ∧ G.1 130 = b) (hL : L ≤ 3072) (hi : i + 6 ≤ L) (hcn : cnt ≤ i) (hf : kc ≤ room_1.cells ∧ ks ≤ room_1.slots) (hR : RR cnt μ) (kk : ∀ μ2, RR (cnt + 1) μ2 → sm_W p l e room_1 s m args below meth c A Q G 4 kc ks 1565 [] (lwLo i) μ2) : sm_W p l e room_1 s m args below meth c A Q G 4 kc ks 301 [] (lwLo i) μ := by
  refine sr_aload_n C 1 rfl rfl dL_301 ?_
  refine sr_aload_n C 0 rfl rfl dL_302 ?_
  refine sr_iload_n C 3 rfl rfl dL_303 ?_
  refine sr_iconst C (v := nI 1) dL_304 (by decide) ?_
  refine sr_iadd C dL_305 ?_
  refine sr_sld C hX (sm_si hi hL (j := 1) (by omega)) dL_306 ?_
  refine sr_aload_n C 0 rfl rfl dL_307 ?_
  refine sr_iload_n C 3 rfl rfl dL_308 ?_
  refine sr_iconst C (v := nI 2) dL_309 (by decide) ?_
  refine sr_iadd C dL_310 ?_
  refine sr_sld C hX (sm_si hi hL (j := 2) (by omega)) dL_311 ?_
  refine sr_aload_n C 0 rfl rfl dL_312 ?_
  refine sr_iload_n C 3 rfl rfl dL_313 ?_
  refine sr_iconst C (v := nI 3) dL_314 (by decide) ?_
  refine sr_iadd C dL_315 ?_
  refine sr_sld C hX (sm_si hi hL (j := 3) (by omega)) dL_316 ?_
  refine sr_callVI C [sm_I _, sm_I _, sm_I _] (P_X_road l (T_road cnt _ _ _ μ hR)) lok_6 sm_l0 rfl rfl rfl rfl ⟨Nat.le_of_ble_eq_true rfl, Nat.le_of_ble_eq_true rfl⟩ (Nat.le_of_ble_eq_true rfl) hf dL_317 (fun r1 μ1 h => ?_)
  refine sr_aload_n C 2 rfl rfl dL_320 ?_
  refine sr_aload_n C 0 rfl rfl dL_321 ?_
  refine sr_iload_n C 3 rfl rfl dL_322 ?_
  refine sr_iconst C (v := nI 1) dL_323 (by decide) ?_
  refine sr_iadd C dL_324 ?_
  refine sr_sld C hX (sm_si hi hL (j := 1) (by omega)) dL_325 ?_
  refine sr_aload_n C 0 rfl rfl dL_326 ?_
  refine sr_iload_n C 3 rfl rfl dL_327 ?_
  refine sr_iconst C (v := nI 2) dL_328 (by decide) ?_
  refine sr_iadd C dL_329 ?_
  refine sr_sld C hX (sm_si hi hL (j := 2) (by omega)) dL_330 ?_
  refine sr_aload_n C 0 rfl rfl dL_331 ?_
  refine sr_iload_n C 3 rfl rfl dL_332 ?_
  refine sr_iconst C (v := nI 3) dL_333 (by decide) ?_
  refine sr_iadd C dL_334 ?_
  refine sr_sld C hX (sm_si hi hL (j := 3) (by omega)) dL_335 ?_
  refine sr_callVI C [sm_I _, sm_I _, sm_I _] (P_M_road l h) lok_7 sm_l61 rfl rfl rfl rfl ⟨Nat.le_of_ble_eq_true rfl, Nat.le_of_ble_eq_true rfl⟩ (Nat.le_of_ble_eq_true rfl) hf dL_336 (fun r2 μ2 h2 => ?_)
  refine sr_icmp_eq C (tgt := 1565) dL_339 (by decide) (fun _ => kk μ2 h2.2) (fun hne => absurd h2.1 hne)
set_option maxHeartbeats 4000000 in
set_option maxRecDepth 100000 in
theorem lc_note {p : Program} {l : Launch} {e : Env} {s : State} {m : MethodId} {args : Array Value} {below : List Frame} {meth : Method} {c : Code} {A : Nat → Prop} {Q : State → Prop} {G : sm_G} {kc ks b L i cnt : Nat} {xs : Nat → Int32} {μ : sm_Mem} (C : sm_C p s m args c code 4 "SnowMoneyLaw" A G) (hX : va_X b L xs s s.heap ∧ b < s.heap.size ∧ ¬ A b ∧ G.1 130 = b) (hL : L ≤ 3072) (hi : i + 6 ≤ L) (hcn : cnt ≤ i) (hf : kc ≤ room_1.cells ∧ ks ≤ room_1.slots) (hR : RR cnt μ) (kk : ∀ μ2, RR (cnt + 1) μ2 → sm_W p l e room_1 s m args below meth c A Q G 4 kc ks 1565 [] (lwLo i) μ2) : sm_W p l e room_1 s m args below meth c A Q G 4 kc ks 344 [] (lwLo i) μ := by
  refine sr_aload_n C 1 rfl rfl dL_344 ?_
  refine sr_aload_n C 0 rfl rfl dL_345 ?_
  refine sr_iload_n C 3 rfl rfl dL_346 ?_
  refine sr_iconst C (v := nI 1) dL_347 (by decide) ?_
  refine sr_iadd C dL_348 ?_
  refine sr_sld C hX (sm_si hi hL (j := 1) (by omega)) dL_349 ?_
  refine sr_aload_n C 0 rfl rfl dL_350 ?_
  refine sr_iload_n C 3 rfl rfl dL_351 ?_
  refine sr_iconst C (v := nI 2) dL_352 (by decide) ?_
  refine sr_iadd C dL_353 ?_
  refine sr_sld C hX (sm_si hi hL (j := 2) (by omega)) dL_354 ?_
  refine sr_aload_n C 0 rfl rfl dL_355 ?_
  refine sr_iload_n C 3 rfl rfl dL_356 ?_
  refine sr_iconst C (v := nI 3) dL_357 (by decide) ?_
  refine sr_iadd C dL_358 ?_
  refine sr_sld C hX (sm_si hi hL (j := 3) (by omega)) dL_359 ?_
  refine sr_aload_n C 0 rfl rfl dL_360 ?_
  refine sr_iload_n C 3 rfl rfl dL_361 ?_
  refine sr_iconst C (v := nI 4) dL_362 (by decide) ?_
  refine sr_iadd C dL_363 ?_
  refine sr_sld C hX (sm_si hi hL (j := 4) (by omega)) dL_364 ?_
  refine sr_callVI C [sm_I _, sm_I _, sm_I _, sm_I _] (P_X_note l (T_note cnt _ _ _ _ μ hR)) lok_8 sm_l0 rfl rfl rfl rfl ⟨Nat.le_of_ble_eq_true rfl, Nat.le_of_ble_eq_true rfl⟩ (Nat.le_of_ble_eq_true rfl) hf dL_365 (fun r1 μ1 h => ?_)
  refine sr_aload_n C 2 rfl rfl dL_368 ?_
  refine sr_aload_n C 0 rfl rfl dL_369 ?_
  refine sr_iload_n C 3 rfl rfl dL_370 ?_
  refine sr_iconst C (v := nI 1) dL_371 (by decide) ?_
  refine sr_iadd C dL_372 ?_
  refine sr_sld C hX (sm_si hi hL (j := 1) (by omega)) dL_373 ?_
  refine sr_aload_n C 0 rfl rfl dL_374 ?_
  refine sr_iload_n C 3 rfl rfl dL_375 ?_
  refine sr_iconst C (v := nI 2) dL_376 (by decide) ?_
  refine sr_iadd C dL_377 ?_
  refine sr_sld C hX (sm_si hi hL (j := 2) (by omega)) dL_378 ?_
  refine sr_aload_n C 0 rfl rfl dL_379 ?_
  refine sr_iload_n C 3 rfl rfl dL_380 ?_
  refine sr_iconst C (v := nI 3) dL_381 (by decide) ?_
  refine sr_iadd C dL_382 ?_
  refine sr_sld C hX (sm_si hi hL (j := 3) (by omega)) dL_383 ?_
  refine sr_aload_n C 0 rfl rfl dL_384 ?_
  refine sr_iload_n C 3 rfl rfl dL_385 ?_
  refine sr_iconst C (v := nI 4) dL_386 (by decide) ?_
  refine sr_iadd C dL_387 ?_
  refine sr_sld C hX (sm_si hi hL (j := 4) (by omega)) dL_388 ?_
  refine sr_callVI C [sm_I _, sm_I _, sm_I _, sm_I _] (P_M_note l h) lok_9 sm_l61 rfl rfl rfl rfl ⟨Nat.le_of_ble_eq_true rfl, Nat.le_of_ble_eq_true rfl⟩ (Nat.le_of_ble_eq_true rfl) hf dL_389 (fun r2 μ2 h2 => ?_)
  refine sr_icmp_eq C (tgt := 1565) dL_392 (by decide) (fun _ => kk μ2 h2.2) (fun hne => absurd h2.1 hne)
set_option maxHeartbeats 4000000 in
set_option maxRecDepth 100000 in
theorem lc_ofNote {p : Program} {l : Launch} {e : Env} {s : State} {m : MethodId} {args : Array Value} {below : List Frame} {meth : Method} {c : Code} {A : Nat → Prop} {Q : State → Prop} {G : sm_G} {kc ks b L i cnt : Nat} {xs : Nat → Int32} {μ : sm_Mem} (C : sm_C p s m args c code 4 "SnowMoneyLaw" A G) (hX : va_X b L xs s s.heap ∧ b < s.heap.size ∧ ¬ A b ∧ G.1 130 = b) (hL : L ≤ 3072) (hi : i + 6 ≤ L) (hcn : cnt ≤ i) (hf : kc ≤ room_1.cells ∧ ks ≤ room_1.slots) (hR : RR cnt μ) (kk : ∀ μ2, RR (cnt + 1) μ2 → sm_W p l e room_1 s m args below meth c A Q G 4 kc ks 1565 [] (lwLo i) μ2) : sm_W p l e room_1 s m args below meth c A Q G 4 kc ks 397 [] (lwLo i) μ := by
  refine sr_aload_n C 1 rfl rfl dL_397 ?_
  refine sr_aload_n C 0 rfl rfl dL_398 ?_
  refine sr_iload_n C 3 rfl rfl dL_399 ?_
  refine sr_iconst C (v := nI 1) dL_400 (by decide) ?_
  refine sr_iadd C dL_401 ?_
  refine sr_sld C hX (sm_si hi hL (j := 1) (by omega)) dL_402 ?_
  refine sr_aload_n C 0 rfl rfl dL_403 ?_
  refine sr_iload_n C 3 rfl rfl dL_404 ?_
  refine sr_iconst C (v := nI 2) dL_405 (by decide) ?_
  refine sr_iadd C dL_406 ?_
  refine sr_sld C hX (sm_si hi hL (j := 2) (by omega)) dL_407 ?_
  refine sr_callVI C [sm_I _, sm_I _] (P_X_ofNote l (T_ofNote cnt _ _ μ hR)) lok_10 sm_l0 rfl rfl rfl rfl ⟨Nat.le_of_ble_eq_true rfl, Nat.le_of_ble_eq_true rfl⟩ (Nat.le_of_ble_eq_true rfl) hf dL_408 (fun r1 μ1 h => ?_)
  refine sr_aload_n C 2 rfl rfl dL_411 ?_
  refine sr_aload_n C 0 rfl rfl dL_412 ?_
  refine sr_iload_n C 3 rfl rfl dL_413 ?_
  refine sr_iconst C (v := nI 1) dL_414 (by decide) ?_
  refine sr_iadd C dL_415 ?_
  refine sr_sld C hX (sm_si hi hL (j := 1) (by omega)) dL_416 ?_
  refine sr_aload_n C 0 rfl rfl dL_417 ?_
  refine sr_iload_n C 3 rfl rfl dL_418 ?_
  refine sr_iconst C (v := nI 2) dL_419 (by decide) ?_
  refine sr_iadd C dL_420 ?_
  refine sr_sld C hX (sm_si hi hL (j := 2) (by omega)) dL_421 ?_
  refine sr_callVI C [sm_I _, sm_I _] (P_M_ofNote l h) lok_11 sm_l61 rfl rfl rfl rfl ⟨Nat.le_of_ble_eq_true rfl, Nat.le_of_ble_eq_true rfl⟩ (Nat.le_of_ble_eq_true rfl) hf dL_422 (fun r2 μ2 h2 => ?_)
  refine sr_icmp_eq C (tgt := 1565) dL_425 (by decide) (fun _ => kk μ2 h2.2) (fun hne => absurd h2.1 hne)
set_option maxHeartbeats 4000000 in
set_option maxRecDepth 100000 in
theorem lc_change {p : Program} {l : Launch} {e : Env} {s : State} {m : MethodId} {args : Array Value} {below : List Frame} {meth : Method} {c : Code} {A : Nat → Prop} {Q : State → Prop} {G : sm_G} {kc ks b L i cnt : Nat} {xs : Nat → Int32} {μ : sm_Mem} (C : sm_C p s m args c code 4 "SnowMoneyLaw" A G) (hX : va_X b L xs s s.heap ∧ b < s.heap.size ∧ ¬ A b ∧ G.1 130 = b) (hL : L ≤ 3072) (hi : i + 6 ≤ L) (hcn : cnt ≤ i) (hf : kc ≤ room_1.cells ∧ ks ≤ room_1.slots) (hR : RR cnt μ) (kk : ∀ μ2, RR (cnt + 1) μ2 → sm_W p l e room_1 s m args below meth c A Q G 4 kc ks 1565 [] (lwLo i) μ2) : sm_W p l e room_1 s m args below meth c A Q G 4 kc ks 430 [] (lwLo i) μ := by
  refine sr_aload_n C 1 rfl rfl dL_430 ?_
  refine sr_aload_n C 0 rfl rfl dL_431 ?_
  refine sr_iload_n C 3 rfl rfl dL_432 ?_
  refine sr_iconst C (v := nI 1) dL_433 (by decide) ?_
  refine sr_iadd C dL_434 ?_
  refine sr_sld C hX (sm_si hi hL (j := 1) (by omega)) dL_435 ?_
  refine sr_aload_n C 0 rfl rfl dL_436 ?_
  refine sr_iload_n C 3 rfl rfl dL_437 ?_
  refine sr_iconst C (v := nI 2) dL_438 (by decide) ?_
  refine sr_iadd C dL_439 ?_
  refine sr_sld C hX (sm_si hi hL (j := 2) (by omega)) dL_440 ?_
  refine sr_aload_n C 0 rfl rfl dL_441 ?_
  refine sr_iload_n C 3 rfl rfl dL_442 ?_
  refine sr_iconst C (v := nI 3) dL_443 (by decide) ?_
  refine sr_iadd C dL_444 ?_
  refine sr_sld C hX (sm_si hi hL (j := 3) (by omega)) dL_445 ?_
  refine sr_callVI C [sm_I _, sm_I _, sm_I _] (P_X_change l (T_change cnt _ _ _ μ hR)) lok_12 sm_l0 rfl rfl rfl rfl ⟨Nat.le_of_ble_eq_true rfl, Nat.le_of_ble_eq_true rfl⟩ (Nat.le_of_ble_eq_true rfl) hf dL_446 (fun r1 μ1 h => ?_)
  refine sr_aload_n C 2 rfl rfl dL_449 ?_
  refine sr_aload_n C 0 rfl rfl dL_450 ?_
  refine sr_iload_n C 3 rfl rfl dL_451 ?_
  refine sr_iconst C (v := nI 1) dL_452 (by decide) ?_
  refine sr_iadd C dL_453 ?_
  refine sr_sld C hX (sm_si hi hL (j := 1) (by omega)) dL_454 ?_
  refine sr_aload_n C 0 rfl rfl dL_455 ?_
  refine sr_iload_n C 3 rfl rfl dL_456 ?_
  refine sr_iconst C (v := nI 2) dL_457 (by decide) ?_
  refine sr_iadd C dL_458 ?_
  refine sr_sld C hX (sm_si hi hL (j := 2) (by omega)) dL_459 ?_
  refine sr_aload_n C 0 rfl rfl dL_460 ?_
  refine sr_iload_n C 3 rfl rfl dL_461 ?_
  refine sr_iconst C (v := nI 3) dL_462 (by decide) ?_
  refine sr_iadd C dL_463 ?_
  refine sr_sld C hX (sm_si hi hL (j := 3) (by omega)) dL_464 ?_
  refine sr_callVI C [sm_I _, sm_I _, sm_I _] (P_M_change l h) lok_13 sm_l61 rfl rfl rfl rfl ⟨Nat.le_of_ble_eq_true rfl, Nat.le_of_ble_eq_true rfl⟩ (Nat.le_of_ble_eq_true rfl) hf dL_465 (fun r2 μ2 h2 => ?_)
  refine sr_icmp_eq C (tgt := 1565) dL_468 (by decide) (fun _ => kk μ2 h2.2) (fun hne => absurd h2.1 hne)
set_option maxHeartbeats 4000000 in
set_option maxRecDepth 100000 in
theorem lc_become {p : Program} {l : Launch} {e : Env} {s : State} {m : MethodId} {args : Array Value} {below : List Frame} {meth : Method} {c : Code} {A : Nat → Prop} {Q : State → Prop} {G : sm_G} {kc ks b L i cnt : Nat} {xs : Nat → Int32} {μ : sm_Mem} (C : sm_C p s m args c code 4 "SnowMoneyLaw" A G) (hX : va_X b L xs s s.heap ∧ b < s.heap.size ∧ ¬ A b ∧ G.1 130 = b) (hL : L ≤ 3072) (hi : i + 6 ≤ L) (hcn : cnt ≤ i) (hf : kc ≤ room_1.cells ∧ ks ≤ room_1.slots) (hR : RR cnt μ) (kk : ∀ μ2, RR (cnt + 1) μ2 → sm_W p l e room_1 s m args below meth c A Q G 4 kc ks 1565 [] (lwLo i) μ2) : sm_W p l e room_1 s m args below meth c A Q G 4 kc ks 473 [] (lwLo i) μ := by
  refine sr_aload_n C 1 rfl rfl dL_473 ?_
  refine sr_aload_n C 0 rfl rfl dL_474 ?_
  refine sr_iload_n C 3 rfl rfl dL_475 ?_
  refine sr_iconst C (v := nI 1) dL_476 (by decide) ?_
  refine sr_iadd C dL_477 ?_
  refine sr_sld C hX (sm_si hi hL (j := 1) (by omega)) dL_478 ?_
  refine sr_aload_n C 0 rfl rfl dL_479 ?_
  refine sr_iload_n C 3 rfl rfl dL_480 ?_
  refine sr_iconst C (v := nI 2) dL_481 (by decide) ?_
  refine sr_iadd C dL_482 ?_
  refine sr_sld C hX (sm_si hi hL (j := 2) (by omega)) dL_483 ?_
  refine sr_callVI C [sm_I _, sm_I _] (P_X_become l (T_become cnt _ _ μ hR)) lok_14 sm_l0 rfl rfl rfl rfl ⟨Nat.le_of_ble_eq_true rfl, Nat.le_of_ble_eq_true rfl⟩ (Nat.le_of_ble_eq_true rfl) hf dL_484 (fun r1 μ1 h => ?_)
  refine sr_aload_n C 2 rfl rfl dL_487 ?_
  refine sr_aload_n C 0 rfl rfl dL_488 ?_
  refine sr_iload_n C 3 rfl rfl dL_489 ?_
  refine sr_iconst C (v := nI 1) dL_490 (by decide) ?_
  refine sr_iadd C dL_491 ?_
  refine sr_sld C hX (sm_si hi hL (j := 1) (by omega)) dL_492 ?_
  refine sr_aload_n C 0 rfl rfl dL_493 ?_
  refine sr_iload_n C 3 rfl rfl dL_494 ?_
  refine sr_iconst C (v := nI 2) dL_495 (by decide) ?_
  refine sr_iadd C dL_496 ?_
  refine sr_sld C hX (sm_si hi hL (j := 2) (by omega)) dL_497 ?_
  refine sr_callVI C [sm_I _, sm_I _] (P_M_become l h) lok_15 sm_l61 rfl rfl rfl rfl ⟨Nat.le_of_ble_eq_true rfl, Nat.le_of_ble_eq_true rfl⟩ (Nat.le_of_ble_eq_true rfl) hf dL_498 (fun r2 μ2 h2 => ?_)
  refine sr_icmp_eq C (tgt := 1565) dL_501 (by decide) (fun _ => kk μ2 h2.2) (fun hne => absurd h2.1 hne)
set_option maxHeartbeats 4000000 in
set_option maxRecDepth 100000 in
theorem lc_as {p : Program} {l : Launch} {e : Env} {s : State} {m : MethodId} {args : Array Value} {below : List Frame} {meth : Method} {c : Code} {A : Nat → Prop} {Q : State → Prop} {G : sm_G} {kc ks b L i cnt : Nat} {xs : Nat → Int32} {μ : sm_Mem} (C : sm_C p s m args c code 4 "SnowMoneyLaw" A G) (hX : va_X b L xs s s.heap ∧ b < s.heap.size ∧ ¬ A b ∧ G.1 130 = b) (hL : L ≤ 3072) (hi : i + 6 ≤ L) (hcn : cnt ≤ i) (hf : kc ≤ room_1.cells ∧ ks ≤ room_1.slots) (hR : RR cnt μ) (kk : ∀ μ2, RR (cnt + 1) μ2 → sm_W p l e room_1 s m args below meth c A Q G 4 kc ks 1565 [] (lwLo i) μ2) : sm_W p l e room_1 s m args below meth c A Q G 4 kc ks 506 [] (lwLo i) μ := by
  refine sr_aload_n C 1 rfl rfl dL_506 ?_
  refine sr_aload_n C 0 rfl rfl dL_507 ?_
  refine sr_iload_n C 3 rfl rfl dL_508 ?_
  refine sr_iconst C (v := nI 1) dL_509 (by decide) ?_
  refine sr_iadd C dL_510 ?_
  refine sr_sld C hX (sm_si hi hL (j := 1) (by omega)) dL_511 ?_
  refine sr_aload_n C 0 rfl rfl dL_512 ?_
  refine sr_iload_n C 3 rfl rfl dL_513 ?_
  refine sr_iconst C (v := nI 2) dL_514 (by decide) ?_
  refine sr_iadd C dL_515 ?_
  refine sr_sld C hX (sm_si hi hL (j := 2) (by omega)) dL_516 ?_
  refine sr_callVI C [sm_I _, sm_I _] (P_X_as l (T_as cnt _ _ μ hR)) lok_16 sm_l0 rfl rfl rfl rfl ⟨Nat.le_of_ble_eq_true rfl, Nat.le_of_ble_eq_true rfl⟩ (Nat.le_of_ble_eq_true rfl) hf dL_517 (fun r1 μ1 h => ?_)
  refine sr_aload_n C 2 rfl rfl dL_520 ?_
  refine sr_aload_n C 0 rfl rfl dL_521 ?_
  refine sr_iload_n C 3 rfl rfl dL_522 ?_
  refine sr_iconst C (v := nI 1) dL_523 (by decide) ?_
  refine sr_iadd C dL_524 ?_
  refine sr_sld C hX (sm_si hi hL (j := 1) (by omega)) dL_525 ?_
  refine sr_aload_n C 0 rfl rfl dL_526 ?_
  refine sr_iload_n C 3 rfl rfl dL_527 ?_
  refine sr_iconst C (v := nI 2) dL_528 (by decide) ?_
  refine sr_iadd C dL_529 ?_
  refine sr_sld C hX (sm_si hi hL (j := 2) (by omega)) dL_530 ?_
  refine sr_callVI C [sm_I _, sm_I _] (P_M_as l h) lok_17 sm_l61 rfl rfl rfl rfl ⟨Nat.le_of_ble_eq_true rfl, Nat.le_of_ble_eq_true rfl⟩ (Nat.le_of_ble_eq_true rfl) hf dL_531 (fun r2 μ2 h2 => ?_)
  refine sr_icmp_eq C (tgt := 1565) dL_534 (by decide) (fun _ => kk μ2 h2.2) (fun hne => absurd h2.1 hne)
set_option maxHeartbeats 4000000 in
set_option maxRecDepth 100000 in
theorem lc_weather {p : Program} {l : Launch} {e : Env} {s : State} {m : MethodId} {args : Array Value} {below : List Frame} {meth : Method} {c : Code} {A : Nat → Prop} {Q : State → Prop} {G : sm_G} {kc ks b L i cnt : Nat} {xs : Nat → Int32} {μ : sm_Mem} (C : sm_C p s m args c code 4 "SnowMoneyLaw" A G) (hX : va_X b L xs s s.heap ∧ b < s.heap.size ∧ ¬ A b ∧ G.1 130 = b) (hL : L ≤ 3072) (hi : i + 6 ≤ L) (hcn : cnt ≤ i) (hf : kc ≤ room_1.cells ∧ ks ≤ room_1.slots) (hR : RR cnt μ) (kk : ∀ μ2, RR (cnt + 1) μ2 → sm_W p l e room_1 s m args below meth c A Q G 4 kc ks 1565 [] (lwLo i) μ2) : sm_W p l e room_1 s m args below meth c A Q G 4 kc ks 539 [] (lwLo i) μ := by
  refine sr_aload_n C 1 rfl rfl dL_539 ?_
  refine sr_aload_n C 0 rfl rfl dL_540 ?_
  refine sr_iload_n C 3 rfl rfl dL_541 ?_
  refine sr_iconst C (v := nI 1) dL_542 (by decide) ?_
  refine sr_iadd C dL_543 ?_
  refine sr_sld C hX (sm_si hi hL (j := 1) (by omega)) dL_544 ?_
  refine sr_callVI C [sm_I _] (P_X_weather l (T_weather cnt _ μ hR)) lok_18 sm_l0 rfl rfl rfl rfl ⟨Nat.le_of_ble_eq_true rfl, Nat.le_of_ble_eq_true rfl⟩ (Nat.le_of_ble_eq_true rfl) hf dL_545 (fun r1 μ1 h => ?_)
  refine sr_aload_n C 2 rfl rfl dL_548 ?_
  refine sr_aload_n C 0 rfl rfl dL_549 ?_
  refine sr_iload_n C 3 rfl rfl dL_550 ?_
  refine sr_iconst C (v := nI 1) dL_551 (by decide) ?_
  refine sr_iadd C dL_552 ?_
  refine sr_sld C hX (sm_si hi hL (j := 1) (by omega)) dL_553 ?_
  refine sr_callVI C [sm_I _] (P_M_weather l h) lok_19 sm_l61 rfl rfl rfl rfl ⟨Nat.le_of_ble_eq_true rfl, Nat.le_of_ble_eq_true rfl⟩ (Nat.le_of_ble_eq_true rfl) hf dL_554 (fun r2 μ2 h2 => ?_)
  refine sr_icmp_eq C (tgt := 1565) dL_557 (by decide) (fun _ => kk μ2 h2.2) (fun hne => absurd h2.1 hne)
set_option maxHeartbeats 4000000 in
set_option maxRecDepth 100000 in
theorem lc_feed {p : Program} {l : Launch} {e : Env} {s : State} {m : MethodId} {args : Array Value} {below : List Frame} {meth : Method} {c : Code} {A : Nat → Prop} {Q : State → Prop} {G : sm_G} {kc ks b L i cnt : Nat} {xs : Nat → Int32} {μ : sm_Mem} (C : sm_C p s m args c code 4 "SnowMoneyLaw" A G) (hX : va_X b L xs s s.heap ∧ b < s.heap.size ∧ ¬ A b ∧ G.1 130 = b) (hL : L ≤ 3072) (hi : i + 6 ≤ L) (hcn : cnt ≤ i) (hf : kc ≤ room_1.cells ∧ ks ≤ room_1.slots) (hR : RR cnt μ) (kk : ∀ μ2, RR (cnt + 1) μ2 → sm_W p l e room_1 s m args below meth c A Q G 4 kc ks 1565 [] (lwLo i) μ2) : sm_W p l e room_1 s m args below meth c A Q G 4 kc ks 562 [] (lwLo i) μ := by
  refine sr_aload_n C 1 rfl rfl dL_562 ?_
  refine sr_aload_n C 0 rfl rfl dL_563 ?_
  refine sr_iload_n C 3 rfl rfl dL_564 ?_
  refine sr_iconst C (v := nI 1) dL_565 (by decide) ?_
  refine sr_iadd C dL_566 ?_
  refine sr_sld C hX (sm_si hi hL (j := 1) (by omega)) dL_567 ?_
  refine sr_i2l C dL_568 ?_
  refine sr_bipush C (v := 32) dL_569 (by decide) ?_
  refine sr_lshl C dL_571 ?_
  refine sr_aload_n C 0 rfl rfl dL_572 ?_
  refine sr_iload_n C 3 rfl rfl dL_573 ?_
  refine sr_iconst C (v := nI 2) dL_574 (by decide) ?_
  refine sr_iadd C dL_575 ?_
  refine sr_sld C hX (sm_si hi hL (j := 2) (by omega)) dL_576 ?_
  refine sr_i2l C dL_577 ?_
  refine sr_ldc2 C lq_82 dL_578 ?_
  refine sr_land C dL_581 ?_
  refine sr_lor C dL_582 ?_
  refine sr_aload_n C 0 rfl rfl dL_583 ?_
  refine sr_iload_n C 3 rfl rfl dL_584 ?_
  refine sr_iconst C (v := nI 3) dL_585 (by decide) ?_
  refine sr_iadd C dL_586 ?_
  refine sr_sld C hX (sm_si hi hL (j := 3) (by omega)) dL_587 ?_
  refine sr_callVI C [sm_L _, sm_I _] (P_X_feed l (T_feed cnt _ _ μ hR)) lok_20 sm_l0 rfl rfl rfl rfl ⟨Nat.le_of_ble_eq_true rfl, Nat.le_of_ble_eq_true rfl⟩ (Nat.le_of_ble_eq_true rfl) hf dL_588 (fun r1 μ1 h => ?_)
  refine sr_aload_n C 2 rfl rfl dL_591 ?_
  refine sr_aload_n C 0 rfl rfl dL_592 ?_
  refine sr_iload_n C 3 rfl rfl dL_593 ?_
  refine sr_iconst C (v := nI 1) dL_594 (by decide) ?_
  refine sr_iadd C dL_595 ?_
  refine sr_sld C hX (sm_si hi hL (j := 1) (by omega)) dL_596 ?_
  refine sr_i2l C dL_597 ?_
  refine sr_bipush C (v := 32) dL_598 (by decide) ?_
  refine sr_lshl C dL_600 ?_
  refine sr_aload_n C 0 rfl rfl dL_601 ?_
  refine sr_iload_n C 3 rfl rfl dL_602 ?_
  refine sr_iconst C (v := nI 2) dL_603 (by decide) ?_
  refine sr_iadd C dL_604 ?_
  refine sr_sld C hX (sm_si hi hL (j := 2) (by omega)) dL_605 ?_
  refine sr_i2l C dL_606 ?_
  refine sr_ldc2 C lq_82 dL_607 ?_
  refine sr_land C dL_610 ?_
  refine sr_lor C dL_611 ?_
  refine sr_aload_n C 0 rfl rfl dL_612 ?_
  refine sr_iload_n C 3 rfl rfl dL_613 ?_
  refine sr_iconst C (v := nI 3) dL_614 (by decide) ?_
  refine sr_iadd C dL_615 ?_
  refine sr_sld C hX (sm_si hi hL (j := 3) (by omega)) dL_616 ?_
  refine sr_callVI C [sm_L _, sm_I _] (P_M_feed l h) lok_21 sm_l61 rfl rfl rfl rfl ⟨Nat.le_of_ble_eq_true rfl, Nat.le_of_ble_eq_true rfl⟩ (Nat.le_of_ble_eq_true rfl) hf dL_617 (fun r2 μ2 h2 => ?_)
  refine sr_icmp_eq C (tgt := 1565) dL_620 (by decide) (fun _ => kk μ2 h2.2) (fun hne => absurd h2.1 hne)
set_option maxHeartbeats 4000000 in
set_option maxRecDepth 100000 in
theorem lc_text {p : Program} {l : Launch} {e : Env} {s : State} {m : MethodId} {args : Array Value} {below : List Frame} {meth : Method} {c : Code} {A : Nat → Prop} {Q : State → Prop} {G : sm_G} {kc ks b L i cnt : Nat} {xs : Nat → Int32} {μ : sm_Mem} (C : sm_C p s m args c code 4 "SnowMoneyLaw" A G) (hX : va_X b L xs s s.heap ∧ b < s.heap.size ∧ ¬ A b ∧ G.1 130 = b) (hL : L ≤ 3072) (hi : i + 6 ≤ L) (hcn : cnt ≤ i) (hf : kc ≤ room_1.cells ∧ ks ≤ room_1.slots) (hR : RR cnt μ) (kk : ∀ μ2, RR (cnt + 1) μ2 → sm_W p l e room_1 s m args below meth c A Q G 4 kc ks 1565 [] (lwLo i) μ2) : sm_W p l e room_1 s m args below meth c A Q G 4 kc ks 625 [] (lwLo i) μ := by
  refine sr_aload_n C 1 rfl rfl dL_625 ?_
  refine sr_aload_n C 0 rfl rfl dL_626 ?_
  refine sr_iload_n C 3 rfl rfl dL_627 ?_
  refine sr_iconst C (v := nI 1) dL_628 (by decide) ?_
  refine sr_iadd C dL_629 ?_
  refine sr_sld C hX (sm_si hi hL (j := 1) (by omega)) dL_630 ?_
  refine sr_callVI C [sm_I _] (P_X_text l (T_text cnt _ μ hR)) lok_22 sm_l0 rfl rfl rfl rfl ⟨Nat.le_of_ble_eq_true rfl, Nat.le_of_ble_eq_true rfl⟩ (Nat.le_of_ble_eq_true rfl) hf dL_631 (fun r1 μ1 h => ?_)
  refine sr_aload_n C 2 rfl rfl dL_634 ?_
  refine sr_aload_n C 0 rfl rfl dL_635 ?_
  refine sr_iload_n C 3 rfl rfl dL_636 ?_
  refine sr_iconst C (v := nI 1) dL_637 (by decide) ?_
  refine sr_iadd C dL_638 ?_
  refine sr_sld C hX (sm_si hi hL (j := 1) (by omega)) dL_639 ?_
  refine sr_callVI C [sm_I _] (P_M_text l h) lok_23 sm_l61 rfl rfl rfl rfl ⟨Nat.le_of_ble_eq_true rfl, Nat.le_of_ble_eq_true rfl⟩ (Nat.le_of_ble_eq_true rfl) hf dL_640 (fun r2 μ2 h2 => ?_)
  refine sr_icmp_eq C (tgt := 1565) dL_643 (by decide) (fun _ => kk μ2 h2.2) (fun hne => absurd h2.1 hne)
set_option maxHeartbeats 4000000 in
set_option maxRecDepth 100000 in
theorem lc_law {p : Program} {l : Launch} {e : Env} {s : State} {m : MethodId} {args : Array Value} {below : List Frame} {meth : Method} {c : Code} {A : Nat → Prop} {Q : State → Prop} {G : sm_G} {kc ks b L i cnt : Nat} {xs : Nat → Int32} {μ : sm_Mem} (C : sm_C p s m args c code 4 "SnowMoneyLaw" A G) (hX : va_X b L xs s s.heap ∧ b < s.heap.size ∧ ¬ A b ∧ G.1 130 = b) (hL : L ≤ 3072) (hi : i + 6 ≤ L) (hcn : cnt ≤ i) (hf : kc ≤ room_1.cells ∧ ks ≤ room_1.slots) (hR : RR cnt μ) (kk : ∀ μ2, RR (cnt + 1) μ2 → sm_W p l e room_1 s m args below meth c A Q G 4 kc ks 1565 [] (lwLo i) μ2) : sm_W p l e room_1 s m args below meth c A Q G 4 kc ks 648 [] (lwLo i) μ := by
  refine sr_aload_n C 1 rfl rfl dL_648 ?_
  refine sr_aload_n C 0 rfl rfl dL_649 ?_
  refine sr_iload_n C 3 rfl rfl dL_650 ?_
  refine sr_iconst C (v := nI 1) dL_651 (by decide) ?_
  refine sr_iadd C dL_652 ?_
  refine sr_sld C hX (sm_si hi hL (j := 1) (by omega)) dL_653 ?_
  refine sr_aload_n C 0 rfl rfl dL_654 ?_
  refine sr_iload_n C 3 rfl rfl dL_655 ?_
  refine sr_iconst C (v := nI 2) dL_656 (by decide) ?_
  refine sr_iadd C dL_657 ?_
  refine sr_sld C hX (sm_si hi hL (j := 2) (by omega)) dL_658 ?_
  refine sr_aload_n C 0 rfl rfl dL_659 ?_
  refine sr_iload_n C 3 rfl rfl dL_660 ?_
  refine sr_iconst C (v := nI 3) dL_661 (by decide) ?_
  refine sr_iadd C dL_662 ?_
  refine sr_sld C hX (sm_si hi hL (j := 3) (by omega)) dL_663 ?_
  refine sr_aload_n C 0 rfl rfl dL_664 ?_
  refine sr_iload_n C 3 rfl rfl dL_665 ?_
  refine sr_iconst C (v := nI 4) dL_666 (by decide) ?_
  refine sr_iadd C dL_667 ?_
  refine sr_sld C hX (sm_si hi hL (j := 4) (by omega)) dL_668 ?_
  refine sr_callVI C [sm_I _, sm_I _, sm_I _, sm_I _] (P_X_law l (T_law cnt _ _ _ _ μ hR)) lok_24 sm_l0 rfl rfl rfl rfl ⟨Nat.le_of_ble_eq_true rfl, Nat.le_of_ble_eq_true rfl⟩ (Nat.le_of_ble_eq_true rfl) hf dL_669 (fun r1 μ1 h => ?_)
  refine sr_aload_n C 2 rfl rfl dL_672 ?_
  refine sr_aload_n C 0 rfl rfl dL_673 ?_
  refine sr_iload_n C 3 rfl rfl dL_674 ?_
  refine sr_iconst C (v := nI 1) dL_675 (by decide) ?_
  refine sr_iadd C dL_676 ?_
  refine sr_sld C hX (sm_si hi hL (j := 1) (by omega)) dL_677 ?_
  refine sr_aload_n C 0 rfl rfl dL_678 ?_
  refine sr_iload_n C 3 rfl rfl dL_679 ?_
  refine sr_iconst C (v := nI 2) dL_680 (by decide) ?_
  refine sr_iadd C dL_681 ?_
  refine sr_sld C hX (sm_si hi hL (j := 2) (by omega)) dL_682 ?_
  refine sr_aload_n C 0 rfl rfl dL_683 ?_
  refine sr_iload_n C 3 rfl rfl dL_684 ?_
  refine sr_iconst C (v := nI 3) dL_685 (by decide) ?_
  refine sr_iadd C dL_686 ?_
  refine sr_sld C hX (sm_si hi hL (j := 3) (by omega)) dL_687 ?_
  refine sr_aload_n C 0 rfl rfl dL_688 ?_
  refine sr_iload_n C 3 rfl rfl dL_689 ?_
  refine sr_iconst C (v := nI 4) dL_690 (by decide) ?_
  refine sr_iadd C dL_691 ?_
  refine sr_sld C hX (sm_si hi hL (j := 4) (by omega)) dL_692 ?_
  refine sr_callVI C [sm_I _, sm_I _, sm_I _, sm_I _] (P_M_law l h) lok_25 sm_l61 rfl rfl rfl rfl ⟨Nat.le_of_ble_eq_true rfl, Nat.le_of_ble_eq_true rfl⟩ (Nat.le_of_ble_eq_true rfl) hf dL_693 (fun r2 μ2 h2 => ?_)
  refine sr_icmp_eq C (tgt := 1565) dL_696 (by decide) (fun _ => kk μ2 h2.2) (fun hne => absurd h2.1 hne)
set_option maxHeartbeats 4000000 in
set_option maxRecDepth 100000 in
theorem lc_hours {p : Program} {l : Launch} {e : Env} {s : State} {m : MethodId} {args : Array Value} {below : List Frame} {meth : Method} {c : Code} {A : Nat → Prop} {Q : State → Prop} {G : sm_G} {kc ks b L i cnt : Nat} {xs : Nat → Int32} {μ : sm_Mem} (C : sm_C p s m args c code 4 "SnowMoneyLaw" A G) (hX : va_X b L xs s s.heap ∧ b < s.heap.size ∧ ¬ A b ∧ G.1 130 = b) (hL : L ≤ 3072) (hi : i + 6 ≤ L) (hcn : cnt ≤ i) (hf : kc ≤ room_1.cells ∧ ks ≤ room_1.slots) (hR : RR cnt μ) (kk : ∀ μ2, RR (cnt + 1) μ2 → sm_W p l e room_1 s m args below meth c A Q G 4 kc ks 1565 [] (lwLo i) μ2) : sm_W p l e room_1 s m args below meth c A Q G 4 kc ks 701 [] (lwLo i) μ := by
  refine sr_aload_n C 1 rfl rfl dL_701 ?_
  refine sr_aload_n C 0 rfl rfl dL_702 ?_
  refine sr_iload_n C 3 rfl rfl dL_703 ?_
  refine sr_iconst C (v := nI 1) dL_704 (by decide) ?_
  refine sr_iadd C dL_705 ?_
  refine sr_sld C hX (sm_si hi hL (j := 1) (by omega)) dL_706 ?_
  refine sr_callVI C [sm_I _] (P_X_hours l (T_hours cnt _ μ hR)) lok_26 sm_l0 rfl rfl rfl rfl ⟨Nat.le_of_ble_eq_true rfl, Nat.le_of_ble_eq_true rfl⟩ (Nat.le_of_ble_eq_true rfl) hf dL_707 (fun r1 μ1 h => ?_)
  refine sr_aload_n C 2 rfl rfl dL_710 ?_
  refine sr_aload_n C 0 rfl rfl dL_711 ?_
  refine sr_iload_n C 3 rfl rfl dL_712 ?_
  refine sr_iconst C (v := nI 1) dL_713 (by decide) ?_
  refine sr_iadd C dL_714 ?_
  refine sr_sld C hX (sm_si hi hL (j := 1) (by omega)) dL_715 ?_
  refine sr_callVI C [sm_I _] (P_M_hours l h) lok_27 sm_l61 rfl rfl rfl rfl ⟨Nat.le_of_ble_eq_true rfl, Nat.le_of_ble_eq_true rfl⟩ (Nat.le_of_ble_eq_true rfl) hf dL_716 (fun r2 μ2 h2 => ?_)
  refine sr_icmp_eq C (tgt := 1565) dL_719 (by decide) (fun _ => kk μ2 h2.2) (fun hne => absurd h2.1 hne)
set_option maxHeartbeats 4000000 in
set_option maxRecDepth 100000 in
theorem lc_loose {p : Program} {l : Launch} {e : Env} {s : State} {m : MethodId} {args : Array Value} {below : List Frame} {meth : Method} {c : Code} {A : Nat → Prop} {Q : State → Prop} {G : sm_G} {kc ks b L i cnt : Nat} {xs : Nat → Int32} {μ : sm_Mem} (C : sm_C p s m args c code 4 "SnowMoneyLaw" A G) (hX : va_X b L xs s s.heap ∧ b < s.heap.size ∧ ¬ A b ∧ G.1 130 = b) (hL : L ≤ 3072) (hi : i + 6 ≤ L) (hcn : cnt ≤ i) (hf : kc ≤ room_1.cells ∧ ks ≤ room_1.slots) (hR : RR cnt μ) (kk : ∀ μ2, RR (cnt + 1) μ2 → sm_W p l e room_1 s m args below meth c A Q G 4 kc ks 1565 [] (lwLo i) μ2) : sm_W p l e room_1 s m args below meth c A Q G 4 kc ks 724 [] (lwLo i) μ := by
  refine sr_aload_n C 1 rfl rfl dL_724 ?_
  refine sr_aload_n C 0 rfl rfl dL_725 ?_
  refine sr_iload_n C 3 rfl rfl dL_726 ?_
  refine sr_iconst C (v := nI 1) dL_727 (by decide) ?_
  refine sr_iadd C dL_728 ?_
  refine sr_sld C hX (sm_si hi hL (j := 1) (by omega)) dL_729 ?_
  refine sr_callVI C [sm_I _] (P_X_loose l (T_loose cnt _ μ hR)) lok_28 sm_l0 rfl rfl rfl rfl ⟨Nat.le_of_ble_eq_true rfl, Nat.le_of_ble_eq_true rfl⟩ (Nat.le_of_ble_eq_true rfl) hf dL_730 (fun r1 μ1 h => ?_)
  refine sr_aload_n C 2 rfl rfl dL_733 ?_
  refine sr_aload_n C 0 rfl rfl dL_734 ?_
  refine sr_iload_n C 3 rfl rfl dL_735 ?_
  refine sr_iconst C (v := nI 1) dL_736 (by decide) ?_
  refine sr_iadd C dL_737 ?_
  refine sr_sld C hX (sm_si hi hL (j := 1) (by omega)) dL_738 ?_
  refine sr_callVI C [sm_I _] (P_M_loose l h) lok_29 sm_l61 rfl rfl rfl rfl ⟨Nat.le_of_ble_eq_true rfl, Nat.le_of_ble_eq_true rfl⟩ (Nat.le_of_ble_eq_true rfl) hf dL_739 (fun r2 μ2 h2 => ?_)
  refine sr_icmp_eq C (tgt := 1565) dL_742 (by decide) (fun _ => kk μ2 h2.2) (fun hne => absurd h2.1 hne)
set_option maxHeartbeats 4000000 in
set_option maxRecDepth 100000 in
theorem lc_carry {p : Program} {l : Launch} {e : Env} {s : State} {m : MethodId} {args : Array Value} {below : List Frame} {meth : Method} {c : Code} {A : Nat → Prop} {Q : State → Prop} {G : sm_G} {kc ks b L i cnt : Nat} {xs : Nat → Int32} {μ : sm_Mem} (C : sm_C p s m args c code 4 "SnowMoneyLaw" A G) (hX : va_X b L xs s s.heap ∧ b < s.heap.size ∧ ¬ A b ∧ G.1 130 = b) (hL : L ≤ 3072) (hi : i + 6 ≤ L) (hcn : cnt ≤ i) (hf : kc ≤ room_1.cells ∧ ks ≤ room_1.slots) (hR : RR cnt μ) (kk : ∀ μ2, RR (cnt + 1) μ2 → sm_W p l e room_1 s m args below meth c A Q G 4 kc ks 1565 [] (lwLo i) μ2) : sm_W p l e room_1 s m args below meth c A Q G 4 kc ks 747 [] (lwLo i) μ := by
  refine sr_aload_n C 1 rfl rfl dL_747 ?_
  refine sr_aload_n C 0 rfl rfl dL_748 ?_
  refine sr_iload_n C 3 rfl rfl dL_749 ?_
  refine sr_iconst C (v := nI 1) dL_750 (by decide) ?_
  refine sr_iadd C dL_751 ?_
  refine sr_sld C hX (sm_si hi hL (j := 1) (by omega)) dL_752 ?_
  refine sr_aload_n C 0 rfl rfl dL_753 ?_
  refine sr_iload_n C 3 rfl rfl dL_754 ?_
  refine sr_iconst C (v := nI 2) dL_755 (by decide) ?_
  refine sr_iadd C dL_756 ?_
  refine sr_sld C hX (sm_si hi hL (j := 2) (by omega)) dL_757 ?_
  refine sr_callVI C [sm_I _, sm_I _] (P_X_carry l (T_carry cnt _ _ μ hR)) lok_30 sm_l0 rfl rfl rfl rfl ⟨Nat.le_of_ble_eq_true rfl, Nat.le_of_ble_eq_true rfl⟩ (Nat.le_of_ble_eq_true rfl) hf dL_758 (fun r1 μ1 h => ?_)
  refine sr_aload_n C 2 rfl rfl dL_761 ?_
  refine sr_aload_n C 0 rfl rfl dL_762 ?_
  refine sr_iload_n C 3 rfl rfl dL_763 ?_
  refine sr_iconst C (v := nI 1) dL_764 (by decide) ?_
  refine sr_iadd C dL_765 ?_
  refine sr_sld C hX (sm_si hi hL (j := 1) (by omega)) dL_766 ?_
  refine sr_aload_n C 0 rfl rfl dL_767 ?_
  refine sr_iload_n C 3 rfl rfl dL_768 ?_
  refine sr_iconst C (v := nI 2) dL_769 (by decide) ?_
  refine sr_iadd C dL_770 ?_
  refine sr_sld C hX (sm_si hi hL (j := 2) (by omega)) dL_771 ?_
  refine sr_callVI C [sm_I _, sm_I _] (P_M_carry l h) lok_31 sm_l61 rfl rfl rfl rfl ⟨Nat.le_of_ble_eq_true rfl, Nat.le_of_ble_eq_true rfl⟩ (Nat.le_of_ble_eq_true rfl) hf dL_772 (fun r2 μ2 h2 => ?_)
  refine sr_icmp_eq C (tgt := 1565) dL_775 (by decide) (fun _ => kk μ2 h2.2) (fun hne => absurd h2.1 hne)
set_option maxHeartbeats 4000000 in
set_option maxRecDepth 100000 in
theorem lc_then {p : Program} {l : Launch} {e : Env} {s : State} {m : MethodId} {args : Array Value} {below : List Frame} {meth : Method} {c : Code} {A : Nat → Prop} {Q : State → Prop} {G : sm_G} {kc ks b L i cnt : Nat} {xs : Nat → Int32} {μ : sm_Mem} (C : sm_C p s m args c code 4 "SnowMoneyLaw" A G) (hX : va_X b L xs s s.heap ∧ b < s.heap.size ∧ ¬ A b ∧ G.1 130 = b) (hL : L ≤ 3072) (hi : i + 6 ≤ L) (hcn : cnt ≤ i) (hf : kc ≤ room_1.cells ∧ ks ≤ room_1.slots) (hR : RR cnt μ) (kk : ∀ μ2, RR (cnt + 1) μ2 → sm_W p l e room_1 s m args below meth c A Q G 4 kc ks 1565 [] (lwLo i) μ2) : sm_W p l e room_1 s m args below meth c A Q G 4 kc ks 780 [] (lwLo i) μ := by
  refine sr_aload_n C 1 rfl rfl dL_780 ?_
  refine sr_aload_n C 0 rfl rfl dL_781 ?_
  refine sr_iload_n C 3 rfl rfl dL_782 ?_
  refine sr_iconst C (v := nI 1) dL_783 (by decide) ?_
  refine sr_iadd C dL_784 ?_
  refine sr_sld C hX (sm_si hi hL (j := 1) (by omega)) dL_785 ?_
  refine sr_aload_n C 0 rfl rfl dL_786 ?_
  refine sr_iload_n C 3 rfl rfl dL_787 ?_
  refine sr_iconst C (v := nI 2) dL_788 (by decide) ?_
  refine sr_iadd C dL_789 ?_
  refine sr_sld C hX (sm_si hi hL (j := 2) (by omega)) dL_790 ?_
  refine sr_aload_n C 0 rfl rfl dL_791 ?_
  refine sr_iload_n C 3 rfl rfl dL_792 ?_
  refine sr_iconst C (v := nI 3) dL_793 (by decide) ?_
  refine sr_iadd C dL_794 ?_
  refine sr_sld C hX (sm_si hi hL (j := 3) (by omega)) dL_795 ?_
  refine sr_callVI C [sm_I _, sm_I _, sm_I _] (P_X_then l (T_then cnt _ _ _ μ hR)) lok_32 sm_l0 rfl rfl rfl rfl ⟨Nat.le_of_ble_eq_true rfl, Nat.le_of_ble_eq_true rfl⟩ (Nat.le_of_ble_eq_true rfl) hf dL_796 (fun r1 μ1 h => ?_)
  refine sr_aload_n C 2 rfl rfl dL_799 ?_
  refine sr_aload_n C 0 rfl rfl dL_800 ?_
  refine sr_iload_n C 3 rfl rfl dL_801 ?_
  refine sr_iconst C (v := nI 1) dL_802 (by decide) ?_
  refine sr_iadd C dL_803 ?_
  refine sr_sld C hX (sm_si hi hL (j := 1) (by omega)) dL_804 ?_
  refine sr_aload_n C 0 rfl rfl dL_805 ?_
  refine sr_iload_n C 3 rfl rfl dL_806 ?_
  refine sr_iconst C (v := nI 2) dL_807 (by decide) ?_
  refine sr_iadd C dL_808 ?_
  refine sr_sld C hX (sm_si hi hL (j := 2) (by omega)) dL_809 ?_
  refine sr_aload_n C 0 rfl rfl dL_810 ?_
  refine sr_iload_n C 3 rfl rfl dL_811 ?_
  refine sr_iconst C (v := nI 3) dL_812 (by decide) ?_
  refine sr_iadd C dL_813 ?_
  refine sr_sld C hX (sm_si hi hL (j := 3) (by omega)) dL_814 ?_
  refine sr_callVI C [sm_I _, sm_I _, sm_I _] (P_M_then l h) lok_33 sm_l61 rfl rfl rfl rfl ⟨Nat.le_of_ble_eq_true rfl, Nat.le_of_ble_eq_true rfl⟩ (Nat.le_of_ble_eq_true rfl) hf dL_815 (fun r2 μ2 h2 => ?_)
  refine sr_icmp_eq C (tgt := 1565) dL_818 (by decide) (fun _ => kk μ2 h2.2) (fun hne => absurd h2.1 hne)
set_option maxHeartbeats 4000000 in
set_option maxRecDepth 100000 in
theorem lc_first {p : Program} {l : Launch} {e : Env} {s : State} {m : MethodId} {args : Array Value} {below : List Frame} {meth : Method} {c : Code} {A : Nat → Prop} {Q : State → Prop} {G : sm_G} {kc ks b L i cnt : Nat} {xs : Nat → Int32} {μ : sm_Mem} (C : sm_C p s m args c code 4 "SnowMoneyLaw" A G) (hX : va_X b L xs s s.heap ∧ b < s.heap.size ∧ ¬ A b ∧ G.1 130 = b) (hL : L ≤ 3072) (hi : i + 6 ≤ L) (hcn : cnt ≤ i) (hf : kc ≤ room_1.cells ∧ ks ≤ room_1.slots) (hR : RR cnt μ) (kk : ∀ μ2, RR (cnt + 1) μ2 → sm_W p l e room_1 s m args below meth c A Q G 4 kc ks 1565 [] (lwLo i) μ2) : sm_W p l e room_1 s m args below meth c A Q G 4 kc ks 823 [] (lwLo i) μ := by
  refine sr_aload_n C 1 rfl rfl dL_823 ?_
  refine sr_aload_n C 0 rfl rfl dL_824 ?_
  refine sr_iload_n C 3 rfl rfl dL_825 ?_
  refine sr_iconst C (v := nI 1) dL_826 (by decide) ?_
  refine sr_iadd C dL_827 ?_
  refine sr_sld C hX (sm_si hi hL (j := 1) (by omega)) dL_828 ?_
  refine sr_callVI C [sm_I _] (P_X_first l (T_first cnt _ μ hR)) lok_34 sm_l0 rfl rfl rfl rfl ⟨Nat.le_of_ble_eq_true rfl, Nat.le_of_ble_eq_true rfl⟩ (Nat.le_of_ble_eq_true rfl) hf dL_829 (fun r1 μ1 h => ?_)
  refine sr_aload_n C 2 rfl rfl dL_832 ?_
  refine sr_aload_n C 0 rfl rfl dL_833 ?_
  refine sr_iload_n C 3 rfl rfl dL_834 ?_
  refine sr_iconst C (v := nI 1) dL_835 (by decide) ?_
  refine sr_iadd C dL_836 ?_
  refine sr_sld C hX (sm_si hi hL (j := 1) (by omega)) dL_837 ?_
  refine sr_callVI C [sm_I _] (P_M_first l h) lok_35 sm_l61 rfl rfl rfl rfl ⟨Nat.le_of_ble_eq_true rfl, Nat.le_of_ble_eq_true rfl⟩ (Nat.le_of_ble_eq_true rfl) hf dL_838 (fun r2 μ2 h2 => ?_)
  refine sr_icmp_eq C (tgt := 1565) dL_841 (by decide) (fun _ => kk μ2 h2.2) (fun hne => absurd h2.1 hne)
set_option maxHeartbeats 4000000 in
set_option maxRecDepth 100000 in
theorem lc_worth {p : Program} {l : Launch} {e : Env} {s : State} {m : MethodId} {args : Array Value} {below : List Frame} {meth : Method} {c : Code} {A : Nat → Prop} {Q : State → Prop} {G : sm_G} {kc ks b L i cnt : Nat} {xs : Nat → Int32} {μ : sm_Mem} (C : sm_C p s m args c code 4 "SnowMoneyLaw" A G) (hX : va_X b L xs s s.heap ∧ b < s.heap.size ∧ ¬ A b ∧ G.1 130 = b) (hL : L ≤ 3072) (hi : i + 6 ≤ L) (hcn : cnt ≤ i) (hf : kc ≤ room_1.cells ∧ ks ≤ room_1.slots) (hR : RR cnt μ) (kk : ∀ μ2, RR (cnt + 1) μ2 → sm_W p l e room_1 s m args below meth c A Q G 4 kc ks 1565 [] (lwLo i) μ2) : sm_W p l e room_1 s m args below meth c A Q G 4 kc ks 846 [] (lwLo i) μ := by
  refine sr_aload_n C 1 rfl rfl dL_846 ?_
  refine sr_aload_n C 0 rfl rfl dL_847 ?_
  refine sr_iload_n C 3 rfl rfl dL_848 ?_
  refine sr_iconst C (v := nI 1) dL_849 (by decide) ?_
  refine sr_iadd C dL_850 ?_
  refine sr_sld C hX (sm_si hi hL (j := 1) (by omega)) dL_851 ?_
  refine sr_callVI C [sm_I _] (P_X_worth l (T_worth cnt _ μ hR)) lok_36 sm_l0 rfl rfl rfl rfl ⟨Nat.le_of_ble_eq_true rfl, Nat.le_of_ble_eq_true rfl⟩ (Nat.le_of_ble_eq_true rfl) hf dL_852 (fun r1 μ1 h => ?_)
  refine sr_aload_n C 2 rfl rfl dL_855 ?_
  refine sr_aload_n C 0 rfl rfl dL_856 ?_
  refine sr_iload_n C 3 rfl rfl dL_857 ?_
  refine sr_iconst C (v := nI 1) dL_858 (by decide) ?_
  refine sr_iadd C dL_859 ?_
  refine sr_sld C hX (sm_si hi hL (j := 1) (by omega)) dL_860 ?_
  refine sr_callVI C [sm_I _] (P_M_worth l h) lok_37 sm_l61 rfl rfl rfl rfl ⟨Nat.le_of_ble_eq_true rfl, Nat.le_of_ble_eq_true rfl⟩ (Nat.le_of_ble_eq_true rfl) hf dL_861 (fun r2 μ2 h2 => ?_)
  refine sr_icmp_eq C (tgt := 1565) dL_864 (by decide) (fun _ => kk μ2 h2.2) (fun hne => absurd h2.1 hne)
set_option maxHeartbeats 4000000 in
set_option maxRecDepth 100000 in
theorem lc_keep {p : Program} {l : Launch} {e : Env} {s : State} {m : MethodId} {args : Array Value} {below : List Frame} {meth : Method} {c : Code} {A : Nat → Prop} {Q : State → Prop} {G : sm_G} {kc ks b L i cnt : Nat} {xs : Nat → Int32} {μ : sm_Mem} (C : sm_C p s m args c code 4 "SnowMoneyLaw" A G) (hX : va_X b L xs s s.heap ∧ b < s.heap.size ∧ ¬ A b ∧ G.1 130 = b) (hL : L ≤ 3072) (hi : i + 6 ≤ L) (hcn : cnt ≤ i) (hf : kc ≤ room_1.cells ∧ ks ≤ room_1.slots) (hR : RR cnt μ) (kk : ∀ μ2, RR (cnt + 1) μ2 → sm_W p l e room_1 s m args below meth c A Q G 4 kc ks 1565 [] (lwLo i) μ2) : sm_W p l e room_1 s m args below meth c A Q G 4 kc ks 869 [] (lwLo i) μ := by
  refine sr_aload_n C 1 rfl rfl dL_869 ?_
  refine sr_aload_n C 0 rfl rfl dL_870 ?_
  refine sr_iload_n C 3 rfl rfl dL_871 ?_
  refine sr_iconst C (v := nI 1) dL_872 (by decide) ?_
  refine sr_iadd C dL_873 ?_
  refine sr_sld C hX (sm_si hi hL (j := 1) (by omega)) dL_874 ?_
  refine sr_aload_n C 0 rfl rfl dL_875 ?_
  refine sr_iload_n C 3 rfl rfl dL_876 ?_
  refine sr_iconst C (v := nI 2) dL_877 (by decide) ?_
  refine sr_iadd C dL_878 ?_
  refine sr_sld C hX (sm_si hi hL (j := 2) (by omega)) dL_879 ?_
  refine sr_aload_n C 0 rfl rfl dL_880 ?_
  refine sr_iload_n C 3 rfl rfl dL_881 ?_
  refine sr_iconst C (v := nI 3) dL_882 (by decide) ?_
  refine sr_iadd C dL_883 ?_
  refine sr_sld C hX (sm_si hi hL (j := 3) (by omega)) dL_884 ?_
  refine sr_callVI C [sm_I _, sm_I _, sm_I _] (P_X_keep l (T_keep cnt _ _ _ μ hR)) lok_38 sm_l0 rfl rfl rfl rfl ⟨Nat.le_of_ble_eq_true rfl, Nat.le_of_ble_eq_true rfl⟩ (Nat.le_of_ble_eq_true rfl) hf dL_885 (fun r1 μ1 h => ?_)
  refine sr_aload_n C 2 rfl rfl dL_888 ?_
  refine sr_aload_n C 0 rfl rfl dL_889 ?_
  refine sr_iload_n C 3 rfl rfl dL_890 ?_
  refine sr_iconst C (v := nI 1) dL_891 (by decide) ?_
  refine sr_iadd C dL_892 ?_
  refine sr_sld C hX (sm_si hi hL (j := 1) (by omega)) dL_893 ?_
  refine sr_aload_n C 0 rfl rfl dL_894 ?_
  refine sr_iload_n C 3 rfl rfl dL_895 ?_
  refine sr_iconst C (v := nI 2) dL_896 (by decide) ?_
  refine sr_iadd C dL_897 ?_
  refine sr_sld C hX (sm_si hi hL (j := 2) (by omega)) dL_898 ?_
  refine sr_aload_n C 0 rfl rfl dL_899 ?_
  refine sr_iload_n C 3 rfl rfl dL_900 ?_
  refine sr_iconst C (v := nI 3) dL_901 (by decide) ?_
  refine sr_iadd C dL_902 ?_
  refine sr_sld C hX (sm_si hi hL (j := 3) (by omega)) dL_903 ?_
  refine sr_callVI C [sm_I _, sm_I _, sm_I _] (P_M_keep l h) lok_39 sm_l61 rfl rfl rfl rfl ⟨Nat.le_of_ble_eq_true rfl, Nat.le_of_ble_eq_true rfl⟩ (Nat.le_of_ble_eq_true rfl) hf dL_904 (fun r2 μ2 h2 => ?_)
  refine sr_icmp_eq C (tgt := 1565) dL_907 (by decide) (fun _ => kk μ2 h2.2) (fun hne => absurd h2.1 hne)
set_option maxHeartbeats 4000000 in
set_option maxRecDepth 100000 in
theorem lc_pay {p : Program} {l : Launch} {e : Env} {s : State} {m : MethodId} {args : Array Value} {below : List Frame} {meth : Method} {c : Code} {A : Nat → Prop} {Q : State → Prop} {G : sm_G} {kc ks b L i cnt : Nat} {xs : Nat → Int32} {μ : sm_Mem} (C : sm_C p s m args c code 4 "SnowMoneyLaw" A G) (hX : va_X b L xs s s.heap ∧ b < s.heap.size ∧ ¬ A b ∧ G.1 130 = b) (hL : L ≤ 3072) (hi : i + 6 ≤ L) (hcn : cnt ≤ i) (hf : kc ≤ room_1.cells ∧ ks ≤ room_1.slots) (hR : RR cnt μ) (kk : ∀ μ2, RR (cnt + 1) μ2 → sm_W p l e room_1 s m args below meth c A Q G 4 kc ks 1565 [] (lwLo i) μ2) : sm_W p l e room_1 s m args below meth c A Q G 4 kc ks 912 [] (lwLo i) μ := by
  refine sr_aload_n C 1 rfl rfl dL_912 ?_
  refine sr_aload_n C 0 rfl rfl dL_913 ?_
  refine sr_iload_n C 3 rfl rfl dL_914 ?_
  refine sr_iconst C (v := nI 1) dL_915 (by decide) ?_
  refine sr_iadd C dL_916 ?_
  refine sr_sld C hX (sm_si hi hL (j := 1) (by omega)) dL_917 ?_
  refine sr_aload_n C 0 rfl rfl dL_918 ?_
  refine sr_iload_n C 3 rfl rfl dL_919 ?_
  refine sr_iconst C (v := nI 2) dL_920 (by decide) ?_
  refine sr_iadd C dL_921 ?_
  refine sr_sld C hX (sm_si hi hL (j := 2) (by omega)) dL_922 ?_
  refine sr_aload_n C 0 rfl rfl dL_923 ?_
  refine sr_iload_n C 3 rfl rfl dL_924 ?_
  refine sr_iconst C (v := nI 3) dL_925 (by decide) ?_
  refine sr_iadd C dL_926 ?_
  refine sr_sld C hX (sm_si hi hL (j := 3) (by omega)) dL_927 ?_
  refine sr_callVI C [sm_I _, sm_I _, sm_I _] (P_X_pay l (T_pay cnt _ _ _ μ hR)) lok_40 sm_l0 rfl rfl rfl rfl ⟨Nat.le_of_ble_eq_true rfl, Nat.le_of_ble_eq_true rfl⟩ (Nat.le_of_ble_eq_true rfl) hf dL_928 (fun r1 μ1 h => ?_)
  refine sr_aload_n C 2 rfl rfl dL_931 ?_
  refine sr_aload_n C 0 rfl rfl dL_932 ?_
  refine sr_iload_n C 3 rfl rfl dL_933 ?_
  refine sr_iconst C (v := nI 1) dL_934 (by decide) ?_
  refine sr_iadd C dL_935 ?_
  refine sr_sld C hX (sm_si hi hL (j := 1) (by omega)) dL_936 ?_
  refine sr_aload_n C 0 rfl rfl dL_937 ?_
  refine sr_iload_n C 3 rfl rfl dL_938 ?_
  refine sr_iconst C (v := nI 2) dL_939 (by decide) ?_
  refine sr_iadd C dL_940 ?_
  refine sr_sld C hX (sm_si hi hL (j := 2) (by omega)) dL_941 ?_
  refine sr_aload_n C 0 rfl rfl dL_942 ?_
  refine sr_iload_n C 3 rfl rfl dL_943 ?_
  refine sr_iconst C (v := nI 3) dL_944 (by decide) ?_
  refine sr_iadd C dL_945 ?_
  refine sr_sld C hX (sm_si hi hL (j := 3) (by omega)) dL_946 ?_
  refine sr_callVI C [sm_I _, sm_I _, sm_I _] (P_M_pay l h) lok_41 sm_l61 rfl rfl rfl rfl ⟨Nat.le_of_ble_eq_true rfl, Nat.le_of_ble_eq_true rfl⟩ (Nat.le_of_ble_eq_true rfl) hf dL_947 (fun r2 μ2 h2 => ?_)
  refine sr_icmp_eq C (tgt := 1565) dL_950 (by decide) (fun _ => kk μ2 h2.2) (fun hne => absurd h2.1 hne)
set_option maxHeartbeats 4000000 in
set_option maxRecDepth 100000 in
theorem lc_lasts {p : Program} {l : Launch} {e : Env} {s : State} {m : MethodId} {args : Array Value} {below : List Frame} {meth : Method} {c : Code} {A : Nat → Prop} {Q : State → Prop} {G : sm_G} {kc ks b L i cnt : Nat} {xs : Nat → Int32} {μ : sm_Mem} (C : sm_C p s m args c code 4 "SnowMoneyLaw" A G) (hX : va_X b L xs s s.heap ∧ b < s.heap.size ∧ ¬ A b ∧ G.1 130 = b) (hL : L ≤ 3072) (hi : i + 6 ≤ L) (hcn : cnt ≤ i) (hf : kc ≤ room_1.cells ∧ ks ≤ room_1.slots) (hR : RR cnt μ) (kk : ∀ μ2, RR (cnt + 1) μ2 → sm_W p l e room_1 s m args below meth c A Q G 4 kc ks 1565 [] (lwLo i) μ2) : sm_W p l e room_1 s m args below meth c A Q G 4 kc ks 955 [] (lwLo i) μ := by
  refine sr_aload_n C 1 rfl rfl dL_955 ?_
  refine sr_aload_n C 0 rfl rfl dL_956 ?_
  refine sr_iload_n C 3 rfl rfl dL_957 ?_
  refine sr_iconst C (v := nI 1) dL_958 (by decide) ?_
  refine sr_iadd C dL_959 ?_
  refine sr_sld C hX (sm_si hi hL (j := 1) (by omega)) dL_960 ?_
  refine sr_aload_n C 0 rfl rfl dL_961 ?_
  refine sr_iload_n C 3 rfl rfl dL_962 ?_
  refine sr_iconst C (v := nI 2) dL_963 (by decide) ?_
  refine sr_iadd C dL_964 ?_
  refine sr_sld C hX (sm_si hi hL (j := 2) (by omega)) dL_965 ?_
  refine sr_callVI C [sm_I _, sm_I _] (P_X_lasts l (T_lasts cnt _ _ μ hR)) lok_42 sm_l0 rfl rfl rfl rfl ⟨Nat.le_of_ble_eq_true rfl, Nat.le_of_ble_eq_true rfl⟩ (Nat.le_of_ble_eq_true rfl) hf dL_966 (fun r1 μ1 h => ?_)
  refine sr_aload_n C 2 rfl rfl dL_969 ?_
  refine sr_aload_n C 0 rfl rfl dL_970 ?_
  refine sr_iload_n C 3 rfl rfl dL_971 ?_
  refine sr_iconst C (v := nI 1) dL_972 (by decide) ?_
  refine sr_iadd C dL_973 ?_
  refine sr_sld C hX (sm_si hi hL (j := 1) (by omega)) dL_974 ?_
  refine sr_aload_n C 0 rfl rfl dL_975 ?_
  refine sr_iload_n C 3 rfl rfl dL_976 ?_
  refine sr_iconst C (v := nI 2) dL_977 (by decide) ?_
  refine sr_iadd C dL_978 ?_
  refine sr_sld C hX (sm_si hi hL (j := 2) (by omega)) dL_979 ?_
  refine sr_callVI C [sm_I _, sm_I _] (P_M_lasts l h) lok_43 sm_l61 rfl rfl rfl rfl ⟨Nat.le_of_ble_eq_true rfl, Nat.le_of_ble_eq_true rfl⟩ (Nat.le_of_ble_eq_true rfl) hf dL_980 (fun r2 μ2 h2 => ?_)
  refine sr_icmp_eq C (tgt := 1565) dL_983 (by decide) (fun _ => kk μ2 h2.2) (fun hne => absurd h2.1 hne)
set_option maxHeartbeats 4000000 in
set_option maxRecDepth 100000 in
theorem lc_way {p : Program} {l : Launch} {e : Env} {s : State} {m : MethodId} {args : Array Value} {below : List Frame} {meth : Method} {c : Code} {A : Nat → Prop} {Q : State → Prop} {G : sm_G} {kc ks b L i cnt : Nat} {xs : Nat → Int32} {μ : sm_Mem} (C : sm_C p s m args c code 4 "SnowMoneyLaw" A G) (hX : va_X b L xs s s.heap ∧ b < s.heap.size ∧ ¬ A b ∧ G.1 130 = b) (hL : L ≤ 3072) (hi : i + 6 ≤ L) (hcn : cnt ≤ i) (hf : kc ≤ room_1.cells ∧ ks ≤ room_1.slots) (hR : RR cnt μ) (kk : ∀ μ2, RR (cnt + 1) μ2 → sm_W p l e room_1 s m args below meth c A Q G 4 kc ks 1565 [] (lwLo i) μ2) : sm_W p l e room_1 s m args below meth c A Q G 4 kc ks 988 [] (lwLo i) μ := by
  refine sr_aload_n C 1 rfl rfl dL_988 ?_
  refine sr_aload_n C 0 rfl rfl dL_989 ?_
  refine sr_iload_n C 3 rfl rfl dL_990 ?_
  refine sr_iconst C (v := nI 1) dL_991 (by decide) ?_
  refine sr_iadd C dL_992 ?_
  refine sr_sld C hX (sm_si hi hL (j := 1) (by omega)) dL_993 ?_
  refine sr_aload_n C 0 rfl rfl dL_994 ?_
  refine sr_iload_n C 3 rfl rfl dL_995 ?_
  refine sr_iconst C (v := nI 2) dL_996 (by decide) ?_
  refine sr_iadd C dL_997 ?_
  refine sr_sld C hX (sm_si hi hL (j := 2) (by omega)) dL_998 ?_
  refine sr_aload_n C 0 rfl rfl dL_999 ?_
  refine sr_iload_n C 3 rfl rfl dL_1000 ?_
  refine sr_iconst C (v := nI 3) dL_1001 (by decide) ?_
  refine sr_iadd C dL_1002 ?_
  refine sr_sld C hX (sm_si hi hL (j := 3) (by omega)) dL_1003 ?_
  refine sr_callVI C [sm_I _, sm_I _, sm_I _] (P_X_way l (T_way cnt _ _ _ μ hR)) lok_44 sm_l0 rfl rfl rfl rfl ⟨Nat.le_of_ble_eq_true rfl, Nat.le_of_ble_eq_true rfl⟩ (Nat.le_of_ble_eq_true rfl) hf dL_1004 (fun r1 μ1 h => ?_)
  refine sr_aload_n C 2 rfl rfl dL_1007 ?_
  refine sr_aload_n C 0 rfl rfl dL_1008 ?_
  refine sr_iload_n C 3 rfl rfl dL_1009 ?_
  refine sr_iconst C (v := nI 1) dL_1010 (by decide) ?_
  refine sr_iadd C dL_1011 ?_
  refine sr_sld C hX (sm_si hi hL (j := 1) (by omega)) dL_1012 ?_
  refine sr_aload_n C 0 rfl rfl dL_1013 ?_
  refine sr_iload_n C 3 rfl rfl dL_1014 ?_
  refine sr_iconst C (v := nI 2) dL_1015 (by decide) ?_
  refine sr_iadd C dL_1016 ?_
  refine sr_sld C hX (sm_si hi hL (j := 2) (by omega)) dL_1017 ?_
  refine sr_aload_n C 0 rfl rfl dL_1018 ?_
  refine sr_iload_n C 3 rfl rfl dL_1019 ?_
  refine sr_iconst C (v := nI 3) dL_1020 (by decide) ?_
  refine sr_iadd C dL_1021 ?_
  refine sr_sld C hX (sm_si hi hL (j := 3) (by omega)) dL_1022 ?_
  refine sr_callVI C [sm_I _, sm_I _, sm_I _] (P_M_way l h) lok_45 sm_l61 rfl rfl rfl rfl ⟨Nat.le_of_ble_eq_true rfl, Nat.le_of_ble_eq_true rfl⟩ (Nat.le_of_ble_eq_true rfl) hf dL_1023 (fun r2 μ2 h2 => ?_)
  refine sr_icmp_eq C (tgt := 1565) dL_1026 (by decide) (fun _ => kk μ2 h2.2) (fun hne => absurd h2.1 hne)
set_option maxHeartbeats 4000000 in
set_option maxRecDepth 100000 in
theorem lc_forgers {p : Program} {l : Launch} {e : Env} {s : State} {m : MethodId} {args : Array Value} {below : List Frame} {meth : Method} {c : Code} {A : Nat → Prop} {Q : State → Prop} {G : sm_G} {kc ks b L i cnt : Nat} {xs : Nat → Int32} {μ : sm_Mem} (C : sm_C p s m args c code 4 "SnowMoneyLaw" A G) (hX : va_X b L xs s s.heap ∧ b < s.heap.size ∧ ¬ A b ∧ G.1 130 = b) (hL : L ≤ 3072) (hi : i + 6 ≤ L) (hcn : cnt ≤ i) (hf : kc ≤ room_1.cells ∧ ks ≤ room_1.slots) (hR : RR cnt μ) (kk : ∀ μ2, RR (cnt + 1) μ2 → sm_W p l e room_1 s m args below meth c A Q G 4 kc ks 1565 [] (lwLo i) μ2) : sm_W p l e room_1 s m args below meth c A Q G 4 kc ks 1031 [] (lwLo i) μ := by
  refine sr_aload_n C 1 rfl rfl dL_1031 ?_
  refine sr_aload_n C 0 rfl rfl dL_1032 ?_
  refine sr_iload_n C 3 rfl rfl dL_1033 ?_
  refine sr_iconst C (v := nI 1) dL_1034 (by decide) ?_
  refine sr_iadd C dL_1035 ?_
  refine sr_sld C hX (sm_si hi hL (j := 1) (by omega)) dL_1036 ?_
  refine sr_aload_n C 0 rfl rfl dL_1037 ?_
  refine sr_iload_n C 3 rfl rfl dL_1038 ?_
  refine sr_iconst C (v := nI 2) dL_1039 (by decide) ?_
  refine sr_iadd C dL_1040 ?_
  refine sr_sld C hX (sm_si hi hL (j := 2) (by omega)) dL_1041 ?_
  refine sr_callVI C [sm_I _, sm_I _] (P_X_forgers l (T_forgers cnt _ _ μ hR)) lok_46 sm_l0 rfl rfl rfl rfl ⟨Nat.le_of_ble_eq_true rfl, Nat.le_of_ble_eq_true rfl⟩ (Nat.le_of_ble_eq_true rfl) hf dL_1042 (fun r1 μ1 h => ?_)
  refine sr_aload_n C 2 rfl rfl dL_1045 ?_
  refine sr_aload_n C 0 rfl rfl dL_1046 ?_
  refine sr_iload_n C 3 rfl rfl dL_1047 ?_
  refine sr_iconst C (v := nI 1) dL_1048 (by decide) ?_
  refine sr_iadd C dL_1049 ?_
  refine sr_sld C hX (sm_si hi hL (j := 1) (by omega)) dL_1050 ?_
  refine sr_aload_n C 0 rfl rfl dL_1051 ?_
  refine sr_iload_n C 3 rfl rfl dL_1052 ?_
  refine sr_iconst C (v := nI 2) dL_1053 (by decide) ?_
  refine sr_iadd C dL_1054 ?_
  refine sr_sld C hX (sm_si hi hL (j := 2) (by omega)) dL_1055 ?_
  refine sr_callVI C [sm_I _, sm_I _] (P_M_forgers l h) lok_47 sm_l61 rfl rfl rfl rfl ⟨Nat.le_of_ble_eq_true rfl, Nat.le_of_ble_eq_true rfl⟩ (Nat.le_of_ble_eq_true rfl) hf dL_1056 (fun r2 μ2 h2 => ?_)
  refine sr_icmp_eq C (tgt := 1565) dL_1059 (by decide) (fun _ => kk μ2 h2.2) (fun hne => absurd h2.1 hne)
set_option maxHeartbeats 4000000 in
set_option maxRecDepth 100000 in
theorem lc_richest {p : Program} {l : Launch} {e : Env} {s : State} {m : MethodId} {args : Array Value} {below : List Frame} {meth : Method} {c : Code} {A : Nat → Prop} {Q : State → Prop} {G : sm_G} {kc ks b L i cnt : Nat} {xs : Nat → Int32} {μ : sm_Mem} (C : sm_C p s m args c code 4 "SnowMoneyLaw" A G) (hX : va_X b L xs s s.heap ∧ b < s.heap.size ∧ ¬ A b ∧ G.1 130 = b) (hL : L ≤ 3072) (hi : i + 6 ≤ L) (hcn : cnt ≤ i) (hf : kc ≤ room_1.cells ∧ ks ≤ room_1.slots) (hR : RR cnt μ) (kk : ∀ μ2, RR (cnt + 1) μ2 → sm_W p l e room_1 s m args below meth c A Q G 4 kc ks 1565 [] (lwLo i) μ2) : sm_W p l e room_1 s m args below meth c A Q G 4 kc ks 1064 [] (lwLo i) μ := by
  refine sr_aload_n C 1 rfl rfl dL_1064 ?_
  refine sr_aload_n C 0 rfl rfl dL_1065 ?_
  refine sr_iload_n C 3 rfl rfl dL_1066 ?_
  refine sr_iconst C (v := nI 1) dL_1067 (by decide) ?_
  refine sr_iadd C dL_1068 ?_
  refine sr_sld C hX (sm_si hi hL (j := 1) (by omega)) dL_1069 ?_
  refine sr_aload_n C 0 rfl rfl dL_1070 ?_
  refine sr_iload_n C 3 rfl rfl dL_1071 ?_
  refine sr_iconst C (v := nI 2) dL_1072 (by decide) ?_
  refine sr_iadd C dL_1073 ?_
  refine sr_sld C hX (sm_si hi hL (j := 2) (by omega)) dL_1074 ?_
  refine sr_callVI C [sm_I _, sm_I _] (P_X_richest l (T_richest cnt _ _ μ hR)) lok_48 sm_l0 rfl rfl rfl rfl ⟨Nat.le_of_ble_eq_true rfl, Nat.le_of_ble_eq_true rfl⟩ (Nat.le_of_ble_eq_true rfl) hf dL_1075 (fun r1 μ1 h => ?_)
  refine sr_aload_n C 2 rfl rfl dL_1078 ?_
  refine sr_aload_n C 0 rfl rfl dL_1079 ?_
  refine sr_iload_n C 3 rfl rfl dL_1080 ?_
  refine sr_iconst C (v := nI 1) dL_1081 (by decide) ?_
  refine sr_iadd C dL_1082 ?_
  refine sr_sld C hX (sm_si hi hL (j := 1) (by omega)) dL_1083 ?_
  refine sr_aload_n C 0 rfl rfl dL_1084 ?_
  refine sr_iload_n C 3 rfl rfl dL_1085 ?_
  refine sr_iconst C (v := nI 2) dL_1086 (by decide) ?_
  refine sr_iadd C dL_1087 ?_
  refine sr_sld C hX (sm_si hi hL (j := 2) (by omega)) dL_1088 ?_
  refine sr_callVI C [sm_I _, sm_I _] (P_M_richest l h) lok_49 sm_l61 rfl rfl rfl rfl ⟨Nat.le_of_ble_eq_true rfl, Nat.le_of_ble_eq_true rfl⟩ (Nat.le_of_ble_eq_true rfl) hf dL_1089 (fun r2 μ2 h2 => ?_)
  refine sr_icmp_eq C (tgt := 1565) dL_1092 (by decide) (fun _ => kk μ2 h2.2) (fun hne => absurd h2.1 hne)
set_option maxHeartbeats 4000000 in
set_option maxRecDepth 100000 in
theorem lc_warmer {p : Program} {l : Launch} {e : Env} {s : State} {m : MethodId} {args : Array Value} {below : List Frame} {meth : Method} {c : Code} {A : Nat → Prop} {Q : State → Prop} {G : sm_G} {kc ks b L i cnt : Nat} {xs : Nat → Int32} {μ : sm_Mem} (C : sm_C p s m args c code 4 "SnowMoneyLaw" A G) (hX : va_X b L xs s s.heap ∧ b < s.heap.size ∧ ¬ A b ∧ G.1 130 = b) (hL : L ≤ 3072) (hi : i + 6 ≤ L) (hcn : cnt ≤ i) (hf : kc ≤ room_1.cells ∧ ks ≤ room_1.slots) (hR : RR cnt μ) (kk : ∀ μ2, RR (cnt + 1) μ2 → sm_W p l e room_1 s m args below meth c A Q G 4 kc ks 1565 [] (lwLo i) μ2) : sm_W p l e room_1 s m args below meth c A Q G 4 kc ks 1097 [] (lwLo i) μ := by
  refine sr_aload_n C 1 rfl rfl dL_1097 ?_
  refine sr_aload_n C 0 rfl rfl dL_1098 ?_
  refine sr_iload_n C 3 rfl rfl dL_1099 ?_
  refine sr_iconst C (v := nI 1) dL_1100 (by decide) ?_
  refine sr_iadd C dL_1101 ?_
  refine sr_sld C hX (sm_si hi hL (j := 1) (by omega)) dL_1102 ?_
  refine sr_aload_n C 0 rfl rfl dL_1103 ?_
  refine sr_iload_n C 3 rfl rfl dL_1104 ?_
  refine sr_iconst C (v := nI 2) dL_1105 (by decide) ?_
  refine sr_iadd C dL_1106 ?_
  refine sr_sld C hX (sm_si hi hL (j := 2) (by omega)) dL_1107 ?_
  refine sr_callVI C [sm_I _, sm_I _] (P_X_warmer l (T_warmer cnt _ _ μ hR)) lok_50 sm_l0 rfl rfl rfl rfl ⟨Nat.le_of_ble_eq_true rfl, Nat.le_of_ble_eq_true rfl⟩ (Nat.le_of_ble_eq_true rfl) hf dL_1108 (fun r1 μ1 h => ?_)
  refine sr_aload_n C 2 rfl rfl dL_1111 ?_
  refine sr_aload_n C 0 rfl rfl dL_1112 ?_
  refine sr_iload_n C 3 rfl rfl dL_1113 ?_
  refine sr_iconst C (v := nI 1) dL_1114 (by decide) ?_
  refine sr_iadd C dL_1115 ?_
  refine sr_sld C hX (sm_si hi hL (j := 1) (by omega)) dL_1116 ?_
  refine sr_aload_n C 0 rfl rfl dL_1117 ?_
  refine sr_iload_n C 3 rfl rfl dL_1118 ?_
  refine sr_iconst C (v := nI 2) dL_1119 (by decide) ?_
  refine sr_iadd C dL_1120 ?_
  refine sr_sld C hX (sm_si hi hL (j := 2) (by omega)) dL_1121 ?_
  refine sr_callVI C [sm_I _, sm_I _] (P_M_warmer l h) lok_51 sm_l61 rfl rfl rfl rfl ⟨Nat.le_of_ble_eq_true rfl, Nat.le_of_ble_eq_true rfl⟩ (Nat.le_of_ble_eq_true rfl) hf dL_1122 (fun r2 μ2 h2 => ?_)
  refine sr_icmp_eq C (tgt := 1565) dL_1125 (by decide) (fun _ => kk μ2 h2.2) (fun hne => absurd h2.1 hne)
set_option maxHeartbeats 4000000 in
set_option maxRecDepth 100000 in
theorem lc_odds {p : Program} {l : Launch} {e : Env} {s : State} {m : MethodId} {args : Array Value} {below : List Frame} {meth : Method} {c : Code} {A : Nat → Prop} {Q : State → Prop} {G : sm_G} {kc ks b L i cnt : Nat} {xs : Nat → Int32} {μ : sm_Mem} (C : sm_C p s m args c code 4 "SnowMoneyLaw" A G) (hX : va_X b L xs s s.heap ∧ b < s.heap.size ∧ ¬ A b ∧ G.1 130 = b) (hL : L ≤ 3072) (hi : i + 6 ≤ L) (hcn : cnt ≤ i) (hf : kc ≤ room_1.cells ∧ ks ≤ room_1.slots) (hR : RR cnt μ) (kk : ∀ μ2, RR (cnt + 1) μ2 → sm_W p l e room_1 s m args below meth c A Q G 4 kc ks 1565 [] (lwLo i) μ2) : sm_W p l e room_1 s m args below meth c A Q G 4 kc ks 1130 [] (lwLo i) μ := by
  refine sr_aload_n C 1 rfl rfl dL_1130 ?_
  refine sr_aload_n C 0 rfl rfl dL_1131 ?_
  refine sr_iload_n C 3 rfl rfl dL_1132 ?_
  refine sr_iconst C (v := nI 1) dL_1133 (by decide) ?_
  refine sr_iadd C dL_1134 ?_
  refine sr_sld C hX (sm_si hi hL (j := 1) (by omega)) dL_1135 ?_
  refine sr_aload_n C 0 rfl rfl dL_1136 ?_
  refine sr_iload_n C 3 rfl rfl dL_1137 ?_
  refine sr_iconst C (v := nI 2) dL_1138 (by decide) ?_
  refine sr_iadd C dL_1139 ?_
  refine sr_sld C hX (sm_si hi hL (j := 2) (by omega)) dL_1140 ?_
  refine sr_aload_n C 0 rfl rfl dL_1141 ?_
  refine sr_iload_n C 3 rfl rfl dL_1142 ?_
  refine sr_iconst C (v := nI 3) dL_1143 (by decide) ?_
  refine sr_iadd C dL_1144 ?_
  refine sr_sld C hX (sm_si hi hL (j := 3) (by omega)) dL_1145 ?_
  refine sr_callVI C [sm_I _, sm_I _, sm_I _] (P_X_odds l (T_odds cnt _ _ _ μ hR)) lok_52 sm_l0 rfl rfl rfl rfl ⟨Nat.le_of_ble_eq_true rfl, Nat.le_of_ble_eq_true rfl⟩ (Nat.le_of_ble_eq_true rfl) hf dL_1146 (fun r1 μ1 h => ?_)
  refine sr_aload_n C 2 rfl rfl dL_1149 ?_
  refine sr_aload_n C 0 rfl rfl dL_1150 ?_
  refine sr_iload_n C 3 rfl rfl dL_1151 ?_
  refine sr_iconst C (v := nI 1) dL_1152 (by decide) ?_
  refine sr_iadd C dL_1153 ?_
  refine sr_sld C hX (sm_si hi hL (j := 1) (by omega)) dL_1154 ?_
  refine sr_aload_n C 0 rfl rfl dL_1155 ?_
  refine sr_iload_n C 3 rfl rfl dL_1156 ?_
  refine sr_iconst C (v := nI 2) dL_1157 (by decide) ?_
  refine sr_iadd C dL_1158 ?_
  refine sr_sld C hX (sm_si hi hL (j := 2) (by omega)) dL_1159 ?_
  refine sr_aload_n C 0 rfl rfl dL_1160 ?_
  refine sr_iload_n C 3 rfl rfl dL_1161 ?_
  refine sr_iconst C (v := nI 3) dL_1162 (by decide) ?_
  refine sr_iadd C dL_1163 ?_
  refine sr_sld C hX (sm_si hi hL (j := 3) (by omega)) dL_1164 ?_
  refine sr_callVI C [sm_I _, sm_I _, sm_I _] (P_M_odds l h) lok_53 sm_l61 rfl rfl rfl rfl ⟨Nat.le_of_ble_eq_true rfl, Nat.le_of_ble_eq_true rfl⟩ (Nat.le_of_ble_eq_true rfl) hf dL_1165 (fun r2 μ2 h2 => ?_)
  refine sr_icmp_eq C (tgt := 1565) dL_1168 (by decide) (fun _ => kk μ2 h2.2) (fun hne => absurd h2.1 hne)
set_option maxHeartbeats 4000000 in
set_option maxRecDepth 100000 in
theorem lc_seed {p : Program} {l : Launch} {e : Env} {s : State} {m : MethodId} {args : Array Value} {below : List Frame} {meth : Method} {c : Code} {A : Nat → Prop} {Q : State → Prop} {G : sm_G} {kc ks b L i cnt : Nat} {xs : Nat → Int32} {μ : sm_Mem} (C : sm_C p s m args c code 4 "SnowMoneyLaw" A G) (hX : va_X b L xs s s.heap ∧ b < s.heap.size ∧ ¬ A b ∧ G.1 130 = b) (hL : L ≤ 3072) (hi : i + 6 ≤ L) (hcn : cnt ≤ i) (hf : kc ≤ room_1.cells ∧ ks ≤ room_1.slots) (hR : RR cnt μ) (kk : ∀ μ2, RR (cnt + 1) μ2 → sm_W p l e room_1 s m args below meth c A Q G 4 kc ks 1565 [] (lwLo i) μ2) : sm_W p l e room_1 s m args below meth c A Q G 4 kc ks 1173 [] (lwLo i) μ := by
  refine sr_aload_n C 1 rfl rfl dL_1173 ?_
  refine sr_aload_n C 0 rfl rfl dL_1174 ?_
  refine sr_iload_n C 3 rfl rfl dL_1175 ?_
  refine sr_iconst C (v := nI 1) dL_1176 (by decide) ?_
  refine sr_iadd C dL_1177 ?_
  refine sr_sld C hX (sm_si hi hL (j := 1) (by omega)) dL_1178 ?_
  refine sr_callVI C [sm_I _] (P_X_seed l (T_seed cnt _ μ hR)) lok_54 sm_l0 rfl rfl rfl rfl ⟨Nat.le_of_ble_eq_true rfl, Nat.le_of_ble_eq_true rfl⟩ (Nat.le_of_ble_eq_true rfl) hf dL_1179 (fun r1 μ1 h => ?_)
  refine sr_aload_n C 2 rfl rfl dL_1182 ?_
  refine sr_aload_n C 0 rfl rfl dL_1183 ?_
  refine sr_iload_n C 3 rfl rfl dL_1184 ?_
  refine sr_iconst C (v := nI 1) dL_1185 (by decide) ?_
  refine sr_iadd C dL_1186 ?_
  refine sr_sld C hX (sm_si hi hL (j := 1) (by omega)) dL_1187 ?_
  refine sr_callVI C [sm_I _] (P_M_seed l h) lok_55 sm_l61 rfl rfl rfl rfl ⟨Nat.le_of_ble_eq_true rfl, Nat.le_of_ble_eq_true rfl⟩ (Nat.le_of_ble_eq_true rfl) hf dL_1188 (fun r2 μ2 h2 => ?_)
  refine sr_icmp_eq C (tgt := 1565) dL_1191 (by decide) (fun _ => kk μ2 h2.2) (fun hne => absurd h2.1 hne)
set_option maxHeartbeats 4000000 in
set_option maxRecDepth 100000 in
theorem lc_voice {p : Program} {l : Launch} {e : Env} {s : State} {m : MethodId} {args : Array Value} {below : List Frame} {meth : Method} {c : Code} {A : Nat → Prop} {Q : State → Prop} {G : sm_G} {kc ks b L i cnt : Nat} {xs : Nat → Int32} {μ : sm_Mem} (C : sm_C p s m args c code 4 "SnowMoneyLaw" A G) (hX : va_X b L xs s s.heap ∧ b < s.heap.size ∧ ¬ A b ∧ G.1 130 = b) (hL : L ≤ 3072) (hi : i + 6 ≤ L) (hcn : cnt ≤ i) (hf : kc ≤ room_1.cells ∧ ks ≤ room_1.slots) (hR : RR cnt μ) (kk : ∀ μ2, RR (cnt + 1) μ2 → sm_W p l e room_1 s m args below meth c A Q G 4 kc ks 1565 [] (lwLo i) μ2) : sm_W p l e room_1 s m args below meth c A Q G 4 kc ks 1196 [] (lwLo i) μ := by
  refine sr_aload_n C 1 rfl rfl dL_1196 ?_
  refine sr_aload_n C 0 rfl rfl dL_1197 ?_
  refine sr_iload_n C 3 rfl rfl dL_1198 ?_
  refine sr_iconst C (v := nI 1) dL_1199 (by decide) ?_
  refine sr_iadd C dL_1200 ?_
  refine sr_sld C hX (sm_si hi hL (j := 1) (by omega)) dL_1201 ?_
  refine sr_aload_n C 0 rfl rfl dL_1202 ?_
  refine sr_iload_n C 3 rfl rfl dL_1203 ?_
  refine sr_iconst C (v := nI 2) dL_1204 (by decide) ?_
  refine sr_iadd C dL_1205 ?_
  refine sr_sld C hX (sm_si hi hL (j := 2) (by omega)) dL_1206 ?_
  refine sr_aload_n C 0 rfl rfl dL_1207 ?_
  refine sr_iload_n C 3 rfl rfl dL_1208 ?_
  refine sr_iconst C (v := nI 3) dL_1209 (by decide) ?_
  refine sr_iadd C dL_1210 ?_
  refine sr_sld C hX (sm_si hi hL (j := 3) (by omega)) dL_1211 ?_
  refine sr_callVI C [sm_I _, sm_I _, sm_I _] (P_X_voice l (T_voice cnt _ _ _ μ hR)) lok_56 sm_l0 rfl rfl rfl rfl ⟨Nat.le_of_ble_eq_true rfl, Nat.le_of_ble_eq_true rfl⟩ (Nat.le_of_ble_eq_true rfl) hf dL_1212 (fun r1 μ1 h => ?_)
  refine sr_aload_n C 2 rfl rfl dL_1215 ?_
  refine sr_aload_n C 0 rfl rfl dL_1216 ?_
  refine sr_iload_n C 3 rfl rfl dL_1217 ?_
  refine sr_iconst C (v := nI 1) dL_1218 (by decide) ?_
  refine sr_iadd C dL_1219 ?_
  refine sr_sld C hX (sm_si hi hL (j := 1) (by omega)) dL_1220 ?_
  refine sr_aload_n C 0 rfl rfl dL_1221 ?_
  refine sr_iload_n C 3 rfl rfl dL_1222 ?_
  refine sr_iconst C (v := nI 2) dL_1223 (by decide) ?_
  refine sr_iadd C dL_1224 ?_
  refine sr_sld C hX (sm_si hi hL (j := 2) (by omega)) dL_1225 ?_
  refine sr_aload_n C 0 rfl rfl dL_1226 ?_
  refine sr_iload_n C 3 rfl rfl dL_1227 ?_
  refine sr_iconst C (v := nI 3) dL_1228 (by decide) ?_
  refine sr_iadd C dL_1229 ?_
  refine sr_sld C hX (sm_si hi hL (j := 3) (by omega)) dL_1230 ?_
  refine sr_callVI C [sm_I _, sm_I _, sm_I _] (P_M_voice l h) lok_57 sm_l61 rfl rfl rfl rfl ⟨Nat.le_of_ble_eq_true rfl, Nat.le_of_ble_eq_true rfl⟩ (Nat.le_of_ble_eq_true rfl) hf dL_1231 (fun r2 μ2 h2 => ?_)
  refine sr_icmp_eq C (tgt := 1565) dL_1234 (by decide) (fun _ => kk μ2 h2.2) (fun hne => absurd h2.1 hne)
set_option maxHeartbeats 4000000 in
set_option maxRecDepth 100000 in
theorem lc_trace {p : Program} {l : Launch} {e : Env} {s : State} {m : MethodId} {args : Array Value} {below : List Frame} {meth : Method} {c : Code} {A : Nat → Prop} {Q : State → Prop} {G : sm_G} {kc ks b L i cnt : Nat} {xs : Nat → Int32} {μ : sm_Mem} (C : sm_C p s m args c code 4 "SnowMoneyLaw" A G) (hX : va_X b L xs s s.heap ∧ b < s.heap.size ∧ ¬ A b ∧ G.1 130 = b) (hL : L ≤ 3072) (hi : i + 6 ≤ L) (hcn : cnt ≤ i) (hf : kc ≤ room_1.cells ∧ ks ≤ room_1.slots) (hR : RR cnt μ) (kk : ∀ μ2, RR (cnt + 1) μ2 → sm_W p l e room_1 s m args below meth c A Q G 4 kc ks 1565 [] (lwLo i) μ2) : sm_W p l e room_1 s m args below meth c A Q G 4 kc ks 1239 [] (lwLo i) μ := by
  refine sr_aload_n C 1 rfl rfl dL_1239 ?_
  refine sr_aload_n C 0 rfl rfl dL_1240 ?_
  refine sr_iload_n C 3 rfl rfl dL_1241 ?_
  refine sr_iconst C (v := nI 1) dL_1242 (by decide) ?_
  refine sr_iadd C dL_1243 ?_
  refine sr_sld C hX (sm_si hi hL (j := 1) (by omega)) dL_1244 ?_
  refine sr_callVI C [sm_I _] (P_X_trace l (T_trace cnt _ μ hR)) lok_58 sm_l0 rfl rfl rfl rfl ⟨Nat.le_of_ble_eq_true rfl, Nat.le_of_ble_eq_true rfl⟩ (Nat.le_of_ble_eq_true rfl) hf dL_1245 (fun r1 μ1 h => ?_)
  refine sr_aload_n C 2 rfl rfl dL_1248 ?_
  refine sr_aload_n C 0 rfl rfl dL_1249 ?_
  refine sr_iload_n C 3 rfl rfl dL_1250 ?_
  refine sr_iconst C (v := nI 1) dL_1251 (by decide) ?_
  refine sr_iadd C dL_1252 ?_
  refine sr_sld C hX (sm_si hi hL (j := 1) (by omega)) dL_1253 ?_
  refine sr_callVI C [sm_I _] (P_M_trace l h) lok_59 sm_l61 rfl rfl rfl rfl ⟨Nat.le_of_ble_eq_true rfl, Nat.le_of_ble_eq_true rfl⟩ (Nat.le_of_ble_eq_true rfl) hf dL_1254 (fun r2 μ2 h2 => ?_)
  refine sr_icmp_eq C (tgt := 1565) dL_1257 (by decide) (fun _ => kk μ2 h2.2) (fun hne => absurd h2.1 hne)
set_option maxHeartbeats 4000000 in
set_option maxRecDepth 100000 in
theorem lc_sheet {p : Program} {l : Launch} {e : Env} {s : State} {m : MethodId} {args : Array Value} {below : List Frame} {meth : Method} {c : Code} {A : Nat → Prop} {Q : State → Prop} {G : sm_G} {kc ks b L i cnt : Nat} {xs : Nat → Int32} {μ : sm_Mem} (C : sm_C p s m args c code 4 "SnowMoneyLaw" A G) (hX : va_X b L xs s s.heap ∧ b < s.heap.size ∧ ¬ A b ∧ G.1 130 = b) (hL : L ≤ 3072) (hi : i + 6 ≤ L) (hcn : cnt ≤ i) (hf : kc ≤ room_1.cells ∧ ks ≤ room_1.slots) (hR : RR cnt μ) (kk : ∀ μ2, RR (cnt + 1) μ2 → sm_W p l e room_1 s m args below meth c A Q G 4 kc ks 1565 [] (lwLo i) μ2) : sm_W p l e room_1 s m args below meth c A Q G 4 kc ks 1262 [] (lwLo i) μ := by
  refine sr_aload_n C 1 rfl rfl dL_1262 ?_
  refine sr_aload_n C 0 rfl rfl dL_1263 ?_
  refine sr_iload_n C 3 rfl rfl dL_1264 ?_
  refine sr_iconst C (v := nI 1) dL_1265 (by decide) ?_
  refine sr_iadd C dL_1266 ?_
  refine sr_sld C hX (sm_si hi hL (j := 1) (by omega)) dL_1267 ?_
  refine sr_aload_n C 0 rfl rfl dL_1268 ?_
  refine sr_iload_n C 3 rfl rfl dL_1269 ?_
  refine sr_iconst C (v := nI 2) dL_1270 (by decide) ?_
  refine sr_iadd C dL_1271 ?_
  refine sr_sld C hX (sm_si hi hL (j := 2) (by omega)) dL_1272 ?_
  refine sr_aload_n C 0 rfl rfl dL_1273 ?_
  refine sr_iload_n C 3 rfl rfl dL_1274 ?_
  refine sr_iconst C (v := nI 3) dL_1275 (by decide) ?_
  refine sr_iadd C dL_1276 ?_
  refine sr_sld C hX (sm_si hi hL (j := 3) (by omega)) dL_1277 ?_
  refine sr_callVI C [sm_I _, sm_I _, sm_I _] (P_X_sheet l (T_sheet cnt _ _ _ μ hR)) lok_60 sm_l0 rfl rfl rfl rfl ⟨Nat.le_of_ble_eq_true rfl, Nat.le_of_ble_eq_true rfl⟩ (Nat.le_of_ble_eq_true rfl) hf dL_1278 (fun r1 μ1 h => ?_)
  refine sr_aload_n C 2 rfl rfl dL_1281 ?_
  refine sr_aload_n C 0 rfl rfl dL_1282 ?_
  refine sr_iload_n C 3 rfl rfl dL_1283 ?_
  refine sr_iconst C (v := nI 1) dL_1284 (by decide) ?_
  refine sr_iadd C dL_1285 ?_
  refine sr_sld C hX (sm_si hi hL (j := 1) (by omega)) dL_1286 ?_
  refine sr_aload_n C 0 rfl rfl dL_1287 ?_
  refine sr_iload_n C 3 rfl rfl dL_1288 ?_
  refine sr_iconst C (v := nI 2) dL_1289 (by decide) ?_
  refine sr_iadd C dL_1290 ?_
  refine sr_sld C hX (sm_si hi hL (j := 2) (by omega)) dL_1291 ?_
  refine sr_aload_n C 0 rfl rfl dL_1292 ?_
  refine sr_iload_n C 3 rfl rfl dL_1293 ?_
  refine sr_iconst C (v := nI 3) dL_1294 (by decide) ?_
  refine sr_iadd C dL_1295 ?_
  refine sr_sld C hX (sm_si hi hL (j := 3) (by omega)) dL_1296 ?_
  refine sr_callVI C [sm_I _, sm_I _, sm_I _] (P_M_sheet l h) lok_61 sm_l61 rfl rfl rfl rfl ⟨Nat.le_of_ble_eq_true rfl, Nat.le_of_ble_eq_true rfl⟩ (Nat.le_of_ble_eq_true rfl) hf dL_1297 (fun r2 μ2 h2 => ?_)
  refine sr_icmp_eq C (tgt := 1565) dL_1300 (by decide) (fun _ => kk μ2 h2.2) (fun hne => absurd h2.1 hne)
set_option maxHeartbeats 4000000 in
set_option maxRecDepth 100000 in
theorem lc_put {p : Program} {l : Launch} {e : Env} {s : State} {m : MethodId} {args : Array Value} {below : List Frame} {meth : Method} {c : Code} {A : Nat → Prop} {Q : State → Prop} {G : sm_G} {kc ks b L i cnt : Nat} {xs : Nat → Int32} {μ : sm_Mem} (C : sm_C p s m args c code 4 "SnowMoneyLaw" A G) (hX : va_X b L xs s s.heap ∧ b < s.heap.size ∧ ¬ A b ∧ G.1 130 = b) (hL : L ≤ 3072) (hi : i + 6 ≤ L) (hcn : cnt ≤ i) (hf : kc ≤ room_1.cells ∧ ks ≤ room_1.slots) (hR : RR cnt μ) (kk : ∀ μ2, RR (cnt + 1) μ2 → sm_W p l e room_1 s m args below meth c A Q G 4 kc ks 1565 [] (lwLo i) μ2) : sm_W p l e room_1 s m args below meth c A Q G 4 kc ks 1305 [] (lwLo i) μ := by
  refine sr_aload_n C 1 rfl rfl dL_1305 ?_
  refine sr_aload_n C 0 rfl rfl dL_1306 ?_
  refine sr_iload_n C 3 rfl rfl dL_1307 ?_
  refine sr_iconst C (v := nI 1) dL_1308 (by decide) ?_
  refine sr_iadd C dL_1309 ?_
  refine sr_sld C hX (sm_si hi hL (j := 1) (by omega)) dL_1310 ?_
  refine sr_aload_n C 0 rfl rfl dL_1311 ?_
  refine sr_iload_n C 3 rfl rfl dL_1312 ?_
  refine sr_iconst C (v := nI 2) dL_1313 (by decide) ?_
  refine sr_iadd C dL_1314 ?_
  refine sr_sld C hX (sm_si hi hL (j := 2) (by omega)) dL_1315 ?_
  refine sr_aload_n C 0 rfl rfl dL_1316 ?_
  refine sr_iload_n C 3 rfl rfl dL_1317 ?_
  refine sr_iconst C (v := nI 3) dL_1318 (by decide) ?_
  refine sr_iadd C dL_1319 ?_
  refine sr_sld C hX (sm_si hi hL (j := 3) (by omega)) dL_1320 ?_
  refine sr_callVI C [sm_I _, sm_I _, sm_I _] (P_X_put l (T_put cnt _ _ _ μ hR)) lok_62 sm_l0 rfl rfl rfl rfl ⟨Nat.le_of_ble_eq_true rfl, Nat.le_of_ble_eq_true rfl⟩ (Nat.le_of_ble_eq_true rfl) hf dL_1321 (fun r1 μ1 h => ?_)
  refine sr_aload_n C 2 rfl rfl dL_1324 ?_
  refine sr_aload_n C 0 rfl rfl dL_1325 ?_
  refine sr_iload_n C 3 rfl rfl dL_1326 ?_
  refine sr_iconst C (v := nI 1) dL_1327 (by decide) ?_
  refine sr_iadd C dL_1328 ?_
  refine sr_sld C hX (sm_si hi hL (j := 1) (by omega)) dL_1329 ?_
  refine sr_aload_n C 0 rfl rfl dL_1330 ?_
  refine sr_iload_n C 3 rfl rfl dL_1331 ?_
  refine sr_iconst C (v := nI 2) dL_1332 (by decide) ?_
  refine sr_iadd C dL_1333 ?_
  refine sr_sld C hX (sm_si hi hL (j := 2) (by omega)) dL_1334 ?_
  refine sr_aload_n C 0 rfl rfl dL_1335 ?_
  refine sr_iload_n C 3 rfl rfl dL_1336 ?_
  refine sr_iconst C (v := nI 3) dL_1337 (by decide) ?_
  refine sr_iadd C dL_1338 ?_
  refine sr_sld C hX (sm_si hi hL (j := 3) (by omega)) dL_1339 ?_
  refine sr_callVI C [sm_I _, sm_I _, sm_I _] (P_M_put l h) lok_63 sm_l61 rfl rfl rfl rfl ⟨Nat.le_of_ble_eq_true rfl, Nat.le_of_ble_eq_true rfl⟩ (Nat.le_of_ble_eq_true rfl) hf dL_1340 (fun r2 μ2 h2 => ?_)
  refine sr_icmp_eq C (tgt := 1565) dL_1343 (by decide) (fun _ => kk μ2 h2.2) (fun hne => absurd h2.1 hne)
set_option maxHeartbeats 4000000 in
set_option maxRecDepth 100000 in
theorem lc_move {p : Program} {l : Launch} {e : Env} {s : State} {m : MethodId} {args : Array Value} {below : List Frame} {meth : Method} {c : Code} {A : Nat → Prop} {Q : State → Prop} {G : sm_G} {kc ks b L i cnt : Nat} {xs : Nat → Int32} {μ : sm_Mem} (C : sm_C p s m args c code 4 "SnowMoneyLaw" A G) (hX : va_X b L xs s s.heap ∧ b < s.heap.size ∧ ¬ A b ∧ G.1 130 = b) (hL : L ≤ 3072) (hi : i + 6 ≤ L) (hcn : cnt ≤ i) (hf : kc ≤ room_1.cells ∧ ks ≤ room_1.slots) (hR : RR cnt μ) (kk : ∀ μ2, RR (cnt + 1) μ2 → sm_W p l e room_1 s m args below meth c A Q G 4 kc ks 1565 [] (lwLo i) μ2) : sm_W p l e room_1 s m args below meth c A Q G 4 kc ks 1348 [] (lwLo i) μ := by
  refine sr_aload_n C 1 rfl rfl dL_1348 ?_
  refine sr_aload_n C 0 rfl rfl dL_1349 ?_
  refine sr_iload_n C 3 rfl rfl dL_1350 ?_
  refine sr_iconst C (v := nI 1) dL_1351 (by decide) ?_
  refine sr_iadd C dL_1352 ?_
  refine sr_sld C hX (sm_si hi hL (j := 1) (by omega)) dL_1353 ?_
  refine sr_aload_n C 0 rfl rfl dL_1354 ?_
  refine sr_iload_n C 3 rfl rfl dL_1355 ?_
  refine sr_iconst C (v := nI 2) dL_1356 (by decide) ?_
  refine sr_iadd C dL_1357 ?_
  refine sr_sld C hX (sm_si hi hL (j := 2) (by omega)) dL_1358 ?_
  refine sr_aload_n C 0 rfl rfl dL_1359 ?_
  refine sr_iload_n C 3 rfl rfl dL_1360 ?_
  refine sr_iconst C (v := nI 3) dL_1361 (by decide) ?_
  refine sr_iadd C dL_1362 ?_
  refine sr_sld C hX (sm_si hi hL (j := 3) (by omega)) dL_1363 ?_
  refine sr_aload_n C 0 rfl rfl dL_1364 ?_
  refine sr_iload_n C 3 rfl rfl dL_1365 ?_
  refine sr_iconst C (v := nI 4) dL_1366 (by decide) ?_
  refine sr_iadd C dL_1367 ?_
  refine sr_sld C hX (sm_si hi hL (j := 4) (by omega)) dL_1368 ?_
  refine sr_aload_n C 0 rfl rfl dL_1369 ?_
  refine sr_iload_n C 3 rfl rfl dL_1370 ?_
  refine sr_iconst C (v := nI 5) dL_1371 (by decide) ?_
  refine sr_iadd C dL_1372 ?_
  refine sr_sld C hX (sm_si hi hL (j := 5) (by omega)) dL_1373 ?_
  refine sr_callVI C [sm_I _, sm_I _, sm_I _, sm_I _, sm_I _] (P_X_move l (T_move cnt _ _ _ _ _ μ hR)) lok_64 sm_l0 rfl rfl rfl rfl ⟨Nat.le_of_ble_eq_true rfl, Nat.le_of_ble_eq_true rfl⟩ (Nat.le_of_ble_eq_true rfl) hf dL_1374 (fun r1 μ1 h => ?_)
  refine sr_aload_n C 2 rfl rfl dL_1377 ?_
  refine sr_aload_n C 0 rfl rfl dL_1378 ?_
  refine sr_iload_n C 3 rfl rfl dL_1379 ?_
  refine sr_iconst C (v := nI 1) dL_1380 (by decide) ?_
  refine sr_iadd C dL_1381 ?_
  refine sr_sld C hX (sm_si hi hL (j := 1) (by omega)) dL_1382 ?_
  refine sr_aload_n C 0 rfl rfl dL_1383 ?_
  refine sr_iload_n C 3 rfl rfl dL_1384 ?_
  refine sr_iconst C (v := nI 2) dL_1385 (by decide) ?_
  refine sr_iadd C dL_1386 ?_
  refine sr_sld C hX (sm_si hi hL (j := 2) (by omega)) dL_1387 ?_
  refine sr_aload_n C 0 rfl rfl dL_1388 ?_
  refine sr_iload_n C 3 rfl rfl dL_1389 ?_
  refine sr_iconst C (v := nI 3) dL_1390 (by decide) ?_
  refine sr_iadd C dL_1391 ?_
  refine sr_sld C hX (sm_si hi hL (j := 3) (by omega)) dL_1392 ?_
  refine sr_aload_n C 0 rfl rfl dL_1393 ?_
  refine sr_iload_n C 3 rfl rfl dL_1394 ?_
  refine sr_iconst C (v := nI 4) dL_1395 (by decide) ?_
  refine sr_iadd C dL_1396 ?_
  refine sr_sld C hX (sm_si hi hL (j := 4) (by omega)) dL_1397 ?_
  refine sr_aload_n C 0 rfl rfl dL_1398 ?_
  refine sr_iload_n C 3 rfl rfl dL_1399 ?_
  refine sr_iconst C (v := nI 5) dL_1400 (by decide) ?_
  refine sr_iadd C dL_1401 ?_
  refine sr_sld C hX (sm_si hi hL (j := 5) (by omega)) dL_1402 ?_
  refine sr_callVI C [sm_I _, sm_I _, sm_I _, sm_I _, sm_I _] (P_M_move l h) lok_65 sm_l61 rfl rfl rfl rfl ⟨Nat.le_of_ble_eq_true rfl, Nat.le_of_ble_eq_true rfl⟩ (Nat.le_of_ble_eq_true rfl) hf dL_1403 (fun r2 μ2 h2 => ?_)
  refine sr_icmp_eq C (tgt := 1565) dL_1406 (by decide) (fun _ => kk μ2 h2.2) (fun hne => absurd h2.1 hne)
set_option maxHeartbeats 4000000 in
set_option maxRecDepth 100000 in
theorem lc_snows {p : Program} {l : Launch} {e : Env} {s : State} {m : MethodId} {args : Array Value} {below : List Frame} {meth : Method} {c : Code} {A : Nat → Prop} {Q : State → Prop} {G : sm_G} {kc ks b L i cnt : Nat} {xs : Nat → Int32} {μ : sm_Mem} (C : sm_C p s m args c code 4 "SnowMoneyLaw" A G) (hX : va_X b L xs s s.heap ∧ b < s.heap.size ∧ ¬ A b ∧ G.1 130 = b) (hL : L ≤ 3072) (hi : i + 6 ≤ L) (hcn : cnt ≤ i) (hf : kc ≤ room_1.cells ∧ ks ≤ room_1.slots) (hR : RR cnt μ) (kk : ∀ μ2, RR (cnt + 1) μ2 → sm_W p l e room_1 s m args below meth c A Q G 4 kc ks 1565 [] (lwLo i) μ2) : sm_W p l e room_1 s m args below meth c A Q G 4 kc ks 1411 [] (lwLo i) μ := by
  refine sr_aload_n C 1 rfl rfl dL_1411 ?_
  refine sr_aload_n C 0 rfl rfl dL_1412 ?_
  refine sr_iload_n C 3 rfl rfl dL_1413 ?_
  refine sr_iconst C (v := nI 1) dL_1414 (by decide) ?_
  refine sr_iadd C dL_1415 ?_
  refine sr_sld C hX (sm_si hi hL (j := 1) (by omega)) dL_1416 ?_
  refine sr_callVI C [sm_I _] (P_X_snows l (T_snows cnt _ μ hR)) lok_66 sm_l0 rfl rfl rfl rfl ⟨Nat.le_of_ble_eq_true rfl, Nat.le_of_ble_eq_true rfl⟩ (Nat.le_of_ble_eq_true rfl) hf dL_1417 (fun r1 μ1 h => ?_)
  refine sr_aload_n C 2 rfl rfl dL_1420 ?_
  refine sr_aload_n C 0 rfl rfl dL_1421 ?_
  refine sr_iload_n C 3 rfl rfl dL_1422 ?_
  refine sr_iconst C (v := nI 1) dL_1423 (by decide) ?_
  refine sr_iadd C dL_1424 ?_
  refine sr_sld C hX (sm_si hi hL (j := 1) (by omega)) dL_1425 ?_
  refine sr_callVI C [sm_I _] (P_M_snows l h) lok_67 sm_l61 rfl rfl rfl rfl ⟨Nat.le_of_ble_eq_true rfl, Nat.le_of_ble_eq_true rfl⟩ (Nat.le_of_ble_eq_true rfl) hf dL_1426 (fun r2 μ2 h2 => ?_)
  refine sr_icmp_eq C (tgt := 1565) dL_1429 (by decide) (fun _ => kk μ2 h2.2) (fun hne => absurd h2.1 hne)
set_option maxHeartbeats 4000000 in
set_option maxRecDepth 100000 in
theorem lc_judge {p : Program} {l : Launch} {e : Env} {s : State} {m : MethodId} {args : Array Value} {below : List Frame} {meth : Method} {c : Code} {A : Nat → Prop} {Q : State → Prop} {G : sm_G} {kc ks b L i cnt : Nat} {xs : Nat → Int32} {μ : sm_Mem} (C : sm_C p s m args c code 4 "SnowMoneyLaw" A G) (hX : va_X b L xs s s.heap ∧ b < s.heap.size ∧ ¬ A b ∧ G.1 130 = b) (hL : L ≤ 3072) (hi : i + 6 ≤ L) (hcn : cnt ≤ i) (hf : kc ≤ room_1.cells ∧ ks ≤ room_1.slots) (hR : RR cnt μ) (kk : ∀ μ2, RR (cnt + 1) μ2 → sm_W p l e room_1 s m args below meth c A Q G 4 kc ks 1565 [] (lwLo i) μ2) : sm_W p l e room_1 s m args below meth c A Q G 4 kc ks 1434 [] (lwLo i) μ := by
  refine sr_aload_n C 1 rfl rfl dL_1434 ?_
  refine sr_aload_n C 0 rfl rfl dL_1435 ?_
  refine sr_iload_n C 3 rfl rfl dL_1436 ?_
  refine sr_iconst C (v := nI 1) dL_1437 (by decide) ?_
  refine sr_iadd C dL_1438 ?_
  refine sr_sld C hX (sm_si hi hL (j := 1) (by omega)) dL_1439 ?_
  refine sr_callVI C [sm_I _] (P_X_judge l (T_judge cnt _ μ hR)) lok_68 sm_l0 rfl rfl rfl rfl ⟨Nat.le_of_ble_eq_true rfl, Nat.le_of_ble_eq_true rfl⟩ (Nat.le_of_ble_eq_true rfl) hf dL_1440 (fun r1 μ1 h => ?_)
  refine sr_aload_n C 2 rfl rfl dL_1443 ?_
  refine sr_aload_n C 0 rfl rfl dL_1444 ?_
  refine sr_iload_n C 3 rfl rfl dL_1445 ?_
  refine sr_iconst C (v := nI 1) dL_1446 (by decide) ?_
  refine sr_iadd C dL_1447 ?_
  refine sr_sld C hX (sm_si hi hL (j := 1) (by omega)) dL_1448 ?_
  refine sr_callVI C [sm_I _] (P_M_judge l h) lok_69 sm_l61 rfl rfl rfl rfl ⟨Nat.le_of_ble_eq_true rfl, Nat.le_of_ble_eq_true rfl⟩ (Nat.le_of_ble_eq_true rfl) hf dL_1449 (fun r2 μ2 h2 => ?_)
  refine sr_icmp_eq C (tgt := 1565) dL_1452 (by decide) (fun _ => kk μ2 h2.2) (fun hne => absurd h2.1 hne)
set_option maxHeartbeats 4000000 in
set_option maxRecDepth 100000 in
theorem lc_image {p : Program} {l : Launch} {e : Env} {s : State} {m : MethodId} {args : Array Value} {below : List Frame} {meth : Method} {c : Code} {A : Nat → Prop} {Q : State → Prop} {G : sm_G} {kc ks b L i cnt : Nat} {xs : Nat → Int32} {μ : sm_Mem} (C : sm_C p s m args c code 4 "SnowMoneyLaw" A G) (hX : va_X b L xs s s.heap ∧ b < s.heap.size ∧ ¬ A b ∧ G.1 130 = b) (hL : L ≤ 3072) (hi : i + 6 ≤ L) (hcn : cnt ≤ i) (hf : kc ≤ room_1.cells ∧ ks ≤ room_1.slots) (hR : RR cnt μ) (kk : ∀ μ2, RR (cnt + 1) μ2 → sm_W p l e room_1 s m args below meth c A Q G 4 kc ks 1565 [] (lwLo i) μ2) : sm_W p l e room_1 s m args below meth c A Q G 4 kc ks 1457 [] (lwLo i) μ := by
  refine sr_aload_n C 1 rfl rfl dL_1457 ?_
  refine sr_callVI C [] (P_X_image l (T_image cnt μ hR)) lok_70 sm_l0 rfl rfl rfl rfl ⟨Nat.le_of_ble_eq_true rfl, Nat.le_of_ble_eq_true rfl⟩ (Nat.le_of_ble_eq_true rfl) hf dL_1458 (fun r1 μ1 h => ?_)
  refine sr_aload_n C 2 rfl rfl dL_1461 ?_
  refine sr_callVI C [] (P_M_image l h) lok_71 sm_l61 rfl rfl rfl rfl ⟨Nat.le_of_ble_eq_true rfl, Nat.le_of_ble_eq_true rfl⟩ (Nat.le_of_ble_eq_true rfl) hf dL_1462 (fun r2 μ2 h2 => ?_)
  refine sr_icmp_eq C (tgt := 1565) dL_1465 (by decide) (fun _ => kk μ2 h2.2) (fun hne => absurd h2.1 hne)
set_option maxHeartbeats 4000000 in
set_option maxRecDepth 100000 in
theorem lc_restore {p : Program} {l : Launch} {e : Env} {s : State} {m : MethodId} {args : Array Value} {below : List Frame} {meth : Method} {c : Code} {A : Nat → Prop} {Q : State → Prop} {G : sm_G} {kc ks b L i cnt : Nat} {xs : Nat → Int32} {μ : sm_Mem} (C : sm_C p s m args c code 4 "SnowMoneyLaw" A G) (hX : va_X b L xs s s.heap ∧ b < s.heap.size ∧ ¬ A b ∧ G.1 130 = b) (hL : L ≤ 3072) (hi : i + 6 ≤ L) (hcn : cnt ≤ i) (hf : kc ≤ room_1.cells ∧ ks ≤ room_1.slots) (hR : RR cnt μ) (kk : ∀ μ2, RR (cnt + 1) μ2 → sm_W p l e room_1 s m args below meth c A Q G 4 kc ks 1565 [] (lwLo i) μ2) : sm_W p l e room_1 s m args below meth c A Q G 4 kc ks 1470 [] (lwLo i) μ := by
  refine sr_aload_n C 1 rfl rfl dL_1470 ?_
  refine sr_callVI C [] (P_X_restore l (T_restore cnt (by omega) μ hR)) lok_72 sm_l0 rfl rfl rfl rfl ⟨Nat.le_of_ble_eq_true rfl, Nat.le_of_ble_eq_true rfl⟩ (Nat.le_of_ble_eq_true rfl) hf dL_1471 (fun r1 μ1 h => ?_)
  refine sr_aload_n C 2 rfl rfl dL_1474 ?_
  refine sr_callVI C [] (P_M_restore l h) lok_73 sm_l61 rfl rfl rfl rfl ⟨Nat.le_of_ble_eq_true rfl, Nat.le_of_ble_eq_true rfl⟩ (Nat.le_of_ble_eq_true rfl) hf dL_1475 (fun r2 μ2 h2 => ?_)
  refine sr_icmp_eq C (tgt := 1565) dL_1478 (by decide) (fun _ => kk μ2 h2.2) (fun hne => absurd h2.1 hne)
set_option maxHeartbeats 4000000 in
set_option maxRecDepth 100000 in
theorem lc_tell {p : Program} {l : Launch} {e : Env} {s : State} {m : MethodId} {args : Array Value} {below : List Frame} {meth : Method} {c : Code} {A : Nat → Prop} {Q : State → Prop} {G : sm_G} {kc ks b L i cnt : Nat} {xs : Nat → Int32} {μ : sm_Mem} (C : sm_C p s m args c code 4 "SnowMoneyLaw" A G) (hX : va_X b L xs s s.heap ∧ b < s.heap.size ∧ ¬ A b ∧ G.1 130 = b) (hL : L ≤ 3072) (hi : i + 6 ≤ L) (hcn : cnt ≤ i) (hf : kc ≤ room_1.cells ∧ ks ≤ room_1.slots) (hR : RR cnt μ) (kk : ∀ μ2, RR (cnt + 1) μ2 → sm_W p l e room_1 s m args below meth c A Q G 4 kc ks 1565 [] (lwLo i) μ2) : sm_W p l e room_1 s m args below meth c A Q G 4 kc ks 1483 [] (lwLo i) μ := by
  refine sr_aload_n C 1 rfl rfl dL_1483 ?_
  refine sr_aload_n C 0 rfl rfl dL_1484 ?_
  refine sr_iload_n C 3 rfl rfl dL_1485 ?_
  refine sr_iconst C (v := nI 1) dL_1486 (by decide) ?_
  refine sr_iadd C dL_1487 ?_
  refine sr_sld C hX (sm_si hi hL (j := 1) (by omega)) dL_1488 ?_
  refine sr_callVI C [sm_I _] (P_X_tell l (T_tell cnt _ μ hR)) lok_74 sm_l0 rfl rfl rfl rfl ⟨Nat.le_of_ble_eq_true rfl, Nat.le_of_ble_eq_true rfl⟩ (Nat.le_of_ble_eq_true rfl) hf dL_1489 (fun r1 μ1 h => ?_)
  refine sr_aload_n C 2 rfl rfl dL_1492 ?_
  refine sr_aload_n C 0 rfl rfl dL_1493 ?_
  refine sr_iload_n C 3 rfl rfl dL_1494 ?_
  refine sr_iconst C (v := nI 1) dL_1495 (by decide) ?_
  refine sr_iadd C dL_1496 ?_
  refine sr_sld C hX (sm_si hi hL (j := 1) (by omega)) dL_1497 ?_
  refine sr_callVI C [sm_I _] (P_M_tell l h) lok_75 sm_l61 rfl rfl rfl rfl ⟨Nat.le_of_ble_eq_true rfl, Nat.le_of_ble_eq_true rfl⟩ (Nat.le_of_ble_eq_true rfl) hf dL_1498 (fun r2 μ2 h2 => ?_)
  refine sr_icmp_eq C (tgt := 1565) dL_1501 (by decide) (fun _ => kk μ2 h2.2) (fun hne => absurd h2.1 hne)
set_option maxHeartbeats 4000000 in
set_option maxRecDepth 100000 in
theorem lc_check {p : Program} {l : Launch} {e : Env} {s : State} {m : MethodId} {args : Array Value} {below : List Frame} {meth : Method} {c : Code} {A : Nat → Prop} {Q : State → Prop} {G : sm_G} {kc ks b L i cnt : Nat} {xs : Nat → Int32} {μ : sm_Mem} (C : sm_C p s m args c code 4 "SnowMoneyLaw" A G) (hX : va_X b L xs s s.heap ∧ b < s.heap.size ∧ ¬ A b ∧ G.1 130 = b) (hL : L ≤ 3072) (hi : i + 6 ≤ L) (hcn : cnt ≤ i) (hf : kc ≤ room_1.cells ∧ ks ≤ room_1.slots) (hR : RR cnt μ) (kk : ∀ μ2, RR (cnt + 1) μ2 → sm_W p l e room_1 s m args below meth c A Q G 4 kc ks 1565 [] (lwLo i) μ2) : sm_W p l e room_1 s m args below meth c A Q G 4 kc ks 1506 [] (lwLo i) μ := by
  refine sr_aload_n C 1 rfl rfl dL_1506 ?_
  refine sr_callVI C [] (P_X_check l (T_check cnt μ hR)) lok_76 sm_l0 rfl rfl rfl rfl ⟨Nat.le_of_ble_eq_true rfl, Nat.le_of_ble_eq_true rfl⟩ (Nat.le_of_ble_eq_true rfl) hf dL_1507 (fun r1 μ1 h => ?_)
  refine sr_aload_n C 2 rfl rfl dL_1510 ?_
  refine sr_callVI C [] (P_M_check l h) lok_77 sm_l61 rfl rfl rfl rfl ⟨Nat.le_of_ble_eq_true rfl, Nat.le_of_ble_eq_true rfl⟩ (Nat.le_of_ble_eq_true rfl) hf dL_1511 (fun r2 μ2 h2 => ?_)
  refine sr_icmp_eq C (tgt := 1565) dL_1514 (by decide) (fun _ => kk μ2 h2.2) (fun hne => absurd h2.1 hne)
set_option maxHeartbeats 4000000 in
set_option maxRecDepth 100000 in
theorem lc_count {p : Program} {l : Launch} {e : Env} {s : State} {m : MethodId} {args : Array Value} {below : List Frame} {meth : Method} {c : Code} {A : Nat → Prop} {Q : State → Prop} {G : sm_G} {kc ks b L i cnt : Nat} {xs : Nat → Int32} {μ : sm_Mem} (C : sm_C p s m args c code 4 "SnowMoneyLaw" A G) (hX : va_X b L xs s s.heap ∧ b < s.heap.size ∧ ¬ A b ∧ G.1 130 = b) (hL : L ≤ 3072) (hi : i + 6 ≤ L) (hcn : cnt ≤ i) (hf : kc ≤ room_1.cells ∧ ks ≤ room_1.slots) (hR : RR cnt μ) (kk : ∀ μ2, RR (cnt + 1) μ2 → sm_W p l e room_1 s m args below meth c A Q G 4 kc ks 1565 [] (lwLo i) μ2) : sm_W p l e room_1 s m args below meth c A Q G 4 kc ks 1519 [] (lwLo i) μ := by
  refine sr_aload_n C 1 rfl rfl dL_1519 ?_
  refine sr_aload_n C 0 rfl rfl dL_1520 ?_
  refine sr_iload_n C 3 rfl rfl dL_1521 ?_
  refine sr_iconst C (v := nI 1) dL_1522 (by decide) ?_
  refine sr_iadd C dL_1523 ?_
  refine sr_sld C hX (sm_si hi hL (j := 1) (by omega)) dL_1524 ?_
  refine sr_callVI C [sm_I _] (P_X_count l (T_count cnt _ μ hR)) lok_78 sm_l0 rfl rfl rfl rfl ⟨Nat.le_of_ble_eq_true rfl, Nat.le_of_ble_eq_true rfl⟩ (Nat.le_of_ble_eq_true rfl) hf dL_1525 (fun r1 μ1 h => ?_)
  refine sr_aload_n C 2 rfl rfl dL_1528 ?_
  refine sr_aload_n C 0 rfl rfl dL_1529 ?_
  refine sr_iload_n C 3 rfl rfl dL_1530 ?_
  refine sr_iconst C (v := nI 1) dL_1531 (by decide) ?_
  refine sr_iadd C dL_1532 ?_
  refine sr_sld C hX (sm_si hi hL (j := 1) (by omega)) dL_1533 ?_
  refine sr_callVI C [sm_I _] (P_M_count l h) lok_79 sm_l61 rfl rfl rfl rfl ⟨Nat.le_of_ble_eq_true rfl, Nat.le_of_ble_eq_true rfl⟩ (Nat.le_of_ble_eq_true rfl) hf dL_1534 (fun r2 μ2 h2 => ?_)
  refine sr_icmp_eq C (tgt := 1565) dL_1537 (by decide) (fun _ => kk μ2 h2.2) (fun hne => absurd h2.1 hne)
set_option maxHeartbeats 4000000 in
set_option maxRecDepth 100000 in
theorem lc_told {p : Program} {l : Launch} {e : Env} {s : State} {m : MethodId} {args : Array Value} {below : List Frame} {meth : Method} {c : Code} {A : Nat → Prop} {Q : State → Prop} {G : sm_G} {kc ks b L i cnt : Nat} {xs : Nat → Int32} {μ : sm_Mem} (C : sm_C p s m args c code 4 "SnowMoneyLaw" A G) (hX : va_X b L xs s s.heap ∧ b < s.heap.size ∧ ¬ A b ∧ G.1 130 = b) (hL : L ≤ 3072) (hi : i + 6 ≤ L) (hcn : cnt ≤ i) (hf : kc ≤ room_1.cells ∧ ks ≤ room_1.slots) (hR : RR cnt μ) (kk : ∀ μ2, RR (cnt + 1) μ2 → sm_W p l e room_1 s m args below meth c A Q G 4 kc ks 1565 [] (lwLo i) μ2) : sm_W p l e room_1 s m args below meth c A Q G 4 kc ks 1542 [] (lwLo i) μ := by
  refine sr_aload_n C 1 rfl rfl dL_1542 ?_
  refine sr_aload_n C 0 rfl rfl dL_1543 ?_
  refine sr_iload_n C 3 rfl rfl dL_1544 ?_
  refine sr_iconst C (v := nI 1) dL_1545 (by decide) ?_
  refine sr_iadd C dL_1546 ?_
  refine sr_sld C hX (sm_si hi hL (j := 1) (by omega)) dL_1547 ?_
  refine sr_callVI C [sm_I _] (P_X_told l (T_told cnt _ μ hR)) lok_80 sm_l0 rfl rfl rfl rfl ⟨Nat.le_of_ble_eq_true rfl, Nat.le_of_ble_eq_true rfl⟩ (Nat.le_of_ble_eq_true rfl) hf dL_1548 (fun r1 μ1 h => ?_)
  refine sr_aload_n C 2 rfl rfl dL_1551 ?_
  refine sr_aload_n C 0 rfl rfl dL_1552 ?_
  refine sr_iload_n C 3 rfl rfl dL_1553 ?_
  refine sr_iconst C (v := nI 1) dL_1554 (by decide) ?_
  refine sr_iadd C dL_1555 ?_
  refine sr_sld C hX (sm_si hi hL (j := 1) (by omega)) dL_1556 ?_
  refine sr_callVI C [sm_I _] (P_M_told l h) lok_81 sm_l61 rfl rfl rfl rfl ⟨Nat.le_of_ble_eq_true rfl, Nat.le_of_ble_eq_true rfl⟩ (Nat.le_of_ble_eq_true rfl) hf dL_1557 (fun r2 μ2 h2 => ?_)
  refine sr_icmp_eq C (tgt := 1565) dL_1560 (by decide) (fun _ => kk μ2 h2.2) (fun hne => absurd h2.1 hne)

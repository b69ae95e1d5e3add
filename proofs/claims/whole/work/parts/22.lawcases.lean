/-- the law's own: the machine, its code, its script -/
def Lc (p : Program) (l : Launch) (m : MethodId) (meth : Method) (c : Code) (s : State) (args : Array Value) (b L : Nat) (xs : Nat → Int32) (A : Nat → Prop) : Prop := CallFix p m c code 4 s args lw_gd RL ∧ meth.sig.returnType = ret ∧ meth.locks = false ∧ L ≤ 3072 ∧ True ∧ va_X b L xs s s.heap ∧ b < s.heap.size ∧ ¬ A b
theorem lg_self (r : Int64) : lg_cmp r r = 0 := by
  unfold lg_cmp
  rw [if_neg (show ¬ r > r from Int64.lt_irrefl), if_pos rfl]
theorem xsld {p : Program} {l : Launch} {e : Env} {s : State} {m : MethodId} {args : Array Value} {below : List Frame} {meth : Method} {c : Code} {H : Heap} {locs : List Loc} {cells slots pc : Nat} {Q : State → Prop} {ls : Array Slot} {rest : List Value} {A : Nat → Prop} {R : Room} {b L : Nat} {xs : Nat → Int32} {cc : ByteArray} {v : Int32} {k : Nat} (hx : p.tables.exec = Jvm.exec) (hb : c.code = cc) (hC : va_X b L xs s s.heap ∧ b < s.heap.size ∧ ¬ A b) (hS : va_S A s.heap H locs) (hv : v = nI k) (hk : k < L ∧ L ≤ 3072) (hdg : decode cc pc = .ok (.iaload, 1))
    (kk : W p l e R s m args below meth c H locs cells slots Q (F0 m (pc + 1) ls (.int (xs k) :: rest))) : W p l e R s m args below meth c H locs cells slots Q (F0 m pc ls (.int v :: .ref b :: rest)) := by
  have h1 : vp_in v L := by rw [hv]; exact vp_in_nI hk.1 (by omega)
  have h2 : v.toNatClampNeg = k := by rw [hv]; exact nI_clamp (by omega)
  refine va_sld hx hb hC.1 hC.2.1 hC.2.2 hS h1 hdg ?_
  rw [h2]
  exact kk
section LAWCASES
variable {p : Program} {l : Launch} {e : Env} {s : State} {m : MethodId} {args : Array Value} {below : List Frame} {meth : Method} {c : Code} {H : Heap} {locs : List Loc} {cells slots : Nat} {Q : State → Prop} {ls : Array Slot} {D : va_G} {cy : Nat → ClassId} {AD : Nat → Nat → Nat} {AM : Nat → Nat} {S : SX} {M : tX12} {tO : Nat} {aK aV : Nat → Nat} {A : Nat → Prop} {fu : Nat} {b L : Nat} {xs : Nat → Int32} {R : SX → tX12 → Prop}
set_option maxHeartbeats 4000000 in
set_option maxRecDepth 100000 in
theorem law_status (hq : Q_status fu R) (C0 : Lc p l m meth c s args b L xs A) (hX : CX D cy s) (hE : EX tO aK aV A s s.heap) {i : Nat} (hi : i + 6 ≤ L) (hR0 : R S M) (hP : PD D A (wL cy AD AM S M) H) (hS : va_S A s.heap H locs) (hl : lv_has ls 4 [(0, .ref b), (1, .ref (AD 0 0)), (2, .ref (AM 0)), (3, .int (nI i))]) (hf : cells + 0 ≤ room_1.cells ∧ slots + 0 ≤ room_1.slots)
    (kk : ∀ (S1 : SX) (M1 : tX12), R S1 M1 → ∀ (H1 : Heap) (locs1 : List Loc), PD D A (wL cy AD AM S1 M1) H1 → va_S A s.heap H1 locs1 → ∀ ls1 : Array Slot, lv_has ls1 4 [(0, .ref b), (1, .ref (AD 0 0)), (2, .ref (AM 0)), (3, .int (nI i))] → W p l e room_1 s m args below meth c H1 locs1 cells slots Q (F0 m 1979 ls1 [])) : W p l e room_1 s m args below meth c H locs cells slots Q (F0 m 264 ls []) := by
  obtain ⟨r, S1, M1, h1, h2, hR⟩ := hq S M hR0
  have hx := C0.1.1
  have hb := C0.1.2.1
  have hown := C0.1.2.2.2.1
  have ht := C0.1.2.2.2.2
  refine lv_aload_n hx hb dL_law_264 rfl (lv_at hl 1 rfl) ?_
  refine LX_status (rest := []) C0.1 hX hE hP hS h1 hl.1 (Nat.le_of_ble_eq_true rfl) dL_law_265 hf (fun H locs hP hS => ?_)
  refine lv_aload_n hx hb dL_law_268 rfl (lv_at hl 2 rfl) ?_
  refine LM_status (rest := [.int r]) C0.1 hX hE hP hS h2 hl.1 (Nat.le_of_ble_eq_true rfl) dL_law_269 hf (fun H locs hP hS => ?_)
  exact lv_icmp_eq (tgt := 1979) hx hb dL_law_272 (by decide) (fun _ => kk S1 M1 hR H locs hP hS ls hl) (fun hc => absurd rfl hc)
set_option maxHeartbeats 4000000 in
set_option maxRecDepth 100000 in
theorem law_top (hq : Q_top fu R) (C0 : Lc p l m meth c s args b L xs A) (hX : CX D cy s) (hE : EX tO aK aV A s s.heap) {i : Nat} (hi : i + 6 ≤ L) (hR0 : R S M) (hP : PD D A (wL cy AD AM S M) H) (hS : va_S A s.heap H locs) (hl : lv_has ls 4 [(0, .ref b), (1, .ref (AD 0 0)), (2, .ref (AM 0)), (3, .int (nI i))]) (hf : cells + 0 ≤ room_1.cells ∧ slots + 0 ≤ room_1.slots)
    (kk : ∀ (S1 : SX) (M1 : tX12), R S1 M1 → ∀ (H1 : Heap) (locs1 : List Loc), PD D A (wL cy AD AM S1 M1) H1 → va_S A s.heap H1 locs1 → ∀ ls1 : Array Slot, lv_has ls1 4 [(0, .ref b), (1, .ref (AD 0 0)), (2, .ref (AM 0)), (3, .int (nI i))] → W p l e room_1 s m args below meth c H1 locs1 cells slots Q (F0 m 1979 ls1 [])) : W p l e room_1 s m args below meth c H locs cells slots Q (F0 m 277 ls []) := by
  obtain ⟨r, S1, M1, h1, h2, hR⟩ := hq S M hR0
  have hx := C0.1.1
  have hb := C0.1.2.1
  have hown := C0.1.2.2.2.1
  have ht := C0.1.2.2.2.2
  refine lv_aload_n hx hb dL_law_277 rfl (lv_at hl 1 rfl) ?_
  refine LX_top (rest := []) C0.1 hX hE hP hS h1 hl.1 (Nat.le_of_ble_eq_true rfl) dL_law_278 hf (fun H locs hP hS => ?_)
  refine lv_aload_n hx hb dL_law_281 rfl (lv_at hl 2 rfl) ?_
  refine LM_top (rest := [.long r]) C0.1 hX hE hP hS h2 hl.1 (Nat.le_of_ble_eq_true rfl) dL_law_282 hf (fun H locs hP hS => ?_)
  refine W.lcmp hx hb dL_law_285 ?_
  exact lv_if_eq (tgt := 1979) hx hb dL_law_286 (by decide) (fun _ => kk S1 M1 hR H locs hP hS ls hl) (fun hc => absurd (lg_self r) hc)
set_option maxHeartbeats 4000000 in
set_option maxRecDepth 100000 in
theorem law_bottom (hq : Q_bottom fu R) (C0 : Lc p l m meth c s args b L xs A) (hX : CX D cy s) (hE : EX tO aK aV A s s.heap) {i : Nat} (hi : i + 6 ≤ L) (hR0 : R S M) (hP : PD D A (wL cy AD AM S M) H) (hS : va_S A s.heap H locs) (hl : lv_has ls 4 [(0, .ref b), (1, .ref (AD 0 0)), (2, .ref (AM 0)), (3, .int (nI i))]) (hf : cells + 0 ≤ room_1.cells ∧ slots + 0 ≤ room_1.slots)
    (kk : ∀ (S1 : SX) (M1 : tX12), R S1 M1 → ∀ (H1 : Heap) (locs1 : List Loc), PD D A (wL cy AD AM S1 M1) H1 → va_S A s.heap H1 locs1 → ∀ ls1 : Array Slot, lv_has ls1 4 [(0, .ref b), (1, .ref (AD 0 0)), (2, .ref (AM 0)), (3, .int (nI i))] → W p l e room_1 s m args below meth c H1 locs1 cells slots Q (F0 m 1979 ls1 [])) : W p l e room_1 s m args below meth c H locs cells slots Q (F0 m 291 ls []) := by
  obtain ⟨r, S1, M1, h1, h2, hR⟩ := hq S M hR0
  have hx := C0.1.1
  have hb := C0.1.2.1
  have hown := C0.1.2.2.2.1
  have ht := C0.1.2.2.2.2
  refine lv_aload_n hx hb dL_law_291 rfl (lv_at hl 1 rfl) ?_
  refine LX_bottom (rest := []) C0.1 hX hE hP hS h1 hl.1 (Nat.le_of_ble_eq_true rfl) dL_law_292 hf (fun H locs hP hS => ?_)
  refine lv_aload_n hx hb dL_law_295 rfl (lv_at hl 2 rfl) ?_
  refine LM_bottom (rest := [.long r]) C0.1 hX hE hP hS h2 hl.1 (Nat.le_of_ble_eq_true rfl) dL_law_296 hf (fun H locs hP hS => ?_)
  refine W.lcmp hx hb dL_law_299 ?_
  exact lv_if_eq (tgt := 1979) hx hb dL_law_300 (by decide) (fun _ => kk S1 M1 hR H locs hP hS ls hl) (fun hc => absurd (lg_self r) hc)
set_option maxHeartbeats 4000000 in
set_option maxRecDepth 100000 in
theorem law_tray (hq : Q_tray fu R) (C0 : Lc p l m meth c s args b L xs A) (hX : CX D cy s) (hE : EX tO aK aV A s s.heap) {i : Nat} (hi : i + 6 ≤ L) (hR0 : R S M) (hP : PD D A (wL cy AD AM S M) H) (hS : va_S A s.heap H locs) (hl : lv_has ls 4 [(0, .ref b), (1, .ref (AD 0 0)), (2, .ref (AM 0)), (3, .int (nI i))]) (hf : cells + 0 ≤ room_1.cells ∧ slots + 0 ≤ room_1.slots)
    (kk : ∀ (S1 : SX) (M1 : tX12), R S1 M1 → ∀ (H1 : Heap) (locs1 : List Loc), PD D A (wL cy AD AM S1 M1) H1 → va_S A s.heap H1 locs1 → ∀ ls1 : Array Slot, lv_has ls1 4 [(0, .ref b), (1, .ref (AD 0 0)), (2, .ref (AM 0)), (3, .int (nI i))] → W p l e room_1 s m args below meth c H1 locs1 cells slots Q (F0 m 1979 ls1 [])) : W p l e room_1 s m args below meth c H locs cells slots Q (F0 m 305 ls []) := by
  obtain ⟨r, S1, M1, h1, h2, hR⟩ := hq S M (xs (i + 1)) (xs (i + 2)) (xs (i + 3)) hR0
  have hx := C0.1.1
  have hb := C0.1.2.1
  have hown := C0.1.2.2.2.1
  have ht := C0.1.2.2.2.2
  refine lv_aload_n hx hb dL_law_305 rfl (lv_at hl 1 rfl) ?_
  refine lv_aload_n hx hb dL_law_306 rfl (lv_at hl 0 rfl) ?_
  refine lv_iload_n hx hb dL_law_307 rfl (lv_at hl 3 rfl) ?_
  refine lv_iconst (v := 1) hx hb dL_law_308 (by decide) ?_
  refine lv_iadd hx hb dL_law_309 ?_
  refine xsld hx hb C0.2.2.2.2.2 hS (k := i + 1) (by first | rfl | exact nI_add i 1) ⟨by omega, C0.2.2.2.1⟩ dL_law_310 ?_
  refine lv_aload_n hx hb dL_law_311 rfl (lv_at hl 0 rfl) ?_
  refine lv_iload_n hx hb dL_law_312 rfl (lv_at hl 3 rfl) ?_
  refine lv_iconst (v := 2) hx hb dL_law_313 (by decide) ?_
  refine lv_iadd hx hb dL_law_314 ?_
  refine xsld hx hb C0.2.2.2.2.2 hS (k := i + 2) (by first | rfl | exact nI_add i 2) ⟨by omega, C0.2.2.2.1⟩ dL_law_315 ?_
  refine lv_aload_n hx hb dL_law_316 rfl (lv_at hl 0 rfl) ?_
  refine lv_iload_n hx hb dL_law_317 rfl (lv_at hl 3 rfl) ?_
  refine lv_iconst (v := 3) hx hb dL_law_318 (by decide) ?_
  refine lv_iadd hx hb dL_law_319 ?_
  refine xsld hx hb C0.2.2.2.2.2 hS (k := i + 3) (by first | rfl | exact nI_add i 3) ⟨by omega, C0.2.2.2.1⟩ dL_law_320 ?_
  refine LX_tray (rest := []) C0.1 hX hE hP hS h1 hl.1 (Nat.le_of_ble_eq_true rfl) dL_law_321 hf (fun H locs hP hS => ?_)
  refine lv_aload_n hx hb dL_law_324 rfl (lv_at hl 2 rfl) ?_
  refine lv_aload_n hx hb dL_law_325 rfl (lv_at hl 0 rfl) ?_
  refine lv_iload_n hx hb dL_law_326 rfl (lv_at hl 3 rfl) ?_
  refine lv_iconst (v := 1) hx hb dL_law_327 (by decide) ?_
  refine lv_iadd hx hb dL_law_328 ?_
  refine xsld hx hb C0.2.2.2.2.2 hS (k := i + 1) (by first | rfl | exact nI_add i 1) ⟨by omega, C0.2.2.2.1⟩ dL_law_329 ?_
  refine lv_aload_n hx hb dL_law_330 rfl (lv_at hl 0 rfl) ?_
  refine lv_iload_n hx hb dL_law_331 rfl (lv_at hl 3 rfl) ?_
  refine lv_iconst (v := 2) hx hb dL_law_332 (by decide) ?_
  refine lv_iadd hx hb dL_law_333 ?_
  refine xsld hx hb C0.2.2.2.2.2 hS (k := i + 2) (by first | rfl | exact nI_add i 2) ⟨by omega, C0.2.2.2.1⟩ dL_law_334 ?_
  refine lv_aload_n hx hb dL_law_335 rfl (lv_at hl 0 rfl) ?_
  refine lv_iload_n hx hb dL_law_336 rfl (lv_at hl 3 rfl) ?_
  refine lv_iconst (v := 3) hx hb dL_law_337 (by decide) ?_
  refine lv_iadd hx hb dL_law_338 ?_
  refine xsld hx hb C0.2.2.2.2.2 hS (k := i + 3) (by first | rfl | exact nI_add i 3) ⟨by omega, C0.2.2.2.1⟩ dL_law_339 ?_
  refine LM_tray (rest := [.int r]) C0.1 hX hE hP hS h2 hl.1 (Nat.le_of_ble_eq_true rfl) dL_law_340 hf (fun H locs hP hS => ?_)
  exact lv_icmp_eq (tgt := 1979) hx hb dL_law_343 (by decide) (fun _ => kk S1 M1 hR H locs hP hS ls hl) (fun hc => absurd rfl hc)
set_option maxHeartbeats 4000000 in
set_option maxRecDepth 100000 in
theorem law_write (hq : Q_write fu R) (C0 : Lc p l m meth c s args b L xs A) (hX : CX D cy s) (hE : EX tO aK aV A s s.heap) {i : Nat} (hi : i + 6 ≤ L) (hR0 : R S M) (hP : PD D A (wL cy AD AM S M) H) (hS : va_S A s.heap H locs) (hl : lv_has ls 4 [(0, .ref b), (1, .ref (AD 0 0)), (2, .ref (AM 0)), (3, .int (nI i))]) (hf : cells + 0 ≤ room_1.cells ∧ slots + 0 ≤ room_1.slots)
    (kk : ∀ (S1 : SX) (M1 : tX12), R S1 M1 → ∀ (H1 : Heap) (locs1 : List Loc), PD D A (wL cy AD AM S1 M1) H1 → va_S A s.heap H1 locs1 → ∀ ls1 : Array Slot, lv_has ls1 4 [(0, .ref b), (1, .ref (AD 0 0)), (2, .ref (AM 0)), (3, .int (nI i))] → W p l e room_1 s m args below meth c H1 locs1 cells slots Q (F0 m 1979 ls1 [])) : W p l e room_1 s m args below meth c H locs cells slots Q (F0 m 348 ls []) := by
  obtain ⟨r, S1, M1, h1, h2, hR⟩ := hq S M (xs (i + 1)) (xs (i + 2)) (((Int32.toInt64 (xs (i + 3))) <<< (Int32.toInt64 32 &&& 63)) ||| ((Int32.toInt64 (xs (i + 4))) &&& 4294967295)) hR0
  have hx := C0.1.1
  have hb := C0.1.2.1
  have hown := C0.1.2.2.2.1
  have ht := C0.1.2.2.2.2
  refine lv_aload_n hx hb dL_law_348 rfl (lv_at hl 1 rfl) ?_
  refine lv_aload_n hx hb dL_law_349 rfl (lv_at hl 0 rfl) ?_
  refine lv_iload_n hx hb dL_law_350 rfl (lv_at hl 3 rfl) ?_
  refine lv_iconst (v := 1) hx hb dL_law_351 (by decide) ?_
  refine lv_iadd hx hb dL_law_352 ?_
  refine xsld hx hb C0.2.2.2.2.2 hS (k := i + 1) (by first | rfl | exact nI_add i 1) ⟨by omega, C0.2.2.2.1⟩ dL_law_353 ?_
  refine lv_aload_n hx hb dL_law_354 rfl (lv_at hl 0 rfl) ?_
  refine lv_iload_n hx hb dL_law_355 rfl (lv_at hl 3 rfl) ?_
  refine lv_iconst (v := 2) hx hb dL_law_356 (by decide) ?_
  refine lv_iadd hx hb dL_law_357 ?_
  refine xsld hx hb C0.2.2.2.2.2 hS (k := i + 2) (by first | rfl | exact nI_add i 2) ⟨by omega, C0.2.2.2.1⟩ dL_law_358 ?_
  refine lv_aload_n hx hb dL_law_359 rfl (lv_at hl 0 rfl) ?_
  refine lv_iload_n hx hb dL_law_360 rfl (lv_at hl 3 rfl) ?_
  refine lv_iconst (v := 3) hx hb dL_law_361 (by decide) ?_
  refine lv_iadd hx hb dL_law_362 ?_
  refine xsld hx hb C0.2.2.2.2.2 hS (k := i + 3) (by first | rfl | exact nI_add i 3) ⟨by omega, C0.2.2.2.1⟩ dL_law_363 ?_
  refine lv_i2l (v := Int32.toInt64 (xs (i + 3))) hx hb dL_law_364 rfl ?_
  refine lv_bipush (v := 32) hx hb dL_law_365 (by decide) ?_
  refine lv_lshl (v := (Int32.toInt64 (xs (i + 3))) <<< (Int32.toInt64 32 &&& 63)) hx hb dL_law_367 rfl ?_
  refine lv_aload_n hx hb dL_law_368 rfl (lv_at hl 0 rfl) ?_
  refine lv_iload_n hx hb dL_law_369 rfl (lv_at hl 3 rfl) ?_
  refine lv_iconst (v := 4) hx hb dL_law_370 (by decide) ?_
  refine lv_iadd hx hb dL_law_371 ?_
  refine xsld hx hb C0.2.2.2.2.2 hS (k := i + 4) (by first | rfl | exact nI_add i 4) ⟨by omega, C0.2.2.2.1⟩ dL_law_372 ?_
  refine lv_i2l (v := Int32.toInt64 (xs (i + 4))) hx hb dL_law_373 rfl ?_
  refine lv_ldc2 (v := 4294967295) hx hb hown (ht _ tb_1920) dL_law_374 ?_
  refine lv_land hx hb dL_law_377 ?_
  refine lv_lor hx hb dL_law_378 ?_
  refine LX_write (rest := []) C0.1 hX hE hP hS h1 hl.1 (Nat.le_of_ble_eq_true rfl) dL_law_379 hf (fun H locs hP hS => ?_)
  refine lv_aload_n hx hb dL_law_382 rfl (lv_at hl 2 rfl) ?_
  refine lv_aload_n hx hb dL_law_383 rfl (lv_at hl 0 rfl) ?_
  refine lv_iload_n hx hb dL_law_384 rfl (lv_at hl 3 rfl) ?_
  refine lv_iconst (v := 1) hx hb dL_law_385 (by decide) ?_
  refine lv_iadd hx hb dL_law_386 ?_
  refine xsld hx hb C0.2.2.2.2.2 hS (k := i + 1) (by first | rfl | exact nI_add i 1) ⟨by omega, C0.2.2.2.1⟩ dL_law_387 ?_
  refine lv_aload_n hx hb dL_law_388 rfl (lv_at hl 0 rfl) ?_
  refine lv_iload_n hx hb dL_law_389 rfl (lv_at hl 3 rfl) ?_
  refine lv_iconst (v := 2) hx hb dL_law_390 (by decide) ?_
  refine lv_iadd hx hb dL_law_391 ?_
  refine xsld hx hb C0.2.2.2.2.2 hS (k := i + 2) (by first | rfl | exact nI_add i 2) ⟨by omega, C0.2.2.2.1⟩ dL_law_392 ?_
  refine lv_aload_n hx hb dL_law_393 rfl (lv_at hl 0 rfl) ?_
  refine lv_iload_n hx hb dL_law_394 rfl (lv_at hl 3 rfl) ?_
  refine lv_iconst (v := 3) hx hb dL_law_395 (by decide) ?_
  refine lv_iadd hx hb dL_law_396 ?_
  refine xsld hx hb C0.2.2.2.2.2 hS (k := i + 3) (by first | rfl | exact nI_add i 3) ⟨by omega, C0.2.2.2.1⟩ dL_law_397 ?_
  refine lv_i2l (v := Int32.toInt64 (xs (i + 3))) hx hb dL_law_398 rfl ?_
  refine lv_bipush (v := 32) hx hb dL_law_399 (by decide) ?_
  refine lv_lshl (v := (Int32.toInt64 (xs (i + 3))) <<< (Int32.toInt64 32 &&& 63)) hx hb dL_law_401 rfl ?_
  refine lv_aload_n hx hb dL_law_402 rfl (lv_at hl 0 rfl) ?_
  refine lv_iload_n hx hb dL_law_403 rfl (lv_at hl 3 rfl) ?_
  refine lv_iconst (v := 4) hx hb dL_law_404 (by decide) ?_
  refine lv_iadd hx hb dL_law_405 ?_
  refine xsld hx hb C0.2.2.2.2.2 hS (k := i + 4) (by first | rfl | exact nI_add i 4) ⟨by omega, C0.2.2.2.1⟩ dL_law_406 ?_
  refine lv_i2l (v := Int32.toInt64 (xs (i + 4))) hx hb dL_law_407 rfl ?_
  refine lv_ldc2 (v := 4294967295) hx hb hown (ht _ tb_1920) dL_law_408 ?_
  refine lv_land hx hb dL_law_411 ?_
  refine lv_lor hx hb dL_law_412 ?_
  refine LM_write (rest := [.int r]) C0.1 hX hE hP hS h2 hl.1 (Nat.le_of_ble_eq_true rfl) dL_law_413 hf (fun H locs hP hS => ?_)
  exact lv_icmp_eq (tgt := 1979) hx hb dL_law_416 (by decide) (fun _ => kk S1 M1 hR H locs hP hS ls hl) (fun hc => absurd rfl hc)
set_option maxHeartbeats 4000000 in
set_option maxRecDepth 100000 in
theorem law_read (hq : Q_read fu R) (C0 : Lc p l m meth c s args b L xs A) (hX : CX D cy s) (hE : EX tO aK aV A s s.heap) {i : Nat} (hi : i + 6 ≤ L) (hR0 : R S M) (hP : PD D A (wL cy AD AM S M) H) (hS : va_S A s.heap H locs) (hl : lv_has ls 4 [(0, .ref b), (1, .ref (AD 0 0)), (2, .ref (AM 0)), (3, .int (nI i))]) (hf : cells + 0 ≤ room_1.cells ∧ slots + 0 ≤ room_1.slots)
    (kk : ∀ (S1 : SX) (M1 : tX12), R S1 M1 → ∀ (H1 : Heap) (locs1 : List Loc), PD D A (wL cy AD AM S1 M1) H1 → va_S A s.heap H1 locs1 → ∀ ls1 : Array Slot, lv_has ls1 4 [(0, .ref b), (1, .ref (AD 0 0)), (2, .ref (AM 0)), (3, .int (nI i))] → W p l e room_1 s m args below meth c H1 locs1 cells slots Q (F0 m 1979 ls1 [])) : W p l e room_1 s m args below meth c H locs cells slots Q (F0 m 421 ls []) := by
  obtain ⟨r, S1, M1, h1, h2, hR⟩ := hq S M (xs (i + 1)) (xs (i + 2)) hR0
  have hx := C0.1.1
  have hb := C0.1.2.1
  have hown := C0.1.2.2.2.1
  have ht := C0.1.2.2.2.2
  refine lv_aload_n hx hb dL_law_421 rfl (lv_at hl 1 rfl) ?_
  refine lv_aload_n hx hb dL_law_422 rfl (lv_at hl 0 rfl) ?_
  refine lv_iload_n hx hb dL_law_423 rfl (lv_at hl 3 rfl) ?_
  refine lv_iconst (v := 1) hx hb dL_law_424 (by decide) ?_
  refine lv_iadd hx hb dL_law_425 ?_
  refine xsld hx hb C0.2.2.2.2.2 hS (k := i + 1) (by first | rfl | exact nI_add i 1) ⟨by omega, C0.2.2.2.1⟩ dL_law_426 ?_
  refine lv_aload_n hx hb dL_law_427 rfl (lv_at hl 0 rfl) ?_
  refine lv_iload_n hx hb dL_law_428 rfl (lv_at hl 3 rfl) ?_
  refine lv_iconst (v := 2) hx hb dL_law_429 (by decide) ?_
  refine lv_iadd hx hb dL_law_430 ?_
  refine xsld hx hb C0.2.2.2.2.2 hS (k := i + 2) (by first | rfl | exact nI_add i 2) ⟨by omega, C0.2.2.2.1⟩ dL_law_431 ?_
  refine LX_read (rest := []) C0.1 hX hE hP hS h1 hl.1 (Nat.le_of_ble_eq_true rfl) dL_law_432 hf (fun H locs hP hS => ?_)
  refine lv_aload_n hx hb dL_law_435 rfl (lv_at hl 2 rfl) ?_
  refine lv_aload_n hx hb dL_law_436 rfl (lv_at hl 0 rfl) ?_
  refine lv_iload_n hx hb dL_law_437 rfl (lv_at hl 3 rfl) ?_
  refine lv_iconst (v := 1) hx hb dL_law_438 (by decide) ?_
  refine lv_iadd hx hb dL_law_439 ?_
  refine xsld hx hb C0.2.2.2.2.2 hS (k := i + 1) (by first | rfl | exact nI_add i 1) ⟨by omega, C0.2.2.2.1⟩ dL_law_440 ?_
  refine lv_aload_n hx hb dL_law_441 rfl (lv_at hl 0 rfl) ?_
  refine lv_iload_n hx hb dL_law_442 rfl (lv_at hl 3 rfl) ?_
  refine lv_iconst (v := 2) hx hb dL_law_443 (by decide) ?_
  refine lv_iadd hx hb dL_law_444 ?_
  refine xsld hx hb C0.2.2.2.2.2 hS (k := i + 2) (by first | rfl | exact nI_add i 2) ⟨by omega, C0.2.2.2.1⟩ dL_law_445 ?_
  refine LM_read (rest := [.long r]) C0.1 hX hE hP hS h2 hl.1 (Nat.le_of_ble_eq_true rfl) dL_law_446 hf (fun H locs hP hS => ?_)
  refine W.lcmp hx hb dL_law_449 ?_
  exact lv_if_eq (tgt := 1979) hx hb dL_law_450 (by decide) (fun _ => kk S1 M1 hR H locs hP hS ls hl) (fun hc => absurd (lg_self r) hc)
set_option maxHeartbeats 4000000 in
set_option maxRecDepth 100000 in
theorem law_pour (hq : Q_pour fu R) (C0 : Lc p l m meth c s args b L xs A) (hX : CX D cy s) (hE : EX tO aK aV A s s.heap) {i : Nat} (hi : i + 6 ≤ L) (hR0 : R S M) (hP : PD D A (wL cy AD AM S M) H) (hS : va_S A s.heap H locs) (hl : lv_has ls 4 [(0, .ref b), (1, .ref (AD 0 0)), (2, .ref (AM 0)), (3, .int (nI i))]) (hf : cells + 0 ≤ room_1.cells ∧ slots + 0 ≤ room_1.slots)
    (kk : ∀ (S1 : SX) (M1 : tX12), R S1 M1 → ∀ (H1 : Heap) (locs1 : List Loc), PD D A (wL cy AD AM S1 M1) H1 → va_S A s.heap H1 locs1 → ∀ ls1 : Array Slot, lv_has ls1 4 [(0, .ref b), (1, .ref (AD 0 0)), (2, .ref (AM 0)), (3, .int (nI i))] → W p l e room_1 s m args below meth c H1 locs1 cells slots Q (F0 m 1979 ls1 [])) : W p l e room_1 s m args below meth c H locs cells slots Q (F0 m 455 ls []) := by
  obtain ⟨r, S1, M1, h1, h2, hR⟩ := hq S M (xs (i + 1)) (xs (i + 2)) (xs (i + 3)) (xs (i + 4)) (xs (i + 5)) hR0
  have hx := C0.1.1
  have hb := C0.1.2.1
  have hown := C0.1.2.2.2.1
  have ht := C0.1.2.2.2.2
  refine lv_aload_n hx hb dL_law_455 rfl (lv_at hl 1 rfl) ?_
  refine lv_aload_n hx hb dL_law_456 rfl (lv_at hl 0 rfl) ?_
  refine lv_iload_n hx hb dL_law_457 rfl (lv_at hl 3 rfl) ?_
  refine lv_iconst (v := 1) hx hb dL_law_458 (by decide) ?_
  refine lv_iadd hx hb dL_law_459 ?_
  refine xsld hx hb C0.2.2.2.2.2 hS (k := i + 1) (by first | rfl | exact nI_add i 1) ⟨by omega, C0.2.2.2.1⟩ dL_law_460 ?_
  refine lv_aload_n hx hb dL_law_461 rfl (lv_at hl 0 rfl) ?_
  refine lv_iload_n hx hb dL_law_462 rfl (lv_at hl 3 rfl) ?_
  refine lv_iconst (v := 2) hx hb dL_law_463 (by decide) ?_
  refine lv_iadd hx hb dL_law_464 ?_
  refine xsld hx hb C0.2.2.2.2.2 hS (k := i + 2) (by first | rfl | exact nI_add i 2) ⟨by omega, C0.2.2.2.1⟩ dL_law_465 ?_
  refine lv_aload_n hx hb dL_law_466 rfl (lv_at hl 0 rfl) ?_
  refine lv_iload_n hx hb dL_law_467 rfl (lv_at hl 3 rfl) ?_
  refine lv_iconst (v := 3) hx hb dL_law_468 (by decide) ?_
  refine lv_iadd hx hb dL_law_469 ?_
  refine xsld hx hb C0.2.2.2.2.2 hS (k := i + 3) (by first | rfl | exact nI_add i 3) ⟨by omega, C0.2.2.2.1⟩ dL_law_470 ?_
  refine lv_aload_n hx hb dL_law_471 rfl (lv_at hl 0 rfl) ?_
  refine lv_iload_n hx hb dL_law_472 rfl (lv_at hl 3 rfl) ?_
  refine lv_iconst (v := 4) hx hb dL_law_473 (by decide) ?_
  refine lv_iadd hx hb dL_law_474 ?_
  refine xsld hx hb C0.2.2.2.2.2 hS (k := i + 4) (by first | rfl | exact nI_add i 4) ⟨by omega, C0.2.2.2.1⟩ dL_law_475 ?_
  refine lv_aload_n hx hb dL_law_476 rfl (lv_at hl 0 rfl) ?_
  refine lv_iload_n hx hb dL_law_477 rfl (lv_at hl 3 rfl) ?_
  refine lv_iconst (v := 5) hx hb dL_law_478 (by decide) ?_
  refine lv_iadd hx hb dL_law_479 ?_
  refine xsld hx hb C0.2.2.2.2.2 hS (k := i + 5) (by first | rfl | exact nI_add i 5) ⟨by omega, C0.2.2.2.1⟩ dL_law_480 ?_
  refine LX_pour (rest := []) C0.1 hX hE hP hS h1 hl.1 (Nat.le_of_ble_eq_true rfl) dL_law_481 hf (fun H locs hP hS => ?_)
  refine lv_aload_n hx hb dL_law_484 rfl (lv_at hl 2 rfl) ?_
  refine lv_aload_n hx hb dL_law_485 rfl (lv_at hl 0 rfl) ?_
  refine lv_iload_n hx hb dL_law_486 rfl (lv_at hl 3 rfl) ?_
  refine lv_iconst (v := 1) hx hb dL_law_487 (by decide) ?_
  refine lv_iadd hx hb dL_law_488 ?_
  refine xsld hx hb C0.2.2.2.2.2 hS (k := i + 1) (by first | rfl | exact nI_add i 1) ⟨by omega, C0.2.2.2.1⟩ dL_law_489 ?_
  refine lv_aload_n hx hb dL_law_490 rfl (lv_at hl 0 rfl) ?_
  refine lv_iload_n hx hb dL_law_491 rfl (lv_at hl 3 rfl) ?_
  refine lv_iconst (v := 2) hx hb dL_law_492 (by decide) ?_
  refine lv_iadd hx hb dL_law_493 ?_
  refine xsld hx hb C0.2.2.2.2.2 hS (k := i + 2) (by first | rfl | exact nI_add i 2) ⟨by omega, C0.2.2.2.1⟩ dL_law_494 ?_
  refine lv_aload_n hx hb dL_law_495 rfl (lv_at hl 0 rfl) ?_
  refine lv_iload_n hx hb dL_law_496 rfl (lv_at hl 3 rfl) ?_
  refine lv_iconst (v := 3) hx hb dL_law_497 (by decide) ?_
  refine lv_iadd hx hb dL_law_498 ?_
  refine xsld hx hb C0.2.2.2.2.2 hS (k := i + 3) (by first | rfl | exact nI_add i 3) ⟨by omega, C0.2.2.2.1⟩ dL_law_499 ?_
  refine lv_aload_n hx hb dL_law_500 rfl (lv_at hl 0 rfl) ?_
  refine lv_iload_n hx hb dL_law_501 rfl (lv_at hl 3 rfl) ?_
  refine lv_iconst (v := 4) hx hb dL_law_502 (by decide) ?_
  refine lv_iadd hx hb dL_law_503 ?_
  refine xsld hx hb C0.2.2.2.2.2 hS (k := i + 4) (by first | rfl | exact nI_add i 4) ⟨by omega, C0.2.2.2.1⟩ dL_law_504 ?_
  refine lv_aload_n hx hb dL_law_505 rfl (lv_at hl 0 rfl) ?_
  refine lv_iload_n hx hb dL_law_506 rfl (lv_at hl 3 rfl) ?_
  refine lv_iconst (v := 5) hx hb dL_law_507 (by decide) ?_
  refine lv_iadd hx hb dL_law_508 ?_
  refine xsld hx hb C0.2.2.2.2.2 hS (k := i + 5) (by first | rfl | exact nI_add i 5) ⟨by omega, C0.2.2.2.1⟩ dL_law_509 ?_
  refine LM_pour (rest := [.int r]) C0.1 hX hE hP hS h2 hl.1 (Nat.le_of_ble_eq_true rfl) dL_law_510 hf (fun H locs hP hS => ?_)
  exact lv_icmp_eq (tgt := 1979) hx hb dL_law_513 (by decide) (fun _ => kk S1 M1 hR H locs hP hS ls hl) (fun hc => absurd rfl hc)
set_option maxHeartbeats 4000000 in
set_option maxRecDepth 100000 in
theorem law_feed (hq : Q_feed fu R) (C0 : Lc p l m meth c s args b L xs A) (hX : CX D cy s) (hE : EX tO aK aV A s s.heap) {i : Nat} (hi : i + 6 ≤ L) (hR0 : R S M) (hP : PD D A (wL cy AD AM S M) H) (hS : va_S A s.heap H locs) (hl : lv_has ls 4 [(0, .ref b), (1, .ref (AD 0 0)), (2, .ref (AM 0)), (3, .int (nI i))]) (hf : cells + 0 ≤ room_1.cells ∧ slots + 0 ≤ room_1.slots)
    (kk : ∀ (S1 : SX) (M1 : tX12), R S1 M1 → ∀ (H1 : Heap) (locs1 : List Loc), PD D A (wL cy AD AM S1 M1) H1 → va_S A s.heap H1 locs1 → ∀ ls1 : Array Slot, lv_has ls1 4 [(0, .ref b), (1, .ref (AD 0 0)), (2, .ref (AM 0)), (3, .int (nI i))] → W p l e room_1 s m args below meth c H1 locs1 cells slots Q (F0 m 1979 ls1 [])) : W p l e room_1 s m args below meth c H locs cells slots Q (F0 m 518 ls []) := by
  obtain ⟨r, S1, M1, h1, h2, hR⟩ := hq S M (xs (i + 1)) (xs (i + 2)) (xs (i + 3)) (xs (i + 4)) (xs (i + 5)) hR0
  have hx := C0.1.1
  have hb := C0.1.2.1
  have hown := C0.1.2.2.2.1
  have ht := C0.1.2.2.2.2
  refine lv_aload_n hx hb dL_law_518 rfl (lv_at hl 1 rfl) ?_
  refine lv_aload_n hx hb dL_law_519 rfl (lv_at hl 0 rfl) ?_
  refine lv_iload_n hx hb dL_law_520 rfl (lv_at hl 3 rfl) ?_
  refine lv_iconst (v := 1) hx hb dL_law_521 (by decide) ?_
  refine lv_iadd hx hb dL_law_522 ?_
  refine xsld hx hb C0.2.2.2.2.2 hS (k := i + 1) (by first | rfl | exact nI_add i 1) ⟨by omega, C0.2.2.2.1⟩ dL_law_523 ?_
  refine lv_aload_n hx hb dL_law_524 rfl (lv_at hl 0 rfl) ?_
  refine lv_iload_n hx hb dL_law_525 rfl (lv_at hl 3 rfl) ?_
  refine lv_iconst (v := 2) hx hb dL_law_526 (by decide) ?_
  refine lv_iadd hx hb dL_law_527 ?_
  refine xsld hx hb C0.2.2.2.2.2 hS (k := i + 2) (by first | rfl | exact nI_add i 2) ⟨by omega, C0.2.2.2.1⟩ dL_law_528 ?_
  refine lv_aload_n hx hb dL_law_529 rfl (lv_at hl 0 rfl) ?_
  refine lv_iload_n hx hb dL_law_530 rfl (lv_at hl 3 rfl) ?_
  refine lv_iconst (v := 3) hx hb dL_law_531 (by decide) ?_
  refine lv_iadd hx hb dL_law_532 ?_
  refine xsld hx hb C0.2.2.2.2.2 hS (k := i + 3) (by first | rfl | exact nI_add i 3) ⟨by omega, C0.2.2.2.1⟩ dL_law_533 ?_
  refine lv_aload_n hx hb dL_law_534 rfl (lv_at hl 0 rfl) ?_
  refine lv_iload_n hx hb dL_law_535 rfl (lv_at hl 3 rfl) ?_
  refine lv_iconst (v := 4) hx hb dL_law_536 (by decide) ?_
  refine lv_iadd hx hb dL_law_537 ?_
  refine xsld hx hb C0.2.2.2.2.2 hS (k := i + 4) (by first | rfl | exact nI_add i 4) ⟨by omega, C0.2.2.2.1⟩ dL_law_538 ?_
  refine lv_aload_n hx hb dL_law_539 rfl (lv_at hl 0 rfl) ?_
  refine lv_iload_n hx hb dL_law_540 rfl (lv_at hl 3 rfl) ?_
  refine lv_iconst (v := 5) hx hb dL_law_541 (by decide) ?_
  refine lv_iadd hx hb dL_law_542 ?_
  refine xsld hx hb C0.2.2.2.2.2 hS (k := i + 5) (by first | rfl | exact nI_add i 5) ⟨by omega, C0.2.2.2.1⟩ dL_law_543 ?_
  refine LX_feed (rest := []) C0.1 hX hE hP hS h1 hl.1 (Nat.le_of_ble_eq_true rfl) dL_law_544 hf (fun H locs hP hS => ?_)
  refine lv_aload_n hx hb dL_law_547 rfl (lv_at hl 2 rfl) ?_
  refine lv_aload_n hx hb dL_law_548 rfl (lv_at hl 0 rfl) ?_
  refine lv_iload_n hx hb dL_law_549 rfl (lv_at hl 3 rfl) ?_
  refine lv_iconst (v := 1) hx hb dL_law_550 (by decide) ?_
  refine lv_iadd hx hb dL_law_551 ?_
  refine xsld hx hb C0.2.2.2.2.2 hS (k := i + 1) (by first | rfl | exact nI_add i 1) ⟨by omega, C0.2.2.2.1⟩ dL_law_552 ?_
  refine lv_aload_n hx hb dL_law_553 rfl (lv_at hl 0 rfl) ?_
  refine lv_iload_n hx hb dL_law_554 rfl (lv_at hl 3 rfl) ?_
  refine lv_iconst (v := 2) hx hb dL_law_555 (by decide) ?_
  refine lv_iadd hx hb dL_law_556 ?_
  refine xsld hx hb C0.2.2.2.2.2 hS (k := i + 2) (by first | rfl | exact nI_add i 2) ⟨by omega, C0.2.2.2.1⟩ dL_law_557 ?_
  refine lv_aload_n hx hb dL_law_558 rfl (lv_at hl 0 rfl) ?_
  refine lv_iload_n hx hb dL_law_559 rfl (lv_at hl 3 rfl) ?_
  refine lv_iconst (v := 3) hx hb dL_law_560 (by decide) ?_
  refine lv_iadd hx hb dL_law_561 ?_
  refine xsld hx hb C0.2.2.2.2.2 hS (k := i + 3) (by first | rfl | exact nI_add i 3) ⟨by omega, C0.2.2.2.1⟩ dL_law_562 ?_
  refine lv_aload_n hx hb dL_law_563 rfl (lv_at hl 0 rfl) ?_
  refine lv_iload_n hx hb dL_law_564 rfl (lv_at hl 3 rfl) ?_
  refine lv_iconst (v := 4) hx hb dL_law_565 (by decide) ?_
  refine lv_iadd hx hb dL_law_566 ?_
  refine xsld hx hb C0.2.2.2.2.2 hS (k := i + 4) (by first | rfl | exact nI_add i 4) ⟨by omega, C0.2.2.2.1⟩ dL_law_567 ?_
  refine lv_aload_n hx hb dL_law_568 rfl (lv_at hl 0 rfl) ?_
  refine lv_iload_n hx hb dL_law_569 rfl (lv_at hl 3 rfl) ?_
  refine lv_iconst (v := 5) hx hb dL_law_570 (by decide) ?_
  refine lv_iadd hx hb dL_law_571 ?_
  refine xsld hx hb C0.2.2.2.2.2 hS (k := i + 5) (by first | rfl | exact nI_add i 5) ⟨by omega, C0.2.2.2.1⟩ dL_law_572 ?_
  refine LM_feed (rest := [.int r]) C0.1 hX hE hP hS h2 hl.1 (Nat.le_of_ble_eq_true rfl) dL_law_573 hf (fun H locs hP hS => ?_)
  exact lv_icmp_eq (tgt := 1979) hx hb dL_law_576 (by decide) (fun _ => kk S1 M1 hR H locs hP hS ls hl) (fun hc => absurd rfl hc)
set_option maxHeartbeats 4000000 in
set_option maxRecDepth 100000 in
theorem law_army (hq : Q_army fu R) (C0 : Lc p l m meth c s args b L xs A) (hX : CX D cy s) (hE : EX tO aK aV A s s.heap) {i : Nat} (hi : i + 6 ≤ L) (hR0 : R S M) (hP : PD D A (wL cy AD AM S M) H) (hS : va_S A s.heap H locs) (hl : lv_has ls 4 [(0, .ref b), (1, .ref (AD 0 0)), (2, .ref (AM 0)), (3, .int (nI i))]) (hf : cells + 0 ≤ room_1.cells ∧ slots + 0 ≤ room_1.slots)
    (kk : ∀ (S1 : SX) (M1 : tX12), R S1 M1 → ∀ (H1 : Heap) (locs1 : List Loc), PD D A (wL cy AD AM S1 M1) H1 → va_S A s.heap H1 locs1 → ∀ ls1 : Array Slot, lv_has ls1 4 [(0, .ref b), (1, .ref (AD 0 0)), (2, .ref (AM 0)), (3, .int (nI i))] → W p l e room_1 s m args below meth c H1 locs1 cells slots Q (F0 m 1979 ls1 [])) : W p l e room_1 s m args below meth c H locs cells slots Q (F0 m 581 ls []) := by
  obtain ⟨r, S1, M1, h1, h2, hR⟩ := hq S M (xs (i + 1)) hR0
  have hx := C0.1.1
  have hb := C0.1.2.1
  have hown := C0.1.2.2.2.1
  have ht := C0.1.2.2.2.2
  refine lv_aload_n hx hb dL_law_581 rfl (lv_at hl 1 rfl) ?_
  refine lv_aload_n hx hb dL_law_582 rfl (lv_at hl 0 rfl) ?_
  refine lv_iload_n hx hb dL_law_583 rfl (lv_at hl 3 rfl) ?_
  refine lv_iconst (v := 1) hx hb dL_law_584 (by decide) ?_
  refine lv_iadd hx hb dL_law_585 ?_
  refine xsld hx hb C0.2.2.2.2.2 hS (k := i + 1) (by first | rfl | exact nI_add i 1) ⟨by omega, C0.2.2.2.1⟩ dL_law_586 ?_
  refine LX_army (rest := []) C0.1 hX hE hP hS h1 hl.1 (Nat.le_of_ble_eq_true rfl) dL_law_587 hf (fun H locs hP hS => ?_)
  refine lv_aload_n hx hb dL_law_590 rfl (lv_at hl 2 rfl) ?_
  refine lv_aload_n hx hb dL_law_591 rfl (lv_at hl 0 rfl) ?_
  refine lv_iload_n hx hb dL_law_592 rfl (lv_at hl 3 rfl) ?_
  refine lv_iconst (v := 1) hx hb dL_law_593 (by decide) ?_
  refine lv_iadd hx hb dL_law_594 ?_
  refine xsld hx hb C0.2.2.2.2.2 hS (k := i + 1) (by first | rfl | exact nI_add i 1) ⟨by omega, C0.2.2.2.1⟩ dL_law_595 ?_
  refine LM_army (rest := [.int r]) C0.1 hX hE hP hS h2 hl.1 (Nat.le_of_ble_eq_true rfl) dL_law_596 hf (fun H locs hP hS => ?_)
  exact lv_icmp_eq (tgt := 1979) hx hb dL_law_599 (by decide) (fun _ => kk S1 M1 hR H locs hP hS ls hl) (fun hc => absurd rfl hc)
set_option maxHeartbeats 4000000 in
set_option maxRecDepth 100000 in
theorem law_war (hq : Q_war fu R) (C0 : Lc p l m meth c s args b L xs A) (hX : CX D cy s) (hE : EX tO aK aV A s s.heap) {i : Nat} (hi : i + 6 ≤ L) (hR0 : R S M) (hP : PD D A (wL cy AD AM S M) H) (hS : va_S A s.heap H locs) (hl : lv_has ls 4 [(0, .ref b), (1, .ref (AD 0 0)), (2, .ref (AM 0)), (3, .int (nI i))]) (hf : cells + 0 ≤ room_1.cells ∧ slots + 0 ≤ room_1.slots)
    (kk : ∀ (S1 : SX) (M1 : tX12), R S1 M1 → ∀ (H1 : Heap) (locs1 : List Loc), PD D A (wL cy AD AM S1 M1) H1 → va_S A s.heap H1 locs1 → ∀ ls1 : Array Slot, lv_has ls1 4 [(0, .ref b), (1, .ref (AD 0 0)), (2, .ref (AM 0)), (3, .int (nI i))] → W p l e room_1 s m args below meth c H1 locs1 cells slots Q (F0 m 1979 ls1 [])) : W p l e room_1 s m args below meth c H locs cells slots Q (F0 m 604 ls []) := by
  obtain ⟨r, S1, M1, h1, h2, hR⟩ := hq S M (xs (i + 1)) hR0
  have hx := C0.1.1
  have hb := C0.1.2.1
  have hown := C0.1.2.2.2.1
  have ht := C0.1.2.2.2.2
  refine lv_aload_n hx hb dL_law_604 rfl (lv_at hl 1 rfl) ?_
  refine lv_aload_n hx hb dL_law_605 rfl (lv_at hl 0 rfl) ?_
  refine lv_iload_n hx hb dL_law_606 rfl (lv_at hl 3 rfl) ?_
  refine lv_iconst (v := 1) hx hb dL_law_607 (by decide) ?_
  refine lv_iadd hx hb dL_law_608 ?_
  refine xsld hx hb C0.2.2.2.2.2 hS (k := i + 1) (by first | rfl | exact nI_add i 1) ⟨by omega, C0.2.2.2.1⟩ dL_law_609 ?_
  refine LX_war (rest := []) C0.1 hX hE hP hS h1 hl.1 (Nat.le_of_ble_eq_true rfl) dL_law_610 hf (fun H locs hP hS => ?_)
  refine lv_aload_n hx hb dL_law_613 rfl (lv_at hl 2 rfl) ?_
  refine lv_aload_n hx hb dL_law_614 rfl (lv_at hl 0 rfl) ?_
  refine lv_iload_n hx hb dL_law_615 rfl (lv_at hl 3 rfl) ?_
  refine lv_iconst (v := 1) hx hb dL_law_616 (by decide) ?_
  refine lv_iadd hx hb dL_law_617 ?_
  refine xsld hx hb C0.2.2.2.2.2 hS (k := i + 1) (by first | rfl | exact nI_add i 1) ⟨by omega, C0.2.2.2.1⟩ dL_law_618 ?_
  refine LM_war (rest := [.int r]) C0.1 hX hE hP hS h2 hl.1 (Nat.le_of_ble_eq_true rfl) dL_law_619 hf (fun H locs hP hS => ?_)
  exact lv_icmp_eq (tgt := 1979) hx hb dL_law_622 (by decide) (fun _ => kk S1 M1 hR H locs hP hS ls hl) (fun hc => absurd rfl hc)
set_option maxHeartbeats 4000000 in
set_option maxRecDepth 100000 in
theorem law_fault (hq : Q_fault fu R) (C0 : Lc p l m meth c s args b L xs A) (hX : CX D cy s) (hE : EX tO aK aV A s s.heap) {i : Nat} (hi : i + 6 ≤ L) (hR0 : R S M) (hP : PD D A (wL cy AD AM S M) H) (hS : va_S A s.heap H locs) (hl : lv_has ls 4 [(0, .ref b), (1, .ref (AD 0 0)), (2, .ref (AM 0)), (3, .int (nI i))]) (hf : cells + 0 ≤ room_1.cells ∧ slots + 0 ≤ room_1.slots)
    (kk : ∀ (S1 : SX) (M1 : tX12), R S1 M1 → ∀ (H1 : Heap) (locs1 : List Loc), PD D A (wL cy AD AM S1 M1) H1 → va_S A s.heap H1 locs1 → ∀ ls1 : Array Slot, lv_has ls1 4 [(0, .ref b), (1, .ref (AD 0 0)), (2, .ref (AM 0)), (3, .int (nI i))] → W p l e room_1 s m args below meth c H1 locs1 cells slots Q (F0 m 1979 ls1 [])) : W p l e room_1 s m args below meth c H locs cells slots Q (F0 m 627 ls []) := by
  obtain ⟨r, S1, M1, h1, h2, hR⟩ := hq S M (xs (i + 1)) hR0
  have hx := C0.1.1
  have hb := C0.1.2.1
  have hown := C0.1.2.2.2.1
  have ht := C0.1.2.2.2.2
  refine lv_aload_n hx hb dL_law_627 rfl (lv_at hl 1 rfl) ?_
  refine lv_aload_n hx hb dL_law_628 rfl (lv_at hl 0 rfl) ?_
  refine lv_iload_n hx hb dL_law_629 rfl (lv_at hl 3 rfl) ?_
  refine lv_iconst (v := 1) hx hb dL_law_630 (by decide) ?_
  refine lv_iadd hx hb dL_law_631 ?_
  refine xsld hx hb C0.2.2.2.2.2 hS (k := i + 1) (by first | rfl | exact nI_add i 1) ⟨by omega, C0.2.2.2.1⟩ dL_law_632 ?_
  refine LX_fault (rest := []) C0.1 hX hE hP hS h1 hl.1 (Nat.le_of_ble_eq_true rfl) dL_law_633 hf (fun H locs hP hS => ?_)
  refine lv_aload_n hx hb dL_law_636 rfl (lv_at hl 2 rfl) ?_
  refine lv_aload_n hx hb dL_law_637 rfl (lv_at hl 0 rfl) ?_
  refine lv_iload_n hx hb dL_law_638 rfl (lv_at hl 3 rfl) ?_
  refine lv_iconst (v := 1) hx hb dL_law_639 (by decide) ?_
  refine lv_iadd hx hb dL_law_640 ?_
  refine xsld hx hb C0.2.2.2.2.2 hS (k := i + 1) (by first | rfl | exact nI_add i 1) ⟨by omega, C0.2.2.2.1⟩ dL_law_641 ?_
  refine LM_fault (rest := [.int r]) C0.1 hX hE hP hS h2 hl.1 (Nat.le_of_ble_eq_true rfl) dL_law_642 hf (fun H locs hP hS => ?_)
  exact lv_icmp_eq (tgt := 1979) hx hb dL_law_645 (by decide) (fun _ => kk S1 M1 hR H locs hP hS ls hl) (fun hc => absurd rfl hc)
set_option maxHeartbeats 4000000 in
set_option maxRecDepth 100000 in
theorem law_told (hq : Q_told fu R) (C0 : Lc p l m meth c s args b L xs A) (hX : CX D cy s) (hE : EX tO aK aV A s s.heap) {i : Nat} (hi : i + 6 ≤ L) (hR0 : R S M) (hP : PD D A (wL cy AD AM S M) H) (hS : va_S A s.heap H locs) (hl : lv_has ls 4 [(0, .ref b), (1, .ref (AD 0 0)), (2, .ref (AM 0)), (3, .int (nI i))]) (hf : cells + 0 ≤ room_1.cells ∧ slots + 0 ≤ room_1.slots)
    (kk : ∀ (S1 : SX) (M1 : tX12), R S1 M1 → ∀ (H1 : Heap) (locs1 : List Loc), PD D A (wL cy AD AM S1 M1) H1 → va_S A s.heap H1 locs1 → ∀ ls1 : Array Slot, lv_has ls1 4 [(0, .ref b), (1, .ref (AD 0 0)), (2, .ref (AM 0)), (3, .int (nI i))] → W p l e room_1 s m args below meth c H1 locs1 cells slots Q (F0 m 1979 ls1 [])) : W p l e room_1 s m args below meth c H locs cells slots Q (F0 m 650 ls []) := by
  obtain ⟨r, S1, M1, h1, h2, hR⟩ := hq S M (xs (i + 1)) hR0
  have hx := C0.1.1
  have hb := C0.1.2.1
  have hown := C0.1.2.2.2.1
  have ht := C0.1.2.2.2.2
  refine lv_aload_n hx hb dL_law_650 rfl (lv_at hl 1 rfl) ?_
  refine lv_aload_n hx hb dL_law_651 rfl (lv_at hl 0 rfl) ?_
  refine lv_iload_n hx hb dL_law_652 rfl (lv_at hl 3 rfl) ?_
  refine lv_iconst (v := 1) hx hb dL_law_653 (by decide) ?_
  refine lv_iadd hx hb dL_law_654 ?_
  refine xsld hx hb C0.2.2.2.2.2 hS (k := i + 1) (by first | rfl | exact nI_add i 1) ⟨by omega, C0.2.2.2.1⟩ dL_law_655 ?_
  refine LX_told (rest := []) C0.1 hX hE hP hS h1 hl.1 (Nat.le_of_ble_eq_true rfl) dL_law_656 hf (fun H locs hP hS => ?_)
  refine lv_aload_n hx hb dL_law_659 rfl (lv_at hl 2 rfl) ?_
  refine lv_aload_n hx hb dL_law_660 rfl (lv_at hl 0 rfl) ?_
  refine lv_iload_n hx hb dL_law_661 rfl (lv_at hl 3 rfl) ?_
  refine lv_iconst (v := 1) hx hb dL_law_662 (by decide) ?_
  refine lv_iadd hx hb dL_law_663 ?_
  refine xsld hx hb C0.2.2.2.2.2 hS (k := i + 1) (by first | rfl | exact nI_add i 1) ⟨by omega, C0.2.2.2.1⟩ dL_law_664 ?_
  refine LM_told (rest := [.int r]) C0.1 hX hE hP hS h2 hl.1 (Nat.le_of_ble_eq_true rfl) dL_law_665 hf (fun H locs hP hS => ?_)
  exact lv_icmp_eq (tgt := 1979) hx hb dL_law_668 (by decide) (fun _ => kk S1 M1 hR H locs hP hS ls hl) (fun hc => absurd rfl hc)
set_option maxHeartbeats 4000000 in
set_option maxRecDepth 100000 in
theorem law_man (hq : Q_man fu R) (C0 : Lc p l m meth c s args b L xs A) (hX : CX D cy s) (hE : EX tO aK aV A s s.heap) {i : Nat} (hi : i + 6 ≤ L) (hR0 : R S M) (hP : PD D A (wL cy AD AM S M) H) (hS : va_S A s.heap H locs) (hl : lv_has ls 4 [(0, .ref b), (1, .ref (AD 0 0)), (2, .ref (AM 0)), (3, .int (nI i))]) (hf : cells + 0 ≤ room_1.cells ∧ slots + 0 ≤ room_1.slots)
    (kk : ∀ (S1 : SX) (M1 : tX12), R S1 M1 → ∀ (H1 : Heap) (locs1 : List Loc), PD D A (wL cy AD AM S1 M1) H1 → va_S A s.heap H1 locs1 → ∀ ls1 : Array Slot, lv_has ls1 4 [(0, .ref b), (1, .ref (AD 0 0)), (2, .ref (AM 0)), (3, .int (nI i))] → W p l e room_1 s m args below meth c H1 locs1 cells slots Q (F0 m 1979 ls1 [])) : W p l e room_1 s m args below meth c H locs cells slots Q (F0 m 673 ls []) := by
  obtain ⟨r, S1, M1, h1, h2, hR⟩ := hq S M (xs (i + 1)) (xs (i + 2)) hR0
  have hx := C0.1.1
  have hb := C0.1.2.1
  have hown := C0.1.2.2.2.1
  have ht := C0.1.2.2.2.2
  refine lv_aload_n hx hb dL_law_673 rfl (lv_at hl 1 rfl) ?_
  refine lv_aload_n hx hb dL_law_674 rfl (lv_at hl 0 rfl) ?_
  refine lv_iload_n hx hb dL_law_675 rfl (lv_at hl 3 rfl) ?_
  refine lv_iconst (v := 1) hx hb dL_law_676 (by decide) ?_
  refine lv_iadd hx hb dL_law_677 ?_
  refine xsld hx hb C0.2.2.2.2.2 hS (k := i + 1) (by first | rfl | exact nI_add i 1) ⟨by omega, C0.2.2.2.1⟩ dL_law_678 ?_
  refine lv_aload_n hx hb dL_law_679 rfl (lv_at hl 0 rfl) ?_
  refine lv_iload_n hx hb dL_law_680 rfl (lv_at hl 3 rfl) ?_
  refine lv_iconst (v := 2) hx hb dL_law_681 (by decide) ?_
  refine lv_iadd hx hb dL_law_682 ?_
  refine xsld hx hb C0.2.2.2.2.2 hS (k := i + 2) (by first | rfl | exact nI_add i 2) ⟨by omega, C0.2.2.2.1⟩ dL_law_683 ?_
  refine LX_man (rest := []) C0.1 hX hE hP hS h1 hl.1 (Nat.le_of_ble_eq_true rfl) dL_law_684 hf (fun H locs hP hS => ?_)
  refine lv_aload_n hx hb dL_law_687 rfl (lv_at hl 2 rfl) ?_
  refine lv_aload_n hx hb dL_law_688 rfl (lv_at hl 0 rfl) ?_
  refine lv_iload_n hx hb dL_law_689 rfl (lv_at hl 3 rfl) ?_
  refine lv_iconst (v := 1) hx hb dL_law_690 (by decide) ?_
  refine lv_iadd hx hb dL_law_691 ?_
  refine xsld hx hb C0.2.2.2.2.2 hS (k := i + 1) (by first | rfl | exact nI_add i 1) ⟨by omega, C0.2.2.2.1⟩ dL_law_692 ?_
  refine lv_aload_n hx hb dL_law_693 rfl (lv_at hl 0 rfl) ?_
  refine lv_iload_n hx hb dL_law_694 rfl (lv_at hl 3 rfl) ?_
  refine lv_iconst (v := 2) hx hb dL_law_695 (by decide) ?_
  refine lv_iadd hx hb dL_law_696 ?_
  refine xsld hx hb C0.2.2.2.2.2 hS (k := i + 2) (by first | rfl | exact nI_add i 2) ⟨by omega, C0.2.2.2.1⟩ dL_law_697 ?_
  refine LM_man (rest := [.int r]) C0.1 hX hE hP hS h2 hl.1 (Nat.le_of_ble_eq_true rfl) dL_law_698 hf (fun H locs hP hS => ?_)
  exact lv_icmp_eq (tgt := 1979) hx hb dL_law_701 (by decide) (fun _ => kk S1 M1 hR H locs hP hS ls hl) (fun hc => absurd rfl hc)
set_option maxHeartbeats 4000000 in
set_option maxRecDepth 100000 in
theorem law_likes (hq : Q_likes fu R) (C0 : Lc p l m meth c s args b L xs A) (hX : CX D cy s) (hE : EX tO aK aV A s s.heap) {i : Nat} (hi : i + 6 ≤ L) (hR0 : R S M) (hP : PD D A (wL cy AD AM S M) H) (hS : va_S A s.heap H locs) (hl : lv_has ls 4 [(0, .ref b), (1, .ref (AD 0 0)), (2, .ref (AM 0)), (3, .int (nI i))]) (hf : cells + 0 ≤ room_1.cells ∧ slots + 0 ≤ room_1.slots)
    (kk : ∀ (S1 : SX) (M1 : tX12), R S1 M1 → ∀ (H1 : Heap) (locs1 : List Loc), PD D A (wL cy AD AM S1 M1) H1 → va_S A s.heap H1 locs1 → ∀ ls1 : Array Slot, lv_has ls1 4 [(0, .ref b), (1, .ref (AD 0 0)), (2, .ref (AM 0)), (3, .int (nI i))] → W p l e room_1 s m args below meth c H1 locs1 cells slots Q (F0 m 1979 ls1 [])) : W p l e room_1 s m args below meth c H locs cells slots Q (F0 m 706 ls []) := by
  obtain ⟨r, S1, M1, h1, h2, hR⟩ := hq S M (xs (i + 1)) (xs (i + 2)) hR0
  have hx := C0.1.1
  have hb := C0.1.2.1
  have hown := C0.1.2.2.2.1
  have ht := C0.1.2.2.2.2
  refine lv_aload_n hx hb dL_law_706 rfl (lv_at hl 1 rfl) ?_
  refine lv_aload_n hx hb dL_law_707 rfl (lv_at hl 0 rfl) ?_
  refine lv_iload_n hx hb dL_law_708 rfl (lv_at hl 3 rfl) ?_
  refine lv_iconst (v := 1) hx hb dL_law_709 (by decide) ?_
  refine lv_iadd hx hb dL_law_710 ?_
  refine xsld hx hb C0.2.2.2.2.2 hS (k := i + 1) (by first | rfl | exact nI_add i 1) ⟨by omega, C0.2.2.2.1⟩ dL_law_711 ?_
  refine lv_aload_n hx hb dL_law_712 rfl (lv_at hl 0 rfl) ?_
  refine lv_iload_n hx hb dL_law_713 rfl (lv_at hl 3 rfl) ?_
  refine lv_iconst (v := 2) hx hb dL_law_714 (by decide) ?_
  refine lv_iadd hx hb dL_law_715 ?_
  refine xsld hx hb C0.2.2.2.2.2 hS (k := i + 2) (by first | rfl | exact nI_add i 2) ⟨by omega, C0.2.2.2.1⟩ dL_law_716 ?_
  refine LX_likes (rest := []) C0.1 hX hE hP hS h1 hl.1 (Nat.le_of_ble_eq_true rfl) dL_law_717 hf (fun H locs hP hS => ?_)
  refine lv_aload_n hx hb dL_law_720 rfl (lv_at hl 2 rfl) ?_
  refine lv_aload_n hx hb dL_law_721 rfl (lv_at hl 0 rfl) ?_
  refine lv_iload_n hx hb dL_law_722 rfl (lv_at hl 3 rfl) ?_
  refine lv_iconst (v := 1) hx hb dL_law_723 (by decide) ?_
  refine lv_iadd hx hb dL_law_724 ?_
  refine xsld hx hb C0.2.2.2.2.2 hS (k := i + 1) (by first | rfl | exact nI_add i 1) ⟨by omega, C0.2.2.2.1⟩ dL_law_725 ?_
  refine lv_aload_n hx hb dL_law_726 rfl (lv_at hl 0 rfl) ?_
  refine lv_iload_n hx hb dL_law_727 rfl (lv_at hl 3 rfl) ?_
  refine lv_iconst (v := 2) hx hb dL_law_728 (by decide) ?_
  refine lv_iadd hx hb dL_law_729 ?_
  refine xsld hx hb C0.2.2.2.2.2 hS (k := i + 2) (by first | rfl | exact nI_add i 2) ⟨by omega, C0.2.2.2.1⟩ dL_law_730 ?_
  refine LM_likes (rest := [.int r]) C0.1 hX hE hP hS h2 hl.1 (Nat.le_of_ble_eq_true rfl) dL_law_731 hf (fun H locs hP hS => ?_)
  exact lv_icmp_eq (tgt := 1979) hx hb dL_law_734 (by decide) (fun _ => kk S1 M1 hR H locs hP hS ls hl) (fun hc => absurd rfl hc)
set_option maxHeartbeats 4000000 in
set_option maxRecDepth 100000 in
theorem law_face (hq : Q_face fu R) (C0 : Lc p l m meth c s args b L xs A) (hX : CX D cy s) (hE : EX tO aK aV A s s.heap) {i : Nat} (hi : i + 6 ≤ L) (hR0 : R S M) (hP : PD D A (wL cy AD AM S M) H) (hS : va_S A s.heap H locs) (hl : lv_has ls 4 [(0, .ref b), (1, .ref (AD 0 0)), (2, .ref (AM 0)), (3, .int (nI i))]) (hf : cells + 0 ≤ room_1.cells ∧ slots + 0 ≤ room_1.slots)
    (kk : ∀ (S1 : SX) (M1 : tX12), R S1 M1 → ∀ (H1 : Heap) (locs1 : List Loc), PD D A (wL cy AD AM S1 M1) H1 → va_S A s.heap H1 locs1 → ∀ ls1 : Array Slot, lv_has ls1 4 [(0, .ref b), (1, .ref (AD 0 0)), (2, .ref (AM 0)), (3, .int (nI i))] → W p l e room_1 s m args below meth c H1 locs1 cells slots Q (F0 m 1979 ls1 [])) : W p l e room_1 s m args below meth c H locs cells slots Q (F0 m 739 ls []) := by
  obtain ⟨r, S1, M1, h1, h2, hR⟩ := hq S M (xs (i + 1)) (xs (i + 2)) hR0
  have hx := C0.1.1
  have hb := C0.1.2.1
  have hown := C0.1.2.2.2.1
  have ht := C0.1.2.2.2.2
  refine lv_aload_n hx hb dL_law_739 rfl (lv_at hl 1 rfl) ?_
  refine lv_aload_n hx hb dL_law_740 rfl (lv_at hl 0 rfl) ?_
  refine lv_iload_n hx hb dL_law_741 rfl (lv_at hl 3 rfl) ?_
  refine lv_iconst (v := 1) hx hb dL_law_742 (by decide) ?_
  refine lv_iadd hx hb dL_law_743 ?_
  refine xsld hx hb C0.2.2.2.2.2 hS (k := i + 1) (by first | rfl | exact nI_add i 1) ⟨by omega, C0.2.2.2.1⟩ dL_law_744 ?_
  refine lv_aload_n hx hb dL_law_745 rfl (lv_at hl 0 rfl) ?_
  refine lv_iload_n hx hb dL_law_746 rfl (lv_at hl 3 rfl) ?_
  refine lv_iconst (v := 2) hx hb dL_law_747 (by decide) ?_
  refine lv_iadd hx hb dL_law_748 ?_
  refine xsld hx hb C0.2.2.2.2.2 hS (k := i + 2) (by first | rfl | exact nI_add i 2) ⟨by omega, C0.2.2.2.1⟩ dL_law_749 ?_
  refine LX_face (rest := []) C0.1 hX hE hP hS h1 hl.1 (Nat.le_of_ble_eq_true rfl) dL_law_750 hf (fun H locs hP hS => ?_)
  refine lv_aload_n hx hb dL_law_753 rfl (lv_at hl 2 rfl) ?_
  refine lv_aload_n hx hb dL_law_754 rfl (lv_at hl 0 rfl) ?_
  refine lv_iload_n hx hb dL_law_755 rfl (lv_at hl 3 rfl) ?_
  refine lv_iconst (v := 1) hx hb dL_law_756 (by decide) ?_
  refine lv_iadd hx hb dL_law_757 ?_
  refine xsld hx hb C0.2.2.2.2.2 hS (k := i + 1) (by first | rfl | exact nI_add i 1) ⟨by omega, C0.2.2.2.1⟩ dL_law_758 ?_
  refine lv_aload_n hx hb dL_law_759 rfl (lv_at hl 0 rfl) ?_
  refine lv_iload_n hx hb dL_law_760 rfl (lv_at hl 3 rfl) ?_
  refine lv_iconst (v := 2) hx hb dL_law_761 (by decide) ?_
  refine lv_iadd hx hb dL_law_762 ?_
  refine xsld hx hb C0.2.2.2.2.2 hS (k := i + 2) (by first | rfl | exact nI_add i 2) ⟨by omega, C0.2.2.2.1⟩ dL_law_763 ?_
  refine LM_face (rest := [.int r]) C0.1 hX hE hP hS h2 hl.1 (Nat.le_of_ble_eq_true rfl) dL_law_764 hf (fun H locs hP hS => ?_)
  exact lv_icmp_eq (tgt := 1979) hx hb dL_law_767 (by decide) (fun _ => kk S1 M1 hR H locs hP hS ls hl) (fun hc => absurd rfl hc)
set_option maxHeartbeats 4000000 in
set_option maxRecDepth 100000 in
theorem law_give (hq : Q_give fu R) (C0 : Lc p l m meth c s args b L xs A) (hX : CX D cy s) (hE : EX tO aK aV A s s.heap) {i : Nat} (hi : i + 6 ≤ L) (hR0 : R S M) (hP : PD D A (wL cy AD AM S M) H) (hS : va_S A s.heap H locs) (hl : lv_has ls 4 [(0, .ref b), (1, .ref (AD 0 0)), (2, .ref (AM 0)), (3, .int (nI i))]) (hf : cells + 0 ≤ room_1.cells ∧ slots + 0 ≤ room_1.slots)
    (kk : ∀ (S1 : SX) (M1 : tX12), R S1 M1 → ∀ (H1 : Heap) (locs1 : List Loc), PD D A (wL cy AD AM S1 M1) H1 → va_S A s.heap H1 locs1 → ∀ ls1 : Array Slot, lv_has ls1 4 [(0, .ref b), (1, .ref (AD 0 0)), (2, .ref (AM 0)), (3, .int (nI i))] → W p l e room_1 s m args below meth c H1 locs1 cells slots Q (F0 m 1979 ls1 [])) : W p l e room_1 s m args below meth c H locs cells slots Q (F0 m 772 ls []) := by
  obtain ⟨r, S1, M1, h1, h2, hR⟩ := hq S M (xs (i + 1)) (xs (i + 2)) hR0
  have hx := C0.1.1
  have hb := C0.1.2.1
  have hown := C0.1.2.2.2.1
  have ht := C0.1.2.2.2.2
  refine lv_aload_n hx hb dL_law_772 rfl (lv_at hl 1 rfl) ?_
  refine lv_aload_n hx hb dL_law_773 rfl (lv_at hl 0 rfl) ?_
  refine lv_iload_n hx hb dL_law_774 rfl (lv_at hl 3 rfl) ?_
  refine lv_iconst (v := 1) hx hb dL_law_775 (by decide) ?_
  refine lv_iadd hx hb dL_law_776 ?_
  refine xsld hx hb C0.2.2.2.2.2 hS (k := i + 1) (by first | rfl | exact nI_add i 1) ⟨by omega, C0.2.2.2.1⟩ dL_law_777 ?_
  refine lv_aload_n hx hb dL_law_778 rfl (lv_at hl 0 rfl) ?_
  refine lv_iload_n hx hb dL_law_779 rfl (lv_at hl 3 rfl) ?_
  refine lv_iconst (v := 2) hx hb dL_law_780 (by decide) ?_
  refine lv_iadd hx hb dL_law_781 ?_
  refine xsld hx hb C0.2.2.2.2.2 hS (k := i + 2) (by first | rfl | exact nI_add i 2) ⟨by omega, C0.2.2.2.1⟩ dL_law_782 ?_
  refine LX_give (rest := []) C0.1 hX hE hP hS h1 hl.1 (Nat.le_of_ble_eq_true rfl) dL_law_783 hf (fun H locs hP hS => ?_)
  refine lv_aload_n hx hb dL_law_786 rfl (lv_at hl 2 rfl) ?_
  refine lv_aload_n hx hb dL_law_787 rfl (lv_at hl 0 rfl) ?_
  refine lv_iload_n hx hb dL_law_788 rfl (lv_at hl 3 rfl) ?_
  refine lv_iconst (v := 1) hx hb dL_law_789 (by decide) ?_
  refine lv_iadd hx hb dL_law_790 ?_
  refine xsld hx hb C0.2.2.2.2.2 hS (k := i + 1) (by first | rfl | exact nI_add i 1) ⟨by omega, C0.2.2.2.1⟩ dL_law_791 ?_
  refine lv_aload_n hx hb dL_law_792 rfl (lv_at hl 0 rfl) ?_
  refine lv_iload_n hx hb dL_law_793 rfl (lv_at hl 3 rfl) ?_
  refine lv_iconst (v := 2) hx hb dL_law_794 (by decide) ?_
  refine lv_iadd hx hb dL_law_795 ?_
  refine xsld hx hb C0.2.2.2.2.2 hS (k := i + 2) (by first | rfl | exact nI_add i 2) ⟨by omega, C0.2.2.2.1⟩ dL_law_796 ?_
  refine LM_give (rest := [.int r]) C0.1 hX hE hP hS h2 hl.1 (Nat.le_of_ble_eq_true rfl) dL_law_797 hf (fun H locs hP hS => ?_)
  exact lv_icmp_eq (tgt := 1979) hx hb dL_law_800 (by decide) (fun _ => kk S1 M1 hR H locs hP hS ls hl) (fun hc => absurd rfl hc)
set_option maxHeartbeats 4000000 in
set_option maxRecDepth 100000 in
theorem law_lose (hq : Q_lose fu R) (C0 : Lc p l m meth c s args b L xs A) (hX : CX D cy s) (hE : EX tO aK aV A s s.heap) {i : Nat} (hi : i + 6 ≤ L) (hR0 : R S M) (hP : PD D A (wL cy AD AM S M) H) (hS : va_S A s.heap H locs) (hl : lv_has ls 4 [(0, .ref b), (1, .ref (AD 0 0)), (2, .ref (AM 0)), (3, .int (nI i))]) (hf : cells + 0 ≤ room_1.cells ∧ slots + 0 ≤ room_1.slots)
    (kk : ∀ (S1 : SX) (M1 : tX12), R S1 M1 → ∀ (H1 : Heap) (locs1 : List Loc), PD D A (wL cy AD AM S1 M1) H1 → va_S A s.heap H1 locs1 → ∀ ls1 : Array Slot, lv_has ls1 4 [(0, .ref b), (1, .ref (AD 0 0)), (2, .ref (AM 0)), (3, .int (nI i))] → W p l e room_1 s m args below meth c H1 locs1 cells slots Q (F0 m 1979 ls1 [])) : W p l e room_1 s m args below meth c H locs cells slots Q (F0 m 805 ls []) := by
  obtain ⟨r, S1, M1, h1, h2, hR⟩ := hq S M (xs (i + 1)) hR0
  have hx := C0.1.1
  have hb := C0.1.2.1
  have hown := C0.1.2.2.2.1
  have ht := C0.1.2.2.2.2
  refine lv_aload_n hx hb dL_law_805 rfl (lv_at hl 1 rfl) ?_
  refine lv_aload_n hx hb dL_law_806 rfl (lv_at hl 0 rfl) ?_
  refine lv_iload_n hx hb dL_law_807 rfl (lv_at hl 3 rfl) ?_
  refine lv_iconst (v := 1) hx hb dL_law_808 (by decide) ?_
  refine lv_iadd hx hb dL_law_809 ?_
  refine xsld hx hb C0.2.2.2.2.2 hS (k := i + 1) (by first | rfl | exact nI_add i 1) ⟨by omega, C0.2.2.2.1⟩ dL_law_810 ?_
  refine LX_lose (rest := []) C0.1 hX hE hP hS h1 hl.1 (Nat.le_of_ble_eq_true rfl) dL_law_811 hf (fun H locs hP hS => ?_)
  refine lv_aload_n hx hb dL_law_814 rfl (lv_at hl 2 rfl) ?_
  refine lv_aload_n hx hb dL_law_815 rfl (lv_at hl 0 rfl) ?_
  refine lv_iload_n hx hb dL_law_816 rfl (lv_at hl 3 rfl) ?_
  refine lv_iconst (v := 1) hx hb dL_law_817 (by decide) ?_
  refine lv_iadd hx hb dL_law_818 ?_
  refine xsld hx hb C0.2.2.2.2.2 hS (k := i + 1) (by first | rfl | exact nI_add i 1) ⟨by omega, C0.2.2.2.1⟩ dL_law_819 ?_
  refine LM_lose (rest := [.int r]) C0.1 hX hE hP hS h2 hl.1 (Nat.le_of_ble_eq_true rfl) dL_law_820 hf (fun H locs hP hS => ?_)
  exact lv_icmp_eq (tgt := 1979) hx hb dL_law_823 (by decide) (fun _ => kk S1 M1 hR H locs hP hS ls hl) (fun hc => absurd rfl hc)
set_option maxHeartbeats 4000000 in
set_option maxRecDepth 100000 in
theorem law_fall (hq : Q_fall fu R) (C0 : Lc p l m meth c s args b L xs A) (hX : CX D cy s) (hE : EX tO aK aV A s s.heap) {i : Nat} (hi : i + 6 ≤ L) (hR0 : R S M) (hP : PD D A (wL cy AD AM S M) H) (hS : va_S A s.heap H locs) (hl : lv_has ls 4 [(0, .ref b), (1, .ref (AD 0 0)), (2, .ref (AM 0)), (3, .int (nI i))]) (hf : cells + 0 ≤ room_1.cells ∧ slots + 0 ≤ room_1.slots)
    (kk : ∀ (S1 : SX) (M1 : tX12), R S1 M1 → ∀ (H1 : Heap) (locs1 : List Loc), PD D A (wL cy AD AM S1 M1) H1 → va_S A s.heap H1 locs1 → ∀ ls1 : Array Slot, lv_has ls1 4 [(0, .ref b), (1, .ref (AD 0 0)), (2, .ref (AM 0)), (3, .int (nI i))] → W p l e room_1 s m args below meth c H1 locs1 cells slots Q (F0 m 1979 ls1 [])) : W p l e room_1 s m args below meth c H locs cells slots Q (F0 m 828 ls []) := by
  obtain ⟨r, S1, M1, h1, h2, hR⟩ := hq S M (xs (i + 1)) hR0
  have hx := C0.1.1
  have hb := C0.1.2.1
  have hown := C0.1.2.2.2.1
  have ht := C0.1.2.2.2.2
  refine lv_aload_n hx hb dL_law_828 rfl (lv_at hl 1 rfl) ?_
  refine lv_aload_n hx hb dL_law_829 rfl (lv_at hl 0 rfl) ?_
  refine lv_iload_n hx hb dL_law_830 rfl (lv_at hl 3 rfl) ?_
  refine lv_iconst (v := 1) hx hb dL_law_831 (by decide) ?_
  refine lv_iadd hx hb dL_law_832 ?_
  refine xsld hx hb C0.2.2.2.2.2 hS (k := i + 1) (by first | rfl | exact nI_add i 1) ⟨by omega, C0.2.2.2.1⟩ dL_law_833 ?_
  refine LX_fall (rest := []) C0.1 hX hE hP hS h1 hl.1 (Nat.le_of_ble_eq_true rfl) dL_law_834 hf (fun H locs hP hS => ?_)
  refine lv_aload_n hx hb dL_law_837 rfl (lv_at hl 2 rfl) ?_
  refine lv_aload_n hx hb dL_law_838 rfl (lv_at hl 0 rfl) ?_
  refine lv_iload_n hx hb dL_law_839 rfl (lv_at hl 3 rfl) ?_
  refine lv_iconst (v := 1) hx hb dL_law_840 (by decide) ?_
  refine lv_iadd hx hb dL_law_841 ?_
  refine xsld hx hb C0.2.2.2.2.2 hS (k := i + 1) (by first | rfl | exact nI_add i 1) ⟨by omega, C0.2.2.2.1⟩ dL_law_842 ?_
  refine LM_fall (rest := [.int r]) C0.1 hX hE hP hS h2 hl.1 (Nat.le_of_ble_eq_true rfl) dL_law_843 hf (fun H locs hP hS => ?_)
  exact lv_icmp_eq (tgt := 1979) hx hb dL_law_846 (by decide) (fun _ => kk S1 M1 hR H locs hP hS ls hl) (fun hc => absurd rfl hc)
set_option maxHeartbeats 4000000 in
set_option maxRecDepth 100000 in
theorem law_enlist (hq : Q_enlist fu R) (C0 : Lc p l m meth c s args b L xs A) (hX : CX D cy s) (hE : EX tO aK aV A s s.heap) {i : Nat} (hi : i + 6 ≤ L) (hR0 : R S M) (hP : PD D A (wL cy AD AM S M) H) (hS : va_S A s.heap H locs) (hl : lv_has ls 4 [(0, .ref b), (1, .ref (AD 0 0)), (2, .ref (AM 0)), (3, .int (nI i))]) (hf : cells + 0 ≤ room_1.cells ∧ slots + 0 ≤ room_1.slots)
    (kk : ∀ (S1 : SX) (M1 : tX12), R S1 M1 → ∀ (H1 : Heap) (locs1 : List Loc), PD D A (wL cy AD AM S1 M1) H1 → va_S A s.heap H1 locs1 → ∀ ls1 : Array Slot, lv_has ls1 4 [(0, .ref b), (1, .ref (AD 0 0)), (2, .ref (AM 0)), (3, .int (nI i))] → W p l e room_1 s m args below meth c H1 locs1 cells slots Q (F0 m 1979 ls1 [])) : W p l e room_1 s m args below meth c H locs cells slots Q (F0 m 851 ls []) := by
  obtain ⟨r, S1, M1, h1, h2, hR⟩ := hq S M (xs (i + 1)) (xs (i + 2)) hR0
  have hx := C0.1.1
  have hb := C0.1.2.1
  have hown := C0.1.2.2.2.1
  have ht := C0.1.2.2.2.2
  refine lv_aload_n hx hb dL_law_851 rfl (lv_at hl 1 rfl) ?_
  refine lv_aload_n hx hb dL_law_852 rfl (lv_at hl 0 rfl) ?_
  refine lv_iload_n hx hb dL_law_853 rfl (lv_at hl 3 rfl) ?_
  refine lv_iconst (v := 1) hx hb dL_law_854 (by decide) ?_
  refine lv_iadd hx hb dL_law_855 ?_
  refine xsld hx hb C0.2.2.2.2.2 hS (k := i + 1) (by first | rfl | exact nI_add i 1) ⟨by omega, C0.2.2.2.1⟩ dL_law_856 ?_
  refine lv_aload_n hx hb dL_law_857 rfl (lv_at hl 0 rfl) ?_
  refine lv_iload_n hx hb dL_law_858 rfl (lv_at hl 3 rfl) ?_
  refine lv_iconst (v := 2) hx hb dL_law_859 (by decide) ?_
  refine lv_iadd hx hb dL_law_860 ?_
  refine xsld hx hb C0.2.2.2.2.2 hS (k := i + 2) (by first | rfl | exact nI_add i 2) ⟨by omega, C0.2.2.2.1⟩ dL_law_861 ?_
  refine LX_enlist (rest := []) C0.1 hX hE hP hS h1 hl.1 (Nat.le_of_ble_eq_true rfl) dL_law_862 hf (fun H locs hP hS => ?_)
  refine lv_aload_n hx hb dL_law_865 rfl (lv_at hl 2 rfl) ?_
  refine lv_aload_n hx hb dL_law_866 rfl (lv_at hl 0 rfl) ?_
  refine lv_iload_n hx hb dL_law_867 rfl (lv_at hl 3 rfl) ?_
  refine lv_iconst (v := 1) hx hb dL_law_868 (by decide) ?_
  refine lv_iadd hx hb dL_law_869 ?_
  refine xsld hx hb C0.2.2.2.2.2 hS (k := i + 1) (by first | rfl | exact nI_add i 1) ⟨by omega, C0.2.2.2.1⟩ dL_law_870 ?_
  refine lv_aload_n hx hb dL_law_871 rfl (lv_at hl 0 rfl) ?_
  refine lv_iload_n hx hb dL_law_872 rfl (lv_at hl 3 rfl) ?_
  refine lv_iconst (v := 2) hx hb dL_law_873 (by decide) ?_
  refine lv_iadd hx hb dL_law_874 ?_
  refine xsld hx hb C0.2.2.2.2.2 hS (k := i + 2) (by first | rfl | exact nI_add i 2) ⟨by omega, C0.2.2.2.1⟩ dL_law_875 ?_
  refine LM_enlist (rest := [.int r]) C0.1 hX hE hP hS h2 hl.1 (Nat.le_of_ble_eq_true rfl) dL_law_876 hf (fun H locs hP hS => ?_)
  exact lv_icmp_eq (tgt := 1979) hx hb dL_law_879 (by decide) (fun _ => kk S1 M1 hR H locs hP hS ls hl) (fun hc => absurd rfl hc)
set_option maxHeartbeats 4000000 in
set_option maxRecDepth 100000 in
theorem law_train (hq : Q_train fu R) (C0 : Lc p l m meth c s args b L xs A) (hX : CX D cy s) (hE : EX tO aK aV A s s.heap) {i : Nat} (hi : i + 6 ≤ L) (hR0 : R S M) (hP : PD D A (wL cy AD AM S M) H) (hS : va_S A s.heap H locs) (hl : lv_has ls 4 [(0, .ref b), (1, .ref (AD 0 0)), (2, .ref (AM 0)), (3, .int (nI i))]) (hf : cells + 0 ≤ room_1.cells ∧ slots + 0 ≤ room_1.slots)
    (kk : ∀ (S1 : SX) (M1 : tX12), R S1 M1 → ∀ (H1 : Heap) (locs1 : List Loc), PD D A (wL cy AD AM S1 M1) H1 → va_S A s.heap H1 locs1 → ∀ ls1 : Array Slot, lv_has ls1 4 [(0, .ref b), (1, .ref (AD 0 0)), (2, .ref (AM 0)), (3, .int (nI i))] → W p l e room_1 s m args below meth c H1 locs1 cells slots Q (F0 m 1979 ls1 [])) : W p l e room_1 s m args below meth c H locs cells slots Q (F0 m 884 ls []) := by
  obtain ⟨r, S1, M1, h1, h2, hR⟩ := hq S M (xs (i + 1)) (xs (i + 2)) hR0
  have hx := C0.1.1
  have hb := C0.1.2.1
  have hown := C0.1.2.2.2.1
  have ht := C0.1.2.2.2.2
  refine lv_aload_n hx hb dL_law_884 rfl (lv_at hl 1 rfl) ?_
  refine lv_aload_n hx hb dL_law_885 rfl (lv_at hl 0 rfl) ?_
  refine lv_iload_n hx hb dL_law_886 rfl (lv_at hl 3 rfl) ?_
  refine lv_iconst (v := 1) hx hb dL_law_887 (by decide) ?_
  refine lv_iadd hx hb dL_law_888 ?_
  refine xsld hx hb C0.2.2.2.2.2 hS (k := i + 1) (by first | rfl | exact nI_add i 1) ⟨by omega, C0.2.2.2.1⟩ dL_law_889 ?_
  refine lv_aload_n hx hb dL_law_890 rfl (lv_at hl 0 rfl) ?_
  refine lv_iload_n hx hb dL_law_891 rfl (lv_at hl 3 rfl) ?_
  refine lv_iconst (v := 2) hx hb dL_law_892 (by decide) ?_
  refine lv_iadd hx hb dL_law_893 ?_
  refine xsld hx hb C0.2.2.2.2.2 hS (k := i + 2) (by first | rfl | exact nI_add i 2) ⟨by omega, C0.2.2.2.1⟩ dL_law_894 ?_
  refine LX_train (rest := []) C0.1 hX hE hP hS h1 hl.1 (Nat.le_of_ble_eq_true rfl) dL_law_895 hf (fun H locs hP hS => ?_)
  refine lv_aload_n hx hb dL_law_898 rfl (lv_at hl 2 rfl) ?_
  refine lv_aload_n hx hb dL_law_899 rfl (lv_at hl 0 rfl) ?_
  refine lv_iload_n hx hb dL_law_900 rfl (lv_at hl 3 rfl) ?_
  refine lv_iconst (v := 1) hx hb dL_law_901 (by decide) ?_
  refine lv_iadd hx hb dL_law_902 ?_
  refine xsld hx hb C0.2.2.2.2.2 hS (k := i + 1) (by first | rfl | exact nI_add i 1) ⟨by omega, C0.2.2.2.1⟩ dL_law_903 ?_
  refine lv_aload_n hx hb dL_law_904 rfl (lv_at hl 0 rfl) ?_
  refine lv_iload_n hx hb dL_law_905 rfl (lv_at hl 3 rfl) ?_
  refine lv_iconst (v := 2) hx hb dL_law_906 (by decide) ?_
  refine lv_iadd hx hb dL_law_907 ?_
  refine xsld hx hb C0.2.2.2.2.2 hS (k := i + 2) (by first | rfl | exact nI_add i 2) ⟨by omega, C0.2.2.2.1⟩ dL_law_908 ?_
  refine LM_train (rest := [.int r]) C0.1 hX hE hP hS h2 hl.1 (Nat.le_of_ble_eq_true rfl) dL_law_909 hf (fun H locs hP hS => ?_)
  exact lv_icmp_eq (tgt := 1979) hx hb dL_law_912 (by decide) (fun _ => kk S1 M1 hR H locs hP hS ls hl) (fun hc => absurd rfl hc)
set_option maxHeartbeats 4000000 in
set_option maxRecDepth 100000 in
theorem law_weigh (hq : Q_weigh fu R) (C0 : Lc p l m meth c s args b L xs A) (hX : CX D cy s) (hE : EX tO aK aV A s s.heap) {i : Nat} (hi : i + 6 ≤ L) (hR0 : R S M) (hP : PD D A (wL cy AD AM S M) H) (hS : va_S A s.heap H locs) (hl : lv_has ls 4 [(0, .ref b), (1, .ref (AD 0 0)), (2, .ref (AM 0)), (3, .int (nI i))]) (hf : cells + 0 ≤ room_1.cells ∧ slots + 0 ≤ room_1.slots)
    (kk : ∀ (S1 : SX) (M1 : tX12), R S1 M1 → ∀ (H1 : Heap) (locs1 : List Loc), PD D A (wL cy AD AM S1 M1) H1 → va_S A s.heap H1 locs1 → ∀ ls1 : Array Slot, lv_has ls1 4 [(0, .ref b), (1, .ref (AD 0 0)), (2, .ref (AM 0)), (3, .int (nI i))] → W p l e room_1 s m args below meth c H1 locs1 cells slots Q (F0 m 1979 ls1 [])) : W p l e room_1 s m args below meth c H locs cells slots Q (F0 m 917 ls []) := by
  obtain ⟨r, S1, M1, h1, h2, hR⟩ := hq S M (xs (i + 1)) (xs (i + 2)) hR0
  have hx := C0.1.1
  have hb := C0.1.2.1
  have hown := C0.1.2.2.2.1
  have ht := C0.1.2.2.2.2
  refine lv_aload_n hx hb dL_law_917 rfl (lv_at hl 1 rfl) ?_
  refine lv_aload_n hx hb dL_law_918 rfl (lv_at hl 0 rfl) ?_
  refine lv_iload_n hx hb dL_law_919 rfl (lv_at hl 3 rfl) ?_
  refine lv_iconst (v := 1) hx hb dL_law_920 (by decide) ?_
  refine lv_iadd hx hb dL_law_921 ?_
  refine xsld hx hb C0.2.2.2.2.2 hS (k := i + 1) (by first | rfl | exact nI_add i 1) ⟨by omega, C0.2.2.2.1⟩ dL_law_922 ?_
  refine lv_aload_n hx hb dL_law_923 rfl (lv_at hl 0 rfl) ?_
  refine lv_iload_n hx hb dL_law_924 rfl (lv_at hl 3 rfl) ?_
  refine lv_iconst (v := 2) hx hb dL_law_925 (by decide) ?_
  refine lv_iadd hx hb dL_law_926 ?_
  refine xsld hx hb C0.2.2.2.2.2 hS (k := i + 2) (by first | rfl | exact nI_add i 2) ⟨by omega, C0.2.2.2.1⟩ dL_law_927 ?_
  refine LX_weigh (rest := []) C0.1 hX hE hP hS h1 hl.1 (Nat.le_of_ble_eq_true rfl) dL_law_928 hf (fun H locs hP hS => ?_)
  refine lv_aload_n hx hb dL_law_931 rfl (lv_at hl 2 rfl) ?_
  refine lv_aload_n hx hb dL_law_932 rfl (lv_at hl 0 rfl) ?_
  refine lv_iload_n hx hb dL_law_933 rfl (lv_at hl 3 rfl) ?_
  refine lv_iconst (v := 1) hx hb dL_law_934 (by decide) ?_
  refine lv_iadd hx hb dL_law_935 ?_
  refine xsld hx hb C0.2.2.2.2.2 hS (k := i + 1) (by first | rfl | exact nI_add i 1) ⟨by omega, C0.2.2.2.1⟩ dL_law_936 ?_
  refine lv_aload_n hx hb dL_law_937 rfl (lv_at hl 0 rfl) ?_
  refine lv_iload_n hx hb dL_law_938 rfl (lv_at hl 3 rfl) ?_
  refine lv_iconst (v := 2) hx hb dL_law_939 (by decide) ?_
  refine lv_iadd hx hb dL_law_940 ?_
  refine xsld hx hb C0.2.2.2.2.2 hS (k := i + 2) (by first | rfl | exact nI_add i 2) ⟨by omega, C0.2.2.2.1⟩ dL_law_941 ?_
  refine LM_weigh (rest := [.int r]) C0.1 hX hE hP hS h2 hl.1 (Nat.le_of_ble_eq_true rfl) dL_law_942 hf (fun H locs hP hS => ?_)
  exact lv_icmp_eq (tgt := 1979) hx hb dL_law_945 (by decide) (fun _ => kk S1 M1 hR H locs hP hS ls hl) (fun hc => absurd rfl hc)
set_option maxHeartbeats 4000000 in
set_option maxRecDepth 100000 in
theorem law_charm (hq : Q_charm fu R) (C0 : Lc p l m meth c s args b L xs A) (hX : CX D cy s) (hE : EX tO aK aV A s s.heap) {i : Nat} (hi : i + 6 ≤ L) (hR0 : R S M) (hP : PD D A (wL cy AD AM S M) H) (hS : va_S A s.heap H locs) (hl : lv_has ls 4 [(0, .ref b), (1, .ref (AD 0 0)), (2, .ref (AM 0)), (3, .int (nI i))]) (hf : cells + 0 ≤ room_1.cells ∧ slots + 0 ≤ room_1.slots)
    (kk : ∀ (S1 : SX) (M1 : tX12), R S1 M1 → ∀ (H1 : Heap) (locs1 : List Loc), PD D A (wL cy AD AM S1 M1) H1 → va_S A s.heap H1 locs1 → ∀ ls1 : Array Slot, lv_has ls1 4 [(0, .ref b), (1, .ref (AD 0 0)), (2, .ref (AM 0)), (3, .int (nI i))] → W p l e room_1 s m args below meth c H1 locs1 cells slots Q (F0 m 1979 ls1 [])) : W p l e room_1 s m args below meth c H locs cells slots Q (F0 m 950 ls []) := by
  obtain ⟨r, S1, M1, h1, h2, hR⟩ := hq S M (xs (i + 1)) (xs (i + 2)) (xs (i + 3)) hR0
  have hx := C0.1.1
  have hb := C0.1.2.1
  have hown := C0.1.2.2.2.1
  have ht := C0.1.2.2.2.2
  refine lv_aload_n hx hb dL_law_950 rfl (lv_at hl 1 rfl) ?_
  refine lv_aload_n hx hb dL_law_951 rfl (lv_at hl 0 rfl) ?_
  refine lv_iload_n hx hb dL_law_952 rfl (lv_at hl 3 rfl) ?_
  refine lv_iconst (v := 1) hx hb dL_law_953 (by decide) ?_
  refine lv_iadd hx hb dL_law_954 ?_
  refine xsld hx hb C0.2.2.2.2.2 hS (k := i + 1) (by first | rfl | exact nI_add i 1) ⟨by omega, C0.2.2.2.1⟩ dL_law_955 ?_
  refine lv_aload_n hx hb dL_law_956 rfl (lv_at hl 0 rfl) ?_
  refine lv_iload_n hx hb dL_law_957 rfl (lv_at hl 3 rfl) ?_
  refine lv_iconst (v := 2) hx hb dL_law_958 (by decide) ?_
  refine lv_iadd hx hb dL_law_959 ?_
  refine xsld hx hb C0.2.2.2.2.2 hS (k := i + 2) (by first | rfl | exact nI_add i 2) ⟨by omega, C0.2.2.2.1⟩ dL_law_960 ?_
  refine lv_aload_n hx hb dL_law_961 rfl (lv_at hl 0 rfl) ?_
  refine lv_iload_n hx hb dL_law_962 rfl (lv_at hl 3 rfl) ?_
  refine lv_iconst (v := 3) hx hb dL_law_963 (by decide) ?_
  refine lv_iadd hx hb dL_law_964 ?_
  refine xsld hx hb C0.2.2.2.2.2 hS (k := i + 3) (by first | rfl | exact nI_add i 3) ⟨by omega, C0.2.2.2.1⟩ dL_law_965 ?_
  refine LX_charm (rest := []) C0.1 hX hE hP hS h1 hl.1 (Nat.le_of_ble_eq_true rfl) dL_law_966 hf (fun H locs hP hS => ?_)
  refine lv_aload_n hx hb dL_law_969 rfl (lv_at hl 2 rfl) ?_
  refine lv_aload_n hx hb dL_law_970 rfl (lv_at hl 0 rfl) ?_
  refine lv_iload_n hx hb dL_law_971 rfl (lv_at hl 3 rfl) ?_
  refine lv_iconst (v := 1) hx hb dL_law_972 (by decide) ?_
  refine lv_iadd hx hb dL_law_973 ?_
  refine xsld hx hb C0.2.2.2.2.2 hS (k := i + 1) (by first | rfl | exact nI_add i 1) ⟨by omega, C0.2.2.2.1⟩ dL_law_974 ?_
  refine lv_aload_n hx hb dL_law_975 rfl (lv_at hl 0 rfl) ?_
  refine lv_iload_n hx hb dL_law_976 rfl (lv_at hl 3 rfl) ?_
  refine lv_iconst (v := 2) hx hb dL_law_977 (by decide) ?_
  refine lv_iadd hx hb dL_law_978 ?_
  refine xsld hx hb C0.2.2.2.2.2 hS (k := i + 2) (by first | rfl | exact nI_add i 2) ⟨by omega, C0.2.2.2.1⟩ dL_law_979 ?_
  refine lv_aload_n hx hb dL_law_980 rfl (lv_at hl 0 rfl) ?_
  refine lv_iload_n hx hb dL_law_981 rfl (lv_at hl 3 rfl) ?_
  refine lv_iconst (v := 3) hx hb dL_law_982 (by decide) ?_
  refine lv_iadd hx hb dL_law_983 ?_
  refine xsld hx hb C0.2.2.2.2.2 hS (k := i + 3) (by first | rfl | exact nI_add i 3) ⟨by omega, C0.2.2.2.1⟩ dL_law_984 ?_
  refine LM_charm (rest := [.int r]) C0.1 hX hE hP hS h2 hl.1 (Nat.le_of_ble_eq_true rfl) dL_law_985 hf (fun H locs hP hS => ?_)
  exact lv_icmp_eq (tgt := 1979) hx hb dL_law_988 (by decide) (fun _ => kk S1 M1 hR H locs hP hS ls hl) (fun hc => absurd rfl hc)
set_option maxHeartbeats 4000000 in
set_option maxRecDepth 100000 in
theorem law_rule (hq : Q_rule fu R) (C0 : Lc p l m meth c s args b L xs A) (hX : CX D cy s) (hE : EX tO aK aV A s s.heap) {i : Nat} (hi : i + 6 ≤ L) (hR0 : R S M) (hP : PD D A (wL cy AD AM S M) H) (hS : va_S A s.heap H locs) (hl : lv_has ls 4 [(0, .ref b), (1, .ref (AD 0 0)), (2, .ref (AM 0)), (3, .int (nI i))]) (hf : cells + 0 ≤ room_1.cells ∧ slots + 0 ≤ room_1.slots)
    (kk : ∀ (S1 : SX) (M1 : tX12), R S1 M1 → ∀ (H1 : Heap) (locs1 : List Loc), PD D A (wL cy AD AM S1 M1) H1 → va_S A s.heap H1 locs1 → ∀ ls1 : Array Slot, lv_has ls1 4 [(0, .ref b), (1, .ref (AD 0 0)), (2, .ref (AM 0)), (3, .int (nI i))] → W p l e room_1 s m args below meth c H1 locs1 cells slots Q (F0 m 1979 ls1 [])) : W p l e room_1 s m args below meth c H locs cells slots Q (F0 m 993 ls []) := by
  obtain ⟨r, S1, M1, h1, h2, hR⟩ := hq S M (xs (i + 1)) (xs (i + 2)) hR0
  have hx := C0.1.1
  have hb := C0.1.2.1
  have hown := C0.1.2.2.2.1
  have ht := C0.1.2.2.2.2
  refine lv_aload_n hx hb dL_law_993 rfl (lv_at hl 1 rfl) ?_
  refine lv_aload_n hx hb dL_law_994 rfl (lv_at hl 0 rfl) ?_
  refine lv_iload_n hx hb dL_law_995 rfl (lv_at hl 3 rfl) ?_
  refine lv_iconst (v := 1) hx hb dL_law_996 (by decide) ?_
  refine lv_iadd hx hb dL_law_997 ?_
  refine xsld hx hb C0.2.2.2.2.2 hS (k := i + 1) (by first | rfl | exact nI_add i 1) ⟨by omega, C0.2.2.2.1⟩ dL_law_998 ?_
  refine lv_aload_n hx hb dL_law_999 rfl (lv_at hl 0 rfl) ?_
  refine lv_iload_n hx hb dL_law_1000 rfl (lv_at hl 3 rfl) ?_
  refine lv_iconst (v := 2) hx hb dL_law_1001 (by decide) ?_
  refine lv_iadd hx hb dL_law_1002 ?_
  refine xsld hx hb C0.2.2.2.2.2 hS (k := i + 2) (by first | rfl | exact nI_add i 2) ⟨by omega, C0.2.2.2.1⟩ dL_law_1003 ?_
  refine LX_rule (rest := []) C0.1 hX hE hP hS h1 hl.1 (Nat.le_of_ble_eq_true rfl) dL_law_1004 hf (fun H locs hP hS => ?_)
  refine lv_aload_n hx hb dL_law_1007 rfl (lv_at hl 2 rfl) ?_
  refine lv_aload_n hx hb dL_law_1008 rfl (lv_at hl 0 rfl) ?_
  refine lv_iload_n hx hb dL_law_1009 rfl (lv_at hl 3 rfl) ?_
  refine lv_iconst (v := 1) hx hb dL_law_1010 (by decide) ?_
  refine lv_iadd hx hb dL_law_1011 ?_
  refine xsld hx hb C0.2.2.2.2.2 hS (k := i + 1) (by first | rfl | exact nI_add i 1) ⟨by omega, C0.2.2.2.1⟩ dL_law_1012 ?_
  refine lv_aload_n hx hb dL_law_1013 rfl (lv_at hl 0 rfl) ?_
  refine lv_iload_n hx hb dL_law_1014 rfl (lv_at hl 3 rfl) ?_
  refine lv_iconst (v := 2) hx hb dL_law_1015 (by decide) ?_
  refine lv_iadd hx hb dL_law_1016 ?_
  refine xsld hx hb C0.2.2.2.2.2 hS (k := i + 2) (by first | rfl | exact nI_add i 2) ⟨by omega, C0.2.2.2.1⟩ dL_law_1017 ?_
  refine LM_rule (rest := [.int r]) C0.1 hX hE hP hS h2 hl.1 (Nat.le_of_ble_eq_true rfl) dL_law_1018 hf (fun H locs hP hS => ?_)
  exact lv_icmp_eq (tgt := 1979) hx hb dL_law_1021 (by decide) (fun _ => kk S1 M1 hR H locs hP hS ls hl) (fun hc => absurd rfl hc)
set_option maxHeartbeats 4000000 in
set_option maxRecDepth 100000 in
theorem law_brave (hq : Q_brave fu R) (C0 : Lc p l m meth c s args b L xs A) (hX : CX D cy s) (hE : EX tO aK aV A s s.heap) {i : Nat} (hi : i + 6 ≤ L) (hR0 : R S M) (hP : PD D A (wL cy AD AM S M) H) (hS : va_S A s.heap H locs) (hl : lv_has ls 4 [(0, .ref b), (1, .ref (AD 0 0)), (2, .ref (AM 0)), (3, .int (nI i))]) (hf : cells + 0 ≤ room_1.cells ∧ slots + 0 ≤ room_1.slots)
    (kk : ∀ (S1 : SX) (M1 : tX12), R S1 M1 → ∀ (H1 : Heap) (locs1 : List Loc), PD D A (wL cy AD AM S1 M1) H1 → va_S A s.heap H1 locs1 → ∀ ls1 : Array Slot, lv_has ls1 4 [(0, .ref b), (1, .ref (AD 0 0)), (2, .ref (AM 0)), (3, .int (nI i))] → W p l e room_1 s m args below meth c H1 locs1 cells slots Q (F0 m 1979 ls1 [])) : W p l e room_1 s m args below meth c H locs cells slots Q (F0 m 1026 ls []) := by
  obtain ⟨r, S1, M1, h1, h2, hR⟩ := hq S M (xs (i + 1)) hR0
  have hx := C0.1.1
  have hb := C0.1.2.1
  have hown := C0.1.2.2.2.1
  have ht := C0.1.2.2.2.2
  refine lv_aload_n hx hb dL_law_1026 rfl (lv_at hl 1 rfl) ?_
  refine lv_aload_n hx hb dL_law_1027 rfl (lv_at hl 0 rfl) ?_
  refine lv_iload_n hx hb dL_law_1028 rfl (lv_at hl 3 rfl) ?_
  refine lv_iconst (v := 1) hx hb dL_law_1029 (by decide) ?_
  refine lv_iadd hx hb dL_law_1030 ?_
  refine xsld hx hb C0.2.2.2.2.2 hS (k := i + 1) (by first | rfl | exact nI_add i 1) ⟨by omega, C0.2.2.2.1⟩ dL_law_1031 ?_
  refine LX_brave (rest := []) C0.1 hX hE hP hS h1 hl.1 (Nat.le_of_ble_eq_true rfl) dL_law_1032 hf (fun H locs hP hS => ?_)
  refine lv_aload_n hx hb dL_law_1035 rfl (lv_at hl 2 rfl) ?_
  refine lv_aload_n hx hb dL_law_1036 rfl (lv_at hl 0 rfl) ?_
  refine lv_iload_n hx hb dL_law_1037 rfl (lv_at hl 3 rfl) ?_
  refine lv_iconst (v := 1) hx hb dL_law_1038 (by decide) ?_
  refine lv_iadd hx hb dL_law_1039 ?_
  refine xsld hx hb C0.2.2.2.2.2 hS (k := i + 1) (by first | rfl | exact nI_add i 1) ⟨by omega, C0.2.2.2.1⟩ dL_law_1040 ?_
  refine LM_brave (rest := [.int r]) C0.1 hX hE hP hS h2 hl.1 (Nat.le_of_ble_eq_true rfl) dL_law_1041 hf (fun H locs hP hS => ?_)
  exact lv_icmp_eq (tgt := 1979) hx hb dL_law_1044 (by decide) (fun _ => kk S1 M1 hR H locs hP hS ls hl) (fun hc => absurd rfl hc)
set_option maxHeartbeats 4000000 in
set_option maxRecDepth 100000 in
theorem law_limit (hq : Q_limit fu R) (C0 : Lc p l m meth c s args b L xs A) (hX : CX D cy s) (hE : EX tO aK aV A s s.heap) {i : Nat} (hi : i + 6 ≤ L) (hR0 : R S M) (hP : PD D A (wL cy AD AM S M) H) (hS : va_S A s.heap H locs) (hl : lv_has ls 4 [(0, .ref b), (1, .ref (AD 0 0)), (2, .ref (AM 0)), (3, .int (nI i))]) (hf : cells + 0 ≤ room_1.cells ∧ slots + 0 ≤ room_1.slots)
    (kk : ∀ (S1 : SX) (M1 : tX12), R S1 M1 → ∀ (H1 : Heap) (locs1 : List Loc), PD D A (wL cy AD AM S1 M1) H1 → va_S A s.heap H1 locs1 → ∀ ls1 : Array Slot, lv_has ls1 4 [(0, .ref b), (1, .ref (AD 0 0)), (2, .ref (AM 0)), (3, .int (nI i))] → W p l e room_1 s m args below meth c H1 locs1 cells slots Q (F0 m 1979 ls1 [])) : W p l e room_1 s m args below meth c H locs cells slots Q (F0 m 1049 ls []) := by
  obtain ⟨r, S1, M1, h1, h2, hR⟩ := hq S M (xs (i + 1)) hR0
  have hx := C0.1.1
  have hb := C0.1.2.1
  have hown := C0.1.2.2.2.1
  have ht := C0.1.2.2.2.2
  refine lv_aload_n hx hb dL_law_1049 rfl (lv_at hl 1 rfl) ?_
  refine lv_aload_n hx hb dL_law_1050 rfl (lv_at hl 0 rfl) ?_
  refine lv_iload_n hx hb dL_law_1051 rfl (lv_at hl 3 rfl) ?_
  refine lv_iconst (v := 1) hx hb dL_law_1052 (by decide) ?_
  refine lv_iadd hx hb dL_law_1053 ?_
  refine xsld hx hb C0.2.2.2.2.2 hS (k := i + 1) (by first | rfl | exact nI_add i 1) ⟨by omega, C0.2.2.2.1⟩ dL_law_1054 ?_
  refine LX_limit (rest := []) C0.1 hX hE hP hS h1 hl.1 (Nat.le_of_ble_eq_true rfl) dL_law_1055 hf (fun H locs hP hS => ?_)
  refine lv_aload_n hx hb dL_law_1058 rfl (lv_at hl 2 rfl) ?_
  refine lv_aload_n hx hb dL_law_1059 rfl (lv_at hl 0 rfl) ?_
  refine lv_iload_n hx hb dL_law_1060 rfl (lv_at hl 3 rfl) ?_
  refine lv_iconst (v := 1) hx hb dL_law_1061 (by decide) ?_
  refine lv_iadd hx hb dL_law_1062 ?_
  refine xsld hx hb C0.2.2.2.2.2 hS (k := i + 1) (by first | rfl | exact nI_add i 1) ⟨by omega, C0.2.2.2.1⟩ dL_law_1063 ?_
  refine LM_limit (rest := [.int r]) C0.1 hX hE hP hS h2 hl.1 (Nat.le_of_ble_eq_true rfl) dL_law_1064 hf (fun H locs hP hS => ?_)
  exact lv_icmp_eq (tgt := 1979) hx hb dL_law_1067 (by decide) (fun _ => kk S1 M1 hR H locs hP hS ls hl) (fun hc => absurd rfl hc)
set_option maxHeartbeats 4000000 in
set_option maxRecDepth 100000 in
theorem law_candidates (hq : Q_candidates fu R) (C0 : Lc p l m meth c s args b L xs A) (hX : CX D cy s) (hE : EX tO aK aV A s s.heap) {i : Nat} (hi : i + 6 ≤ L) (hR0 : R S M) (hP : PD D A (wL cy AD AM S M) H) (hS : va_S A s.heap H locs) (hl : lv_has ls 4 [(0, .ref b), (1, .ref (AD 0 0)), (2, .ref (AM 0)), (3, .int (nI i))]) (hf : cells + 0 ≤ room_1.cells ∧ slots + 0 ≤ room_1.slots)
    (kk : ∀ (S1 : SX) (M1 : tX12), R S1 M1 → ∀ (H1 : Heap) (locs1 : List Loc), PD D A (wL cy AD AM S1 M1) H1 → va_S A s.heap H1 locs1 → ∀ ls1 : Array Slot, lv_has ls1 4 [(0, .ref b), (1, .ref (AD 0 0)), (2, .ref (AM 0)), (3, .int (nI i))] → W p l e room_1 s m args below meth c H1 locs1 cells slots Q (F0 m 1979 ls1 [])) : W p l e room_1 s m args below meth c H locs cells slots Q (F0 m 1072 ls []) := by
  obtain ⟨r, S1, M1, h1, h2, hR⟩ := hq S M (xs (i + 1)) (xs (i + 2)) hR0
  have hx := C0.1.1
  have hb := C0.1.2.1
  have hown := C0.1.2.2.2.1
  have ht := C0.1.2.2.2.2
  refine lv_aload_n hx hb dL_law_1072 rfl (lv_at hl 1 rfl) ?_
  refine lv_aload_n hx hb dL_law_1073 rfl (lv_at hl 0 rfl) ?_
  refine lv_iload_n hx hb dL_law_1074 rfl (lv_at hl 3 rfl) ?_
  refine lv_iconst (v := 1) hx hb dL_law_1075 (by decide) ?_
  refine lv_iadd hx hb dL_law_1076 ?_
  refine xsld hx hb C0.2.2.2.2.2 hS (k := i + 1) (by first | rfl | exact nI_add i 1) ⟨by omega, C0.2.2.2.1⟩ dL_law_1077 ?_
  refine lv_aload_n hx hb dL_law_1078 rfl (lv_at hl 0 rfl) ?_
  refine lv_iload_n hx hb dL_law_1079 rfl (lv_at hl 3 rfl) ?_
  refine lv_iconst (v := 2) hx hb dL_law_1080 (by decide) ?_
  refine lv_iadd hx hb dL_law_1081 ?_
  refine xsld hx hb C0.2.2.2.2.2 hS (k := i + 2) (by first | rfl | exact nI_add i 2) ⟨by omega, C0.2.2.2.1⟩ dL_law_1082 ?_
  refine LX_candidates (rest := []) C0.1 hX hE hP hS h1 hl.1 (Nat.le_of_ble_eq_true rfl) dL_law_1083 hf (fun H locs hP hS => ?_)
  refine lv_aload_n hx hb dL_law_1086 rfl (lv_at hl 2 rfl) ?_
  refine lv_aload_n hx hb dL_law_1087 rfl (lv_at hl 0 rfl) ?_
  refine lv_iload_n hx hb dL_law_1088 rfl (lv_at hl 3 rfl) ?_
  refine lv_iconst (v := 1) hx hb dL_law_1089 (by decide) ?_
  refine lv_iadd hx hb dL_law_1090 ?_
  refine xsld hx hb C0.2.2.2.2.2 hS (k := i + 1) (by first | rfl | exact nI_add i 1) ⟨by omega, C0.2.2.2.1⟩ dL_law_1091 ?_
  refine lv_aload_n hx hb dL_law_1092 rfl (lv_at hl 0 rfl) ?_
  refine lv_iload_n hx hb dL_law_1093 rfl (lv_at hl 3 rfl) ?_
  refine lv_iconst (v := 2) hx hb dL_law_1094 (by decide) ?_
  refine lv_iadd hx hb dL_law_1095 ?_
  refine xsld hx hb C0.2.2.2.2.2 hS (k := i + 2) (by first | rfl | exact nI_add i 2) ⟨by omega, C0.2.2.2.1⟩ dL_law_1096 ?_
  refine LM_candidates (rest := [.int r]) C0.1 hX hE hP hS h2 hl.1 (Nat.le_of_ble_eq_true rfl) dL_law_1097 hf (fun H locs hP hS => ?_)
  exact lv_icmp_eq (tgt := 1979) hx hb dL_law_1100 (by decide) (fun _ => kk S1 M1 hR H locs hP hS ls hl) (fun hc => absurd rfl hc)
set_option maxHeartbeats 4000000 in
set_option maxRecDepth 100000 in
theorem law_voteOf (hq : Q_voteOf fu R) (C0 : Lc p l m meth c s args b L xs A) (hX : CX D cy s) (hE : EX tO aK aV A s s.heap) {i : Nat} (hi : i + 6 ≤ L) (hR0 : R S M) (hP : PD D A (wL cy AD AM S M) H) (hS : va_S A s.heap H locs) (hl : lv_has ls 4 [(0, .ref b), (1, .ref (AD 0 0)), (2, .ref (AM 0)), (3, .int (nI i))]) (hf : cells + 0 ≤ room_1.cells ∧ slots + 0 ≤ room_1.slots)
    (kk : ∀ (S1 : SX) (M1 : tX12), R S1 M1 → ∀ (H1 : Heap) (locs1 : List Loc), PD D A (wL cy AD AM S1 M1) H1 → va_S A s.heap H1 locs1 → ∀ ls1 : Array Slot, lv_has ls1 4 [(0, .ref b), (1, .ref (AD 0 0)), (2, .ref (AM 0)), (3, .int (nI i))] → W p l e room_1 s m args below meth c H1 locs1 cells slots Q (F0 m 1979 ls1 [])) : W p l e room_1 s m args below meth c H locs cells slots Q (F0 m 1105 ls []) := by
  obtain ⟨r, S1, M1, h1, h2, hR⟩ := hq S M (xs (i + 1)) (xs (i + 2)) (xs (i + 3)) hR0
  have hx := C0.1.1
  have hb := C0.1.2.1
  have hown := C0.1.2.2.2.1
  have ht := C0.1.2.2.2.2
  refine lv_aload_n hx hb dL_law_1105 rfl (lv_at hl 1 rfl) ?_
  refine lv_aload_n hx hb dL_law_1106 rfl (lv_at hl 0 rfl) ?_
  refine lv_iload_n hx hb dL_law_1107 rfl (lv_at hl 3 rfl) ?_
  refine lv_iconst (v := 1) hx hb dL_law_1108 (by decide) ?_
  refine lv_iadd hx hb dL_law_1109 ?_
  refine xsld hx hb C0.2.2.2.2.2 hS (k := i + 1) (by first | rfl | exact nI_add i 1) ⟨by omega, C0.2.2.2.1⟩ dL_law_1110 ?_
  refine lv_aload_n hx hb dL_law_1111 rfl (lv_at hl 0 rfl) ?_
  refine lv_iload_n hx hb dL_law_1112 rfl (lv_at hl 3 rfl) ?_
  refine lv_iconst (v := 2) hx hb dL_law_1113 (by decide) ?_
  refine lv_iadd hx hb dL_law_1114 ?_
  refine xsld hx hb C0.2.2.2.2.2 hS (k := i + 2) (by first | rfl | exact nI_add i 2) ⟨by omega, C0.2.2.2.1⟩ dL_law_1115 ?_
  refine lv_aload_n hx hb dL_law_1116 rfl (lv_at hl 0 rfl) ?_
  refine lv_iload_n hx hb dL_law_1117 rfl (lv_at hl 3 rfl) ?_
  refine lv_iconst (v := 3) hx hb dL_law_1118 (by decide) ?_
  refine lv_iadd hx hb dL_law_1119 ?_
  refine xsld hx hb C0.2.2.2.2.2 hS (k := i + 3) (by first | rfl | exact nI_add i 3) ⟨by omega, C0.2.2.2.1⟩ dL_law_1120 ?_
  refine LX_voteOf (rest := []) C0.1 hX hE hP hS h1 hl.1 (Nat.le_of_ble_eq_true rfl) dL_law_1121 hf (fun H locs hP hS => ?_)
  refine lv_aload_n hx hb dL_law_1124 rfl (lv_at hl 2 rfl) ?_
  refine lv_aload_n hx hb dL_law_1125 rfl (lv_at hl 0 rfl) ?_
  refine lv_iload_n hx hb dL_law_1126 rfl (lv_at hl 3 rfl) ?_
  refine lv_iconst (v := 1) hx hb dL_law_1127 (by decide) ?_
  refine lv_iadd hx hb dL_law_1128 ?_
  refine xsld hx hb C0.2.2.2.2.2 hS (k := i + 1) (by first | rfl | exact nI_add i 1) ⟨by omega, C0.2.2.2.1⟩ dL_law_1129 ?_
  refine lv_aload_n hx hb dL_law_1130 rfl (lv_at hl 0 rfl) ?_
  refine lv_iload_n hx hb dL_law_1131 rfl (lv_at hl 3 rfl) ?_
  refine lv_iconst (v := 2) hx hb dL_law_1132 (by decide) ?_
  refine lv_iadd hx hb dL_law_1133 ?_
  refine xsld hx hb C0.2.2.2.2.2 hS (k := i + 2) (by first | rfl | exact nI_add i 2) ⟨by omega, C0.2.2.2.1⟩ dL_law_1134 ?_
  refine lv_aload_n hx hb dL_law_1135 rfl (lv_at hl 0 rfl) ?_
  refine lv_iload_n hx hb dL_law_1136 rfl (lv_at hl 3 rfl) ?_
  refine lv_iconst (v := 3) hx hb dL_law_1137 (by decide) ?_
  refine lv_iadd hx hb dL_law_1138 ?_
  refine xsld hx hb C0.2.2.2.2.2 hS (k := i + 3) (by first | rfl | exact nI_add i 3) ⟨by omega, C0.2.2.2.1⟩ dL_law_1139 ?_
  refine LM_voteOf (rest := [.int r]) C0.1 hX hE hP hS h2 hl.1 (Nat.le_of_ble_eq_true rfl) dL_law_1140 hf (fun H locs hP hS => ?_)
  exact lv_icmp_eq (tgt := 1979) hx hb dL_law_1143 (by decide) (fun _ => kk S1 M1 hR H locs hP hS ls hl) (fun hc => absurd rfl hc)
set_option maxHeartbeats 4000000 in
set_option maxRecDepth 100000 in
theorem law_votes (hq : Q_votes fu R) (C0 : Lc p l m meth c s args b L xs A) (hX : CX D cy s) (hE : EX tO aK aV A s s.heap) {i : Nat} (hi : i + 6 ≤ L) (hR0 : R S M) (hP : PD D A (wL cy AD AM S M) H) (hS : va_S A s.heap H locs) (hl : lv_has ls 4 [(0, .ref b), (1, .ref (AD 0 0)), (2, .ref (AM 0)), (3, .int (nI i))]) (hf : cells + 0 ≤ room_1.cells ∧ slots + 0 ≤ room_1.slots)
    (kk : ∀ (S1 : SX) (M1 : tX12), R S1 M1 → ∀ (H1 : Heap) (locs1 : List Loc), PD D A (wL cy AD AM S1 M1) H1 → va_S A s.heap H1 locs1 → ∀ ls1 : Array Slot, lv_has ls1 4 [(0, .ref b), (1, .ref (AD 0 0)), (2, .ref (AM 0)), (3, .int (nI i))] → W p l e room_1 s m args below meth c H1 locs1 cells slots Q (F0 m 1979 ls1 [])) : W p l e room_1 s m args below meth c H locs cells slots Q (F0 m 1148 ls []) := by
  obtain ⟨r, S1, M1, h1, h2, hR⟩ := hq S M (xs (i + 1)) (xs (i + 2)) (xs (i + 3)) hR0
  have hx := C0.1.1
  have hb := C0.1.2.1
  have hown := C0.1.2.2.2.1
  have ht := C0.1.2.2.2.2
  refine lv_aload_n hx hb dL_law_1148 rfl (lv_at hl 1 rfl) ?_
  refine lv_aload_n hx hb dL_law_1149 rfl (lv_at hl 0 rfl) ?_
  refine lv_iload_n hx hb dL_law_1150 rfl (lv_at hl 3 rfl) ?_
  refine lv_iconst (v := 1) hx hb dL_law_1151 (by decide) ?_
  refine lv_iadd hx hb dL_law_1152 ?_
  refine xsld hx hb C0.2.2.2.2.2 hS (k := i + 1) (by first | rfl | exact nI_add i 1) ⟨by omega, C0.2.2.2.1⟩ dL_law_1153 ?_
  refine lv_aload_n hx hb dL_law_1154 rfl (lv_at hl 0 rfl) ?_
  refine lv_iload_n hx hb dL_law_1155 rfl (lv_at hl 3 rfl) ?_
  refine lv_iconst (v := 2) hx hb dL_law_1156 (by decide) ?_
  refine lv_iadd hx hb dL_law_1157 ?_
  refine xsld hx hb C0.2.2.2.2.2 hS (k := i + 2) (by first | rfl | exact nI_add i 2) ⟨by omega, C0.2.2.2.1⟩ dL_law_1158 ?_
  refine lv_aload_n hx hb dL_law_1159 rfl (lv_at hl 0 rfl) ?_
  refine lv_iload_n hx hb dL_law_1160 rfl (lv_at hl 3 rfl) ?_
  refine lv_iconst (v := 3) hx hb dL_law_1161 (by decide) ?_
  refine lv_iadd hx hb dL_law_1162 ?_
  refine xsld hx hb C0.2.2.2.2.2 hS (k := i + 3) (by first | rfl | exact nI_add i 3) ⟨by omega, C0.2.2.2.1⟩ dL_law_1163 ?_
  refine LX_votes (rest := []) C0.1 hX hE hP hS h1 hl.1 (Nat.le_of_ble_eq_true rfl) dL_law_1164 hf (fun H locs hP hS => ?_)
  refine lv_aload_n hx hb dL_law_1167 rfl (lv_at hl 2 rfl) ?_
  refine lv_aload_n hx hb dL_law_1168 rfl (lv_at hl 0 rfl) ?_
  refine lv_iload_n hx hb dL_law_1169 rfl (lv_at hl 3 rfl) ?_
  refine lv_iconst (v := 1) hx hb dL_law_1170 (by decide) ?_
  refine lv_iadd hx hb dL_law_1171 ?_
  refine xsld hx hb C0.2.2.2.2.2 hS (k := i + 1) (by first | rfl | exact nI_add i 1) ⟨by omega, C0.2.2.2.1⟩ dL_law_1172 ?_
  refine lv_aload_n hx hb dL_law_1173 rfl (lv_at hl 0 rfl) ?_
  refine lv_iload_n hx hb dL_law_1174 rfl (lv_at hl 3 rfl) ?_
  refine lv_iconst (v := 2) hx hb dL_law_1175 (by decide) ?_
  refine lv_iadd hx hb dL_law_1176 ?_
  refine xsld hx hb C0.2.2.2.2.2 hS (k := i + 2) (by first | rfl | exact nI_add i 2) ⟨by omega, C0.2.2.2.1⟩ dL_law_1177 ?_
  refine lv_aload_n hx hb dL_law_1178 rfl (lv_at hl 0 rfl) ?_
  refine lv_iload_n hx hb dL_law_1179 rfl (lv_at hl 3 rfl) ?_
  refine lv_iconst (v := 3) hx hb dL_law_1180 (by decide) ?_
  refine lv_iadd hx hb dL_law_1181 ?_
  refine xsld hx hb C0.2.2.2.2.2 hS (k := i + 3) (by first | rfl | exact nI_add i 3) ⟨by omega, C0.2.2.2.1⟩ dL_law_1182 ?_
  refine LM_votes (rest := [.int r]) C0.1 hX hE hP hS h2 hl.1 (Nat.le_of_ble_eq_true rfl) dL_law_1183 hf (fun H locs hP hS => ?_)
  exact lv_icmp_eq (tgt := 1979) hx hb dL_law_1186 (by decide) (fun _ => kk S1 M1 hR H locs hP hS ls hl) (fun hc => absurd rfl hc)
set_option maxHeartbeats 4000000 in
set_option maxRecDepth 100000 in
theorem law_goesTo (hq : Q_goesTo fu R) (C0 : Lc p l m meth c s args b L xs A) (hX : CX D cy s) (hE : EX tO aK aV A s s.heap) {i : Nat} (hi : i + 6 ≤ L) (hR0 : R S M) (hP : PD D A (wL cy AD AM S M) H) (hS : va_S A s.heap H locs) (hl : lv_has ls 4 [(0, .ref b), (1, .ref (AD 0 0)), (2, .ref (AM 0)), (3, .int (nI i))]) (hf : cells + 0 ≤ room_1.cells ∧ slots + 0 ≤ room_1.slots)
    (kk : ∀ (S1 : SX) (M1 : tX12), R S1 M1 → ∀ (H1 : Heap) (locs1 : List Loc), PD D A (wL cy AD AM S1 M1) H1 → va_S A s.heap H1 locs1 → ∀ ls1 : Array Slot, lv_has ls1 4 [(0, .ref b), (1, .ref (AD 0 0)), (2, .ref (AM 0)), (3, .int (nI i))] → W p l e room_1 s m args below meth c H1 locs1 cells slots Q (F0 m 1979 ls1 [])) : W p l e room_1 s m args below meth c H locs cells slots Q (F0 m 1191 ls []) := by
  obtain ⟨r, S1, M1, h1, h2, hR⟩ := hq S M (xs (i + 1)) (xs (i + 2)) hR0
  have hx := C0.1.1
  have hb := C0.1.2.1
  have hown := C0.1.2.2.2.1
  have ht := C0.1.2.2.2.2
  refine lv_aload_n hx hb dL_law_1191 rfl (lv_at hl 1 rfl) ?_
  refine lv_aload_n hx hb dL_law_1192 rfl (lv_at hl 0 rfl) ?_
  refine lv_iload_n hx hb dL_law_1193 rfl (lv_at hl 3 rfl) ?_
  refine lv_iconst (v := 1) hx hb dL_law_1194 (by decide) ?_
  refine lv_iadd hx hb dL_law_1195 ?_
  refine xsld hx hb C0.2.2.2.2.2 hS (k := i + 1) (by first | rfl | exact nI_add i 1) ⟨by omega, C0.2.2.2.1⟩ dL_law_1196 ?_
  refine lv_aload_n hx hb dL_law_1197 rfl (lv_at hl 0 rfl) ?_
  refine lv_iload_n hx hb dL_law_1198 rfl (lv_at hl 3 rfl) ?_
  refine lv_iconst (v := 2) hx hb dL_law_1199 (by decide) ?_
  refine lv_iadd hx hb dL_law_1200 ?_
  refine xsld hx hb C0.2.2.2.2.2 hS (k := i + 2) (by first | rfl | exact nI_add i 2) ⟨by omega, C0.2.2.2.1⟩ dL_law_1201 ?_
  refine LX_goesTo (rest := []) C0.1 hX hE hP hS h1 hl.1 (Nat.le_of_ble_eq_true rfl) dL_law_1202 hf (fun H locs hP hS => ?_)
  refine lv_aload_n hx hb dL_law_1205 rfl (lv_at hl 2 rfl) ?_
  refine lv_aload_n hx hb dL_law_1206 rfl (lv_at hl 0 rfl) ?_
  refine lv_iload_n hx hb dL_law_1207 rfl (lv_at hl 3 rfl) ?_
  refine lv_iconst (v := 1) hx hb dL_law_1208 (by decide) ?_
  refine lv_iadd hx hb dL_law_1209 ?_
  refine xsld hx hb C0.2.2.2.2.2 hS (k := i + 1) (by first | rfl | exact nI_add i 1) ⟨by omega, C0.2.2.2.1⟩ dL_law_1210 ?_
  refine lv_aload_n hx hb dL_law_1211 rfl (lv_at hl 0 rfl) ?_
  refine lv_iload_n hx hb dL_law_1212 rfl (lv_at hl 3 rfl) ?_
  refine lv_iconst (v := 2) hx hb dL_law_1213 (by decide) ?_
  refine lv_iadd hx hb dL_law_1214 ?_
  refine xsld hx hb C0.2.2.2.2.2 hS (k := i + 2) (by first | rfl | exact nI_add i 2) ⟨by omega, C0.2.2.2.1⟩ dL_law_1215 ?_
  refine LM_goesTo (rest := [.int r]) C0.1 hX hE hP hS h2 hl.1 (Nat.le_of_ble_eq_true rfl) dL_law_1216 hf (fun H locs hP hS => ?_)
  exact lv_icmp_eq (tgt := 1979) hx hb dL_law_1219 (by decide) (fun _ => kk S1 M1 hR H locs hP hS ls hl) (fun hc => absurd rfl hc)
set_option maxHeartbeats 4000000 in
set_option maxRecDepth 100000 in
theorem law_carries (hq : Q_carries fu R) (C0 : Lc p l m meth c s args b L xs A) (hX : CX D cy s) (hE : EX tO aK aV A s s.heap) {i : Nat} (hi : i + 6 ≤ L) (hR0 : R S M) (hP : PD D A (wL cy AD AM S M) H) (hS : va_S A s.heap H locs) (hl : lv_has ls 4 [(0, .ref b), (1, .ref (AD 0 0)), (2, .ref (AM 0)), (3, .int (nI i))]) (hf : cells + 0 ≤ room_1.cells ∧ slots + 0 ≤ room_1.slots)
    (kk : ∀ (S1 : SX) (M1 : tX12), R S1 M1 → ∀ (H1 : Heap) (locs1 : List Loc), PD D A (wL cy AD AM S1 M1) H1 → va_S A s.heap H1 locs1 → ∀ ls1 : Array Slot, lv_has ls1 4 [(0, .ref b), (1, .ref (AD 0 0)), (2, .ref (AM 0)), (3, .int (nI i))] → W p l e room_1 s m args below meth c H1 locs1 cells slots Q (F0 m 1979 ls1 [])) : W p l e room_1 s m args below meth c H locs cells slots Q (F0 m 1224 ls []) := by
  obtain ⟨r, S1, M1, h1, h2, hR⟩ := hq S M (xs (i + 1)) hR0
  have hx := C0.1.1
  have hb := C0.1.2.1
  have hown := C0.1.2.2.2.1
  have ht := C0.1.2.2.2.2
  refine lv_aload_n hx hb dL_law_1224 rfl (lv_at hl 1 rfl) ?_
  refine lv_aload_n hx hb dL_law_1225 rfl (lv_at hl 0 rfl) ?_
  refine lv_iload_n hx hb dL_law_1226 rfl (lv_at hl 3 rfl) ?_
  refine lv_iconst (v := 1) hx hb dL_law_1227 (by decide) ?_
  refine lv_iadd hx hb dL_law_1228 ?_
  refine xsld hx hb C0.2.2.2.2.2 hS (k := i + 1) (by first | rfl | exact nI_add i 1) ⟨by omega, C0.2.2.2.1⟩ dL_law_1229 ?_
  refine LX_carries (rest := []) C0.1 hX hE hP hS h1 hl.1 (Nat.le_of_ble_eq_true rfl) dL_law_1230 hf (fun H locs hP hS => ?_)
  refine lv_aload_n hx hb dL_law_1233 rfl (lv_at hl 2 rfl) ?_
  refine lv_aload_n hx hb dL_law_1234 rfl (lv_at hl 0 rfl) ?_
  refine lv_iload_n hx hb dL_law_1235 rfl (lv_at hl 3 rfl) ?_
  refine lv_iconst (v := 1) hx hb dL_law_1236 (by decide) ?_
  refine lv_iadd hx hb dL_law_1237 ?_
  refine xsld hx hb C0.2.2.2.2.2 hS (k := i + 1) (by first | rfl | exact nI_add i 1) ⟨by omega, C0.2.2.2.1⟩ dL_law_1238 ?_
  refine LM_carries (rest := [.int r]) C0.1 hX hE hP hS h2 hl.1 (Nat.le_of_ble_eq_true rfl) dL_law_1239 hf (fun H locs hP hS => ?_)
  exact lv_icmp_eq (tgt := 1979) hx hb dL_law_1242 (by decide) (fun _ => kk S1 M1 hR H locs hP hS ls hl) (fun hc => absurd rfl hc)
set_option maxHeartbeats 4000000 in
set_option maxRecDepth 100000 in
theorem law_fewest (hq : Q_fewest fu R) (C0 : Lc p l m meth c s args b L xs A) (hX : CX D cy s) (hE : EX tO aK aV A s s.heap) {i : Nat} (hi : i + 6 ≤ L) (hR0 : R S M) (hP : PD D A (wL cy AD AM S M) H) (hS : va_S A s.heap H locs) (hl : lv_has ls 4 [(0, .ref b), (1, .ref (AD 0 0)), (2, .ref (AM 0)), (3, .int (nI i))]) (hf : cells + 0 ≤ room_1.cells ∧ slots + 0 ≤ room_1.slots)
    (kk : ∀ (S1 : SX) (M1 : tX12), R S1 M1 → ∀ (H1 : Heap) (locs1 : List Loc), PD D A (wL cy AD AM S1 M1) H1 → va_S A s.heap H1 locs1 → ∀ ls1 : Array Slot, lv_has ls1 4 [(0, .ref b), (1, .ref (AD 0 0)), (2, .ref (AM 0)), (3, .int (nI i))] → W p l e room_1 s m args below meth c H1 locs1 cells slots Q (F0 m 1979 ls1 [])) : W p l e room_1 s m args below meth c H locs cells slots Q (F0 m 1247 ls []) := by
  obtain ⟨r, S1, M1, h1, h2, hR⟩ := hq S M hR0
  have hx := C0.1.1
  have hb := C0.1.2.1
  have hown := C0.1.2.2.2.1
  have ht := C0.1.2.2.2.2
  refine lv_aload_n hx hb dL_law_1247 rfl (lv_at hl 1 rfl) ?_
  refine LX_fewest (rest := []) C0.1 hX hE hP hS h1 hl.1 (Nat.le_of_ble_eq_true rfl) dL_law_1248 hf (fun H locs hP hS => ?_)
  refine lv_aload_n hx hb dL_law_1251 rfl (lv_at hl 2 rfl) ?_
  refine LM_fewest (rest := [.int r]) C0.1 hX hE hP hS h2 hl.1 (Nat.le_of_ble_eq_true rfl) dL_law_1252 hf (fun H locs hP hS => ?_)
  exact lv_icmp_eq (tgt := 1979) hx hb dL_law_1255 (by decide) (fun _ => kk S1 M1 hR H locs hP hS ls hl) (fun hc => absurd rfl hc)
set_option maxHeartbeats 4000000 in
set_option maxRecDepth 100000 in
theorem law_fewestSet (hq : Q_fewestSet fu R) (C0 : Lc p l m meth c s args b L xs A) (hX : CX D cy s) (hE : EX tO aK aV A s s.heap) {i : Nat} (hi : i + 6 ≤ L) (hR0 : R S M) (hP : PD D A (wL cy AD AM S M) H) (hS : va_S A s.heap H locs) (hl : lv_has ls 4 [(0, .ref b), (1, .ref (AD 0 0)), (2, .ref (AM 0)), (3, .int (nI i))]) (hf : cells + 0 ≤ room_1.cells ∧ slots + 0 ≤ room_1.slots)
    (kk : ∀ (S1 : SX) (M1 : tX12), R S1 M1 → ∀ (H1 : Heap) (locs1 : List Loc), PD D A (wL cy AD AM S1 M1) H1 → va_S A s.heap H1 locs1 → ∀ ls1 : Array Slot, lv_has ls1 4 [(0, .ref b), (1, .ref (AD 0 0)), (2, .ref (AM 0)), (3, .int (nI i))] → W p l e room_1 s m args below meth c H1 locs1 cells slots Q (F0 m 1979 ls1 [])) : W p l e room_1 s m args below meth c H locs cells slots Q (F0 m 1260 ls []) := by
  obtain ⟨r, S1, M1, h1, h2, hR⟩ := hq S M hR0
  have hx := C0.1.1
  have hb := C0.1.2.1
  have hown := C0.1.2.2.2.1
  have ht := C0.1.2.2.2.2
  refine lv_aload_n hx hb dL_law_1260 rfl (lv_at hl 1 rfl) ?_
  refine LX_fewestSet (rest := []) C0.1 hX hE hP hS h1 hl.1 (Nat.le_of_ble_eq_true rfl) dL_law_1261 hf (fun H locs hP hS => ?_)
  refine lv_aload_n hx hb dL_law_1264 rfl (lv_at hl 2 rfl) ?_
  refine LM_fewestSet (rest := [.int r]) C0.1 hX hE hP hS h2 hl.1 (Nat.le_of_ble_eq_true rfl) dL_law_1265 hf (fun H locs hP hS => ?_)
  exact lv_icmp_eq (tgt := 1979) hx hb dL_law_1268 (by decide) (fun _ => kk S1 M1 hR H locs hP hS ls hl) (fun hc => absurd rfl hc)
set_option maxHeartbeats 4000000 in
set_option maxRecDepth 100000 in
theorem law_power (hq : Q_power fu R) (C0 : Lc p l m meth c s args b L xs A) (hX : CX D cy s) (hE : EX tO aK aV A s s.heap) {i : Nat} (hi : i + 6 ≤ L) (hR0 : R S M) (hP : PD D A (wL cy AD AM S M) H) (hS : va_S A s.heap H locs) (hl : lv_has ls 4 [(0, .ref b), (1, .ref (AD 0 0)), (2, .ref (AM 0)), (3, .int (nI i))]) (hf : cells + 0 ≤ room_1.cells ∧ slots + 0 ≤ room_1.slots)
    (kk : ∀ (S1 : SX) (M1 : tX12), R S1 M1 → ∀ (H1 : Heap) (locs1 : List Loc), PD D A (wL cy AD AM S1 M1) H1 → va_S A s.heap H1 locs1 → ∀ ls1 : Array Slot, lv_has ls1 4 [(0, .ref b), (1, .ref (AD 0 0)), (2, .ref (AM 0)), (3, .int (nI i))] → W p l e room_1 s m args below meth c H1 locs1 cells slots Q (F0 m 1979 ls1 [])) : W p l e room_1 s m args below meth c H locs cells slots Q (F0 m 1273 ls []) := by
  obtain ⟨r, S1, M1, h1, h2, hR⟩ := hq S M (xs (i + 1)) hR0
  have hx := C0.1.1
  have hb := C0.1.2.1
  have hown := C0.1.2.2.2.1
  have ht := C0.1.2.2.2.2
  refine lv_aload_n hx hb dL_law_1273 rfl (lv_at hl 1 rfl) ?_
  refine lv_aload_n hx hb dL_law_1274 rfl (lv_at hl 0 rfl) ?_
  refine lv_iload_n hx hb dL_law_1275 rfl (lv_at hl 3 rfl) ?_
  refine lv_iconst (v := 1) hx hb dL_law_1276 (by decide) ?_
  refine lv_iadd hx hb dL_law_1277 ?_
  refine xsld hx hb C0.2.2.2.2.2 hS (k := i + 1) (by first | rfl | exact nI_add i 1) ⟨by omega, C0.2.2.2.1⟩ dL_law_1278 ?_
  refine LX_power (rest := []) C0.1 hX hE hP hS h1 hl.1 (Nat.le_of_ble_eq_true rfl) dL_law_1279 hf (fun H locs hP hS => ?_)
  refine lv_aload_n hx hb dL_law_1282 rfl (lv_at hl 2 rfl) ?_
  refine lv_aload_n hx hb dL_law_1283 rfl (lv_at hl 0 rfl) ?_
  refine lv_iload_n hx hb dL_law_1284 rfl (lv_at hl 3 rfl) ?_
  refine lv_iconst (v := 1) hx hb dL_law_1285 (by decide) ?_
  refine lv_iadd hx hb dL_law_1286 ?_
  refine xsld hx hb C0.2.2.2.2.2 hS (k := i + 1) (by first | rfl | exact nI_add i 1) ⟨by omega, C0.2.2.2.1⟩ dL_law_1287 ?_
  refine LM_power (rest := [.int r]) C0.1 hX hE hP hS h2 hl.1 (Nat.le_of_ble_eq_true rfl) dL_law_1288 hf (fun H locs hP hS => ?_)
  exact lv_icmp_eq (tgt := 1979) hx hb dL_law_1291 (by decide) (fun _ => kk S1 M1 hR H locs hP hS ls hl) (fun hc => absurd rfl hc)
set_option maxHeartbeats 4000000 in
set_option maxRecDepth 100000 in
theorem law_mightiest (hq : Q_mightiest fu R) (C0 : Lc p l m meth c s args b L xs A) (hX : CX D cy s) (hE : EX tO aK aV A s s.heap) {i : Nat} (hi : i + 6 ≤ L) (hR0 : R S M) (hP : PD D A (wL cy AD AM S M) H) (hS : va_S A s.heap H locs) (hl : lv_has ls 4 [(0, .ref b), (1, .ref (AD 0 0)), (2, .ref (AM 0)), (3, .int (nI i))]) (hf : cells + 0 ≤ room_1.cells ∧ slots + 0 ≤ room_1.slots)
    (kk : ∀ (S1 : SX) (M1 : tX12), R S1 M1 → ∀ (H1 : Heap) (locs1 : List Loc), PD D A (wL cy AD AM S1 M1) H1 → va_S A s.heap H1 locs1 → ∀ ls1 : Array Slot, lv_has ls1 4 [(0, .ref b), (1, .ref (AD 0 0)), (2, .ref (AM 0)), (3, .int (nI i))] → W p l e room_1 s m args below meth c H1 locs1 cells slots Q (F0 m 1979 ls1 [])) : W p l e room_1 s m args below meth c H locs cells slots Q (F0 m 1296 ls []) := by
  obtain ⟨r, S1, M1, h1, h2, hR⟩ := hq S M hR0
  have hx := C0.1.1
  have hb := C0.1.2.1
  have hown := C0.1.2.2.2.1
  have ht := C0.1.2.2.2.2
  refine lv_aload_n hx hb dL_law_1296 rfl (lv_at hl 1 rfl) ?_
  refine LX_mightiest (rest := []) C0.1 hX hE hP hS h1 hl.1 (Nat.le_of_ble_eq_true rfl) dL_law_1297 hf (fun H locs hP hS => ?_)
  refine lv_aload_n hx hb dL_law_1300 rfl (lv_at hl 2 rfl) ?_
  refine LM_mightiest (rest := [.int r]) C0.1 hX hE hP hS h2 hl.1 (Nat.le_of_ble_eq_true rfl) dL_law_1301 hf (fun H locs hP hS => ?_)
  exact lv_icmp_eq (tgt := 1979) hx hb dL_law_1304 (by decide) (fun _ => kk S1 M1 hR H locs hP hS ls hl) (fun hc => absurd rfl hc)
set_option maxHeartbeats 4000000 in
set_option maxRecDepth 100000 in
theorem law_veto (hq : Q_veto fu R) (C0 : Lc p l m meth c s args b L xs A) (hX : CX D cy s) (hE : EX tO aK aV A s s.heap) {i : Nat} (hi : i + 6 ≤ L) (hR0 : R S M) (hP : PD D A (wL cy AD AM S M) H) (hS : va_S A s.heap H locs) (hl : lv_has ls 4 [(0, .ref b), (1, .ref (AD 0 0)), (2, .ref (AM 0)), (3, .int (nI i))]) (hf : cells + 0 ≤ room_1.cells ∧ slots + 0 ≤ room_1.slots)
    (kk : ∀ (S1 : SX) (M1 : tX12), R S1 M1 → ∀ (H1 : Heap) (locs1 : List Loc), PD D A (wL cy AD AM S1 M1) H1 → va_S A s.heap H1 locs1 → ∀ ls1 : Array Slot, lv_has ls1 4 [(0, .ref b), (1, .ref (AD 0 0)), (2, .ref (AM 0)), (3, .int (nI i))] → W p l e room_1 s m args below meth c H1 locs1 cells slots Q (F0 m 1979 ls1 [])) : W p l e room_1 s m args below meth c H locs cells slots Q (F0 m 1309 ls []) := by
  obtain ⟨r, S1, M1, h1, h2, hR⟩ := hq S M (xs (i + 1)) hR0
  have hx := C0.1.1
  have hb := C0.1.2.1
  have hown := C0.1.2.2.2.1
  have ht := C0.1.2.2.2.2
  refine lv_aload_n hx hb dL_law_1309 rfl (lv_at hl 1 rfl) ?_
  refine lv_aload_n hx hb dL_law_1310 rfl (lv_at hl 0 rfl) ?_
  refine lv_iload_n hx hb dL_law_1311 rfl (lv_at hl 3 rfl) ?_
  refine lv_iconst (v := 1) hx hb dL_law_1312 (by decide) ?_
  refine lv_iadd hx hb dL_law_1313 ?_
  refine xsld hx hb C0.2.2.2.2.2 hS (k := i + 1) (by first | rfl | exact nI_add i 1) ⟨by omega, C0.2.2.2.1⟩ dL_law_1314 ?_
  refine LX_veto (rest := []) C0.1 hX hE hP hS h1 hl.1 (Nat.le_of_ble_eq_true rfl) dL_law_1315 hf (fun H locs hP hS => ?_)
  refine lv_aload_n hx hb dL_law_1318 rfl (lv_at hl 2 rfl) ?_
  refine lv_aload_n hx hb dL_law_1319 rfl (lv_at hl 0 rfl) ?_
  refine lv_iload_n hx hb dL_law_1320 rfl (lv_at hl 3 rfl) ?_
  refine lv_iconst (v := 1) hx hb dL_law_1321 (by decide) ?_
  refine lv_iadd hx hb dL_law_1322 ?_
  refine xsld hx hb C0.2.2.2.2.2 hS (k := i + 1) (by first | rfl | exact nI_add i 1) ⟨by omega, C0.2.2.2.1⟩ dL_law_1323 ?_
  refine LM_veto (rest := [.int r]) C0.1 hX hE hP hS h2 hl.1 (Nat.le_of_ble_eq_true rfl) dL_law_1324 hf (fun H locs hP hS => ?_)
  exact lv_icmp_eq (tgt := 1979) hx hb dL_law_1327 (by decide) (fun _ => kk S1 M1 hR H locs hP hS ls hl) (fun hc => absurd rfl hc)
set_option maxHeartbeats 4000000 in
set_option maxRecDepth 100000 in
theorem law_most (hq : Q_most fu R) (C0 : Lc p l m meth c s args b L xs A) (hX : CX D cy s) (hE : EX tO aK aV A s s.heap) {i : Nat} (hi : i + 6 ≤ L) (hR0 : R S M) (hP : PD D A (wL cy AD AM S M) H) (hS : va_S A s.heap H locs) (hl : lv_has ls 4 [(0, .ref b), (1, .ref (AD 0 0)), (2, .ref (AM 0)), (3, .int (nI i))]) (hf : cells + 0 ≤ room_1.cells ∧ slots + 0 ≤ room_1.slots)
    (kk : ∀ (S1 : SX) (M1 : tX12), R S1 M1 → ∀ (H1 : Heap) (locs1 : List Loc), PD D A (wL cy AD AM S1 M1) H1 → va_S A s.heap H1 locs1 → ∀ ls1 : Array Slot, lv_has ls1 4 [(0, .ref b), (1, .ref (AD 0 0)), (2, .ref (AM 0)), (3, .int (nI i))] → W p l e room_1 s m args below meth c H1 locs1 cells slots Q (F0 m 1979 ls1 [])) : W p l e room_1 s m args below meth c H locs cells slots Q (F0 m 1332 ls []) := by
  obtain ⟨r, S1, M1, h1, h2, hR⟩ := hq S M (xs (i + 1)) (xs (i + 2)) (xs (i + 3)) hR0
  have hx := C0.1.1
  have hb := C0.1.2.1
  have hown := C0.1.2.2.2.1
  have ht := C0.1.2.2.2.2
  refine lv_aload_n hx hb dL_law_1332 rfl (lv_at hl 1 rfl) ?_
  refine lv_aload_n hx hb dL_law_1333 rfl (lv_at hl 0 rfl) ?_
  refine lv_iload_n hx hb dL_law_1334 rfl (lv_at hl 3 rfl) ?_
  refine lv_iconst (v := 1) hx hb dL_law_1335 (by decide) ?_
  refine lv_iadd hx hb dL_law_1336 ?_
  refine xsld hx hb C0.2.2.2.2.2 hS (k := i + 1) (by first | rfl | exact nI_add i 1) ⟨by omega, C0.2.2.2.1⟩ dL_law_1337 ?_
  refine lv_aload_n hx hb dL_law_1338 rfl (lv_at hl 0 rfl) ?_
  refine lv_iload_n hx hb dL_law_1339 rfl (lv_at hl 3 rfl) ?_
  refine lv_iconst (v := 2) hx hb dL_law_1340 (by decide) ?_
  refine lv_iadd hx hb dL_law_1341 ?_
  refine xsld hx hb C0.2.2.2.2.2 hS (k := i + 2) (by first | rfl | exact nI_add i 2) ⟨by omega, C0.2.2.2.1⟩ dL_law_1342 ?_
  refine lv_aload_n hx hb dL_law_1343 rfl (lv_at hl 0 rfl) ?_
  refine lv_iload_n hx hb dL_law_1344 rfl (lv_at hl 3 rfl) ?_
  refine lv_iconst (v := 3) hx hb dL_law_1345 (by decide) ?_
  refine lv_iadd hx hb dL_law_1346 ?_
  refine xsld hx hb C0.2.2.2.2.2 hS (k := i + 3) (by first | rfl | exact nI_add i 3) ⟨by omega, C0.2.2.2.1⟩ dL_law_1347 ?_
  refine LX_most (rest := []) C0.1 hX hE hP hS h1 hl.1 (Nat.le_of_ble_eq_true rfl) dL_law_1348 hf (fun H locs hP hS => ?_)
  refine lv_aload_n hx hb dL_law_1351 rfl (lv_at hl 2 rfl) ?_
  refine lv_aload_n hx hb dL_law_1352 rfl (lv_at hl 0 rfl) ?_
  refine lv_iload_n hx hb dL_law_1353 rfl (lv_at hl 3 rfl) ?_
  refine lv_iconst (v := 1) hx hb dL_law_1354 (by decide) ?_
  refine lv_iadd hx hb dL_law_1355 ?_
  refine xsld hx hb C0.2.2.2.2.2 hS (k := i + 1) (by first | rfl | exact nI_add i 1) ⟨by omega, C0.2.2.2.1⟩ dL_law_1356 ?_
  refine lv_aload_n hx hb dL_law_1357 rfl (lv_at hl 0 rfl) ?_
  refine lv_iload_n hx hb dL_law_1358 rfl (lv_at hl 3 rfl) ?_
  refine lv_iconst (v := 2) hx hb dL_law_1359 (by decide) ?_
  refine lv_iadd hx hb dL_law_1360 ?_
  refine xsld hx hb C0.2.2.2.2.2 hS (k := i + 2) (by first | rfl | exact nI_add i 2) ⟨by omega, C0.2.2.2.1⟩ dL_law_1361 ?_
  refine lv_aload_n hx hb dL_law_1362 rfl (lv_at hl 0 rfl) ?_
  refine lv_iload_n hx hb dL_law_1363 rfl (lv_at hl 3 rfl) ?_
  refine lv_iconst (v := 3) hx hb dL_law_1364 (by decide) ?_
  refine lv_iadd hx hb dL_law_1365 ?_
  refine xsld hx hb C0.2.2.2.2.2 hS (k := i + 3) (by first | rfl | exact nI_add i 3) ⟨by omega, C0.2.2.2.1⟩ dL_law_1366 ?_
  refine LM_most (rest := [.int r]) C0.1 hX hE hP hS h2 hl.1 (Nat.le_of_ble_eq_true rfl) dL_law_1367 hf (fun H locs hP hS => ?_)
  exact lv_icmp_eq (tgt := 1979) hx hb dL_law_1370 (by decide) (fun _ => kk S1 M1 hR H locs hP hS ls hl) (fun hc => absurd rfl hc)
set_option maxHeartbeats 4000000 in
set_option maxRecDepth 100000 in
theorem law_facesAt (hq : Q_facesAt fu R) (C0 : Lc p l m meth c s args b L xs A) (hX : CX D cy s) (hE : EX tO aK aV A s s.heap) {i : Nat} (hi : i + 6 ≤ L) (hR0 : R S M) (hP : PD D A (wL cy AD AM S M) H) (hS : va_S A s.heap H locs) (hl : lv_has ls 4 [(0, .ref b), (1, .ref (AD 0 0)), (2, .ref (AM 0)), (3, .int (nI i))]) (hf : cells + 0 ≤ room_1.cells ∧ slots + 0 ≤ room_1.slots)
    (kk : ∀ (S1 : SX) (M1 : tX12), R S1 M1 → ∀ (H1 : Heap) (locs1 : List Loc), PD D A (wL cy AD AM S1 M1) H1 → va_S A s.heap H1 locs1 → ∀ ls1 : Array Slot, lv_has ls1 4 [(0, .ref b), (1, .ref (AD 0 0)), (2, .ref (AM 0)), (3, .int (nI i))] → W p l e room_1 s m args below meth c H1 locs1 cells slots Q (F0 m 1979 ls1 [])) : W p l e room_1 s m args below meth c H locs cells slots Q (F0 m 1375 ls []) := by
  obtain ⟨r, S1, M1, h1, h2, hR⟩ := hq S M (xs (i + 1)) (xs (i + 2)) (xs (i + 3)) (xs (i + 4)) hR0
  have hx := C0.1.1
  have hb := C0.1.2.1
  have hown := C0.1.2.2.2.1
  have ht := C0.1.2.2.2.2
  refine lv_aload_n hx hb dL_law_1375 rfl (lv_at hl 1 rfl) ?_
  refine lv_aload_n hx hb dL_law_1376 rfl (lv_at hl 0 rfl) ?_
  refine lv_iload_n hx hb dL_law_1377 rfl (lv_at hl 3 rfl) ?_
  refine lv_iconst (v := 1) hx hb dL_law_1378 (by decide) ?_
  refine lv_iadd hx hb dL_law_1379 ?_
  refine xsld hx hb C0.2.2.2.2.2 hS (k := i + 1) (by first | rfl | exact nI_add i 1) ⟨by omega, C0.2.2.2.1⟩ dL_law_1380 ?_
  refine lv_aload_n hx hb dL_law_1381 rfl (lv_at hl 0 rfl) ?_
  refine lv_iload_n hx hb dL_law_1382 rfl (lv_at hl 3 rfl) ?_
  refine lv_iconst (v := 2) hx hb dL_law_1383 (by decide) ?_
  refine lv_iadd hx hb dL_law_1384 ?_
  refine xsld hx hb C0.2.2.2.2.2 hS (k := i + 2) (by first | rfl | exact nI_add i 2) ⟨by omega, C0.2.2.2.1⟩ dL_law_1385 ?_
  refine lv_aload_n hx hb dL_law_1386 rfl (lv_at hl 0 rfl) ?_
  refine lv_iload_n hx hb dL_law_1387 rfl (lv_at hl 3 rfl) ?_
  refine lv_iconst (v := 3) hx hb dL_law_1388 (by decide) ?_
  refine lv_iadd hx hb dL_law_1389 ?_
  refine xsld hx hb C0.2.2.2.2.2 hS (k := i + 3) (by first | rfl | exact nI_add i 3) ⟨by omega, C0.2.2.2.1⟩ dL_law_1390 ?_
  refine lv_aload_n hx hb dL_law_1391 rfl (lv_at hl 0 rfl) ?_
  refine lv_iload_n hx hb dL_law_1392 rfl (lv_at hl 3 rfl) ?_
  refine lv_iconst (v := 4) hx hb dL_law_1393 (by decide) ?_
  refine lv_iadd hx hb dL_law_1394 ?_
  refine xsld hx hb C0.2.2.2.2.2 hS (k := i + 4) (by first | rfl | exact nI_add i 4) ⟨by omega, C0.2.2.2.1⟩ dL_law_1395 ?_
  refine LX_facesAt (rest := []) C0.1 hX hE hP hS h1 hl.1 (Nat.le_of_ble_eq_true rfl) dL_law_1396 hf (fun H locs hP hS => ?_)
  refine lv_aload_n hx hb dL_law_1399 rfl (lv_at hl 2 rfl) ?_
  refine lv_aload_n hx hb dL_law_1400 rfl (lv_at hl 0 rfl) ?_
  refine lv_iload_n hx hb dL_law_1401 rfl (lv_at hl 3 rfl) ?_
  refine lv_iconst (v := 1) hx hb dL_law_1402 (by decide) ?_
  refine lv_iadd hx hb dL_law_1403 ?_
  refine xsld hx hb C0.2.2.2.2.2 hS (k := i + 1) (by first | rfl | exact nI_add i 1) ⟨by omega, C0.2.2.2.1⟩ dL_law_1404 ?_
  refine lv_aload_n hx hb dL_law_1405 rfl (lv_at hl 0 rfl) ?_
  refine lv_iload_n hx hb dL_law_1406 rfl (lv_at hl 3 rfl) ?_
  refine lv_iconst (v := 2) hx hb dL_law_1407 (by decide) ?_
  refine lv_iadd hx hb dL_law_1408 ?_
  refine xsld hx hb C0.2.2.2.2.2 hS (k := i + 2) (by first | rfl | exact nI_add i 2) ⟨by omega, C0.2.2.2.1⟩ dL_law_1409 ?_
  refine lv_aload_n hx hb dL_law_1410 rfl (lv_at hl 0 rfl) ?_
  refine lv_iload_n hx hb dL_law_1411 rfl (lv_at hl 3 rfl) ?_
  refine lv_iconst (v := 3) hx hb dL_law_1412 (by decide) ?_
  refine lv_iadd hx hb dL_law_1413 ?_
  refine xsld hx hb C0.2.2.2.2.2 hS (k := i + 3) (by first | rfl | exact nI_add i 3) ⟨by omega, C0.2.2.2.1⟩ dL_law_1414 ?_
  refine lv_aload_n hx hb dL_law_1415 rfl (lv_at hl 0 rfl) ?_
  refine lv_iload_n hx hb dL_law_1416 rfl (lv_at hl 3 rfl) ?_
  refine lv_iconst (v := 4) hx hb dL_law_1417 (by decide) ?_
  refine lv_iadd hx hb dL_law_1418 ?_
  refine xsld hx hb C0.2.2.2.2.2 hS (k := i + 4) (by first | rfl | exact nI_add i 4) ⟨by omega, C0.2.2.2.1⟩ dL_law_1419 ?_
  refine LM_facesAt (rest := [.int r]) C0.1 hX hE hP hS h2 hl.1 (Nat.le_of_ble_eq_true rfl) dL_law_1420 hf (fun H locs hP hS => ?_)
  exact lv_icmp_eq (tgt := 1979) hx hb dL_law_1423 (by decide) (fun _ => kk S1 M1 hR H locs hP hS ls hl) (fun hc => absurd rfl hc)
set_option maxHeartbeats 4000000 in
set_option maxRecDepth 100000 in
theorem law_seen (hq : Q_seen fu R) (C0 : Lc p l m meth c s args b L xs A) (hX : CX D cy s) (hE : EX tO aK aV A s s.heap) {i : Nat} (hi : i + 6 ≤ L) (hR0 : R S M) (hP : PD D A (wL cy AD AM S M) H) (hS : va_S A s.heap H locs) (hl : lv_has ls 4 [(0, .ref b), (1, .ref (AD 0 0)), (2, .ref (AM 0)), (3, .int (nI i))]) (hf : cells + 0 ≤ room_1.cells ∧ slots + 0 ≤ room_1.slots)
    (kk : ∀ (S1 : SX) (M1 : tX12), R S1 M1 → ∀ (H1 : Heap) (locs1 : List Loc), PD D A (wL cy AD AM S1 M1) H1 → va_S A s.heap H1 locs1 → ∀ ls1 : Array Slot, lv_has ls1 4 [(0, .ref b), (1, .ref (AD 0 0)), (2, .ref (AM 0)), (3, .int (nI i))] → W p l e room_1 s m args below meth c H1 locs1 cells slots Q (F0 m 1979 ls1 [])) : W p l e room_1 s m args below meth c H locs cells slots Q (F0 m 1428 ls []) := by
  obtain ⟨r, S1, M1, h1, h2, hR⟩ := hq S M (xs (i + 1)) (xs (i + 2)) (xs (i + 3)) hR0
  have hx := C0.1.1
  have hb := C0.1.2.1
  have hown := C0.1.2.2.2.1
  have ht := C0.1.2.2.2.2
  refine lv_aload_n hx hb dL_law_1428 rfl (lv_at hl 1 rfl) ?_
  refine lv_aload_n hx hb dL_law_1429 rfl (lv_at hl 0 rfl) ?_
  refine lv_iload_n hx hb dL_law_1430 rfl (lv_at hl 3 rfl) ?_
  refine lv_iconst (v := 1) hx hb dL_law_1431 (by decide) ?_
  refine lv_iadd hx hb dL_law_1432 ?_
  refine xsld hx hb C0.2.2.2.2.2 hS (k := i + 1) (by first | rfl | exact nI_add i 1) ⟨by omega, C0.2.2.2.1⟩ dL_law_1433 ?_
  refine lv_aload_n hx hb dL_law_1434 rfl (lv_at hl 0 rfl) ?_
  refine lv_iload_n hx hb dL_law_1435 rfl (lv_at hl 3 rfl) ?_
  refine lv_iconst (v := 2) hx hb dL_law_1436 (by decide) ?_
  refine lv_iadd hx hb dL_law_1437 ?_
  refine xsld hx hb C0.2.2.2.2.2 hS (k := i + 2) (by first | rfl | exact nI_add i 2) ⟨by omega, C0.2.2.2.1⟩ dL_law_1438 ?_
  refine lv_aload_n hx hb dL_law_1439 rfl (lv_at hl 0 rfl) ?_
  refine lv_iload_n hx hb dL_law_1440 rfl (lv_at hl 3 rfl) ?_
  refine lv_iconst (v := 3) hx hb dL_law_1441 (by decide) ?_
  refine lv_iadd hx hb dL_law_1442 ?_
  refine xsld hx hb C0.2.2.2.2.2 hS (k := i + 3) (by first | rfl | exact nI_add i 3) ⟨by omega, C0.2.2.2.1⟩ dL_law_1443 ?_
  refine LX_seen (rest := []) C0.1 hX hE hP hS h1 hl.1 (Nat.le_of_ble_eq_true rfl) dL_law_1444 hf (fun H locs hP hS => ?_)
  refine lv_aload_n hx hb dL_law_1447 rfl (lv_at hl 2 rfl) ?_
  refine lv_aload_n hx hb dL_law_1448 rfl (lv_at hl 0 rfl) ?_
  refine lv_iload_n hx hb dL_law_1449 rfl (lv_at hl 3 rfl) ?_
  refine lv_iconst (v := 1) hx hb dL_law_1450 (by decide) ?_
  refine lv_iadd hx hb dL_law_1451 ?_
  refine xsld hx hb C0.2.2.2.2.2 hS (k := i + 1) (by first | rfl | exact nI_add i 1) ⟨by omega, C0.2.2.2.1⟩ dL_law_1452 ?_
  refine lv_aload_n hx hb dL_law_1453 rfl (lv_at hl 0 rfl) ?_
  refine lv_iload_n hx hb dL_law_1454 rfl (lv_at hl 3 rfl) ?_
  refine lv_iconst (v := 2) hx hb dL_law_1455 (by decide) ?_
  refine lv_iadd hx hb dL_law_1456 ?_
  refine xsld hx hb C0.2.2.2.2.2 hS (k := i + 2) (by first | rfl | exact nI_add i 2) ⟨by omega, C0.2.2.2.1⟩ dL_law_1457 ?_
  refine lv_aload_n hx hb dL_law_1458 rfl (lv_at hl 0 rfl) ?_
  refine lv_iload_n hx hb dL_law_1459 rfl (lv_at hl 3 rfl) ?_
  refine lv_iconst (v := 3) hx hb dL_law_1460 (by decide) ?_
  refine lv_iadd hx hb dL_law_1461 ?_
  refine xsld hx hb C0.2.2.2.2.2 hS (k := i + 3) (by first | rfl | exact nI_add i 3) ⟨by omega, C0.2.2.2.1⟩ dL_law_1462 ?_
  refine LM_seen (rest := [.int r]) C0.1 hX hE hP hS h2 hl.1 (Nat.le_of_ble_eq_true rfl) dL_law_1463 hf (fun H locs hP hS => ?_)
  exact lv_icmp_eq (tgt := 1979) hx hb dL_law_1466 (by decide) (fun _ => kk S1 M1 hR H locs hP hS ls hl) (fun hc => absurd rfl hc)
set_option maxHeartbeats 4000000 in
set_option maxRecDepth 100000 in
theorem law_seenAt (hq : Q_seenAt fu R) (C0 : Lc p l m meth c s args b L xs A) (hX : CX D cy s) (hE : EX tO aK aV A s s.heap) {i : Nat} (hi : i + 6 ≤ L) (hR0 : R S M) (hP : PD D A (wL cy AD AM S M) H) (hS : va_S A s.heap H locs) (hl : lv_has ls 4 [(0, .ref b), (1, .ref (AD 0 0)), (2, .ref (AM 0)), (3, .int (nI i))]) (hf : cells + 0 ≤ room_1.cells ∧ slots + 0 ≤ room_1.slots)
    (kk : ∀ (S1 : SX) (M1 : tX12), R S1 M1 → ∀ (H1 : Heap) (locs1 : List Loc), PD D A (wL cy AD AM S1 M1) H1 → va_S A s.heap H1 locs1 → ∀ ls1 : Array Slot, lv_has ls1 4 [(0, .ref b), (1, .ref (AD 0 0)), (2, .ref (AM 0)), (3, .int (nI i))] → W p l e room_1 s m args below meth c H1 locs1 cells slots Q (F0 m 1979 ls1 [])) : W p l e room_1 s m args below meth c H locs cells slots Q (F0 m 1471 ls []) := by
  obtain ⟨r, S1, M1, h1, h2, hR⟩ := hq S M (xs (i + 1)) (xs (i + 2)) (xs (i + 3)) (xs (i + 4)) hR0
  have hx := C0.1.1
  have hb := C0.1.2.1
  have hown := C0.1.2.2.2.1
  have ht := C0.1.2.2.2.2
  refine lv_aload_n hx hb dL_law_1471 rfl (lv_at hl 1 rfl) ?_
  refine lv_aload_n hx hb dL_law_1472 rfl (lv_at hl 0 rfl) ?_
  refine lv_iload_n hx hb dL_law_1473 rfl (lv_at hl 3 rfl) ?_
  refine lv_iconst (v := 1) hx hb dL_law_1474 (by decide) ?_
  refine lv_iadd hx hb dL_law_1475 ?_
  refine xsld hx hb C0.2.2.2.2.2 hS (k := i + 1) (by first | rfl | exact nI_add i 1) ⟨by omega, C0.2.2.2.1⟩ dL_law_1476 ?_
  refine lv_aload_n hx hb dL_law_1477 rfl (lv_at hl 0 rfl) ?_
  refine lv_iload_n hx hb dL_law_1478 rfl (lv_at hl 3 rfl) ?_
  refine lv_iconst (v := 2) hx hb dL_law_1479 (by decide) ?_
  refine lv_iadd hx hb dL_law_1480 ?_
  refine xsld hx hb C0.2.2.2.2.2 hS (k := i + 2) (by first | rfl | exact nI_add i 2) ⟨by omega, C0.2.2.2.1⟩ dL_law_1481 ?_
  refine lv_aload_n hx hb dL_law_1482 rfl (lv_at hl 0 rfl) ?_
  refine lv_iload_n hx hb dL_law_1483 rfl (lv_at hl 3 rfl) ?_
  refine lv_iconst (v := 3) hx hb dL_law_1484 (by decide) ?_
  refine lv_iadd hx hb dL_law_1485 ?_
  refine xsld hx hb C0.2.2.2.2.2 hS (k := i + 3) (by first | rfl | exact nI_add i 3) ⟨by omega, C0.2.2.2.1⟩ dL_law_1486 ?_
  refine lv_aload_n hx hb dL_law_1487 rfl (lv_at hl 0 rfl) ?_
  refine lv_iload_n hx hb dL_law_1488 rfl (lv_at hl 3 rfl) ?_
  refine lv_iconst (v := 4) hx hb dL_law_1489 (by decide) ?_
  refine lv_iadd hx hb dL_law_1490 ?_
  refine xsld hx hb C0.2.2.2.2.2 hS (k := i + 4) (by first | rfl | exact nI_add i 4) ⟨by omega, C0.2.2.2.1⟩ dL_law_1491 ?_
  refine LX_seenAt (rest := []) C0.1 hX hE hP hS h1 hl.1 (Nat.le_of_ble_eq_true rfl) dL_law_1492 hf (fun H locs hP hS => ?_)
  refine lv_aload_n hx hb dL_law_1495 rfl (lv_at hl 2 rfl) ?_
  refine lv_aload_n hx hb dL_law_1496 rfl (lv_at hl 0 rfl) ?_
  refine lv_iload_n hx hb dL_law_1497 rfl (lv_at hl 3 rfl) ?_
  refine lv_iconst (v := 1) hx hb dL_law_1498 (by decide) ?_
  refine lv_iadd hx hb dL_law_1499 ?_
  refine xsld hx hb C0.2.2.2.2.2 hS (k := i + 1) (by first | rfl | exact nI_add i 1) ⟨by omega, C0.2.2.2.1⟩ dL_law_1500 ?_
  refine lv_aload_n hx hb dL_law_1501 rfl (lv_at hl 0 rfl) ?_
  refine lv_iload_n hx hb dL_law_1502 rfl (lv_at hl 3 rfl) ?_
  refine lv_iconst (v := 2) hx hb dL_law_1503 (by decide) ?_
  refine lv_iadd hx hb dL_law_1504 ?_
  refine xsld hx hb C0.2.2.2.2.2 hS (k := i + 2) (by first | rfl | exact nI_add i 2) ⟨by omega, C0.2.2.2.1⟩ dL_law_1505 ?_
  refine lv_aload_n hx hb dL_law_1506 rfl (lv_at hl 0 rfl) ?_
  refine lv_iload_n hx hb dL_law_1507 rfl (lv_at hl 3 rfl) ?_
  refine lv_iconst (v := 3) hx hb dL_law_1508 (by decide) ?_
  refine lv_iadd hx hb dL_law_1509 ?_
  refine xsld hx hb C0.2.2.2.2.2 hS (k := i + 3) (by first | rfl | exact nI_add i 3) ⟨by omega, C0.2.2.2.1⟩ dL_law_1510 ?_
  refine lv_aload_n hx hb dL_law_1511 rfl (lv_at hl 0 rfl) ?_
  refine lv_iload_n hx hb dL_law_1512 rfl (lv_at hl 3 rfl) ?_
  refine lv_iconst (v := 4) hx hb dL_law_1513 (by decide) ?_
  refine lv_iadd hx hb dL_law_1514 ?_
  refine xsld hx hb C0.2.2.2.2.2 hS (k := i + 4) (by first | rfl | exact nI_add i 4) ⟨by omega, C0.2.2.2.1⟩ dL_law_1515 ?_
  refine LM_seenAt (rest := [.int r]) C0.1 hX hE hP hS h2 hl.1 (Nat.le_of_ble_eq_true rfl) dL_law_1516 hf (fun H locs hP hS => ?_)
  exact lv_icmp_eq (tgt := 1979) hx hb dL_law_1519 (by decide) (fun _ => kk S1 M1 hR H locs hP hS ls hl) (fun hc => absurd rfl hc)
set_option maxHeartbeats 4000000 in
set_option maxRecDepth 100000 in
theorem law_ask (hq : Q_ask fu R) (C0 : Lc p l m meth c s args b L xs A) (hX : CX D cy s) (hE : EX tO aK aV A s s.heap) {i : Nat} (hi : i + 6 ≤ L) (hR0 : R S M) (hP : PD D A (wL cy AD AM S M) H) (hS : va_S A s.heap H locs) (hl : lv_has ls 4 [(0, .ref b), (1, .ref (AD 0 0)), (2, .ref (AM 0)), (3, .int (nI i))]) (hf : cells + 0 ≤ room_1.cells ∧ slots + 0 ≤ room_1.slots)
    (kk : ∀ (S1 : SX) (M1 : tX12), R S1 M1 → ∀ (H1 : Heap) (locs1 : List Loc), PD D A (wL cy AD AM S1 M1) H1 → va_S A s.heap H1 locs1 → ∀ ls1 : Array Slot, lv_has ls1 4 [(0, .ref b), (1, .ref (AD 0 0)), (2, .ref (AM 0)), (3, .int (nI i))] → W p l e room_1 s m args below meth c H1 locs1 cells slots Q (F0 m 1979 ls1 [])) : W p l e room_1 s m args below meth c H locs cells slots Q (F0 m 1524 ls []) := by
  obtain ⟨r, S1, M1, h1, h2, hR⟩ := hq S M (xs (i + 1)) (xs (i + 2)) (xs (i + 3)) hR0
  have hx := C0.1.1
  have hb := C0.1.2.1
  have hown := C0.1.2.2.2.1
  have ht := C0.1.2.2.2.2
  refine lv_aload_n hx hb dL_law_1524 rfl (lv_at hl 1 rfl) ?_
  refine lv_aload_n hx hb dL_law_1525 rfl (lv_at hl 0 rfl) ?_
  refine lv_iload_n hx hb dL_law_1526 rfl (lv_at hl 3 rfl) ?_
  refine lv_iconst (v := 1) hx hb dL_law_1527 (by decide) ?_
  refine lv_iadd hx hb dL_law_1528 ?_
  refine xsld hx hb C0.2.2.2.2.2 hS (k := i + 1) (by first | rfl | exact nI_add i 1) ⟨by omega, C0.2.2.2.1⟩ dL_law_1529 ?_
  refine lv_aload_n hx hb dL_law_1530 rfl (lv_at hl 0 rfl) ?_
  refine lv_iload_n hx hb dL_law_1531 rfl (lv_at hl 3 rfl) ?_
  refine lv_iconst (v := 2) hx hb dL_law_1532 (by decide) ?_
  refine lv_iadd hx hb dL_law_1533 ?_
  refine xsld hx hb C0.2.2.2.2.2 hS (k := i + 2) (by first | rfl | exact nI_add i 2) ⟨by omega, C0.2.2.2.1⟩ dL_law_1534 ?_
  refine lv_aload_n hx hb dL_law_1535 rfl (lv_at hl 0 rfl) ?_
  refine lv_iload_n hx hb dL_law_1536 rfl (lv_at hl 3 rfl) ?_
  refine lv_iconst (v := 3) hx hb dL_law_1537 (by decide) ?_
  refine lv_iadd hx hb dL_law_1538 ?_
  refine xsld hx hb C0.2.2.2.2.2 hS (k := i + 3) (by first | rfl | exact nI_add i 3) ⟨by omega, C0.2.2.2.1⟩ dL_law_1539 ?_
  refine LX_ask (rest := []) C0.1 hX hE hP hS h1 hl.1 (Nat.le_of_ble_eq_true rfl) dL_law_1540 hf (fun H locs hP hS => ?_)
  refine lv_aload_n hx hb dL_law_1543 rfl (lv_at hl 2 rfl) ?_
  refine lv_aload_n hx hb dL_law_1544 rfl (lv_at hl 0 rfl) ?_
  refine lv_iload_n hx hb dL_law_1545 rfl (lv_at hl 3 rfl) ?_
  refine lv_iconst (v := 1) hx hb dL_law_1546 (by decide) ?_
  refine lv_iadd hx hb dL_law_1547 ?_
  refine xsld hx hb C0.2.2.2.2.2 hS (k := i + 1) (by first | rfl | exact nI_add i 1) ⟨by omega, C0.2.2.2.1⟩ dL_law_1548 ?_
  refine lv_aload_n hx hb dL_law_1549 rfl (lv_at hl 0 rfl) ?_
  refine lv_iload_n hx hb dL_law_1550 rfl (lv_at hl 3 rfl) ?_
  refine lv_iconst (v := 2) hx hb dL_law_1551 (by decide) ?_
  refine lv_iadd hx hb dL_law_1552 ?_
  refine xsld hx hb C0.2.2.2.2.2 hS (k := i + 2) (by first | rfl | exact nI_add i 2) ⟨by omega, C0.2.2.2.1⟩ dL_law_1553 ?_
  refine lv_aload_n hx hb dL_law_1554 rfl (lv_at hl 0 rfl) ?_
  refine lv_iload_n hx hb dL_law_1555 rfl (lv_at hl 3 rfl) ?_
  refine lv_iconst (v := 3) hx hb dL_law_1556 (by decide) ?_
  refine lv_iadd hx hb dL_law_1557 ?_
  refine xsld hx hb C0.2.2.2.2.2 hS (k := i + 3) (by first | rfl | exact nI_add i 3) ⟨by omega, C0.2.2.2.1⟩ dL_law_1558 ?_
  refine LM_ask (rest := [.int r]) C0.1 hX hE hP hS h2 hl.1 (Nat.le_of_ble_eq_true rfl) dL_law_1559 hf (fun H locs hP hS => ?_)
  exact lv_icmp_eq (tgt := 1979) hx hb dL_law_1562 (by decide) (fun _ => kk S1 M1 hR H locs hP hS ls hl) (fun hc => absurd rfl hc)
set_option maxHeartbeats 4000000 in
set_option maxRecDepth 100000 in
theorem law_couples (hq : Q_couples fu R) (C0 : Lc p l m meth c s args b L xs A) (hX : CX D cy s) (hE : EX tO aK aV A s s.heap) {i : Nat} (hi : i + 6 ≤ L) (hR0 : R S M) (hP : PD D A (wL cy AD AM S M) H) (hS : va_S A s.heap H locs) (hl : lv_has ls 4 [(0, .ref b), (1, .ref (AD 0 0)), (2, .ref (AM 0)), (3, .int (nI i))]) (hf : cells + 0 ≤ room_1.cells ∧ slots + 0 ≤ room_1.slots)
    (kk : ∀ (S1 : SX) (M1 : tX12), R S1 M1 → ∀ (H1 : Heap) (locs1 : List Loc), PD D A (wL cy AD AM S1 M1) H1 → va_S A s.heap H1 locs1 → ∀ ls1 : Array Slot, lv_has ls1 4 [(0, .ref b), (1, .ref (AD 0 0)), (2, .ref (AM 0)), (3, .int (nI i))] → W p l e room_1 s m args below meth c H1 locs1 cells slots Q (F0 m 1979 ls1 [])) : W p l e room_1 s m args below meth c H locs cells slots Q (F0 m 1567 ls []) := by
  obtain ⟨r, S1, M1, h1, h2, hR⟩ := hq S M (xs (i + 1)) hR0
  have hx := C0.1.1
  have hb := C0.1.2.1
  have hown := C0.1.2.2.2.1
  have ht := C0.1.2.2.2.2
  refine lv_aload_n hx hb dL_law_1567 rfl (lv_at hl 1 rfl) ?_
  refine lv_aload_n hx hb dL_law_1568 rfl (lv_at hl 0 rfl) ?_
  refine lv_iload_n hx hb dL_law_1569 rfl (lv_at hl 3 rfl) ?_
  refine lv_iconst (v := 1) hx hb dL_law_1570 (by decide) ?_
  refine lv_iadd hx hb dL_law_1571 ?_
  refine xsld hx hb C0.2.2.2.2.2 hS (k := i + 1) (by first | rfl | exact nI_add i 1) ⟨by omega, C0.2.2.2.1⟩ dL_law_1572 ?_
  refine LX_couples (rest := []) C0.1 hX hE hP hS h1 hl.1 (Nat.le_of_ble_eq_true rfl) dL_law_1573 hf (fun H locs hP hS => ?_)
  refine lv_aload_n hx hb dL_law_1576 rfl (lv_at hl 2 rfl) ?_
  refine lv_aload_n hx hb dL_law_1577 rfl (lv_at hl 0 rfl) ?_
  refine lv_iload_n hx hb dL_law_1578 rfl (lv_at hl 3 rfl) ?_
  refine lv_iconst (v := 1) hx hb dL_law_1579 (by decide) ?_
  refine lv_iadd hx hb dL_law_1580 ?_
  refine xsld hx hb C0.2.2.2.2.2 hS (k := i + 1) (by first | rfl | exact nI_add i 1) ⟨by omega, C0.2.2.2.1⟩ dL_law_1581 ?_
  refine LM_couples (rest := [.int r]) C0.1 hX hE hP hS h2 hl.1 (Nat.le_of_ble_eq_true rfl) dL_law_1582 hf (fun H locs hP hS => ?_)
  exact lv_icmp_eq (tgt := 1979) hx hb dL_law_1585 (by decide) (fun _ => kk S1 M1 hR H locs hP hS ls hl) (fun hc => absurd rfl hc)
set_option maxHeartbeats 4000000 in
set_option maxRecDepth 100000 in
theorem law_fondness (hq : Q_fondness fu R) (C0 : Lc p l m meth c s args b L xs A) (hX : CX D cy s) (hE : EX tO aK aV A s s.heap) {i : Nat} (hi : i + 6 ≤ L) (hR0 : R S M) (hP : PD D A (wL cy AD AM S M) H) (hS : va_S A s.heap H locs) (hl : lv_has ls 4 [(0, .ref b), (1, .ref (AD 0 0)), (2, .ref (AM 0)), (3, .int (nI i))]) (hf : cells + 0 ≤ room_1.cells ∧ slots + 0 ≤ room_1.slots)
    (kk : ∀ (S1 : SX) (M1 : tX12), R S1 M1 → ∀ (H1 : Heap) (locs1 : List Loc), PD D A (wL cy AD AM S1 M1) H1 → va_S A s.heap H1 locs1 → ∀ ls1 : Array Slot, lv_has ls1 4 [(0, .ref b), (1, .ref (AD 0 0)), (2, .ref (AM 0)), (3, .int (nI i))] → W p l e room_1 s m args below meth c H1 locs1 cells slots Q (F0 m 1979 ls1 [])) : W p l e room_1 s m args below meth c H locs cells slots Q (F0 m 1590 ls []) := by
  obtain ⟨r, S1, M1, h1, h2, hR⟩ := hq S M (xs (i + 1)) hR0
  have hx := C0.1.1
  have hb := C0.1.2.1
  have hown := C0.1.2.2.2.1
  have ht := C0.1.2.2.2.2
  refine lv_aload_n hx hb dL_law_1590 rfl (lv_at hl 1 rfl) ?_
  refine lv_aload_n hx hb dL_law_1591 rfl (lv_at hl 0 rfl) ?_
  refine lv_iload_n hx hb dL_law_1592 rfl (lv_at hl 3 rfl) ?_
  refine lv_iconst (v := 1) hx hb dL_law_1593 (by decide) ?_
  refine lv_iadd hx hb dL_law_1594 ?_
  refine xsld hx hb C0.2.2.2.2.2 hS (k := i + 1) (by first | rfl | exact nI_add i 1) ⟨by omega, C0.2.2.2.1⟩ dL_law_1595 ?_
  refine LX_fondness (rest := []) C0.1 hX hE hP hS h1 hl.1 (Nat.le_of_ble_eq_true rfl) dL_law_1596 hf (fun H locs hP hS => ?_)
  refine lv_aload_n hx hb dL_law_1599 rfl (lv_at hl 2 rfl) ?_
  refine lv_aload_n hx hb dL_law_1600 rfl (lv_at hl 0 rfl) ?_
  refine lv_iload_n hx hb dL_law_1601 rfl (lv_at hl 3 rfl) ?_
  refine lv_iconst (v := 1) hx hb dL_law_1602 (by decide) ?_
  refine lv_iadd hx hb dL_law_1603 ?_
  refine xsld hx hb C0.2.2.2.2.2 hS (k := i + 1) (by first | rfl | exact nI_add i 1) ⟨by omega, C0.2.2.2.1⟩ dL_law_1604 ?_
  refine LM_fondness (rest := [.int r]) C0.1 hX hE hP hS h2 hl.1 (Nat.le_of_ble_eq_true rfl) dL_law_1605 hf (fun H locs hP hS => ?_)
  exact lv_icmp_eq (tgt := 1979) hx hb dL_law_1608 (by decide) (fun _ => kk S1 M1 hR H locs hP hS ls hl) (fun hc => absurd rfl hc)
set_option maxHeartbeats 4000000 in
set_option maxRecDepth 100000 in
theorem law_partner (hq : Q_partner fu R) (C0 : Lc p l m meth c s args b L xs A) (hX : CX D cy s) (hE : EX tO aK aV A s s.heap) {i : Nat} (hi : i + 6 ≤ L) (hR0 : R S M) (hP : PD D A (wL cy AD AM S M) H) (hS : va_S A s.heap H locs) (hl : lv_has ls 4 [(0, .ref b), (1, .ref (AD 0 0)), (2, .ref (AM 0)), (3, .int (nI i))]) (hf : cells + 0 ≤ room_1.cells ∧ slots + 0 ≤ room_1.slots)
    (kk : ∀ (S1 : SX) (M1 : tX12), R S1 M1 → ∀ (H1 : Heap) (locs1 : List Loc), PD D A (wL cy AD AM S1 M1) H1 → va_S A s.heap H1 locs1 → ∀ ls1 : Array Slot, lv_has ls1 4 [(0, .ref b), (1, .ref (AD 0 0)), (2, .ref (AM 0)), (3, .int (nI i))] → W p l e room_1 s m args below meth c H1 locs1 cells slots Q (F0 m 1979 ls1 [])) : W p l e room_1 s m args below meth c H locs cells slots Q (F0 m 1613 ls []) := by
  obtain ⟨r, S1, M1, h1, h2, hR⟩ := hq S M (xs (i + 1)) (xs (i + 2)) hR0
  have hx := C0.1.1
  have hb := C0.1.2.1
  have hown := C0.1.2.2.2.1
  have ht := C0.1.2.2.2.2
  refine lv_aload_n hx hb dL_law_1613 rfl (lv_at hl 1 rfl) ?_
  refine lv_aload_n hx hb dL_law_1614 rfl (lv_at hl 0 rfl) ?_
  refine lv_iload_n hx hb dL_law_1615 rfl (lv_at hl 3 rfl) ?_
  refine lv_iconst (v := 1) hx hb dL_law_1616 (by decide) ?_
  refine lv_iadd hx hb dL_law_1617 ?_
  refine xsld hx hb C0.2.2.2.2.2 hS (k := i + 1) (by first | rfl | exact nI_add i 1) ⟨by omega, C0.2.2.2.1⟩ dL_law_1618 ?_
  refine lv_aload_n hx hb dL_law_1619 rfl (lv_at hl 0 rfl) ?_
  refine lv_iload_n hx hb dL_law_1620 rfl (lv_at hl 3 rfl) ?_
  refine lv_iconst (v := 2) hx hb dL_law_1621 (by decide) ?_
  refine lv_iadd hx hb dL_law_1622 ?_
  refine xsld hx hb C0.2.2.2.2.2 hS (k := i + 2) (by first | rfl | exact nI_add i 2) ⟨by omega, C0.2.2.2.1⟩ dL_law_1623 ?_
  refine LX_partner (rest := []) C0.1 hX hE hP hS h1 hl.1 (Nat.le_of_ble_eq_true rfl) dL_law_1624 hf (fun H locs hP hS => ?_)
  refine lv_aload_n hx hb dL_law_1627 rfl (lv_at hl 2 rfl) ?_
  refine lv_aload_n hx hb dL_law_1628 rfl (lv_at hl 0 rfl) ?_
  refine lv_iload_n hx hb dL_law_1629 rfl (lv_at hl 3 rfl) ?_
  refine lv_iconst (v := 1) hx hb dL_law_1630 (by decide) ?_
  refine lv_iadd hx hb dL_law_1631 ?_
  refine xsld hx hb C0.2.2.2.2.2 hS (k := i + 1) (by first | rfl | exact nI_add i 1) ⟨by omega, C0.2.2.2.1⟩ dL_law_1632 ?_
  refine lv_aload_n hx hb dL_law_1633 rfl (lv_at hl 0 rfl) ?_
  refine lv_iload_n hx hb dL_law_1634 rfl (lv_at hl 3 rfl) ?_
  refine lv_iconst (v := 2) hx hb dL_law_1635 (by decide) ?_
  refine lv_iadd hx hb dL_law_1636 ?_
  refine xsld hx hb C0.2.2.2.2.2 hS (k := i + 2) (by first | rfl | exact nI_add i 2) ⟨by omega, C0.2.2.2.1⟩ dL_law_1637 ?_
  refine LM_partner (rest := [.int r]) C0.1 hX hE hP hS h2 hl.1 (Nat.le_of_ble_eq_true rfl) dL_law_1638 hf (fun H locs hP hS => ?_)
  exact lv_icmp_eq (tgt := 1979) hx hb dL_law_1641 (by decide) (fun _ => kk S1 M1 hR H locs hP hS ls hl) (fun hc => absurd rfl hc)
set_option maxHeartbeats 4000000 in
set_option maxRecDepth 100000 in
theorem law_game (hq : Q_game fu R) (C0 : Lc p l m meth c s args b L xs A) (hX : CX D cy s) (hE : EX tO aK aV A s s.heap) {i : Nat} (hi : i + 6 ≤ L) (hR0 : R S M) (hP : PD D A (wL cy AD AM S M) H) (hS : va_S A s.heap H locs) (hl : lv_has ls 4 [(0, .ref b), (1, .ref (AD 0 0)), (2, .ref (AM 0)), (3, .int (nI i))]) (hf : cells + 0 ≤ room_1.cells ∧ slots + 0 ≤ room_1.slots)
    (kk : ∀ (S1 : SX) (M1 : tX12), R S1 M1 → ∀ (H1 : Heap) (locs1 : List Loc), PD D A (wL cy AD AM S1 M1) H1 → va_S A s.heap H1 locs1 → ∀ ls1 : Array Slot, lv_has ls1 4 [(0, .ref b), (1, .ref (AD 0 0)), (2, .ref (AM 0)), (3, .int (nI i))] → W p l e room_1 s m args below meth c H1 locs1 cells slots Q (F0 m 1979 ls1 [])) : W p l e room_1 s m args below meth c H locs cells slots Q (F0 m 1646 ls []) := by
  obtain ⟨r, S1, M1, h1, h2, hR⟩ := hq S M (xs (i + 1)) (xs (i + 2)) (xs (i + 3)) (xs (i + 4)) hR0
  have hx := C0.1.1
  have hb := C0.1.2.1
  have hown := C0.1.2.2.2.1
  have ht := C0.1.2.2.2.2
  refine lv_aload_n hx hb dL_law_1646 rfl (lv_at hl 1 rfl) ?_
  refine lv_aload_n hx hb dL_law_1647 rfl (lv_at hl 0 rfl) ?_
  refine lv_iload_n hx hb dL_law_1648 rfl (lv_at hl 3 rfl) ?_
  refine lv_iconst (v := 1) hx hb dL_law_1649 (by decide) ?_
  refine lv_iadd hx hb dL_law_1650 ?_
  refine xsld hx hb C0.2.2.2.2.2 hS (k := i + 1) (by first | rfl | exact nI_add i 1) ⟨by omega, C0.2.2.2.1⟩ dL_law_1651 ?_
  refine lv_aload_n hx hb dL_law_1652 rfl (lv_at hl 0 rfl) ?_
  refine lv_iload_n hx hb dL_law_1653 rfl (lv_at hl 3 rfl) ?_
  refine lv_iconst (v := 2) hx hb dL_law_1654 (by decide) ?_
  refine lv_iadd hx hb dL_law_1655 ?_
  refine xsld hx hb C0.2.2.2.2.2 hS (k := i + 2) (by first | rfl | exact nI_add i 2) ⟨by omega, C0.2.2.2.1⟩ dL_law_1656 ?_
  refine lv_aload_n hx hb dL_law_1657 rfl (lv_at hl 0 rfl) ?_
  refine lv_iload_n hx hb dL_law_1658 rfl (lv_at hl 3 rfl) ?_
  refine lv_iconst (v := 3) hx hb dL_law_1659 (by decide) ?_
  refine lv_iadd hx hb dL_law_1660 ?_
  refine xsld hx hb C0.2.2.2.2.2 hS (k := i + 3) (by first | rfl | exact nI_add i 3) ⟨by omega, C0.2.2.2.1⟩ dL_law_1661 ?_
  refine lv_aload_n hx hb dL_law_1662 rfl (lv_at hl 0 rfl) ?_
  refine lv_iload_n hx hb dL_law_1663 rfl (lv_at hl 3 rfl) ?_
  refine lv_iconst (v := 4) hx hb dL_law_1664 (by decide) ?_
  refine lv_iadd hx hb dL_law_1665 ?_
  refine xsld hx hb C0.2.2.2.2.2 hS (k := i + 4) (by first | rfl | exact nI_add i 4) ⟨by omega, C0.2.2.2.1⟩ dL_law_1666 ?_
  refine LX_game (rest := []) C0.1 hX hE hP hS h1 hl.1 (Nat.le_of_ble_eq_true rfl) dL_law_1667 hf (fun H locs hP hS => ?_)
  refine lv_aload_n hx hb dL_law_1670 rfl (lv_at hl 2 rfl) ?_
  refine lv_aload_n hx hb dL_law_1671 rfl (lv_at hl 0 rfl) ?_
  refine lv_iload_n hx hb dL_law_1672 rfl (lv_at hl 3 rfl) ?_
  refine lv_iconst (v := 1) hx hb dL_law_1673 (by decide) ?_
  refine lv_iadd hx hb dL_law_1674 ?_
  refine xsld hx hb C0.2.2.2.2.2 hS (k := i + 1) (by first | rfl | exact nI_add i 1) ⟨by omega, C0.2.2.2.1⟩ dL_law_1675 ?_
  refine lv_aload_n hx hb dL_law_1676 rfl (lv_at hl 0 rfl) ?_
  refine lv_iload_n hx hb dL_law_1677 rfl (lv_at hl 3 rfl) ?_
  refine lv_iconst (v := 2) hx hb dL_law_1678 (by decide) ?_
  refine lv_iadd hx hb dL_law_1679 ?_
  refine xsld hx hb C0.2.2.2.2.2 hS (k := i + 2) (by first | rfl | exact nI_add i 2) ⟨by omega, C0.2.2.2.1⟩ dL_law_1680 ?_
  refine lv_aload_n hx hb dL_law_1681 rfl (lv_at hl 0 rfl) ?_
  refine lv_iload_n hx hb dL_law_1682 rfl (lv_at hl 3 rfl) ?_
  refine lv_iconst (v := 3) hx hb dL_law_1683 (by decide) ?_
  refine lv_iadd hx hb dL_law_1684 ?_
  refine xsld hx hb C0.2.2.2.2.2 hS (k := i + 3) (by first | rfl | exact nI_add i 3) ⟨by omega, C0.2.2.2.1⟩ dL_law_1685 ?_
  refine lv_aload_n hx hb dL_law_1686 rfl (lv_at hl 0 rfl) ?_
  refine lv_iload_n hx hb dL_law_1687 rfl (lv_at hl 3 rfl) ?_
  refine lv_iconst (v := 4) hx hb dL_law_1688 (by decide) ?_
  refine lv_iadd hx hb dL_law_1689 ?_
  refine xsld hx hb C0.2.2.2.2.2 hS (k := i + 4) (by first | rfl | exact nI_add i 4) ⟨by omega, C0.2.2.2.1⟩ dL_law_1690 ?_
  refine LM_game (rest := [.int r]) C0.1 hX hE hP hS h2 hl.1 (Nat.le_of_ble_eq_true rfl) dL_law_1691 hf (fun H locs hP hS => ?_)
  exact lv_icmp_eq (tgt := 1979) hx hb dL_law_1694 (by decide) (fun _ => kk S1 M1 hR H locs hP hS ls hl) (fun hc => absurd rfl hc)
set_option maxHeartbeats 4000000 in
set_option maxRecDepth 100000 in
theorem law_moveOf (hq : Q_moveOf fu R) (C0 : Lc p l m meth c s args b L xs A) (hX : CX D cy s) (hE : EX tO aK aV A s s.heap) {i : Nat} (hi : i + 6 ≤ L) (hR0 : R S M) (hP : PD D A (wL cy AD AM S M) H) (hS : va_S A s.heap H locs) (hl : lv_has ls 4 [(0, .ref b), (1, .ref (AD 0 0)), (2, .ref (AM 0)), (3, .int (nI i))]) (hf : cells + 0 ≤ room_1.cells ∧ slots + 0 ≤ room_1.slots)
    (kk : ∀ (S1 : SX) (M1 : tX12), R S1 M1 → ∀ (H1 : Heap) (locs1 : List Loc), PD D A (wL cy AD AM S1 M1) H1 → va_S A s.heap H1 locs1 → ∀ ls1 : Array Slot, lv_has ls1 4 [(0, .ref b), (1, .ref (AD 0 0)), (2, .ref (AM 0)), (3, .int (nI i))] → W p l e room_1 s m args below meth c H1 locs1 cells slots Q (F0 m 1979 ls1 [])) : W p l e room_1 s m args below meth c H locs cells slots Q (F0 m 1699 ls []) := by
  obtain ⟨r, S1, M1, h1, h2, hR⟩ := hq S M (xs (i + 1)) (xs (i + 2)) (xs (i + 3)) (xs (i + 4)) hR0
  have hx := C0.1.1
  have hb := C0.1.2.1
  have hown := C0.1.2.2.2.1
  have ht := C0.1.2.2.2.2
  refine lv_aload_n hx hb dL_law_1699 rfl (lv_at hl 1 rfl) ?_
  refine lv_aload_n hx hb dL_law_1700 rfl (lv_at hl 0 rfl) ?_
  refine lv_iload_n hx hb dL_law_1701 rfl (lv_at hl 3 rfl) ?_
  refine lv_iconst (v := 1) hx hb dL_law_1702 (by decide) ?_
  refine lv_iadd hx hb dL_law_1703 ?_
  refine xsld hx hb C0.2.2.2.2.2 hS (k := i + 1) (by first | rfl | exact nI_add i 1) ⟨by omega, C0.2.2.2.1⟩ dL_law_1704 ?_
  refine lv_aload_n hx hb dL_law_1705 rfl (lv_at hl 0 rfl) ?_
  refine lv_iload_n hx hb dL_law_1706 rfl (lv_at hl 3 rfl) ?_
  refine lv_iconst (v := 2) hx hb dL_law_1707 (by decide) ?_
  refine lv_iadd hx hb dL_law_1708 ?_
  refine xsld hx hb C0.2.2.2.2.2 hS (k := i + 2) (by first | rfl | exact nI_add i 2) ⟨by omega, C0.2.2.2.1⟩ dL_law_1709 ?_
  refine lv_aload_n hx hb dL_law_1710 rfl (lv_at hl 0 rfl) ?_
  refine lv_iload_n hx hb dL_law_1711 rfl (lv_at hl 3 rfl) ?_
  refine lv_iconst (v := 3) hx hb dL_law_1712 (by decide) ?_
  refine lv_iadd hx hb dL_law_1713 ?_
  refine xsld hx hb C0.2.2.2.2.2 hS (k := i + 3) (by first | rfl | exact nI_add i 3) ⟨by omega, C0.2.2.2.1⟩ dL_law_1714 ?_
  refine lv_aload_n hx hb dL_law_1715 rfl (lv_at hl 0 rfl) ?_
  refine lv_iload_n hx hb dL_law_1716 rfl (lv_at hl 3 rfl) ?_
  refine lv_iconst (v := 4) hx hb dL_law_1717 (by decide) ?_
  refine lv_iadd hx hb dL_law_1718 ?_
  refine xsld hx hb C0.2.2.2.2.2 hS (k := i + 4) (by first | rfl | exact nI_add i 4) ⟨by omega, C0.2.2.2.1⟩ dL_law_1719 ?_
  refine LX_moveOf (rest := []) C0.1 hX hE hP hS h1 hl.1 (Nat.le_of_ble_eq_true rfl) dL_law_1720 hf (fun H locs hP hS => ?_)
  refine lv_aload_n hx hb dL_law_1723 rfl (lv_at hl 2 rfl) ?_
  refine lv_aload_n hx hb dL_law_1724 rfl (lv_at hl 0 rfl) ?_
  refine lv_iload_n hx hb dL_law_1725 rfl (lv_at hl 3 rfl) ?_
  refine lv_iconst (v := 1) hx hb dL_law_1726 (by decide) ?_
  refine lv_iadd hx hb dL_law_1727 ?_
  refine xsld hx hb C0.2.2.2.2.2 hS (k := i + 1) (by first | rfl | exact nI_add i 1) ⟨by omega, C0.2.2.2.1⟩ dL_law_1728 ?_
  refine lv_aload_n hx hb dL_law_1729 rfl (lv_at hl 0 rfl) ?_
  refine lv_iload_n hx hb dL_law_1730 rfl (lv_at hl 3 rfl) ?_
  refine lv_iconst (v := 2) hx hb dL_law_1731 (by decide) ?_
  refine lv_iadd hx hb dL_law_1732 ?_
  refine xsld hx hb C0.2.2.2.2.2 hS (k := i + 2) (by first | rfl | exact nI_add i 2) ⟨by omega, C0.2.2.2.1⟩ dL_law_1733 ?_
  refine lv_aload_n hx hb dL_law_1734 rfl (lv_at hl 0 rfl) ?_
  refine lv_iload_n hx hb dL_law_1735 rfl (lv_at hl 3 rfl) ?_
  refine lv_iconst (v := 3) hx hb dL_law_1736 (by decide) ?_
  refine lv_iadd hx hb dL_law_1737 ?_
  refine xsld hx hb C0.2.2.2.2.2 hS (k := i + 3) (by first | rfl | exact nI_add i 3) ⟨by omega, C0.2.2.2.1⟩ dL_law_1738 ?_
  refine lv_aload_n hx hb dL_law_1739 rfl (lv_at hl 0 rfl) ?_
  refine lv_iload_n hx hb dL_law_1740 rfl (lv_at hl 3 rfl) ?_
  refine lv_iconst (v := 4) hx hb dL_law_1741 (by decide) ?_
  refine lv_iadd hx hb dL_law_1742 ?_
  refine xsld hx hb C0.2.2.2.2.2 hS (k := i + 4) (by first | rfl | exact nI_add i 4) ⟨by omega, C0.2.2.2.1⟩ dL_law_1743 ?_
  refine LM_moveOf (rest := [.int r]) C0.1 hX hE hP hS h2 hl.1 (Nat.le_of_ble_eq_true rfl) dL_law_1744 hf (fun H locs hP hS => ?_)
  exact lv_icmp_eq (tgt := 1979) hx hb dL_law_1747 (by decide) (fun _ => kk S1 M1 hR H locs hP hS ls hl) (fun hc => absurd rfl hc)
set_option maxHeartbeats 4000000 in
set_option maxRecDepth 100000 in
theorem law_chance (hq : Q_chance fu R) (C0 : Lc p l m meth c s args b L xs A) (hX : CX D cy s) (hE : EX tO aK aV A s s.heap) {i : Nat} (hi : i + 6 ≤ L) (hR0 : R S M) (hP : PD D A (wL cy AD AM S M) H) (hS : va_S A s.heap H locs) (hl : lv_has ls 4 [(0, .ref b), (1, .ref (AD 0 0)), (2, .ref (AM 0)), (3, .int (nI i))]) (hf : cells + 0 ≤ room_1.cells ∧ slots + 0 ≤ room_1.slots)
    (kk : ∀ (S1 : SX) (M1 : tX12), R S1 M1 → ∀ (H1 : Heap) (locs1 : List Loc), PD D A (wL cy AD AM S1 M1) H1 → va_S A s.heap H1 locs1 → ∀ ls1 : Array Slot, lv_has ls1 4 [(0, .ref b), (1, .ref (AD 0 0)), (2, .ref (AM 0)), (3, .int (nI i))] → W p l e room_1 s m args below meth c H1 locs1 cells slots Q (F0 m 1979 ls1 [])) : W p l e room_1 s m args below meth c H locs cells slots Q (F0 m 1752 ls []) := by
  obtain ⟨r, S1, M1, h1, h2, hR⟩ := hq S M (xs (i + 1)) (xs (i + 2)) (xs (i + 3)) hR0
  have hx := C0.1.1
  have hb := C0.1.2.1
  have hown := C0.1.2.2.2.1
  have ht := C0.1.2.2.2.2
  refine lv_aload_n hx hb dL_law_1752 rfl (lv_at hl 1 rfl) ?_
  refine lv_aload_n hx hb dL_law_1753 rfl (lv_at hl 0 rfl) ?_
  refine lv_iload_n hx hb dL_law_1754 rfl (lv_at hl 3 rfl) ?_
  refine lv_iconst (v := 1) hx hb dL_law_1755 (by decide) ?_
  refine lv_iadd hx hb dL_law_1756 ?_
  refine xsld hx hb C0.2.2.2.2.2 hS (k := i + 1) (by first | rfl | exact nI_add i 1) ⟨by omega, C0.2.2.2.1⟩ dL_law_1757 ?_
  refine lv_aload_n hx hb dL_law_1758 rfl (lv_at hl 0 rfl) ?_
  refine lv_iload_n hx hb dL_law_1759 rfl (lv_at hl 3 rfl) ?_
  refine lv_iconst (v := 2) hx hb dL_law_1760 (by decide) ?_
  refine lv_iadd hx hb dL_law_1761 ?_
  refine xsld hx hb C0.2.2.2.2.2 hS (k := i + 2) (by first | rfl | exact nI_add i 2) ⟨by omega, C0.2.2.2.1⟩ dL_law_1762 ?_
  refine lv_aload_n hx hb dL_law_1763 rfl (lv_at hl 0 rfl) ?_
  refine lv_iload_n hx hb dL_law_1764 rfl (lv_at hl 3 rfl) ?_
  refine lv_iconst (v := 3) hx hb dL_law_1765 (by decide) ?_
  refine lv_iadd hx hb dL_law_1766 ?_
  refine xsld hx hb C0.2.2.2.2.2 hS (k := i + 3) (by first | rfl | exact nI_add i 3) ⟨by omega, C0.2.2.2.1⟩ dL_law_1767 ?_
  refine LX_chance (rest := []) C0.1 hX hE hP hS h1 hl.1 (Nat.le_of_ble_eq_true rfl) dL_law_1768 hf (fun H locs hP hS => ?_)
  refine lv_aload_n hx hb dL_law_1771 rfl (lv_at hl 2 rfl) ?_
  refine lv_aload_n hx hb dL_law_1772 rfl (lv_at hl 0 rfl) ?_
  refine lv_iload_n hx hb dL_law_1773 rfl (lv_at hl 3 rfl) ?_
  refine lv_iconst (v := 1) hx hb dL_law_1774 (by decide) ?_
  refine lv_iadd hx hb dL_law_1775 ?_
  refine xsld hx hb C0.2.2.2.2.2 hS (k := i + 1) (by first | rfl | exact nI_add i 1) ⟨by omega, C0.2.2.2.1⟩ dL_law_1776 ?_
  refine lv_aload_n hx hb dL_law_1777 rfl (lv_at hl 0 rfl) ?_
  refine lv_iload_n hx hb dL_law_1778 rfl (lv_at hl 3 rfl) ?_
  refine lv_iconst (v := 2) hx hb dL_law_1779 (by decide) ?_
  refine lv_iadd hx hb dL_law_1780 ?_
  refine xsld hx hb C0.2.2.2.2.2 hS (k := i + 2) (by first | rfl | exact nI_add i 2) ⟨by omega, C0.2.2.2.1⟩ dL_law_1781 ?_
  refine lv_aload_n hx hb dL_law_1782 rfl (lv_at hl 0 rfl) ?_
  refine lv_iload_n hx hb dL_law_1783 rfl (lv_at hl 3 rfl) ?_
  refine lv_iconst (v := 3) hx hb dL_law_1784 (by decide) ?_
  refine lv_iadd hx hb dL_law_1785 ?_
  refine xsld hx hb C0.2.2.2.2.2 hS (k := i + 3) (by first | rfl | exact nI_add i 3) ⟨by omega, C0.2.2.2.1⟩ dL_law_1786 ?_
  refine LM_chance (rest := [.int r]) C0.1 hX hE hP hS h2 hl.1 (Nat.le_of_ble_eq_true rfl) dL_law_1787 hf (fun H locs hP hS => ?_)
  exact lv_icmp_eq (tgt := 1979) hx hb dL_law_1790 (by decide) (fun _ => kk S1 M1 hR H locs hP hS ls hl) (fun hc => absurd rfl hc)
set_option maxHeartbeats 4000000 in
set_option maxRecDepth 100000 in
theorem law_luck (hq : Q_luck fu R) (C0 : Lc p l m meth c s args b L xs A) (hX : CX D cy s) (hE : EX tO aK aV A s s.heap) {i : Nat} (hi : i + 6 ≤ L) (hR0 : R S M) (hP : PD D A (wL cy AD AM S M) H) (hS : va_S A s.heap H locs) (hl : lv_has ls 4 [(0, .ref b), (1, .ref (AD 0 0)), (2, .ref (AM 0)), (3, .int (nI i))]) (hf : cells + 0 ≤ room_1.cells ∧ slots + 0 ≤ room_1.slots)
    (kk : ∀ (S1 : SX) (M1 : tX12), R S1 M1 → ∀ (H1 : Heap) (locs1 : List Loc), PD D A (wL cy AD AM S1 M1) H1 → va_S A s.heap H1 locs1 → ∀ ls1 : Array Slot, lv_has ls1 4 [(0, .ref b), (1, .ref (AD 0 0)), (2, .ref (AM 0)), (3, .int (nI i))] → W p l e room_1 s m args below meth c H1 locs1 cells slots Q (F0 m 1979 ls1 [])) : W p l e room_1 s m args below meth c H locs cells slots Q (F0 m 1795 ls []) := by
  obtain ⟨r, S1, M1, h1, h2, hR⟩ := hq S M (xs (i + 1)) (xs (i + 2)) hR0
  have hx := C0.1.1
  have hb := C0.1.2.1
  have hown := C0.1.2.2.2.1
  have ht := C0.1.2.2.2.2
  refine lv_aload_n hx hb dL_law_1795 rfl (lv_at hl 1 rfl) ?_
  refine lv_aload_n hx hb dL_law_1796 rfl (lv_at hl 0 rfl) ?_
  refine lv_iload_n hx hb dL_law_1797 rfl (lv_at hl 3 rfl) ?_
  refine lv_iconst (v := 1) hx hb dL_law_1798 (by decide) ?_
  refine lv_iadd hx hb dL_law_1799 ?_
  refine xsld hx hb C0.2.2.2.2.2 hS (k := i + 1) (by first | rfl | exact nI_add i 1) ⟨by omega, C0.2.2.2.1⟩ dL_law_1800 ?_
  refine lv_aload_n hx hb dL_law_1801 rfl (lv_at hl 0 rfl) ?_
  refine lv_iload_n hx hb dL_law_1802 rfl (lv_at hl 3 rfl) ?_
  refine lv_iconst (v := 2) hx hb dL_law_1803 (by decide) ?_
  refine lv_iadd hx hb dL_law_1804 ?_
  refine xsld hx hb C0.2.2.2.2.2 hS (k := i + 2) (by first | rfl | exact nI_add i 2) ⟨by omega, C0.2.2.2.1⟩ dL_law_1805 ?_
  refine LX_luck (rest := []) C0.1 hX hE hP hS h1 hl.1 (Nat.le_of_ble_eq_true rfl) dL_law_1806 hf (fun H locs hP hS => ?_)
  refine lv_aload_n hx hb dL_law_1809 rfl (lv_at hl 2 rfl) ?_
  refine lv_aload_n hx hb dL_law_1810 rfl (lv_at hl 0 rfl) ?_
  refine lv_iload_n hx hb dL_law_1811 rfl (lv_at hl 3 rfl) ?_
  refine lv_iconst (v := 1) hx hb dL_law_1812 (by decide) ?_
  refine lv_iadd hx hb dL_law_1813 ?_
  refine xsld hx hb C0.2.2.2.2.2 hS (k := i + 1) (by first | rfl | exact nI_add i 1) ⟨by omega, C0.2.2.2.1⟩ dL_law_1814 ?_
  refine lv_aload_n hx hb dL_law_1815 rfl (lv_at hl 0 rfl) ?_
  refine lv_iload_n hx hb dL_law_1816 rfl (lv_at hl 3 rfl) ?_
  refine lv_iconst (v := 2) hx hb dL_law_1817 (by decide) ?_
  refine lv_iadd hx hb dL_law_1818 ?_
  refine xsld hx hb C0.2.2.2.2.2 hS (k := i + 2) (by first | rfl | exact nI_add i 2) ⟨by omega, C0.2.2.2.1⟩ dL_law_1819 ?_
  refine LM_luck (rest := [.int r]) C0.1 hX hE hP hS h2 hl.1 (Nat.le_of_ble_eq_true rfl) dL_law_1820 hf (fun H locs hP hS => ?_)
  exact lv_icmp_eq (tgt := 1979) hx hb dL_law_1823 (by decide) (fun _ => kk S1 M1 hR H locs hP hS ls hl) (fun hc => absurd rfl hc)
set_option maxHeartbeats 4000000 in
set_option maxRecDepth 100000 in
theorem law_hopeful (hq : Q_hopeful fu R) (C0 : Lc p l m meth c s args b L xs A) (hX : CX D cy s) (hE : EX tO aK aV A s s.heap) {i : Nat} (hi : i + 6 ≤ L) (hR0 : R S M) (hP : PD D A (wL cy AD AM S M) H) (hS : va_S A s.heap H locs) (hl : lv_has ls 4 [(0, .ref b), (1, .ref (AD 0 0)), (2, .ref (AM 0)), (3, .int (nI i))]) (hf : cells + 0 ≤ room_1.cells ∧ slots + 0 ≤ room_1.slots)
    (kk : ∀ (S1 : SX) (M1 : tX12), R S1 M1 → ∀ (H1 : Heap) (locs1 : List Loc), PD D A (wL cy AD AM S1 M1) H1 → va_S A s.heap H1 locs1 → ∀ ls1 : Array Slot, lv_has ls1 4 [(0, .ref b), (1, .ref (AD 0 0)), (2, .ref (AM 0)), (3, .int (nI i))] → W p l e room_1 s m args below meth c H1 locs1 cells slots Q (F0 m 1979 ls1 [])) : W p l e room_1 s m args below meth c H locs cells slots Q (F0 m 1828 ls []) := by
  obtain ⟨r, S1, M1, h1, h2, hR⟩ := hq S M hR0
  have hx := C0.1.1
  have hb := C0.1.2.1
  have hown := C0.1.2.2.2.1
  have ht := C0.1.2.2.2.2
  refine lv_aload_n hx hb dL_law_1828 rfl (lv_at hl 1 rfl) ?_
  refine LX_hopeful (rest := []) C0.1 hX hE hP hS h1 hl.1 (Nat.le_of_ble_eq_true rfl) dL_law_1829 hf (fun H locs hP hS => ?_)
  refine lv_aload_n hx hb dL_law_1832 rfl (lv_at hl 2 rfl) ?_
  refine LM_hopeful (rest := [.int r]) C0.1 hX hE hP hS h2 hl.1 (Nat.le_of_ble_eq_true rfl) dL_law_1833 hf (fun H locs hP hS => ?_)
  exact lv_icmp_eq (tgt := 1979) hx hb dL_law_1836 (by decide) (fun _ => kk S1 M1 hR H locs hP hS ls hl) (fun hc => absurd rfl hc)
set_option maxHeartbeats 4000000 in
set_option maxRecDepth 100000 in
theorem law_copyMedals (hq : Q_copyMedals fu R) (C0 : Lc p l m meth c s args b L xs A) (hX : CX D cy s) (hE : EX tO aK aV A s s.heap) {i : Nat} (hi : i + 6 ≤ L) (hR0 : R S M) (hP : PD D A (wL cy AD AM S M) H) (hS : va_S A s.heap H locs) (hl : lv_has ls 4 [(0, .ref b), (1, .ref (AD 0 0)), (2, .ref (AM 0)), (3, .int (nI i))]) (hf : cells + 0 ≤ room_1.cells ∧ slots + 0 ≤ room_1.slots)
    (kk : ∀ (S1 : SX) (M1 : tX12), R S1 M1 → ∀ (H1 : Heap) (locs1 : List Loc), PD D A (wL cy AD AM S1 M1) H1 → va_S A s.heap H1 locs1 → ∀ ls1 : Array Slot, lv_has ls1 4 [(0, .ref b), (1, .ref (AD 0 0)), (2, .ref (AM 0)), (3, .int (nI i))] → W p l e room_1 s m args below meth c H1 locs1 cells slots Q (F0 m 1979 ls1 [])) : W p l e room_1 s m args below meth c H locs cells slots Q (F0 m 1841 ls []) := by
  obtain ⟨r, S1, M1, h1, h2, hR⟩ := hq S M (xs (i + 1)) hR0
  have hx := C0.1.1
  have hb := C0.1.2.1
  have hown := C0.1.2.2.2.1
  have ht := C0.1.2.2.2.2
  refine lv_aload_n hx hb dL_law_1841 rfl (lv_at hl 1 rfl) ?_
  refine lv_aload_n hx hb dL_law_1842 rfl (lv_at hl 0 rfl) ?_
  refine lv_iload_n hx hb dL_law_1843 rfl (lv_at hl 3 rfl) ?_
  refine lv_iconst (v := 1) hx hb dL_law_1844 (by decide) ?_
  refine lv_iadd hx hb dL_law_1845 ?_
  refine xsld hx hb C0.2.2.2.2.2 hS (k := i + 1) (by first | rfl | exact nI_add i 1) ⟨by omega, C0.2.2.2.1⟩ dL_law_1846 ?_
  refine LX_copyMedals (rest := []) C0.1 hX hE hP hS h1 hl.1 (Nat.le_of_ble_eq_true rfl) dL_law_1847 hf (fun H locs hP hS => ?_)
  refine lv_aload_n hx hb dL_law_1850 rfl (lv_at hl 2 rfl) ?_
  refine lv_aload_n hx hb dL_law_1851 rfl (lv_at hl 0 rfl) ?_
  refine lv_iload_n hx hb dL_law_1852 rfl (lv_at hl 3 rfl) ?_
  refine lv_iconst (v := 1) hx hb dL_law_1853 (by decide) ?_
  refine lv_iadd hx hb dL_law_1854 ?_
  refine xsld hx hb C0.2.2.2.2.2 hS (k := i + 1) (by first | rfl | exact nI_add i 1) ⟨by omega, C0.2.2.2.1⟩ dL_law_1855 ?_
  refine LM_copyMedals (rest := [.int r]) C0.1 hX hE hP hS h2 hl.1 (Nat.le_of_ble_eq_true rfl) dL_law_1856 hf (fun H locs hP hS => ?_)
  exact lv_icmp_eq (tgt := 1979) hx hb dL_law_1859 (by decide) (fun _ => kk S1 M1 hR H locs hP hS ls hl) (fun hc => absurd rfl hc)
set_option maxHeartbeats 4000000 in
set_option maxRecDepth 100000 in
theorem law_live (hq : Q_live fu R) (C0 : Lc p l m meth c s args b L xs A) (hX : CX D cy s) (hE : EX tO aK aV A s s.heap) {i : Nat} (hi : i + 6 ≤ L) (hR0 : R S M) (hP : PD D A (wL cy AD AM S M) H) (hS : va_S A s.heap H locs) (hl : lv_has ls 4 [(0, .ref b), (1, .ref (AD 0 0)), (2, .ref (AM 0)), (3, .int (nI i))]) (hf : cells + 0 ≤ room_1.cells ∧ slots + 0 ≤ room_1.slots)
    (kk : ∀ (S1 : SX) (M1 : tX12), R S1 M1 → ∀ (H1 : Heap) (locs1 : List Loc), PD D A (wL cy AD AM S1 M1) H1 → va_S A s.heap H1 locs1 → ∀ ls1 : Array Slot, lv_has ls1 4 [(0, .ref b), (1, .ref (AD 0 0)), (2, .ref (AM 0)), (3, .int (nI i))] → W p l e room_1 s m args below meth c H1 locs1 cells slots Q (F0 m 1979 ls1 [])) : W p l e room_1 s m args below meth c H locs cells slots Q (F0 m 1864 ls []) := by
  obtain ⟨r, S1, M1, h1, h2, hR⟩ := hq S M (xs (i + 1)) hR0
  have hx := C0.1.1
  have hb := C0.1.2.1
  have hown := C0.1.2.2.2.1
  have ht := C0.1.2.2.2.2
  refine lv_aload_n hx hb dL_law_1864 rfl (lv_at hl 1 rfl) ?_
  refine lv_aload_n hx hb dL_law_1865 rfl (lv_at hl 0 rfl) ?_
  refine lv_iload_n hx hb dL_law_1866 rfl (lv_at hl 3 rfl) ?_
  refine lv_iconst (v := 1) hx hb dL_law_1867 (by decide) ?_
  refine lv_iadd hx hb dL_law_1868 ?_
  refine xsld hx hb C0.2.2.2.2.2 hS (k := i + 1) (by first | rfl | exact nI_add i 1) ⟨by omega, C0.2.2.2.1⟩ dL_law_1869 ?_
  refine LX_live (rest := []) C0.1 hX hE hP hS h1 hl.1 (Nat.le_of_ble_eq_true rfl) dL_law_1870 hf (fun H locs hP hS => ?_)
  refine lv_aload_n hx hb dL_law_1873 rfl (lv_at hl 2 rfl) ?_
  refine lv_aload_n hx hb dL_law_1874 rfl (lv_at hl 0 rfl) ?_
  refine lv_iload_n hx hb dL_law_1875 rfl (lv_at hl 3 rfl) ?_
  refine lv_iconst (v := 1) hx hb dL_law_1876 (by decide) ?_
  refine lv_iadd hx hb dL_law_1877 ?_
  refine xsld hx hb C0.2.2.2.2.2 hS (k := i + 1) (by first | rfl | exact nI_add i 1) ⟨by omega, C0.2.2.2.1⟩ dL_law_1878 ?_
  refine LM_live (rest := [.int r]) C0.1 hX hE hP hS h2 hl.1 (Nat.le_of_ble_eq_true rfl) dL_law_1879 hf (fun H locs hP hS => ?_)
  exact lv_icmp_eq (tgt := 1979) hx hb dL_law_1882 (by decide) (fun _ => kk S1 M1 hR H locs hP hS ls hl) (fun hc => absurd rfl hc)
set_option maxHeartbeats 4000000 in
set_option maxRecDepth 100000 in
theorem law_lived (hq : Q_lived fu R) (C0 : Lc p l m meth c s args b L xs A) (hX : CX D cy s) (hE : EX tO aK aV A s s.heap) {i : Nat} (hi : i + 6 ≤ L) (hR0 : R S M) (hP : PD D A (wL cy AD AM S M) H) (hS : va_S A s.heap H locs) (hl : lv_has ls 4 [(0, .ref b), (1, .ref (AD 0 0)), (2, .ref (AM 0)), (3, .int (nI i))]) (hf : cells + 0 ≤ room_1.cells ∧ slots + 0 ≤ room_1.slots)
    (kk : ∀ (S1 : SX) (M1 : tX12), R S1 M1 → ∀ (H1 : Heap) (locs1 : List Loc), PD D A (wL cy AD AM S1 M1) H1 → va_S A s.heap H1 locs1 → ∀ ls1 : Array Slot, lv_has ls1 4 [(0, .ref b), (1, .ref (AD 0 0)), (2, .ref (AM 0)), (3, .int (nI i))] → W p l e room_1 s m args below meth c H1 locs1 cells slots Q (F0 m 1979 ls1 [])) : W p l e room_1 s m args below meth c H locs cells slots Q (F0 m 1887 ls []) := by
  obtain ⟨r, S1, M1, h1, h2, hR⟩ := hq S M (xs (i + 1)) hR0
  have hx := C0.1.1
  have hb := C0.1.2.1
  have hown := C0.1.2.2.2.1
  have ht := C0.1.2.2.2.2
  refine lv_aload_n hx hb dL_law_1887 rfl (lv_at hl 1 rfl) ?_
  refine lv_aload_n hx hb dL_law_1888 rfl (lv_at hl 0 rfl) ?_
  refine lv_iload_n hx hb dL_law_1889 rfl (lv_at hl 3 rfl) ?_
  refine lv_iconst (v := 1) hx hb dL_law_1890 (by decide) ?_
  refine lv_iadd hx hb dL_law_1891 ?_
  refine xsld hx hb C0.2.2.2.2.2 hS (k := i + 1) (by first | rfl | exact nI_add i 1) ⟨by omega, C0.2.2.2.1⟩ dL_law_1892 ?_
  refine LX_lived (rest := []) C0.1 hX hE hP hS h1 hl.1 (Nat.le_of_ble_eq_true rfl) dL_law_1893 hf (fun H locs hP hS => ?_)
  refine lv_aload_n hx hb dL_law_1896 rfl (lv_at hl 2 rfl) ?_
  refine lv_aload_n hx hb dL_law_1897 rfl (lv_at hl 0 rfl) ?_
  refine lv_iload_n hx hb dL_law_1898 rfl (lv_at hl 3 rfl) ?_
  refine lv_iconst (v := 1) hx hb dL_law_1899 (by decide) ?_
  refine lv_iadd hx hb dL_law_1900 ?_
  refine xsld hx hb C0.2.2.2.2.2 hS (k := i + 1) (by first | rfl | exact nI_add i 1) ⟨by omega, C0.2.2.2.1⟩ dL_law_1901 ?_
  refine LM_lived (rest := [.int r]) C0.1 hX hE hP hS h2 hl.1 (Nat.le_of_ble_eq_true rfl) dL_law_1902 hf (fun H locs hP hS => ?_)
  exact lv_icmp_eq (tgt := 1979) hx hb dL_law_1905 (by decide) (fun _ => kk S1 M1 hR H locs hP hS ls hl) (fun hc => absurd rfl hc)
set_option maxHeartbeats 4000000 in
set_option maxRecDepth 100000 in
theorem law_mean (hq : Q_mean fu R) (C0 : Lc p l m meth c s args b L xs A) (hX : CX D cy s) (hE : EX tO aK aV A s s.heap) {i : Nat} (hi : i + 6 ≤ L) (hR0 : R S M) (hP : PD D A (wL cy AD AM S M) H) (hS : va_S A s.heap H locs) (hl : lv_has ls 4 [(0, .ref b), (1, .ref (AD 0 0)), (2, .ref (AM 0)), (3, .int (nI i))]) (hf : cells + 0 ≤ room_1.cells ∧ slots + 0 ≤ room_1.slots)
    (kk : ∀ (S1 : SX) (M1 : tX12), R S1 M1 → ∀ (H1 : Heap) (locs1 : List Loc), PD D A (wL cy AD AM S1 M1) H1 → va_S A s.heap H1 locs1 → ∀ ls1 : Array Slot, lv_has ls1 4 [(0, .ref b), (1, .ref (AD 0 0)), (2, .ref (AM 0)), (3, .int (nI i))] → W p l e room_1 s m args below meth c H1 locs1 cells slots Q (F0 m 1979 ls1 [])) : W p l e room_1 s m args below meth c H locs cells slots Q (F0 m 1910 ls []) := by
  obtain ⟨r, S1, M1, h1, h2, hR⟩ := hq S M (xs (i + 1)) (xs (i + 2)) (xs (i + 3)) hR0
  have hx := C0.1.1
  have hb := C0.1.2.1
  have hown := C0.1.2.2.2.1
  have ht := C0.1.2.2.2.2
  refine lv_aload_n hx hb dL_law_1910 rfl (lv_at hl 1 rfl) ?_
  refine lv_aload_n hx hb dL_law_1911 rfl (lv_at hl 0 rfl) ?_
  refine lv_iload_n hx hb dL_law_1912 rfl (lv_at hl 3 rfl) ?_
  refine lv_iconst (v := 1) hx hb dL_law_1913 (by decide) ?_
  refine lv_iadd hx hb dL_law_1914 ?_
  refine xsld hx hb C0.2.2.2.2.2 hS (k := i + 1) (by first | rfl | exact nI_add i 1) ⟨by omega, C0.2.2.2.1⟩ dL_law_1915 ?_
  refine lv_aload_n hx hb dL_law_1916 rfl (lv_at hl 0 rfl) ?_
  refine lv_iload_n hx hb dL_law_1917 rfl (lv_at hl 3 rfl) ?_
  refine lv_iconst (v := 2) hx hb dL_law_1918 (by decide) ?_
  refine lv_iadd hx hb dL_law_1919 ?_
  refine xsld hx hb C0.2.2.2.2.2 hS (k := i + 2) (by first | rfl | exact nI_add i 2) ⟨by omega, C0.2.2.2.1⟩ dL_law_1920 ?_
  refine lv_aload_n hx hb dL_law_1921 rfl (lv_at hl 0 rfl) ?_
  refine lv_iload_n hx hb dL_law_1922 rfl (lv_at hl 3 rfl) ?_
  refine lv_iconst (v := 3) hx hb dL_law_1923 (by decide) ?_
  refine lv_iadd hx hb dL_law_1924 ?_
  refine xsld hx hb C0.2.2.2.2.2 hS (k := i + 3) (by first | rfl | exact nI_add i 3) ⟨by omega, C0.2.2.2.1⟩ dL_law_1925 ?_
  refine LX_mean (rest := []) C0.1 hX hE hP hS h1 hl.1 (Nat.le_of_ble_eq_true rfl) dL_law_1926 hf (fun H locs hP hS => ?_)
  refine lv_aload_n hx hb dL_law_1929 rfl (lv_at hl 2 rfl) ?_
  refine lv_aload_n hx hb dL_law_1930 rfl (lv_at hl 0 rfl) ?_
  refine lv_iload_n hx hb dL_law_1931 rfl (lv_at hl 3 rfl) ?_
  refine lv_iconst (v := 1) hx hb dL_law_1932 (by decide) ?_
  refine lv_iadd hx hb dL_law_1933 ?_
  refine xsld hx hb C0.2.2.2.2.2 hS (k := i + 1) (by first | rfl | exact nI_add i 1) ⟨by omega, C0.2.2.2.1⟩ dL_law_1934 ?_
  refine lv_aload_n hx hb dL_law_1935 rfl (lv_at hl 0 rfl) ?_
  refine lv_iload_n hx hb dL_law_1936 rfl (lv_at hl 3 rfl) ?_
  refine lv_iconst (v := 2) hx hb dL_law_1937 (by decide) ?_
  refine lv_iadd hx hb dL_law_1938 ?_
  refine xsld hx hb C0.2.2.2.2.2 hS (k := i + 2) (by first | rfl | exact nI_add i 2) ⟨by omega, C0.2.2.2.1⟩ dL_law_1939 ?_
  refine lv_aload_n hx hb dL_law_1940 rfl (lv_at hl 0 rfl) ?_
  refine lv_iload_n hx hb dL_law_1941 rfl (lv_at hl 3 rfl) ?_
  refine lv_iconst (v := 3) hx hb dL_law_1942 (by decide) ?_
  refine lv_iadd hx hb dL_law_1943 ?_
  refine xsld hx hb C0.2.2.2.2.2 hS (k := i + 3) (by first | rfl | exact nI_add i 3) ⟨by omega, C0.2.2.2.1⟩ dL_law_1944 ?_
  refine LM_mean (rest := [.int r]) C0.1 hX hE hP hS h2 hl.1 (Nat.le_of_ble_eq_true rfl) dL_law_1945 hf (fun H locs hP hS => ?_)
  exact lv_icmp_eq (tgt := 1979) hx hb dL_law_1948 (by decide) (fun _ => kk S1 M1 hR H locs hP hS ls hl) (fun hc => absurd rfl hc)
set_option maxHeartbeats 4000000 in
set_option maxRecDepth 100000 in
theorem law_mark (hq : Q_mark fu R) (C0 : Lc p l m meth c s args b L xs A) (hX : CX D cy s) (hE : EX tO aK aV A s s.heap) {i : Nat} (hi : i + 6 ≤ L) (hR0 : R S M) (hP : PD D A (wL cy AD AM S M) H) (hS : va_S A s.heap H locs) (hl : lv_has ls 4 [(0, .ref b), (1, .ref (AD 0 0)), (2, .ref (AM 0)), (3, .int (nI i))]) (hf : cells + 0 ≤ room_1.cells ∧ slots + 0 ≤ room_1.slots)
    (kk : ∀ (S1 : SX) (M1 : tX12), R S1 M1 → ∀ (H1 : Heap) (locs1 : List Loc), PD D A (wL cy AD AM S1 M1) H1 → va_S A s.heap H1 locs1 → ∀ ls1 : Array Slot, lv_has ls1 4 [(0, .ref b), (1, .ref (AD 0 0)), (2, .ref (AM 0)), (3, .int (nI i))] → W p l e room_1 s m args below meth c H1 locs1 cells slots Q (F0 m 1979 ls1 [])) : W p l e room_1 s m args below meth c H locs cells slots Q (F0 m 1953 ls []) := by
  obtain ⟨r, S1, M1, h1, h2, hR⟩ := hq S M hR0
  have hx := C0.1.1
  have hb := C0.1.2.1
  have hown := C0.1.2.2.2.1
  have ht := C0.1.2.2.2.2
  refine lv_aload_n hx hb dL_law_1953 rfl (lv_at hl 1 rfl) ?_
  refine LX_mark (rest := []) C0.1 hX hE hP hS h1 hl.1 (Nat.le_of_ble_eq_true rfl) dL_law_1954 hf (fun H locs hP hS => ?_)
  refine lv_aload_n hx hb dL_law_1957 rfl (lv_at hl 2 rfl) ?_
  refine LM_mark (rest := [.int r]) C0.1 hX hE hP hS h2 hl.1 (Nat.le_of_ble_eq_true rfl) dL_law_1958 hf (fun H locs hP hS => ?_)
  exact lv_icmp_eq (tgt := 1979) hx hb dL_law_1961 (by decide) (fun _ => kk S1 M1 hR H locs hP hS ls hl) (fun hc => absurd rfl hc)
set_option maxHeartbeats 4000000 in
set_option maxRecDepth 100000 in
theorem law_undo (hq : Q_undo fu R) (C0 : Lc p l m meth c s args b L xs A) (hX : CX D cy s) (hE : EX tO aK aV A s s.heap) {i : Nat} (hi : i + 6 ≤ L) (hR0 : R S M) (hP : PD D A (wL cy AD AM S M) H) (hS : va_S A s.heap H locs) (hl : lv_has ls 4 [(0, .ref b), (1, .ref (AD 0 0)), (2, .ref (AM 0)), (3, .int (nI i))]) (hf : cells + 0 ≤ room_1.cells ∧ slots + 0 ≤ room_1.slots)
    (kk : ∀ (S1 : SX) (M1 : tX12), R S1 M1 → ∀ (H1 : Heap) (locs1 : List Loc), PD D A (wL cy AD AM S1 M1) H1 → va_S A s.heap H1 locs1 → ∀ ls1 : Array Slot, lv_has ls1 4 [(0, .ref b), (1, .ref (AD 0 0)), (2, .ref (AM 0)), (3, .int (nI i))] → W p l e room_1 s m args below meth c H1 locs1 cells slots Q (F0 m 1979 ls1 [])) : W p l e room_1 s m args below meth c H locs cells slots Q (F0 m 1966 ls []) := by
  obtain ⟨r, S1, M1, h1, h2, hR⟩ := hq S M hR0
  have hx := C0.1.1
  have hb := C0.1.2.1
  have hown := C0.1.2.2.2.1
  have ht := C0.1.2.2.2.2
  refine lv_aload_n hx hb dL_law_1966 rfl (lv_at hl 1 rfl) ?_
  refine LX_undo (rest := []) C0.1 hX hE hP hS h1 hl.1 (Nat.le_of_ble_eq_true rfl) dL_law_1967 hf (fun H locs hP hS => ?_)
  refine lv_aload_n hx hb dL_law_1970 rfl (lv_at hl 2 rfl) ?_
  refine LM_undo (rest := [.int r]) C0.1 hX hE hP hS h2 hl.1 (Nat.le_of_ble_eq_true rfl) dL_law_1971 hf (fun H locs hP hS => ?_)
  exact lv_icmp_eq (tgt := 1979) hx hb dL_law_1974 (by decide) (fun _ => kk S1 M1 hR H locs hP hS ls hl) (fun hc => absurd rfl hc)
end LAWCASES

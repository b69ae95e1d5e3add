def lw_nm : List (String × Nat × MethodName × String) := [("MedalBoard", 28, ⟨"MedalBoard$Army", "<init>", "()V"⟩, "MedalBoard"), ("MedalBoard", 35, ⟨"MedalBoard$War", "<init>", "()V"⟩, "MedalBoard"), ("MedalBoard", 48, ⟨"MedalBoard$Reader", "<init>", "()V"⟩, "MedalBoard"), ("MedalBoard", 96, ⟨"MedalBoard$Foresight", "<init>", "()V"⟩, "MedalBoard"), ("MedalBoard$Foresight", 11, ⟨"MedalBoard$Army", "<init>", "()V"⟩, "MedalBoard"), ("MedalBoard", 110, ⟨"MedalBoard$Tray", "<init>", "()V"⟩, "MedalBoard"), ("MedalBoard$Reader", 51, ⟨"MedalBoard", "within", "(III)Z"⟩, "MedalBoard"), ("MedalBoard$Army", 71, ⟨"MedalBoard", "within", "(III)Z"⟩, "MedalBoard"), ("MedalBoard$WarReader", 71, ⟨"MedalBoard", "within", "(III)Z"⟩, "MedalBoard"), ("MedalBoard$War", 47, ⟨"MedalBoard", "within", "(III)Z"⟩, "MedalBoard"), ("MedalBoard$Council", 25, ⟨"MedalBoard", "within", "(III)Z"⟩, "MedalBoard"), ("MedalBoard$Foresight", 72, ⟨"MedalBoard", "firstOf", "(I)I"⟩, "MedalBoard"), ("MedalBoard$Campaign", 59, ⟨"MedalBoard", "within", "(III)Z"⟩, "MedalBoard")]
/-! what every method's walk rests on: words, context, contracts, calls -/
def WW (y : MethodName) (b : ByteArray) (n : Nat) (r : Option FieldType) : List Cond := .code y b n r :: lw_gd
theorem gdIn {y : MethodName} {b : ByteArray} {n : Nat} {r : Option FieldType} (h : Cond.code y b n r ∈ lw_gd) : GoodIn lw_gd (WW y b n r) := by
  intro w hw
  have hg : w ∈ lw_gd := (List.mem_cons.mp hw).elim (fun e => e ▸ h) id
  exact ⟨hg, good_of_word (List.mem_filter.mp hg).2⟩
abbrev tyz (cy : Nat → ClassId) : List (ClassId × FieldType) := [(cy 0, .int), (cy 1, .long), (cy 2, .byte), (cy 3, .object "MedalBoard$Army"), (cy 4, .object "MedalBoard$Tray"), (cy 5, .object "MedalBoard$War")]
def NS (U : State) : Prop := ∀ q ∈ lw_nm, va_Nw (.methodLinkNest q.1 q.2.1 q.2.2.1 q.2.2.2) U
def CX (D : va_G) (cy : Nat → ClassId) (U : State) : Prop := va_K D vwCl (tyz cy) U ∧ NS U
theorem CX.warm {D : va_G} {cy : Nat → ClassId} {s U : State} (h : CX D cy s) (hW : s.WarmedH U.vm) : CX D cy U := ⟨va_K.moved hW.alike h.1, fun q hq => va_Nw.warmM hW (h.2 q hq)⟩
theorem CX.blind {D : va_G} {cy : Nat → ClassId} {U : State} {g : JFrame} {mk : MethodId} {a : Array Value} (h : CX D cy U) : CX D cy (U.calling g mk a) := ⟨va_K.moved (u := U) (Vm.Alike.refl U.vm) h.1, fun q hq => va_Nw.same (u := U) rfl rfl (h.2 q hq)⟩
/-- the start of a method that writes nothing; of one that writes -/
abbrev Rd (D : va_G) (cy : Nat → ClassId) (av : List Value) (wc : va_W) : Array Value → State → Prop := va_Pc av (fun U => va_P D vwCl wc U.heap ∧ CX D cy U)
abbrev Ed (D : va_G) (cy : Nat → ClassId) (av : List Value) (wc : va_W) : Array Value → State → Prop := va_Pc av (fun U => va_P D vwCl wc U.heap ∧ CX D cy U ∧ va_D (fun _ => True) wc)
theorem Rd.blind {D : va_G} {cy : Nat → ClassId} {av : List Value} {wc : va_W} : FrameBlind (Rd D cy av wc) := fun _ _ _ _ q => ⟨q.1, q.2.1, q.2.2.blind⟩
theorem Ed.blind {D : va_G} {cy : Nat → ClassId} {av : List Value} {wc : va_W} : FrameBlind (Ed D cy av wc) := fun _ _ _ _ q => ⟨q.1, q.2.1, q.2.2.1.blind, q.2.2.2⟩
def adr (wc : va_W) : Nat → Prop := fun q => ∃ (k : Nat) (e : va_E), wc[k]? = some (q, e)
theorem va_D.own {A : Nat → Prop} {wc : va_W} (h : va_D A wc) : va_D (adr wc) wc := ⟨h.1, fun k q hk => ⟨k, q.2, hk⟩⟩
theorem va_D.re {A : Nat → Prop} {ws ws' : va_W} (h : va_D A ws) (e : ws.map (fun q => q.1) = ws'.map (fun q => q.1)) : va_D A ws' := by
  have key : ∀ (k : Nat) (q : Nat × va_E), ws'[k]? = some q → ∃ q0, ws[k]? = some q0 ∧ q0.1 = q.1 := by
    intro k q hk
    have h1 : (ws.map (fun q => q.1))[k]? = some q.1 := by rw [e, List.getElem?_map, hk]; rfl
    rw [List.getElem?_map] at h1
    cases h2 : ws[k]? with
    | none => rw [h2] at h1; cases h1
    | some q0 => rw [h2] at h1; exact ⟨q0, rfl, Option.some.inj h1⟩
  refine ⟨fun i j x y hi hj hxy => ?_, fun k q hk => ?_⟩
  · obtain ⟨x0, a1, b1⟩ := key i x hi
    obtain ⟨y0, a2, b2⟩ := key j y hj
    exact h.1 i j x0 y0 a1 a2 (b1.trans (hxy.trans b2.symm))
  · obtain ⟨q0, a1, b1⟩ := key k q hk
    rw [← b1]; exact h.2 k q0 a1
/-- the callee's cells come back into their places -/
def patch : va_W → List Nat → va_W → va_W
  | ws, i :: is, x :: xs => patch (ws.set i x) is xs
  | ws, _, _ => ws
theorem patch_get : ∀ (is : List Nat) (xs ws : va_W) (k : Nat) (q : Nat × va_E), (patch ws is xs)[k]? = some q → q ∈ xs ∨ (k ∉ is ∧ ws[k]? = some q) ∨ (ws[k]? = some q ∧ xs.length < is.length)
  | [], xs, ws, k, q, h => Or.inr (Or.inl ⟨List.not_mem_nil, by cases xs <;> exact h⟩)
  | i :: is, [], ws, k, q, h => Or.inr (Or.inr ⟨h, Nat.succ_pos _⟩)
  | i :: is, x :: xs, ws, k, q, h => by
    rcases patch_get is xs (ws.set i x) k q h with h | ⟨h1, h2⟩ | ⟨h2, h3⟩
    · exact Or.inl (List.mem_cons_of_mem _ h)
    · by_cases e : k = i
      · subst e
        by_cases hl : k < ws.length
        · rw [List.getElem?_set_self hl] at h2
          exact Or.inl (by cases h2; exact List.mem_cons_self)
        · rw [List.set_eq_of_length_le (Nat.not_lt.mp hl)] at h2
          exact absurd (List.getElem?_eq_some_iff.mp h2).1 hl
      · rw [List.getElem?_set_ne (Ne.symm e)] at h2
        exact Or.inr (Or.inl ⟨fun hm => (List.mem_cons.mp hm).elim e h1, h2⟩)
    · by_cases e : k = i
      · subst e
        by_cases hl : k < ws.length
        · rw [List.getElem?_set_self hl] at h2
          exact Or.inl (by cases h2; exact List.mem_cons_self)
        · rw [List.set_eq_of_length_le (Nat.not_lt.mp hl)] at h2
          exact absurd (List.getElem?_eq_some_iff.mp h2).1 hl
      · rw [List.getElem?_set_ne (Ne.symm e)] at h2
        exact Or.inr (Or.inr ⟨h2, Nat.succ_lt_succ h3⟩)
theorem patch_P {A0 : Nat → Prop} {D : va_G} {cl : List vw_C} {ws wc w1 : va_W} {H H1 : Heap} (hP : va_P D cl ws H) (hD : va_D A0 ws) (isC : List Nat) (hC : isC.map (fun i => ws[i]?) = wc.map some) (ha : w1.map (fun q => q.1) = wc.map (fun q => q.1))
    (hk : ∀ q : Nat, q < H.size → ¬ adr wc q → H1[q]? = H[q]?) (hP1 : va_P D cl w1 H1) : va_P D cl (patch ws isC w1) H1 := by
  have hl : w1.length = isC.length := by
    have e1 := congrArg List.length ha
    have e2 := congrArg List.length hC
    simp at e1 e2
    omega
  intro k q hq
  rcases patch_get isC w1 ws k q hq with h | ⟨h1, h2⟩ | ⟨-, h3⟩
  · obtain ⟨j, hj⟩ := List.getElem?_of_mem h
    exact hP1 j q hj
  · refine (hP k q h2).kept (hk q.1 (hP k q h2).lt ?_)
    rintro ⟨j, e, he⟩
    have h3 : (isC.map (fun i => ws[i]?))[j]? = some (some (q.1, e)) := by rw [hC, List.getElem?_map, he]; rfl
    rw [List.getElem?_map] at h3
    cases hi : isC[j]? with
    | none => rw [hi] at h3; cases h3
    | some i =>
      rw [hi] at h3
      have h4 : ws[i]? = some (q.1, e) := Option.some.inj h3
      have := hD.1 k i q (q.1, e) h2 h4 rfl
      subst this
      exact h1 (List.mem_of_getElem? hi)
  · omega
/-! parts of the functions -/
def rdI (f : Nat → Int32) (N : Nat) (i : Int32) : Option Int32 := if i < 0 ∨ N ≤ i.toNatClampNeg then none else some (f i.toNatClampNeg)
def rdJ (f : Nat → Int64) (N : Nat) (i : Int32) : Option Int64 := if i < 0 ∨ N ≤ i.toNatClampNeg then none else some (f i.toNatClampNeg)
def wrI (f : Nat → Int32) (N : Nat) (i x : Int32) : Option (Nat → Int32) := if i < 0 ∨ N ≤ i.toNatClampNeg then none else some (upd f i.toNatClampNeg x)
def wrJ (f : Nat → Int64) (N : Nat) (i : Int32) (x : Int64) : Option (Nat → Int64) := if i < 0 ∨ N ≤ i.toNatClampNeg then none else some (vp_updL f i.toNatClampNeg x)
def bz (x : Int32) : Option Int32 := if x = 0 ∨ x = 1 then some x else none
def nzI (x : Int32) : Option Int32 := if x = 0 then none else some x
def nzJ (x : Int64) : Option Int64 := if x = 0 then none else some x
def bnd {α β : Type} (x : α) (f : α → β) : β := f x
theorem rdI_ok {f : Nat → Int32} {N : Nat} {i v : Int32} (h : rdI f N i = some v) : vp_in i N ∧ f i.toNatClampNeg = v := by
  unfold rdI at h
  by_cases c : i < 0 ∨ N ≤ i.toNatClampNeg
  · rw [if_pos c] at h; cases h
  · rw [if_neg c] at h; exact ⟨c, Option.some.inj h⟩
theorem rdJ_ok {f : Nat → Int64} {N : Nat} {i : Int32} {v : Int64} (h : rdJ f N i = some v) : vp_in i N ∧ f i.toNatClampNeg = v := by
  unfold rdJ at h
  by_cases c : i < 0 ∨ N ≤ i.toNatClampNeg
  · rw [if_pos c] at h; cases h
  · rw [if_neg c] at h; exact ⟨c, Option.some.inj h⟩
theorem wrI_ok {f g : Nat → Int32} {N : Nat} {i x : Int32} (h : wrI f N i x = some g) : vp_in i N ∧ upd f i.toNatClampNeg x = g := by
  unfold wrI at h
  by_cases c : i < 0 ∨ N ≤ i.toNatClampNeg
  · rw [if_pos c] at h; cases h
  · rw [if_neg c] at h; exact ⟨c, Option.some.inj h⟩
theorem wrJ_ok {f g : Nat → Int64} {N : Nat} {i : Int32} {x : Int64} (h : wrJ f N i x = some g) : vp_in i N ∧ vp_updL f i.toNatClampNeg x = g := by
  unfold wrJ at h
  by_cases c : i < 0 ∨ N ≤ i.toNatClampNeg
  · rw [if_pos c] at h; cases h
  · rw [if_neg c] at h; exact ⟨c, Option.some.inj h⟩
theorem bz_ok {x v : Int32} (h : bz x = some v) : v = x ∧ narrow .boolean (.int x) = .int x ∧ fits .boolean (.int x) = true := by
  unfold bz at h
  by_cases c : x = 0 ∨ x = 1
  · rw [if_pos c] at h
    rcases c with rfl | rfl
    · exact ⟨(Option.some.inj h).symm, rfl, rfl⟩
    · exact ⟨(Option.some.inj h).symm, rfl, rfl⟩
  · rw [if_neg c] at h; cases h
theorem nzI_ok {x v : Int32} (h : nzI x = some v) : ¬ x = 0 ∧ x = v := by
  unfold nzI at h
  by_cases c : x = 0
  · rw [if_pos c] at h; cases h
  · rw [if_neg c] at h; exact ⟨c, Option.some.inj h⟩
theorem nzJ_ok {x v : Int64} (h : nzJ x = some v) : ¬ x = 0 ∧ x = v := by
  unfold nzJ at h
  by_cases c : x = 0
  · rw [if_pos c] at h; cases h
  · rw [if_neg c] at h; exact ⟨c, Option.some.inj h⟩
theorem bi {α β : Type} {x : Option α} {f : α → Option β} {r : β} (h : x.bind f = some r) : ∃ a, x = some a ∧ f a = some r := by
  cases x with
  | none => cases h
  | some a => exact ⟨a, rfl, h⟩
theorem it {α : Type} {c : Prop} [Decidable c] {a b : α} {r : α} (hc : c) (h : (if c then a else b) = r) : a = r := by rw [if_pos hc] at h; exact h
theorem ie {α : Type} {c : Prop} [Decidable c] {a b : α} {r : α} (hc : ¬ c) (h : (if c then a else b) = r) : b = r := by rw [if_neg hc] at h; exact h
theorem bn {α β : Type} {x y : α} {f : α → β} {r : β} (e : y = x) (h : bnd x f = r) : f y = r := by subst e; exact h
/-! loops -/
def lpN {α β : Type} (body : (α → Option β) → α → Option β) : Nat → α → Option β
  | 0, _ => none
  | n + 1, a => body (lpN body n) a
/-! calls -/
def MV (y : MethodName) (C : String) (bytes : ByteArray) (maxL : Nat) (ret : Option FieldType) (n : Nat) : Prop := Cond.code y bytes maxL ret ∈ lw_gd ∧ Cond.instanceMethod y ∈ lw_gd ∧ Cond.selects C y y ∈ lw_gd ∧ Cond.initialized y.cls ∈ lw_gd ∧ y.cls ≠ "java/lang/invoke/MethodHandle" ∧ y.cls ≠ "java/lang/invoke/VarHandle" ∧ (parseMethodDescriptor y.desc).map (fun d => d.parameters.length) = some n
def MS (y : MethodName) (bytes : ByteArray) (maxL : Nat) (ret : Option FieldType) (n : Nat) : Prop := Cond.code y bytes maxL ret ∈ lw_gd ∧ Cond.static y ∈ lw_gd ∧ Cond.initialized y.cls ∈ lw_gd ∧ y.cls ≠ "java/lang/invoke/MethodHandle" ∧ y.cls ≠ "java/lang/invoke/VarHandle" ∧ (parseMethodDescriptor y.desc).map (fun d => d.parameters.length) = some n
section CALLS
variable {p : Program} {l : Launch} {e : Env} {R : Room} {s : State} {m : MethodId} {args : Array Value} {below : List Frame} {meth : Method} {c : Code} {H H0 : Heap} {locs : List Loc} {cells slots : Nat} {Q : State → Prop}
variable {y : MethodName} {bytes cc : ByteArray} {maxL nL n index pc : Nat} {ret : Option FieldType} {rm : Room} {own C host : String} {b : Addr} {As rest st0 : List Value} {ls : Array Slot} {D : va_G} {cy : Nat → ClassId} {A0 : Nat → Prop} {ws wc w1 : va_W}
theorem cV (ht : ∀ w ∈ lw_gd, w.before args s = true) (hM : MV y C bytes maxL ret n) (hl : Cond.methodLink own index y ∈ lw_gd) (h0 : rm.cells = 0) (h1 : rm.slots = 0) (hR : rm.frames + 1 ≤ R.frames ∧ 8 + (maxL + 11) + rm.locals ≤ R.locals) : CallW R s args own C index y bytes maxL ret (WW y bytes maxL ret) rm 0 0 n :=
  ⟨callB_of n ht (gdIn hM.1) rfl h0 h1 (ht _ hM.2.2.2.1) (ht _ hl) hM.2.2.2.2 hR, ht _ hM.2.1, ht _ hM.2.2.1⟩
theorem cS (ht : ∀ w ∈ lw_gd, w.before args s = true) (hM : MS y bytes maxL ret n) (hl : Cond.methodLink own index y ∈ lw_gd) (h0 : rm.cells = 0) (h1 : rm.slots = 0) (hR : rm.frames + 1 ≤ R.frames ∧ 8 + (maxL + 11) + rm.locals ≤ R.locals) : CallB R s args own index y bytes maxL ret (WW y bytes maxL ret) rm 0 0 n ∧ (Cond.static y).before args s = true :=
  ⟨callB_of n ht (gdIn hM.1) rfl h0 h1 (ht _ hM.2.2.1) (ht _ hl) hM.2.2.2 hR, ht _ hM.2.1⟩
theorem cN (ht : ∀ w ∈ lw_gd, w.before args s = true) (hX : CX D cy s) (hM : MS y bytes maxL ret n) (hl : (own, index, y, host) ∈ lw_nm) (h0 : rm.cells = 0) (h1 : rm.slots = 0) (hR : rm.frames + 1 ≤ R.frames ∧ 8 + (maxL + 11) + rm.locals ≤ R.locals) : va_CN R s args own index y host bytes maxL ret (WW y bytes maxL ret) rm 0 0 n ∧ (Cond.static y).before args s = true ∧ True :=
  ⟨va_cnB n ht (gdIn hM.1) rfl h0 h1 (hX.2 _ hl) (ht _ hM.2.2.1) hM.2.2.2 hR, ht _ hM.2.1, trivial⟩
theorem preV (hP : va_P D vwCl wc H) (hX : CX D cy s) {ci N : Nat} {T : u_T} {fs : List Value} (hc : vwCl[ci]? = some (C, T, N)) (he : wc[0]? = some (b, .inr (ci, fs))) : PreV s H C b (Rd D cy (.ref b :: As) wc) As :=
  ⟨Rd.blind, va_recv hX.1 hP hc he, fun _ hU hW => ⟨rfl, by rw [hU]; exact hP, hX.warm hW⟩⟩
theorem preVe (hP : va_P D vwCl wc H) (hD : va_D (fun _ => True) wc) (hX : CX D cy s) {ci N : Nat} {T : u_T} {fs : List Value} (hc : vwCl[ci]? = some (C, T, N)) (he : wc[0]? = some (b, .inr (ci, fs))) : PreV s H C b (Ed D cy (.ref b :: As) wc) As :=
  ⟨Ed.blind, va_recv hX.1 hP hc he, fun _ hU hW => ⟨rfl, by rw [hU]; exact hP, hX.warm hW, hD⟩⟩
theorem preS (hP : va_P D vwCl wc H) (hX : CX D cy s) : PreS s H (Rd D cy As wc) As := ⟨Rd.blind, fun _ hU hW => ⟨rfl, by rw [hU]; exact hP, hX.warm hW⟩⟩
theorem preSe (hP : va_P D vwCl wc H) (hD : va_D (fun _ => True) wc) (hX : CX D cy s) : PreS s H (Ed D cy As wc) As := ⟨Ed.blind, fun _ hU hW => ⟨rfl, by rw [hU]; exact hP, hX.warm hW, hD⟩⟩
/-- a call that writes nothing -/
theorem roVi {res : Int32} (S : CallFix p m c cc nL s args lw_gd own) (hM : Met l y (WW y bytes maxL ret) rm (Rd D cy (.ref b :: As) wc) (vp_Si (fun v => v = res)) 0 0 (fun _ => False)) (cw : CallW R s args own C index y bytes maxL ret (WW y bytes maxL ret) rm 0 0 n) (hP : va_P D vwCl wc H) (hX : CX D cy s) {ci N : Nat} {T : u_T} {fs : List Value} (hc : vwCl[ci]? = some (C, T, N)) (he : wc[0]? = some (b, .inr (ci, fs))) (hn : As.length = n) (hsize : ls.size = nL) (hst : st0 = As.reverse ++ .ref b :: rest) (hr : (rest.map fun v => v.category).sum ≤ 8) (hdg : decode cc pc = .ok (.invokevirtual index, 3)) (hf : cells + 0 ≤ R.cells ∧ slots + 0 ≤ R.slots)
    (kk : W p l e R s m args below meth c H locs cells slots Q (F0 m (pc + 3) ls (.int res :: rest))) : W p l e R s m args below meth c H locs cells slots Q (F0 m pc ls st0) :=
  vp_callSi (W.runV S hM cw (preV hP hX hc he) rfl hn hsize hst (lv_room hr) hdg hf) (fun _ h => h ▸ kk)
theorem roVl {res : Int64} (S : CallFix p m c cc nL s args lw_gd own) (hM : Met l y (WW y bytes maxL ret) rm (Rd D cy (.ref b :: As) wc) (vp_Sl (fun v => v = res)) 0 0 (fun _ => False)) (cw : CallW R s args own C index y bytes maxL ret (WW y bytes maxL ret) rm 0 0 n) (hP : va_P D vwCl wc H) (hX : CX D cy s) {ci N : Nat} {T : u_T} {fs : List Value} (hc : vwCl[ci]? = some (C, T, N)) (he : wc[0]? = some (b, .inr (ci, fs))) (hn : As.length = n) (hsize : ls.size = nL) (hst : st0 = As.reverse ++ .ref b :: rest) (hr : (rest.map fun v => v.category).sum ≤ 8) (hdg : decode cc pc = .ok (.invokevirtual index, 3)) (hf : cells + 0 ≤ R.cells ∧ slots + 0 ≤ R.slots)
    (kk : W p l e R s m args below meth c H locs cells slots Q (F0 m (pc + 3) ls (.long res :: rest))) : W p l e R s m args below meth c H locs cells slots Q (F0 m pc ls st0) :=
  vp_callSl (W.runV S hM cw (preV hP hX hc he) rfl hn hsize hst (lv_room hr) hdg hf) (fun _ h => h ▸ kk)
theorem roSi {res : Int32} (S : CallFix p m c cc nL s args lw_gd own) (hM : Met l y (WW y bytes maxL ret) rm (Rd D cy As wc) (vp_Si (fun v => v = res)) 0 0 (fun _ => False)) (cw : CallB R s args own index y bytes maxL ret (WW y bytes maxL ret) rm 0 0 n ∧ (Cond.static y).before args s = true) (hP : va_P D vwCl wc H) (hX : CX D cy s) (hn : As.length = n) (hsize : ls.size = nL) (hst : st0 = As.reverse ++ rest) (hr : (rest.map fun v => v.category).sum ≤ 8) (hdg : decode cc pc = .ok (.invokestatic index, 3)) (hf : cells + 0 ≤ R.cells ∧ slots + 0 ≤ R.slots)
    (kk : W p l e R s m args below meth c H locs cells slots Q (F0 m (pc + 3) ls (.int res :: rest))) : W p l e R s m args below meth c H locs cells slots Q (F0 m pc ls st0) :=
  vp_callSi (W.runS S hM cw (preS hP hX) rfl hn hsize hst (lv_room hr) hdg hf) (fun _ h => h ▸ kk)
theorem roSl {res : Int64} (S : CallFix p m c cc nL s args lw_gd own) (hM : Met l y (WW y bytes maxL ret) rm (Rd D cy As wc) (vp_Sl (fun v => v = res)) 0 0 (fun _ => False)) (cw : CallB R s args own index y bytes maxL ret (WW y bytes maxL ret) rm 0 0 n ∧ (Cond.static y).before args s = true) (hP : va_P D vwCl wc H) (hX : CX D cy s) (hn : As.length = n) (hsize : ls.size = nL) (hst : st0 = As.reverse ++ rest) (hr : (rest.map fun v => v.category).sum ≤ 8) (hdg : decode cc pc = .ok (.invokestatic index, 3)) (hf : cells + 0 ≤ R.cells ∧ slots + 0 ≤ R.slots)
    (kk : W p l e R s m args below meth c H locs cells slots Q (F0 m (pc + 3) ls (.long res :: rest))) : W p l e R s m args below meth c H locs cells slots Q (F0 m pc ls st0) :=
  vp_callSl (W.runS S hM cw (preS hP hX) rfl hn hsize hst (lv_room hr) hdg hf) (fun _ h => h ▸ kk)
theorem roNi {res : Int32} (S : CallFix p m c cc nL s args lw_gd own) (hM : Met l y (WW y bytes maxL ret) rm (Rd D cy As wc) (vp_Si (fun v => v = res)) 0 0 (fun _ => False)) (cw : va_CN R s args own index y host bytes maxL ret (WW y bytes maxL ret) rm 0 0 n ∧ (Cond.static y).before args s = true ∧ True) (hP : va_P D vwCl wc H) (hX : CX D cy s) (hn : As.length = n) (hsize : ls.size = nL) (hst : st0 = As.reverse ++ rest) (hr : (rest.map fun v => v.category).sum ≤ 8) (hdg : decode cc pc = .ok (.invokestatic index, 3)) (hf : cells + 0 ≤ R.cells ∧ slots + 0 ≤ R.slots)
    (kk : W p l e R s m args below meth c H locs cells slots Q (F0 m (pc + 3) ls (.int res :: rest))) : W p l e R s m args below meth c H locs cells slots Q (F0 m pc ls st0) :=
  vp_callSi (va_runSN S hM cw (preS hP hX) rfl hn hsize hst (lv_room hr) hdg hf).run (fun _ h => h ▸ kk)
/-- a call that writes in its own cells -/
abbrev Qei (D : va_G) (res : Int32) (wc w1 : va_W) : Array Value → State → Outcome → State → Prop := va_Qi (fun (v : Int32) (_ : Unit) => v = res) (fun _ t => va_P D vwCl w1 t.heap) (adr wc)
abbrev Qel (D : va_G) (res : Int64) (wc w1 : va_W) : Array Value → State → Outcome → State → Prop := va_Ql (fun (v : Int64) (_ : Unit) => v = res) (fun _ t => va_P D vwCl w1 t.heap) (adr wc)
abbrev Qev (D : va_G) (wc w1 : va_W) : Array Value → State → Outcome → State → Prop := va_Qv (fun (_ : Unit) => True) (fun _ t => va_P D vwCl w1 t.heap) (adr wc)
theorem adr_free (hD : va_D A0 ws) (isC : List Nat) (hC : isC.map (fun i => ws[i]?) = wc.map some) : ∀ q, adr wc q → A0 q := by
  rintro q ⟨j, e, he⟩
  have h3 : (isC.map (fun i => ws[i]?))[j]? = some (some (q, e)) := by rw [hC, List.getElem?_map, he]; rfl
  rw [List.getElem?_map] at h3
  cases hi : isC[j]? with
  | none => rw [hi] at h3; cases h3
  | some i => rw [hi] at h3; exact hD.2 i (q, e) (Option.some.inj h3)
theorem P_sub (hP : va_P D vwCl ws H) (isC : List Nat) (hC : isC.map (fun i => ws[i]?) = wc.map some) : va_P D vwCl wc H := by
  intro k q hk
  have h3 : (isC.map (fun i => ws[i]?))[k]? = some (some q) := by rw [hC, List.getElem?_map, hk]; rfl
  rw [List.getElem?_map] at h3
  cases hi : isC[k]? with
  | none => rw [hi] at h3; cases h3
  | some i => rw [hi] at h3; exact hP i q (Option.some.inj h3)
theorem D_sub (hD : va_D A0 ws) (isC : List Nat) (hn : va_nd isC = true) (hC : isC.map (fun i => ws[i]?) = wc.map some) : va_D (fun _ => True) wc := (hD.sub isC hn hC).weaken (fun _ _ _ _ => trivial)
theorem efVi {res : Int32} (S : CallFix p m c cc nL s args lw_gd own) (hM : Met l y (WW y bytes maxL ret) rm (Ed D cy (.ref b :: As) wc) (Qei D res wc w1) 0 0 (adr wc)) (cw : CallW R s args own C index y bytes maxL ret (WW y bytes maxL ret) rm 0 0 n) (hP : va_P D vwCl ws H) (hD : va_D A0 ws) (hS : va_S A0 H0 H locs) (hX : CX D cy s) (isC : List Nat) (hC : isC.map (fun i => ws[i]?) = wc.map some) (hnd : va_nd isC = true) (ha : w1.map (fun q => q.1) = wc.map (fun q => q.1)) {ci N : Nat} {T : u_T} {fs : List Value} (hc : vwCl[ci]? = some (C, T, N)) (he : wc[0]? = some (b, .inr (ci, fs))) (hn : As.length = n) (hsize : ls.size = nL) (hst : st0 = As.reverse ++ .ref b :: rest) (hr : (rest.map fun v => v.category).sum ≤ 8) (hdg : decode cc pc = .ok (.invokevirtual index, 3)) (hf : cells + 0 ≤ R.cells ∧ slots + 0 ≤ R.slots)
    (kk : ∀ (H1 : Heap) (locs1 : List Loc), va_P D vwCl (patch ws isC w1) H1 → va_S A0 H0 H1 locs1 → W p l e R s m args below meth c H1 locs1 cells slots Q (F0 m (pc + 3) ls (.int res :: rest))) : W p l e R s m args below meth c H locs cells slots Q (F0 m pc ls st0) :=
  va_calli (va_runV S hM cw (preVe (P_sub hP isC hC) (D_sub hD isC hnd hC) hX hc he) rfl hn hsize hst (lv_room hr) hdg hf) hS (fun q _ h => adr_free hD isC hC q h) (adr_free hD isC hC) (fun _ _ t H1 locs1 ht _ hv hB _ hk hS => by
    cases hv
    subst ht
    exact kk _ locs1 (patch_P hP hD isC hC ha hk hB) hS)
theorem efVl {res : Int64} (S : CallFix p m c cc nL s args lw_gd own) (hM : Met l y (WW y bytes maxL ret) rm (Ed D cy (.ref b :: As) wc) (Qel D res wc w1) 0 0 (adr wc)) (cw : CallW R s args own C index y bytes maxL ret (WW y bytes maxL ret) rm 0 0 n) (hP : va_P D vwCl ws H) (hD : va_D A0 ws) (hS : va_S A0 H0 H locs) (hX : CX D cy s) (isC : List Nat) (hC : isC.map (fun i => ws[i]?) = wc.map some) (hnd : va_nd isC = true) (ha : w1.map (fun q => q.1) = wc.map (fun q => q.1)) {ci N : Nat} {T : u_T} {fs : List Value} (hc : vwCl[ci]? = some (C, T, N)) (he : wc[0]? = some (b, .inr (ci, fs))) (hn : As.length = n) (hsize : ls.size = nL) (hst : st0 = As.reverse ++ .ref b :: rest) (hr : (rest.map fun v => v.category).sum ≤ 8) (hdg : decode cc pc = .ok (.invokevirtual index, 3)) (hf : cells + 0 ≤ R.cells ∧ slots + 0 ≤ R.slots)
    (kk : ∀ (H1 : Heap) (locs1 : List Loc), va_P D vwCl (patch ws isC w1) H1 → va_S A0 H0 H1 locs1 → W p l e R s m args below meth c H1 locs1 cells slots Q (F0 m (pc + 3) ls (.long res :: rest))) : W p l e R s m args below meth c H locs cells slots Q (F0 m pc ls st0) :=
  va_calll (va_runV S hM cw (preVe (P_sub hP isC hC) (D_sub hD isC hnd hC) hX hc he) rfl hn hsize hst (lv_room hr) hdg hf) hS (fun q _ h => adr_free hD isC hC q h) (adr_free hD isC hC) (fun _ _ t H1 locs1 ht _ hv hB _ hk hS => by
    cases hv
    subst ht
    exact kk _ locs1 (patch_P hP hD isC hC ha hk hB) hS)
theorem efVv (S : CallFix p m c cc nL s args lw_gd own) (hM : Met l y (WW y bytes maxL ret) rm (Ed D cy (.ref b :: As) wc) (Qev D wc w1) 0 0 (adr wc)) (cw : CallW R s args own C index y bytes maxL ret (WW y bytes maxL ret) rm 0 0 n) (hP : va_P D vwCl ws H) (hD : va_D A0 ws) (hS : va_S A0 H0 H locs) (hX : CX D cy s) (isC : List Nat) (hC : isC.map (fun i => ws[i]?) = wc.map some) (hnd : va_nd isC = true) (ha : w1.map (fun q => q.1) = wc.map (fun q => q.1)) {ci N : Nat} {T : u_T} {fs : List Value} (hc : vwCl[ci]? = some (C, T, N)) (he : wc[0]? = some (b, .inr (ci, fs))) (hn : As.length = n) (hsize : ls.size = nL) (hst : st0 = As.reverse ++ .ref b :: rest) (hr : (rest.map fun v => v.category).sum ≤ 8) (hdg : decode cc pc = .ok (.invokevirtual index, 3)) (hf : cells + 0 ≤ R.cells ∧ slots + 0 ≤ R.slots)
    (kk : ∀ (H1 : Heap) (locs1 : List Loc), va_P D vwCl (patch ws isC w1) H1 → va_S A0 H0 H1 locs1 → W p l e R s m args below meth c H1 locs1 cells slots Q (F0 m (pc + 3) ls rest)) : W p l e R s m args below meth c H locs cells slots Q (F0 m pc ls st0) :=
  va_callv (va_runV S hM cw (preVe (P_sub hP isC hC) (D_sub hD isC hnd hC) hX hc he) rfl hn hsize hst (lv_room hr) hdg hf) hS (fun q _ h => adr_free hD isC hC q h) (adr_free hD isC hC) (fun _ t H1 locs1 ht _ _ hB _ hk hS => by
    subst ht
    exact kk _ locs1 (patch_P hP hD isC hC ha hk hB) hS)
theorem efSv (S : CallFix p m c cc nL s args lw_gd own) (hM : Met l y (WW y bytes maxL ret) rm (Ed D cy As wc) (Qev D wc w1) 0 0 (adr wc)) (cw : CallB R s args own index y bytes maxL ret (WW y bytes maxL ret) rm 0 0 n ∧ (Cond.static y).before args s = true) (hP : va_P D vwCl ws H) (hD : va_D A0 ws) (hS : va_S A0 H0 H locs) (hX : CX D cy s) (isC : List Nat) (hC : isC.map (fun i => ws[i]?) = wc.map some) (hnd : va_nd isC = true) (ha : w1.map (fun q => q.1) = wc.map (fun q => q.1)) (hn : As.length = n) (hsize : ls.size = nL) (hst : st0 = As.reverse ++ rest) (hr : (rest.map fun v => v.category).sum ≤ 8) (hdg : decode cc pc = .ok (.invokestatic index, 3)) (hf : cells + 0 ≤ R.cells ∧ slots + 0 ≤ R.slots)
    (kk : ∀ (H1 : Heap) (locs1 : List Loc), va_P D vwCl (patch ws isC w1) H1 → va_S A0 H0 H1 locs1 → W p l e R s m args below meth c H1 locs1 cells slots Q (F0 m (pc + 3) ls rest)) : W p l e R s m args below meth c H locs cells slots Q (F0 m pc ls st0) :=
  va_callv (va_runS S hM cw (preSe (P_sub hP isC hC) (D_sub hD isC hnd hC) hX) rfl hn hsize hst (lv_room hr) hdg hf) hS (fun q _ h => adr_free hD isC hC q h) (adr_free hD isC hC) (fun _ t H1 locs1 ht _ _ hB _ hk hS => by
    subst ht
    exact kk _ locs1 (patch_P hP hD isC hC ha hk hB) hS)
end CALLS

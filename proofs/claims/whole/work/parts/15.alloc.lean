/-! making objects: their context, their rows, calls of constructors -/
def CC (D : va_G) (cy : Nat → ClassId) (tO : Nat) (aK aV : Nat → Nat) (A : Nat → Prop) (U : State) (H : Heap) : Prop := CX D cy U ∧ EX tO aK aV A U H ∧ va_AO "MedalBoard$Army" U ∧ va_AO "MedalBoard$Tray" U ∧ va_AO "MedalBoard$War" U
theorem CC.warm {D : va_G} {cy : Nat → ClassId} {tO : Nat} {aK aV : Nat → Nat} {A : Nat → Prop} {s U : State} {H : Heap} (h : CC D cy tO aK aV A s H) (hW : s.WarmedH U.vm) : CC D cy tO aK aV A U H := ⟨h.1.warm hW, h.2.1.warm hW, va_AO.moved hW.alike h.2.2.1, va_AO.moved hW.alike h.2.2.2.1, va_AO.moved hW.alike h.2.2.2.2⟩
theorem CC.blind {D : va_G} {cy : Nat → ClassId} {tO : Nat} {aK aV : Nat → Nat} {A : Nat → Prop} {U : State} {H : Heap} {g : JFrame} {mk : MethodId} {a : Array Value} (h : CC D cy tO aK aV A U H) : CC D cy tO aK aV A (U.calling g mk a) H := ⟨h.1.blind, h.2.1.blind, va_AO.moved (u := U) (Vm.Alike.refl U.vm) h.2.2.1, va_AO.moved (u := U) (Vm.Alike.refl U.vm) h.2.2.2.1, va_AO.moved (u := U) (Vm.Alike.refl U.vm) h.2.2.2.2⟩
abbrev Cd (D : va_G) (cy : Nat → ClassId) (tO : Nat) (aK aV : Nat → Nat) (av : List Value) (x : Nat × va_E) (sz : Nat) : Array Value → State → Prop := va_Pc av (fun U => va_P D vwCl [x] U.heap ∧ CC D cy tO aK aV (va_A [x] sz) U U.heap ∧ U.heap.size = sz)
theorem Cd.blind {D : va_G} {cy : Nat → ClassId} {tO : Nat} {aK aV : Nat → Nat} {av : List Value} {x : Nat × va_E} {sz : Nat} : FrameBlind (Cd D cy tO aK aV av x sz) := fun _ _ _ _ q => ⟨q.1, q.2.1, q.2.2.1.blind, q.2.2.2⟩
theorem va_A1 {x : Nat × va_E} {sz q : Nat} (h : va_A [x] sz q) : q = x.1 ∨ sz ≤ q := by
  rcases h with ⟨k, e, h⟩ | h
  · cases k with
    | zero => left; cases h; rfl
    | succ k => simp at h
  · exact Or.inr h
theorem D_one {x : Nat × va_E} {sz : Nat} : va_D (va_A [x] sz) ([[x]] : List va_W).flatten := by
  refine ⟨fun i j p q hi hj _ => ?_, fun k q hk => ?_⟩
  · cases i with
    | zero => cases j with
      | zero => rfl
      | succ j => simp at hj
    | succ i => simp at hi
  · exact Or.inl ⟨k, q.2, hk⟩
section ALLOC
variable {p : Program} {l : Launch} {e : Env} {R : Room} {s : State} {m : MethodId} {args : Array Value} {below : List Frame} {meth : Method} {c : Code} {H : Heap} {locs : List Loc} {cells slots : Nat} {Q : State → Prop}
variable {y : MethodName} {bytes cc : ByteArray} {maxL nL n index pc mc ms : Nat} {rm : Room} {own C host : String} {b : Addr} {As rest st0 : List Value} {ls : Array Slot} {D : va_G} {cy : Nat → ClassId} {A0 : Nat → Prop} {bs : List va_W} {tO : Nat} {aK aV : Nat → Nat}
theorem PD_push {x : Nat × va_E} {H1 : Heap} (h1 : va_P D vwCl (bs.flatten ++ [x]) H1) (h2 : va_D A0 (bs.flatten ++ [x])) : PD D A0 (bs ++ [[x]]) H1 := by
  have e : (bs ++ [[x]]).flatten = bs.flatten ++ [x] := by simp
  unfold PD
  rw [e]
  exact ⟨h1, h2⟩
theorem xnew {T : u_T} {N ci : Nat} {fs : List Value} (ty : Nat → FieldType) (hty : ∀ k, k < N → parseFieldDescriptor (T k).2.2.1 = some (ty k)) (hx : p.tables.exec = Jvm.exec) (hb : c.code = cc) (ht : ∀ w ∈ lw_gd, w.before args s = true) (hin : ∀ w ∈ u_ws C T N, w ∈ lw_gd) (hown : s.vm.findClass own = some m.cls) (hcl : Cond.classLink own index C ∈ lw_gd) (hinst : Cond.instantiable C N ∈ lw_gd) (hini : Cond.initialized C ∈ lw_gd) (hX : CX D cy s) (hP : PD D A0 bs H) (hS : va_S A0 s.heap H locs) (hA : ∀ q, s.heap.size ≤ q → A0 q) (hc : vwCl[ci]? = some (C, T, N)) (hfs : ∀ j, j < N → defaultValue (ty j) = vp_V fs j) (hcells : cells + 1 ≤ R.cells) (hslots : slots + N ≤ R.slots) (hdg : decode cc pc = .ok (.new index, 3))
    (kk : ∀ (q : Nat) (H1 : Heap), PD D A0 (bs ++ [[(q, .inr (ci, fs))]]) H1 → va_S A0 s.heap H1 locs → W p l e R s m args below meth c H1 locs (cells + 1) (slots + N) Q (F0 m (pc + 3) ls (.ref q :: rest))) : W p l e R s m args below meth c H locs cells slots Q (F0 m pc ls rest) :=
  va_new hx hb ht hin ty hty hown (ht _ hcl) (ht _ hinst) (ht _ hini) hX.1 hP.1 hP.2 hS hA hc hfs hcells hslots hdg (fun q H1 a1 d1 b1 => kk q H1 (PD_push a1 d1) b1)
theorem xnewI {n : Int32} {N : Nat} (hx : p.tables.exec = Jvm.exec) (hb : c.code = cc) (ht : ∀ w ∈ lw_gd, w.before args s = true) (hX : CX D cy s) (hP : PD D A0 bs H) (hS : va_S A0 s.heap H locs) (hA : ∀ q, s.heap.size ≤ q → A0 q) (hn : ¬ n < 0) (hN : n.toNatClampNeg = N) (hbytes : N * 4 ≤ 536870912) (hcells : cells + 1 ≤ R.cells) (hslots : slots + N ≤ R.slots) (hw : Cond.arrayClass .int ∈ lw_gd) (hdg : decode cc pc = .ok (.newarray .int, 2))
    (kk : ∀ (q : Nat) (H1 : Heap), PD D A0 (bs ++ [[(q, .inl (cy 0, N, .inl (fun _ => 0)))]]) H1 → va_S A0 s.heap H1 locs → W p l e R s m args below meth c H1 locs (cells + 1) (slots + N) Q (F0 m (pc + 2) ls (.ref q :: rest))) : W p l e R s m args below meth c H locs cells slots Q (F0 m pc ls (.int n :: rest)) :=
  va_newa (atype := .int) (ty := .int) (a0 := (N, .inl (fun _ => 0))) hx hb (ht _ hw) rfl hX.1 hP.1 hP.2 hS hA (fun _ => rfl) hn hN hbytes hcells hslots hdg (fun q cA H1 hK a1 d1 b1 => by
    have e1 : s.vm.findClass ("[" ++ (FieldType.int).toString) = some cA := (hK.2 6 (cA, .int) rfl).2
    have e2 : s.vm.findClass ("[" ++ (FieldType.int).toString) = some (cy 0) := (hX.1.2 0 (cy 0, .int) rfl).2
    cases e1.symm.trans e2
    exact kk q H1 (PD_push a1 d1) b1)
theorem xnewJ {n : Int32} {N : Nat} (hx : p.tables.exec = Jvm.exec) (hb : c.code = cc) (ht : ∀ w ∈ lw_gd, w.before args s = true) (hX : CX D cy s) (hP : PD D A0 bs H) (hS : va_S A0 s.heap H locs) (hA : ∀ q, s.heap.size ≤ q → A0 q) (hn : ¬ n < 0) (hN : n.toNatClampNeg = N) (hbytes : N * 8 ≤ 536870912) (hcells : cells + 1 ≤ R.cells) (hslots : slots + N ≤ R.slots) (hw : Cond.arrayClass .long ∈ lw_gd) (hdg : decode cc pc = .ok (.newarray .long, 2))
    (kk : ∀ (q : Nat) (H1 : Heap), PD D A0 (bs ++ [[(q, .inl (cy 1, N, .inr (.inl (fun _ => 0))))]]) H1 → va_S A0 s.heap H1 locs → W p l e R s m args below meth c H1 locs (cells + 1) (slots + N) Q (F0 m (pc + 2) ls (.ref q :: rest))) : W p l e R s m args below meth c H locs cells slots Q (F0 m pc ls (.int n :: rest)) :=
  va_newa (atype := .long) (ty := .long) (a0 := (N, .inr (.inl (fun _ => 0)))) hx hb (ht _ hw) rfl hX.1 hP.1 hP.2 hS hA (fun _ => rfl) hn hN hbytes hcells hslots hdg (fun q cA H1 hK a1 d1 b1 => by
    have e1 : s.vm.findClass ("[" ++ (FieldType.long).toString) = some cA := (hK.2 6 (cA, .long) rfl).2
    have e2 : s.vm.findClass ("[" ++ (FieldType.long).toString) = some (cy 1) := (hX.1.2 1 (cy 1, .long) rfl).2
    cases e1.symm.trans e2
    exact kk q H1 (PD_push a1 d1) b1)
theorem xnewB {n : Int32} {N : Nat} (hx : p.tables.exec = Jvm.exec) (hb : c.code = cc) (ht : ∀ w ∈ lw_gd, w.before args s = true) (hX : CX D cy s) (hP : PD D A0 bs H) (hS : va_S A0 s.heap H locs) (hA : ∀ q, s.heap.size ≤ q → A0 q) (hn : ¬ n < 0) (hN : n.toNatClampNeg = N) (hbytes : N * 1 ≤ 536870912) (hcells : cells + 1 ≤ R.cells) (hslots : slots + N ≤ R.slots) (hw : Cond.arrayClass .byte ∈ lw_gd) (hdg : decode cc pc = .ok (.newarray .byte, 2))
    (kk : ∀ (q : Nat) (H1 : Heap), PD D A0 (bs ++ [[(q, .inl (cy 2, N, .inl (fun _ => 0)))]]) H1 → va_S A0 s.heap H1 locs → W p l e R s m args below meth c H1 locs (cells + 1) (slots + N) Q (F0 m (pc + 2) ls (.ref q :: rest))) : W p l e R s m args below meth c H locs cells slots Q (F0 m pc ls (.int n :: rest)) :=
  va_newa (atype := .byte) (ty := .byte) (a0 := (N, .inl (fun _ => 0))) hx hb (ht _ hw) rfl hX.1 hP.1 hP.2 hS hA (fun _ => rfl) hn hN hbytes hcells hslots hdg (fun q cA H1 hK a1 d1 b1 => by
    have e1 : s.vm.findClass ("[" ++ (FieldType.byte).toString) = some cA := (hK.2 6 (cA, .byte) rfl).2
    have e2 : s.vm.findClass ("[" ++ (FieldType.byte).toString) = some (cy 2) := (hX.1.2 2 (cy 2, .byte) rfl).2
    cases e1.symm.trans e2
    exact kk q H1 (PD_push a1 d1) b1)
theorem xnewQ {n : Int32} {N t0 : Nat} {cA0 : ClassId} (hx : p.tables.exec = Jvm.exec) (hb : c.code = cc) (ht : ∀ w ∈ lw_gd, w.before args s = true) (hown : s.vm.findClass own = some m.cls) (hcl : Cond.classLink own index C ∈ lw_gd) (hov : va_AO C s) (hX : CX D cy s) (ht0 : (tyz cy)[t0]? = some (cA0, .object C)) (hP : PD D A0 bs H) (hS : va_S A0 s.heap H locs) (hA : ∀ q, s.heap.size ≤ q → A0 q) (hn : ¬ n < 0) (hN : n.toNatClampNeg = N) (hbytes : N * 4 ≤ 536870912) (hcells : cells + 1 ≤ R.cells) (hslots : slots + N ≤ R.slots) (hdg : decode cc pc = .ok (.anewarray index, 3))
    (kk : ∀ (q : Nat) (H1 : Heap), PD D A0 (bs ++ [[(q, .inl (cA0, N, .inr (.inr (.inr (.inr (fun _ => none))))))]]) H1 → va_S A0 s.heap H1 locs → W p l e R s m args below meth c H1 locs (cells + 1) (slots + N) Q (F0 m (pc + 3) ls (.ref q :: rest))) : W p l e R s m args below meth c H locs cells slots Q (F0 m pc ls (.int n :: rest)) :=
  va_newq hx hb hown (ht _ hcl) hov hX.1 hP.1 hP.2 hS hA hn hN hbytes hcells hslots hdg (fun q cA H1 hK a1 d1 b1 => by
    obtain ⟨k1, c1, -, -, -, e1⟩ := (hK.2 6 (cA, .object C) rfl).2
    obtain ⟨k2, c2, -, -, -, e2⟩ := (hX.1.2 t0 (cA0, .object C) ht0).2
    cases e1.symm.trans e2
    exact kk q H1 (PD_push a1 d1) b1)
theorem xputF {a i j k ci N : Nat} {ws : List va_W} {bk : va_W} {T : u_T} {fs : List Value} {v : Value} {H0 : Heap} (ty0 : Nat → FieldType) (hty : ∀ k, k < N → parseFieldDescriptor (T k).2.2.1 = some (ty0 k)) (hnm : ∀ a, a < N → ∀ b, b < N → a ≠ b → (T a).2.1 ≠ (T b).2.1) (hx : p.tables.exec = Jvm.exec) (hb : c.code = cc) (ht : ∀ w ∈ lw_gd, w.before args s = true) (hin : ∀ w ∈ u_ws C T N, w ∈ lw_gd) (hown : s.vm.findClass own = some m.cls) (hX : CX D cy s) (hP : PD D A0 ws H) (hS : va_S A0 H0 H locs) (h1 : ws[i]? = some bk) (h2 : bk[j]? = some (a, .inr (ci, fs))) (hc : vwCl[ci]? = some (C, T, N)) (hk : k < N) (hl : Cond.fieldLink own index (T k).1 (T k).2.1 (T k).2.2.1 ∈ lw_gd) (hfin : (T k).2.2.2 = true) (hin2 : meth.name = "<init>") (hdecl : (T k).1 = own) (hn : narrow (ty0 k) v = v) (hfit : fits (ty0 k) v = true) (hlen : k < fs.length) (hdg : decode cc pc = .ok (.putfield index, 3))
    (kk : ∀ (H1 : Heap) (locs1 : List Loc), PD D A0 (ws.set i (bk.set j (a, .inr (ci, fs.set k v)))) H1 → va_S A0 H0 H1 locs1 → W p l e R s m args below meth c H1 locs1 cells slots Q (F0 m (pc + 3) ls rest)) : W p l e R s m args below meth c H locs cells slots Q (F0 m pc ls (v :: .ref a :: rest)) := by
  obtain ⟨q, hq, hset⟩ := fl_get h1 h2
  exact va_putF hx hb ht hin ty0 hty hnm hown hX.1 hP.1 hP.2 hS q hq hc k hk (ht _ hl) (fun _ h => h) hfin hin2 hdecl (hty k hk) hn hfit hlen hdg (fun H1 l1 a1 d1 b1 => kk H1 l1 (set_PD hset a1 d1) b1)
theorem xaast {a v i0 j0 i1 j1 t0 ci N : Nat} {ws : List va_W} {bk bk1 : va_W} {r : vw_C} {vs : List Value} {cA : ClassId} {f : Nat → Option Nat} {i : Int32} {H0 : Heap} (hx : p.tables.exec = Jvm.exec) (hb : c.code = cc) (hX : CX D cy s) (hP : PD D A0 ws H) (hS : va_S A0 H0 H locs) (h1 : ws[i0]? = some bk) (h2 : bk[j0]? = some (a, .inl (cA, N, .inr (.inr (.inr (.inr f)))))) (ht : (tyz cy)[t0]? = some (cA, .object r.1)) (h3 : ws[i1]? = some bk1) (h4 : bk1[j1]? = some (v, .inr (ci, vs))) (hc : vwCl[ci]? = some r) (hin : vp_in i N) (hdg : decode cc pc = .ok (.aastore, 1))
    (kk : ∀ (H1 : Heap) (locs1 : List Loc), PD D A0 (ws.set i0 (bk.set j0 (a, .inl (cA, N, .inr (.inr (.inr (.inr (va_up f i.toNatClampNeg (some v))))))))) H1 → va_S A0 H0 H1 locs1 → W p l e R s m args below meth c H1 locs1 cells slots Q (F0 m (pc + 1) ls rest)) : W p l e R s m args below meth c H locs cells slots Q (F0 m pc ls (.ref v :: .int i :: .ref a :: rest)) := by
  obtain ⟨q, hq, hset⟩ := fl_get h1 h2
  exact va_astq hx hb hX.1 hP.1 hP.2 hS q t0 _ ci hq ht (fl_at h3 h4) hc hin hdg (fun H1 l1 a1 d1 b1 => kk H1 l1 (set_PD hset a1 d1) b1)
theorem PD_perm {bs' : List va_W} (hP : PD D A0 bs H) (is : List Nat) (hn : va_nd is = true) (hs : is.map (fun i => bs.flatten[i]?) = bs'.flatten.map some) : PD D A0 bs' H := by
  refine ⟨fun k q hk => ?_, hP.2.sub is hn hs⟩
  have h3 : (is.map (fun i => bs.flatten[i]?))[k]? = some (some q) := by rw [hs, List.getElem?_map, hk]; rfl
  rw [List.getElem?_map] at h3
  cases hi : is[k]? with
  | none => rw [hi] at h3; cases h3
  | some i => rw [hi] at h3; exact hP.1 i q (Option.some.inj h3)
/-- what a constructor was given, and what came of it -/
theorem new_join {x : Nat × va_E} {wn : List va_W} {H1 : Heap} (hP : PD D A0 (bs ++ [[x]]) H) (hsz : s.heap.size ≤ H.size) (hA : ∀ q, s.heap.size ≤ q → A0 q) (hk : ∀ q : Nat, q < H.size → ¬ va_A [x] H.size q → H1[q]? = H[q]?) (hB : PD D (va_A [x] H.size) wn H1) : PD D A0 (bs ++ wn) H1 := by
  have e0 : (bs ++ [[x]]).flatten = bs.flatten ++ [x] := by simp
  have e1 : (bs ++ wn).flatten = bs.flatten ++ wn.flatten := by simp
  obtain ⟨p1, p2⟩ := hP
  rw [e0] at p1 p2
  have hx : (bs.flatten ++ [x])[bs.flatten.length]? = some x := by simp
  have hx1 : A0 x.1 := p2.2 _ _ hx
  have key : ∀ (k : Nat) (z : Nat × va_E), bs.flatten[k]? = some z → z.1 < H.size ∧ z.1 ≠ x.1 ∧ (bs.flatten ++ [x])[k]? = some z := by
    intro k z hz
    have hl := (List.getElem?_eq_some_iff.mp hz).1
    have h2 : (bs.flatten ++ [x])[k]? = some z := by rw [List.getElem?_append_left hl]; exact hz
    refine ⟨(p1 k z h2).lt, fun q => ?_, h2⟩
    have := p2.1 k _ z x h2 hx q
    omega
  unfold PD
  rw [e1]
  constructor
  · refine va_P.app (fun k z hz => ?_) hB.1
    obtain ⟨k1, k2, k3⟩ := key k z hz
    refine (p1 k z k3).kept (hk z.1 k1 (fun h => ?_))
    rcases va_A1 h with h | h
    · exact k2 h
    · omega
  · refine va_D.app ⟨fun i j u v hu hv huv => p2.1 i j u v (key i u hu).2.2 (key j v hv).2.2 huv, fun k z hz => p2.2 k z (key k z hz).2.2⟩ (hB.2.weaken (fun k z _ h => ?_)) (fun i j u v hu hv huv => ?_)
    · rcases va_A1 h with h | h
      · rw [h]; exact hx1
      · exact hA _ (Nat.le_trans hsz h)
    · obtain ⟨k1, k2, -⟩ := key i u hu
      rcases va_A1 (hB.2.2 j v hv) with h | h
      · exact k2 (huv.trans h)
      · omega
theorem new_CC {x : Nat × va_E} (hC : CC D cy tO aK aV A0 s s.heap) (hS : va_S A0 s.heap H locs) (hA : ∀ q, s.heap.size ≤ q → A0 q) (hP : PD D A0 (bs ++ [[x]]) H) : CC D cy tO aK aV (va_A [x] H.size) s H := by
  refine ⟨hC.1, (hC.2.1.kept hS.2.1).narrow (fun q h => ?_), hC.2.2⟩
  rcases va_A1 h with h | h
  · rw [h]
    have e0 : (bs ++ [[x]]).flatten = bs.flatten ++ [x] := by simp
    have p2 := hP.2
    rw [e0] at p2
    exact p2.2 bs.flatten.length x (by simp)
  · exact hA q (Nat.le_trans hS.1 h)
theorem new_P {x : Nat × va_E} (hP : PD D A0 (bs ++ [[x]]) H) : va_P D vwCl [x] H := by
  intro k q hk
  cases k with
  | zero =>
    cases hk
    have e0 : (bs ++ [[x]]).flatten = bs.flatten ++ [x] := by simp
    have p1 := hP.1
    rw [e0] at p1
    exact p1 bs.flatten.length x (by simp)
  | succ k => simp at hk
theorem efI {U : Type} {post : U → Prop} {wn : U → List va_W} {x : Nat × va_E} (S : CallFix p m c cc nL s args lw_gd own) (hM : Met l y (WW y bytes maxL none) rm (Cd D cy tO aK aV (.ref b :: As) x H.size) (va_Qv post (fun u t => PD D (va_A [x] H.size) (wn u) t.heap) (va_A [x] H.size)) mc ms (va_A [x] H.size)) (cw : CallB R s args own index y bytes maxL none (WW y bytes maxL none) rm mc ms n ∧ y.name = "<init>" ∧ (Cond.instanceMethod y).before args s = true) (hP : PD D A0 (bs ++ [[x]]) H) (hS : va_S A0 s.heap H locs) (hA : ∀ q, s.heap.size ≤ q → A0 q) (hC : CC D cy tO aK aV A0 s s.heap) (hn : As.length = n) (hsize : ls.size = nL) (hst : st0 = As.reverse ++ .ref b :: rest) (hr : (rest.map fun v => v.category).sum ≤ 8) (hdg : decode cc pc = .ok (.invokespecial index, 3)) (hf : cells + mc ≤ R.cells ∧ slots + ms ≤ R.slots)
    (kk : ∀ (u : U) (H1 : Heap) (locs1 : List Loc), post u → PD D A0 (bs ++ wn u) H1 → va_S A0 s.heap H1 locs1 → W p l e R s m args below meth c H1 locs1 (cells + mc) (slots + ms) Q (F0 m (pc + 3) ls rest)) : W p l e R s m args below meth c H locs cells slots Q (F0 m pc ls st0) := by
  have hfr : ∀ q, va_A [x] H.size q → A0 q := fun q h => by
    rcases va_A1 h with h | h
    · rw [h]
      have e0 : (bs ++ [[x]]).flatten = bs.flatten ++ [x] := by simp
      have p2 := hP.2
      rw [e0] at p2
      exact p2.2 bs.flatten.length x (by simp)
    · exact hA q (Nat.le_trans hS.1 h)
  exact va_callv (va_runI S hM cw ⟨Cd.blind, fun U hU hW => ⟨rfl, by rw [hU]; exact new_P hP, by rw [hU]; exact (new_CC hC hS hA hP).warm hW, by rw [hU]⟩⟩ rfl hn hsize hst (lv_room hr) hdg hf) hS (fun q _ h => hfr q h) hfr (fun u t H1 locs1 ht _ hp hB _ hk hS2 => by
    subst ht
    exact kk u _ locs1 hp (new_join hP hS.1 hA hk hB) hS2)
theorem efIN {U : Type} {post : U → Prop} {wn : U → List va_W} {x : Nat × va_E} (S : CallFix p m c cc nL s args lw_gd own) (hM : Met l y (WW y bytes maxL none) rm (Cd D cy tO aK aV (.ref b :: As) x H.size) (va_Qv post (fun u t => PD D (va_A [x] H.size) (wn u) t.heap) (va_A [x] H.size)) mc ms (va_A [x] H.size)) (cw : va_CN R s args own index y host bytes maxL none (WW y bytes maxL none) rm mc ms n ∧ y.name = "<init>" ∧ (Cond.instanceMethod y).before args s = true) (hP : PD D A0 (bs ++ [[x]]) H) (hS : va_S A0 s.heap H locs) (hA : ∀ q, s.heap.size ≤ q → A0 q) (hC : CC D cy tO aK aV A0 s s.heap) (hn : As.length = n) (hsize : ls.size = nL) (hst : st0 = As.reverse ++ .ref b :: rest) (hr : (rest.map fun v => v.category).sum ≤ 8) (hdg : decode cc pc = .ok (.invokespecial index, 3)) (hf : cells + mc ≤ R.cells ∧ slots + ms ≤ R.slots)
    (kk : ∀ (u : U) (H1 : Heap) (locs1 : List Loc), post u → PD D A0 (bs ++ wn u) H1 → va_S A0 s.heap H1 locs1 → W p l e R s m args below meth c H1 locs1 (cells + mc) (slots + ms) Q (F0 m (pc + 3) ls rest)) : W p l e R s m args below meth c H locs cells slots Q (F0 m pc ls st0) := by
  have hfr : ∀ q, va_A [x] H.size q → A0 q := fun q h => by
    rcases va_A1 h with h | h
    · rw [h]
      have e0 : (bs ++ [[x]]).flatten = bs.flatten ++ [x] := by simp
      have p2 := hP.2
      rw [e0] at p2
      exact p2.2 bs.flatten.length x (by simp)
    · exact hA q (Nat.le_trans hS.1 h)
  exact va_callv (va_runIN S hM cw ⟨Cd.blind, fun U hU hW => ⟨rfl, by rw [hU]; exact new_P hP, by rw [hU]; exact (new_CC hC hS hA hP).warm hW, by rw [hU]⟩⟩ rfl hn hsize hst (lv_room hr) hdg hf) hS (fun q _ h => hfr q h) hfr (fun u t H1 locs1 ht _ hp hB _ hk hS2 => by
    subst ht
    exact kk u _ locs1 hp (new_join hP hS.1 hA hk hB) hS2)
def MI (y : MethodName) (bytes : ByteArray) (maxL n : Nat) : Prop := Cond.code y bytes maxL none ∈ lw_gd ∧ Cond.instanceMethod y ∈ lw_gd ∧ Cond.initialized y.cls ∈ lw_gd ∧ y.name = "<init>" ∧ y.cls ≠ "java/lang/invoke/MethodHandle" ∧ y.cls ≠ "java/lang/invoke/VarHandle" ∧ (parseMethodDescriptor y.desc).map (fun d => d.parameters.length) = some n
theorem cI (ht : ∀ w ∈ lw_gd, w.before args s = true) (hM : MI y bytes maxL n) (hl : Cond.methodLink own index y ∈ lw_gd) (h0 : rm.cells = mc) (h1 : rm.slots = ms) (hR : rm.frames + 1 ≤ R.frames ∧ 8 + (maxL + 11) + rm.locals ≤ R.locals) : CallB R s args own index y bytes maxL none (WW y bytes maxL none) rm mc ms n ∧ y.name = "<init>" ∧ (Cond.instanceMethod y).before args s = true :=
  ⟨callB_of n ht (gdIn hM.1) rfl h0 h1 (ht _ hM.2.2.1) (ht _ hl) hM.2.2.2.2 hR, hM.2.2.2.1, ht _ hM.2.1⟩
theorem cIN (ht : ∀ w ∈ lw_gd, w.before args s = true) (hX : CX D cy s) (hM : MI y bytes maxL n) (hl : (own, index, y, host) ∈ lw_nm) (h0 : rm.cells = mc) (h1 : rm.slots = ms) (hR : rm.frames + 1 ≤ R.frames ∧ 8 + (maxL + 11) + rm.locals ≤ R.locals) : va_CN R s args own index y host bytes maxL none (WW y bytes maxL none) rm mc ms n ∧ y.name = "<init>" ∧ (Cond.instanceMethod y).before args s = true :=
  ⟨va_cnB n ht (gdIn hM.1) rfl h0 h1 (hX.2 _ hl) (ht _ hM.2.2.1) hM.2.2.2.2 hR, hM.2.2.2.1, ht _ hM.2.1⟩
end ALLOC

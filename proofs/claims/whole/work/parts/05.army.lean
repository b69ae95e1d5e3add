theorem dJ7_fill_53178_0 : decode cJ7_fill_53178 0 = .ok (.iconst 0, 1) := by decide +kernel
theorem dJ7_fill_53178_1 : decode cJ7_fill_53178 1 = .ok (.istore_n 2, 1) := by decide +kernel
theorem dJ7_fill_53178_2 : decode cJ7_fill_53178 2 = .ok (.aload_n 0, 1) := by decide +kernel
theorem dJ7_fill_53178_3 : decode cJ7_fill_53178 3 = .ok (.arraylength, 1) := by decide +kernel
theorem dJ7_fill_53178_4 : decode cJ7_fill_53178 4 = .ok (.istore_n 3, 1) := by decide +kernel
theorem dJ7_fill_53178_5 : decode cJ7_fill_53178 5 = .ok (.iload_n 2, 1) := by decide +kernel
theorem dJ7_fill_53178_6 : decode cJ7_fill_53178 6 = .ok (.iload_n 3, 1) := by decide +kernel
theorem dJ7_fill_53178_7 : decode cJ7_fill_53178 7 = .ok (.if_icmp .ge 13, 3) := by decide +kernel
theorem dJ7_fill_53178_10 : decode cJ7_fill_53178 10 = .ok (.aload_n 0, 1) := by decide +kernel
theorem dJ7_fill_53178_11 : decode cJ7_fill_53178 11 = .ok (.iload_n 2, 1) := by decide +kernel
theorem dJ7_fill_53178_12 : decode cJ7_fill_53178 12 = .ok (.iload_n 1, 1) := by decide +kernel
theorem dJ7_fill_53178_13 : decode cJ7_fill_53178 13 = .ok (.iastore, 1) := by decide +kernel
theorem dJ7_fill_53178_14 : decode cJ7_fill_53178 14 = .ok (.iinc 2 1, 3) := by decide +kernel
theorem dJ7_fill_53178_17 : decode cJ7_fill_53178 17 = .ok (.goto (-12), 3) := by decide +kernel
theorem dJ7_fill_53178_20 : decode cJ7_fill_53178 20 = .ok (.return_, 1) := by decide +kernel
theorem ms_J7_fill_53178 : MS yJ7_fill_53178 cJ7_fill_53178 4 none 2 := ⟨tb_617, tb_616, tb_17, by decide +kernel, by decide +kernel, by decide +kernel⟩
def f_J7_fill_53178_b5 (fu : Nat) (N_p0 : Nat) (x1 : Int32) (k5 : (Nat → Int32) → Int32 → Int32 → (Option ((Nat → Int32)))) (p0_row : Nat → Int32) (x2 : Int32) (x3 : Int32) : Option ((Nat → Int32)) := (if x3 ≤ x2 then some (p0_row) else (wrI p0_row N_p0 x2 x1).bind fun p0_row_6 => bnd (x2 + 1) fun x2_7 => k5 p0_row_6 x2_7 x3)
def f_J7_fill_53178_l5 (fu : Nat) (N_p0 : Nat) (x1 : Int32) : Nat → (Nat → Int32) → Int32 → Int32 → (Option ((Nat → Int32)))
  | 0, _, _, _ => none
  | n + 1, p0_row, x2, x3 => f_J7_fill_53178_b5 fu N_p0 x1 (f_J7_fill_53178_l5 fu N_p0 x1 n) p0_row x2 x3
def f_J7_fill_53178 (fu : Nat) (N_p0 : Nat) (p0_row : Nat → Int32) (x1 : Int32) : Option ((Nat → Int32)) := bnd (Int32.ofNat N_p0) fun x3_8 => f_J7_fill_53178_l5 fu N_p0 x1 fu p0_row 0 x3_8
abbrev rm_J7_fill_53178 : Room := { frames := 0, cells := 0, slots := 0, locals := 0 }
set_option maxHeartbeats 4000000 in
set_option maxRecDepth 100000 in
theorem c_J7_fill_53178 (l : Launch) (D : va_G) (cy : Nat → ClassId) (fu : Nat) (A_p0 : Nat) (N_p0 : Nat) (p0_row : Nat → Int32) (x1 : Int32) (res : (Nat → Int32)) (h : f_J7_fill_53178 fu N_p0 p0_row x1 = some res) (A : Nat → Prop) (hA : A = adr [[(A_p0, .inl (cy 0, N_p0, .inl p0_row))]]) (W1 : List va_W) (hW1 : W1 = [[(A_p0, .inl (cy 0, N_p0, .inl res))]]) : Met l yJ7_fill_53178 (WW yJ7_fill_53178 cJ7_fill_53178 4 none) rm_J7_fill_53178 (Ed D cy [.ref A_p0, .int x1] [[(A_p0, .inl (cy 0, N_p0, .inl p0_row))]]) (Qev D A W1) 0 0 A := by
  refine Met.ofW (cc := cJ7_fill_53178) (maxL := 4) (ret := none) (by decide) rfl ?_
  intro p e s m args below meth c s₁ B hml hv
  obtain ⟨hargs, hP, hX, hD0⟩ := hv
  have hx := B.exec
  have hb := B.bytes
  have hr := B.returns
  have ht : ∀ w ∈ lw_gd, w.before args s = true := fun w hw => atoms_spec (ws := WW yJ7_fill_53178 cJ7_fill_53178 4 none) B.pre w (List.mem_cons_of_mem _ hw)
  have hown : s.vm.findClass RJ7 = some m.cls := findClass_of_methodNamed B.named
  have hlocks := B.notSynchronized
  have hP : PD D A [[(A_p0, .inl (cy 0, N_p0, .inl p0_row))]] s.heap := ⟨hP, by rw [hA]; exact hD0.own⟩
  have hS : va_S A s.heap s.heap [] := va_S.rf
  obtain ⟨ls, hl, hent⟩ := ent (m := m) (n := 4) hargs (Nat.le_of_ble_eq_true rfl) (lv := [(0, .ref A_p0), (1, .int x1)]) rfl
  rw [hent]
  clear hent
  have l5 : ∀ (n5 : Nat) (p0_row : Nat → Int32) (x2 : Int32) (x3 : Int32) (H : Heap) (locs : List Loc) (_ : PD D A [[(A_p0, .inl (cy 0, N_p0, .inl p0_row))]] H) (_ : va_S A s.heap H locs) (ls : Array Slot), lv_has ls 4 [(0, .ref A_p0), (1, .int x1), (2, .int x2), (3, .int x3)] → f_J7_fill_53178_l5 fu N_p0 x1 n5 p0_row x2 x3 = some res → W p l e (headSpec (WW yJ7_fill_53178 cJ7_fill_53178 4 none) rm_J7_fill_53178).room s m args below meth c H locs 0 0 (MQ below (Qev D A W1) args s 0 0 A) (F0 m 5 ls []) := by
    intro n5
    induction n5 with
    | zero => intro p0_row x2 x3 H locs hP hS ls hl h; cases h
    | succ n5 ih5 =>
      intro p0_row x2 x3 H locs hP hS ls hl h
      have h : f_J7_fill_53178_b5 fu N_p0 x1 (f_J7_fill_53178_l5 fu N_p0 x1 n5) p0_row x2 x3 = some res := h
      unfold f_J7_fill_53178_b5 at h
      refine lv_iload_n hx hb dJ7_fill_53178_5 rfl (lv_at hl 2 rfl) ?_
      refine lv_iload_n hx hb dJ7_fill_53178_6 rfl (lv_at hl 3 rfl) ?_
      refine lv_icmp_ge (tgt := 20) hx hb dJ7_fill_53178_7 (by decide) (fun c_5 => ?_) (fun c_5 => ?_)
      · have h := it c_5 h
        cases h
        subst hW1
        exact W.vret hx hb hr (fun _ ht9 _ => ⟨⟨(), rfl, trivial, hPt ht9 hP.1⟩, hS.F ht9⟩) hS.2.2 dJ7_fill_53178_20
      · have h := ie c_5 h
        refine lv_aload_n hx hb dJ7_fill_53178_10 rfl (lv_at hl 0 rfl) ?_
        refine lv_iload_n hx hb dJ7_fill_53178_11 rfl (lv_at hl 2 rfl) ?_
        refine lv_iload_n hx hb dJ7_fill_53178_12 rfl (lv_at hl 1 rfl) ?_
        obtain ⟨p0_row_6, e_p0_row_6, h⟩ := bi h
        refine xiast (i0 := 0) (j0 := 0) hx hb hX hP hS rfl rfl e_p0_row_6 dJ7_fill_53178_13 (fun H locs hP hS => ?_)
        have hP : PD D A [[(A_p0, .inl (cy 0, N_p0, .inl p0_row_6))]] H := hP
        obtain ⟨x2_7, e_x2_7⟩ : ∃ y : Int32, y = x2 + 1 := ⟨_, rfl⟩
        have h := bn e_x2_7 h
        refine lv_iinc (v := x2_7) (lv' := [(2, .int x2_7), (0, .ref A_p0), (1, .int x1), (3, .int x3)]) hx hb dJ7_fill_53178_14 hl (k := 2) rfl (by rw [e_x2_7]; rfl) (by decide) rfl (fun ls hl => ?_)
        refine lv_goto (tgt := 5) hx hb dJ7_fill_53178_17 (by decide) ?_
        exact ih5 p0_row_6 x2_7 x3 _ _ hP hS ls (lv_sub hl [1, 2, 0, 3] rfl) h
  unfold f_J7_fill_53178 at h
  refine lv_iconst (v := 0) hx hb dJ7_fill_53178_0 (by decide) ?_
  refine lv_istore_n (lv' := [(2, .int 0), (0, .ref A_p0), (1, .int x1)]) hx hb dJ7_fill_53178_1 rfl hl (by decide) rfl (fun ls hl => ?_)
  refine lv_aload_n hx hb dJ7_fill_53178_2 rfl (lv_at hl 1 rfl) ?_
  refine xlen (i0 := 0) (j0 := 0) (t0 := 0) (v := Int32.ofNat N_p0) hx hb hX hP.1 rfl rfl rfl rfl dJ7_fill_53178_3 ?_
  refine lv_topi (fun x3_8 e_x3_8 => ?_)
  have h := bn e_x3_8 h
  refine lv_istore_n (lv' := [(3, .int x3_8), (2, .int 0), (0, .ref A_p0), (1, .int x1)]) hx hb dJ7_fill_53178_4 rfl hl (by decide) rfl (fun ls hl => ?_)
  exact l5 fu p0_row 0 x3_8 _ _ hP hS ls (lv_sub hl [2, 3, 1, 0] rfl) h
theorem dJ7_fill_d0a16_0 : decode cJ7_fill_d0a16 0 = .ok (.iconst 0, 1) := by decide +kernel
theorem dJ7_fill_d0a16_1 : decode cJ7_fill_d0a16 1 = .ok (.istore_n 3, 1) := by decide +kernel
theorem dJ7_fill_d0a16_2 : decode cJ7_fill_d0a16 2 = .ok (.aload_n 0, 1) := by decide +kernel
theorem dJ7_fill_d0a16_3 : decode cJ7_fill_d0a16 3 = .ok (.arraylength, 1) := by decide +kernel
theorem dJ7_fill_d0a16_4 : decode cJ7_fill_d0a16 4 = .ok (.istore 4, 2) := by decide +kernel
theorem dJ7_fill_d0a16_6 : decode cJ7_fill_d0a16 6 = .ok (.iload_n 3, 1) := by decide +kernel
theorem dJ7_fill_d0a16_7 : decode cJ7_fill_d0a16 7 = .ok (.iload 4, 2) := by decide +kernel
theorem dJ7_fill_d0a16_9 : decode cJ7_fill_d0a16 9 = .ok (.if_icmp .ge 13, 3) := by decide +kernel
theorem dJ7_fill_d0a16_12 : decode cJ7_fill_d0a16 12 = .ok (.aload_n 0, 1) := by decide +kernel
theorem dJ7_fill_d0a16_13 : decode cJ7_fill_d0a16 13 = .ok (.iload_n 3, 1) := by decide +kernel
theorem dJ7_fill_d0a16_14 : decode cJ7_fill_d0a16 14 = .ok (.lload_n 1, 1) := by decide +kernel
theorem dJ7_fill_d0a16_15 : decode cJ7_fill_d0a16 15 = .ok (.lastore, 1) := by decide +kernel
theorem dJ7_fill_d0a16_16 : decode cJ7_fill_d0a16 16 = .ok (.iinc 3 1, 3) := by decide +kernel
theorem dJ7_fill_d0a16_19 : decode cJ7_fill_d0a16 19 = .ok (.goto (-13), 3) := by decide +kernel
theorem dJ7_fill_d0a16_22 : decode cJ7_fill_d0a16 22 = .ok (.return_, 1) := by decide +kernel
theorem ms_J7_fill_d0a16 : MS yJ7_fill_d0a16 cJ7_fill_d0a16 5 none 2 := ⟨tb_517, tb_516, tb_17, by decide +kernel, by decide +kernel, by decide +kernel⟩
def f_J7_fill_d0a16_b6 (fu : Nat) (N_p0 : Nat) (x1 : Int64) (k6 : (Nat → Int64) → Int32 → Int32 → (Option ((Nat → Int64)))) (p0_row : Nat → Int64) (x3 : Int32) (x4 : Int32) : Option ((Nat → Int64)) := (if x4 ≤ x3 then some (p0_row) else (wrJ p0_row N_p0 x3 x1).bind fun p0_row_6 => bnd (x3 + 1) fun x3_7 => k6 p0_row_6 x3_7 x4)
def f_J7_fill_d0a16_l6 (fu : Nat) (N_p0 : Nat) (x1 : Int64) : Nat → (Nat → Int64) → Int32 → Int32 → (Option ((Nat → Int64)))
  | 0, _, _, _ => none
  | n + 1, p0_row, x3, x4 => f_J7_fill_d0a16_b6 fu N_p0 x1 (f_J7_fill_d0a16_l6 fu N_p0 x1 n) p0_row x3 x4
def f_J7_fill_d0a16 (fu : Nat) (N_p0 : Nat) (p0_row : Nat → Int64) (x1 : Int64) : Option ((Nat → Int64)) := bnd (Int32.ofNat N_p0) fun x4_8 => f_J7_fill_d0a16_l6 fu N_p0 x1 fu p0_row 0 x4_8
abbrev rm_J7_fill_d0a16 : Room := { frames := 0, cells := 0, slots := 0, locals := 0 }
set_option maxHeartbeats 4000000 in
set_option maxRecDepth 100000 in
theorem c_J7_fill_d0a16 (l : Launch) (D : va_G) (cy : Nat → ClassId) (fu : Nat) (A_p0 : Nat) (N_p0 : Nat) (p0_row : Nat → Int64) (x1 : Int64) (res : (Nat → Int64)) (h : f_J7_fill_d0a16 fu N_p0 p0_row x1 = some res) (A : Nat → Prop) (hA : A = adr [[(A_p0, .inl (cy 1, N_p0, .inr (.inl p0_row)))]]) (W1 : List va_W) (hW1 : W1 = [[(A_p0, .inl (cy 1, N_p0, .inr (.inl res)))]]) : Met l yJ7_fill_d0a16 (WW yJ7_fill_d0a16 cJ7_fill_d0a16 5 none) rm_J7_fill_d0a16 (Ed D cy [.ref A_p0, .long x1] [[(A_p0, .inl (cy 1, N_p0, .inr (.inl p0_row)))]]) (Qev D A W1) 0 0 A := by
  refine Met.ofW (cc := cJ7_fill_d0a16) (maxL := 5) (ret := none) (by decide) rfl ?_
  intro p e s m args below meth c s₁ B hml hv
  obtain ⟨hargs, hP, hX, hD0⟩ := hv
  have hx := B.exec
  have hb := B.bytes
  have hr := B.returns
  have ht : ∀ w ∈ lw_gd, w.before args s = true := fun w hw => atoms_spec (ws := WW yJ7_fill_d0a16 cJ7_fill_d0a16 5 none) B.pre w (List.mem_cons_of_mem _ hw)
  have hown : s.vm.findClass RJ7 = some m.cls := findClass_of_methodNamed B.named
  have hlocks := B.notSynchronized
  have hP : PD D A [[(A_p0, .inl (cy 1, N_p0, .inr (.inl p0_row)))]] s.heap := ⟨hP, by rw [hA]; exact hD0.own⟩
  have hS : va_S A s.heap s.heap [] := va_S.rf
  obtain ⟨ls, hl, hent⟩ := ent (m := m) (n := 5) hargs (Nat.le_of_ble_eq_true rfl) (lv := [(0, .ref A_p0), (1, .long x1)]) rfl
  rw [hent]
  clear hent
  have l6 : ∀ (n6 : Nat) (p0_row : Nat → Int64) (x3 : Int32) (x4 : Int32) (H : Heap) (locs : List Loc) (_ : PD D A [[(A_p0, .inl (cy 1, N_p0, .inr (.inl p0_row)))]] H) (_ : va_S A s.heap H locs) (ls : Array Slot), lv_has ls 5 [(0, .ref A_p0), (1, .long x1), (3, .int x3), (4, .int x4)] → f_J7_fill_d0a16_l6 fu N_p0 x1 n6 p0_row x3 x4 = some res → W p l e (headSpec (WW yJ7_fill_d0a16 cJ7_fill_d0a16 5 none) rm_J7_fill_d0a16).room s m args below meth c H locs 0 0 (MQ below (Qev D A W1) args s 0 0 A) (F0 m 6 ls []) := by
    intro n6
    induction n6 with
    | zero => intro p0_row x3 x4 H locs hP hS ls hl h; cases h
    | succ n6 ih6 =>
      intro p0_row x3 x4 H locs hP hS ls hl h
      have h : f_J7_fill_d0a16_b6 fu N_p0 x1 (f_J7_fill_d0a16_l6 fu N_p0 x1 n6) p0_row x3 x4 = some res := h
      unfold f_J7_fill_d0a16_b6 at h
      refine lv_iload_n hx hb dJ7_fill_d0a16_6 rfl (lv_at hl 2 rfl) ?_
      refine lv_iload hx hb dJ7_fill_d0a16_7 (lv_at hl 3 rfl) ?_
      refine lv_icmp_ge (tgt := 22) hx hb dJ7_fill_d0a16_9 (by decide) (fun c_5 => ?_) (fun c_5 => ?_)
      · have h := it c_5 h
        cases h
        subst hW1
        exact W.vret hx hb hr (fun _ ht9 _ => ⟨⟨(), rfl, trivial, hPt ht9 hP.1⟩, hS.F ht9⟩) hS.2.2 dJ7_fill_d0a16_22
      · have h := ie c_5 h
        refine lv_aload_n hx hb dJ7_fill_d0a16_12 rfl (lv_at hl 0 rfl) ?_
        refine lv_iload_n hx hb dJ7_fill_d0a16_13 rfl (lv_at hl 2 rfl) ?_
        refine lv_lload_n hx hb dJ7_fill_d0a16_14 rfl (lv_at hl 1 rfl) ?_
        obtain ⟨p0_row_6, e_p0_row_6, h⟩ := bi h
        refine xlast (i0 := 0) (j0 := 0) hx hb hX hP hS rfl rfl e_p0_row_6 dJ7_fill_d0a16_15 (fun H locs hP hS => ?_)
        have hP : PD D A [[(A_p0, .inl (cy 1, N_p0, .inr (.inl p0_row_6)))]] H := hP
        obtain ⟨x3_7, e_x3_7⟩ : ∃ y : Int32, y = x3 + 1 := ⟨_, rfl⟩
        have h := bn e_x3_7 h
        refine lv_iinc (v := x3_7) (lv' := [(3, .int x3_7), (0, .ref A_p0), (1, .long x1), (4, .int x4)]) hx hb dJ7_fill_d0a16_16 hl (k := 2) rfl (by rw [e_x3_7]; rfl) (by decide) rfl (fun ls hl => ?_)
        refine lv_goto (tgt := 6) hx hb dJ7_fill_d0a16_19 (by decide) ?_
        exact ih6 p0_row_6 x3_7 x4 _ _ hP hS ls (lv_sub hl [1, 2, 0, 3] rfl) h
  unfold f_J7_fill_d0a16 at h
  refine lv_iconst (v := 0) hx hb dJ7_fill_d0a16_0 (by decide) ?_
  refine lv_istore_n (lv' := [(3, .int 0), (0, .ref A_p0), (1, .long x1)]) hx hb dJ7_fill_d0a16_1 rfl hl (by decide) rfl (fun ls hl => ?_)
  refine lv_aload_n hx hb dJ7_fill_d0a16_2 rfl (lv_at hl 1 rfl) ?_
  refine xlen (i0 := 0) (j0 := 0) (t0 := 1) (v := Int32.ofNat N_p0) hx hb hX hP.1 rfl rfl rfl rfl dJ7_fill_d0a16_3 ?_
  refine lv_topi (fun x4_8 e_x4_8 => ?_)
  have h := bn e_x4_8 h
  refine lv_istore (lv' := [(4, .int x4_8), (3, .int 0), (0, .ref A_p0), (1, .long x1)]) hx hb dJ7_fill_d0a16_4 hl (by decide) rfl (fun ls hl => ?_)
  exact l6 fu p0_row 0 x4_8 _ _ hP hS ls (lv_sub hl [2, 3, 1, 0] rfl) h
theorem dX0_clear_0 : decode cX0_clear 0 = .ok (.aload_n 0, 1) := by decide +kernel
theorem dX0_clear_1 : decode cX0_clear 1 = .ok (.getfield 9, 3) := by decide +kernel
theorem dX0_clear_4 : decode cX0_clear 4 = .ok (.lconst 0, 1) := by decide +kernel
theorem dX0_clear_5 : decode cX0_clear 5 = .ok (.invokestatic 56, 3) := by decide +kernel
theorem dX0_clear_8 : decode cX0_clear 8 = .ok (.aload_n 0, 1) := by decide +kernel
theorem dX0_clear_9 : decode cX0_clear 9 = .ok (.getfield 15, 3) := by decide +kernel
theorem dX0_clear_12 : decode cX0_clear 12 = .ok (.iconst 0, 1) := by decide +kernel
theorem dX0_clear_13 : decode cX0_clear 13 = .ok (.invokestatic 62, 3) := by decide +kernel
theorem dX0_clear_16 : decode cX0_clear 16 = .ok (.aload_n 0, 1) := by decide +kernel
theorem dX0_clear_17 : decode cX0_clear 17 = .ok (.getfield 19, 3) := by decide +kernel
theorem dX0_clear_20 : decode cX0_clear 20 = .ok (.iconst 0, 1) := by decide +kernel
theorem dX0_clear_21 : decode cX0_clear 21 = .ok (.invokestatic 62, 3) := by decide +kernel
theorem dX0_clear_24 : decode cX0_clear 24 = .ok (.aload_n 0, 1) := by decide +kernel
theorem dX0_clear_25 : decode cX0_clear 25 = .ok (.getfield 22, 3) := by decide +kernel
theorem dX0_clear_28 : decode cX0_clear 28 = .ok (.iconst 0, 1) := by decide +kernel
theorem dX0_clear_29 : decode cX0_clear 29 = .ok (.invokestatic 62, 3) := by decide +kernel
theorem dX0_clear_32 : decode cX0_clear 32 = .ok (.aload_n 0, 1) := by decide +kernel
theorem dX0_clear_33 : decode cX0_clear 33 = .ok (.getfield 25, 3) := by decide +kernel
theorem dX0_clear_36 : decode cX0_clear 36 = .ok (.iconst 0, 1) := by decide +kernel
theorem dX0_clear_37 : decode cX0_clear 37 = .ok (.invokestatic 62, 3) := by decide +kernel
theorem dX0_clear_40 : decode cX0_clear 40 = .ok (.aload_n 0, 1) := by decide +kernel
theorem dX0_clear_41 : decode cX0_clear 41 = .ok (.getfield 28, 3) := by decide +kernel
theorem dX0_clear_44 : decode cX0_clear 44 = .ok (.iconst 0, 1) := by decide +kernel
theorem dX0_clear_45 : decode cX0_clear 45 = .ok (.invokestatic 62, 3) := by decide +kernel
theorem dX0_clear_48 : decode cX0_clear 48 = .ok (.aload_n 0, 1) := by decide +kernel
theorem dX0_clear_49 : decode cX0_clear 49 = .ok (.iconst 0, 1) := by decide +kernel
theorem dX0_clear_50 : decode cX0_clear 50 = .ok (.putfield 37, 3) := by decide +kernel
theorem dX0_clear_53 : decode cX0_clear 53 = .ok (.aload_n 0, 1) := by decide +kernel
theorem dX0_clear_54 : decode cX0_clear 54 = .ok (.iconst 0, 1) := by decide +kernel
theorem dX0_clear_55 : decode cX0_clear 55 = .ok (.putfield 41, 3) := by decide +kernel
theorem dX0_clear_58 : decode cX0_clear 58 = .ok (.aload_n 0, 1) := by decide +kernel
theorem dX0_clear_59 : decode cX0_clear 59 = .ok (.iconst 1, 1) := by decide +kernel
theorem dX0_clear_60 : decode cX0_clear 60 = .ok (.putfield 44, 3) := by decide +kernel
theorem dX0_clear_63 : decode cX0_clear 63 = .ok (.aload_n 0, 1) := by decide +kernel
theorem dX0_clear_64 : decode cX0_clear 64 = .ok (.bipush 50, 2) := by decide +kernel
theorem dX0_clear_66 : decode cX0_clear 66 = .ok (.putfield 47, 3) := by decide +kernel
theorem dX0_clear_69 : decode cX0_clear 69 = .ok (.aload_n 0, 1) := by decide +kernel
theorem dX0_clear_70 : decode cX0_clear 70 = .ok (.iconst 0, 1) := by decide +kernel
theorem dX0_clear_71 : decode cX0_clear 71 = .ok (.putfield 50, 3) := by decide +kernel
theorem dX0_clear_74 : decode cX0_clear 74 = .ok (.aload_n 0, 1) := by decide +kernel
theorem dX0_clear_75 : decode cX0_clear 75 = .ok (.iconst 0, 1) := by decide +kernel
theorem dX0_clear_76 : decode cX0_clear 76 = .ok (.putfield 53, 3) := by decide +kernel
theorem dX0_clear_79 : decode cX0_clear 79 = .ok (.return_, 1) := by decide +kernel
theorem mv_X0_clear : MV yX0_clear RX0 cX0_clear 1 none 0 := ⟨tb_613, tb_611, tb_612, tb_2, by decide +kernel, by decide +kernel, by decide +kernel⟩
def f_X0_clear (fu : Nat) (a_name : Nat → Int64) (a_courage : Nat → Int32) (a_weight : Nat → Int32) (a_medals : Nat → Int32) (a_stood : Nat → Int32) (a_fled : Nat → Int32) (a_count : Int32) (a_living : Int32) (a_pride : Int32) (a_quota : Int32) (a_melted : Int32) (a_lost : Int32) : Option ((Nat → Int64) × (Nat → Int32) × (Nat → Int32) × (Nat → Int32) × (Nat → Int32) × (Nat → Int32) × Int32 × Int32 × Int32 × Int32 × Int32 × Int32) := (f_J7_fill_d0a16 fu 8 a_name 0).bind fun z_7 => (f_J7_fill_53178 fu 8 a_courage 0).bind fun z_8 => (f_J7_fill_53178 fu 8 a_weight 0).bind fun z_9 => (f_J7_fill_53178 fu 8 a_medals 0).bind fun z_10 => (f_J7_fill_53178 fu 8 a_stood 0).bind fun z_11 => (f_J7_fill_53178 fu 8 a_fled 0).bind fun z_12 => some (z_7, z_8, z_9, z_10, z_11, z_12, 0, 0, 1, 50, 0, 0)
abbrev rm_X0_clear : Room := { frames := 1, cells := 0, slots := 0, locals := 24 }
set_option maxHeartbeats 4000000 in
set_option maxRecDepth 100000 in
theorem c_X0_clear (l : Launch) (D : va_G) (cy : Nat → ClassId) (fu : Nat) (A_a : Nat → Nat) (a_name : Nat → Int64) (a_courage : Nat → Int32) (a_weight : Nat → Int32) (a_medals : Nat → Int32) (a_stood : Nat → Int32) (a_fled : Nat → Int32) (a_liked : Nat → Int32) (a_votes : Nat → Int32) (a_count : Int32) (a_living : Int32) (a_pride : Int32) (a_quota : Int32) (a_melted : Int32) (a_lost : Int32) (res : (Nat → Int64) × (Nat → Int32) × (Nat → Int32) × (Nat → Int32) × (Nat → Int32) × (Nat → Int32) × Int32 × Int32 × Int32 × Int32 × Int32 × Int32) (h : f_X0_clear fu a_name a_courage a_weight a_medals a_stood a_fled a_count a_living a_pride a_quota a_melted a_lost = some res) (A : Nat → Prop) (hA : A = adr [bl_X0 cy A_a a_name a_courage a_weight a_medals a_stood a_fled a_liked a_votes a_count a_living a_pride a_quota a_melted a_lost]) (W1 : List va_W) (hW1 : W1 = [bl_X0 cy A_a res.1 res.2.1 res.2.2.1 res.2.2.2.1 res.2.2.2.2.1 res.2.2.2.2.2.1 a_liked a_votes res.2.2.2.2.2.2.1 res.2.2.2.2.2.2.2.1 res.2.2.2.2.2.2.2.2.1 res.2.2.2.2.2.2.2.2.2.1 res.2.2.2.2.2.2.2.2.2.2.1 res.2.2.2.2.2.2.2.2.2.2.2]) : Met l yX0_clear (WW yX0_clear cX0_clear 1 none) rm_X0_clear (Ed D cy [.ref (A_a 0)] [bl_X0 cy A_a a_name a_courage a_weight a_medals a_stood a_fled a_liked a_votes a_count a_living a_pride a_quota a_melted a_lost]) (Qev D A W1) 0 0 A := by
  refine Met.ofW (cc := cX0_clear) (maxL := 1) (ret := none) (by decide) rfl ?_
  intro p e s m args below meth c s₁ B hml hv
  obtain ⟨hargs, hP, hX, hD0⟩ := hv
  have hx := B.exec
  have hb := B.bytes
  have hr := B.returns
  have ht : ∀ w ∈ lw_gd, w.before args s = true := fun w hw => atoms_spec (ws := WW yX0_clear cX0_clear 1 none) B.pre w (List.mem_cons_of_mem _ hw)
  have hown : s.vm.findClass RX0 = some m.cls := findClass_of_methodNamed B.named
  have hlocks := B.notSynchronized
  have hP : PD D A [bl_X0 cy A_a a_name a_courage a_weight a_medals a_stood a_fled a_liked a_votes a_count a_living a_pride a_quota a_melted a_lost] s.heap := ⟨hP, by rw [hA]; exact hD0.own⟩
  have hS : va_S A s.heap s.heap [] := va_S.rf
  obtain ⟨ls, hl, hent⟩ := ent (m := m) (n := 1) hargs (Nat.le_of_ble_eq_true rfl) (lv := [(0, .ref (A_a 0))]) rfl
  rw [hent]
  clear hent
  unfold f_X0_clear at h
  refine lv_aload_n hx hb dX0_clear_0 rfl (lv_at hl 0 rfl) ?_
  refine xget (i := 0) (j := 0) (k := 0) (T := TX0) hx hb ht tb_iX0 hown hX hP.1 rfl rfl rfl (by decide) tb_38 rfl dX0_clear_1 ?_
  refine lv_lconst (v := 0) hx hb dX0_clear_4 (by decide) ?_
  obtain ⟨z_7, e_z_7, h⟩ := bi h
  refine efAv (i := 0) (j := 1) (rest := []) ⟨hx, hb, hml, hown, ht⟩ (c_J7_fill_d0a16 l D cy fu (A_a 1) 8 a_name 0 z_7 e_z_7 _ rfl _ rfl) (cS ht ms_J7_fill_d0a16 tb_614 rfl rfl ⟨Nat.le_of_ble_eq_true rfl, Nat.le_of_ble_eq_true rfl⟩) hP hS hX rfl rfl rfl rfl hl.1 rfl (Nat.le_of_ble_eq_true rfl) dX0_clear_5 ⟨Nat.le_of_ble_eq_true rfl, Nat.le_of_ble_eq_true rfl⟩ (fun H locs hP hS => ?_)
  have hP : PD D A [bl_X0 cy A_a z_7 a_courage a_weight a_medals a_stood a_fled a_liked a_votes a_count a_living a_pride a_quota a_melted a_lost] H := hP
  refine lv_aload_n hx hb dX0_clear_8 rfl (lv_at hl 0 rfl) ?_
  refine xget (i := 0) (j := 0) (k := 1) (T := TX0) hx hb ht tb_iX0 hown hX hP.1 rfl rfl rfl (by decide) tb_39 rfl dX0_clear_9 ?_
  refine lv_iconst (v := 0) hx hb dX0_clear_12 (by decide) ?_
  obtain ⟨z_8, e_z_8, h⟩ := bi h
  refine efAv (i := 0) (j := 2) (rest := []) ⟨hx, hb, hml, hown, ht⟩ (c_J7_fill_53178 l D cy fu (A_a 2) 8 a_courage 0 z_8 e_z_8 _ rfl _ rfl) (cS ht ms_J7_fill_53178 tb_615 rfl rfl ⟨Nat.le_of_ble_eq_true rfl, Nat.le_of_ble_eq_true rfl⟩) hP hS hX rfl rfl rfl rfl hl.1 rfl (Nat.le_of_ble_eq_true rfl) dX0_clear_13 ⟨Nat.le_of_ble_eq_true rfl, Nat.le_of_ble_eq_true rfl⟩ (fun H locs hP hS => ?_)
  have hP : PD D A [bl_X0 cy A_a z_7 z_8 a_weight a_medals a_stood a_fled a_liked a_votes a_count a_living a_pride a_quota a_melted a_lost] H := hP
  refine lv_aload_n hx hb dX0_clear_16 rfl (lv_at hl 0 rfl) ?_
  refine xget (i := 0) (j := 0) (k := 2) (T := TX0) hx hb ht tb_iX0 hown hX hP.1 rfl rfl rfl (by decide) tb_41 rfl dX0_clear_17 ?_
  refine lv_iconst (v := 0) hx hb dX0_clear_20 (by decide) ?_
  obtain ⟨z_9, e_z_9, h⟩ := bi h
  refine efAv (i := 0) (j := 3) (rest := []) ⟨hx, hb, hml, hown, ht⟩ (c_J7_fill_53178 l D cy fu (A_a 3) 8 a_weight 0 z_9 e_z_9 _ rfl _ rfl) (cS ht ms_J7_fill_53178 tb_615 rfl rfl ⟨Nat.le_of_ble_eq_true rfl, Nat.le_of_ble_eq_true rfl⟩) hP hS hX rfl rfl rfl rfl hl.1 rfl (Nat.le_of_ble_eq_true rfl) dX0_clear_21 ⟨Nat.le_of_ble_eq_true rfl, Nat.le_of_ble_eq_true rfl⟩ (fun H locs hP hS => ?_)
  have hP : PD D A [bl_X0 cy A_a z_7 z_8 z_9 a_medals a_stood a_fled a_liked a_votes a_count a_living a_pride a_quota a_melted a_lost] H := hP
  refine lv_aload_n hx hb dX0_clear_24 rfl (lv_at hl 0 rfl) ?_
  refine xget (i := 0) (j := 0) (k := 3) (T := TX0) hx hb ht tb_iX0 hown hX hP.1 rfl rfl rfl (by decide) tb_43 rfl dX0_clear_25 ?_
  refine lv_iconst (v := 0) hx hb dX0_clear_28 (by decide) ?_
  obtain ⟨z_10, e_z_10, h⟩ := bi h
  refine efAv (i := 0) (j := 4) (rest := []) ⟨hx, hb, hml, hown, ht⟩ (c_J7_fill_53178 l D cy fu (A_a 4) 8 a_medals 0 z_10 e_z_10 _ rfl _ rfl) (cS ht ms_J7_fill_53178 tb_615 rfl rfl ⟨Nat.le_of_ble_eq_true rfl, Nat.le_of_ble_eq_true rfl⟩) hP hS hX rfl rfl rfl rfl hl.1 rfl (Nat.le_of_ble_eq_true rfl) dX0_clear_29 ⟨Nat.le_of_ble_eq_true rfl, Nat.le_of_ble_eq_true rfl⟩ (fun H locs hP hS => ?_)
  have hP : PD D A [bl_X0 cy A_a z_7 z_8 z_9 z_10 a_stood a_fled a_liked a_votes a_count a_living a_pride a_quota a_melted a_lost] H := hP
  refine lv_aload_n hx hb dX0_clear_32 rfl (lv_at hl 0 rfl) ?_
  refine xget (i := 0) (j := 0) (k := 4) (T := TX0) hx hb ht tb_iX0 hown hX hP.1 rfl rfl rfl (by decide) tb_48 rfl dX0_clear_33 ?_
  refine lv_iconst (v := 0) hx hb dX0_clear_36 (by decide) ?_
  obtain ⟨z_11, e_z_11, h⟩ := bi h
  refine efAv (i := 0) (j := 5) (rest := []) ⟨hx, hb, hml, hown, ht⟩ (c_J7_fill_53178 l D cy fu (A_a 5) 8 a_stood 0 z_11 e_z_11 _ rfl _ rfl) (cS ht ms_J7_fill_53178 tb_615 rfl rfl ⟨Nat.le_of_ble_eq_true rfl, Nat.le_of_ble_eq_true rfl⟩) hP hS hX rfl rfl rfl rfl hl.1 rfl (Nat.le_of_ble_eq_true rfl) dX0_clear_37 ⟨Nat.le_of_ble_eq_true rfl, Nat.le_of_ble_eq_true rfl⟩ (fun H locs hP hS => ?_)
  have hP : PD D A [bl_X0 cy A_a z_7 z_8 z_9 z_10 z_11 a_fled a_liked a_votes a_count a_living a_pride a_quota a_melted a_lost] H := hP
  refine lv_aload_n hx hb dX0_clear_40 rfl (lv_at hl 0 rfl) ?_
  refine xget (i := 0) (j := 0) (k := 5) (T := TX0) hx hb ht tb_iX0 hown hX hP.1 rfl rfl rfl (by decide) tb_50 rfl dX0_clear_41 ?_
  refine lv_iconst (v := 0) hx hb dX0_clear_44 (by decide) ?_
  obtain ⟨z_12, e_z_12, h⟩ := bi h
  refine efAv (i := 0) (j := 6) (rest := []) ⟨hx, hb, hml, hown, ht⟩ (c_J7_fill_53178 l D cy fu (A_a 6) 8 a_fled 0 z_12 e_z_12 _ rfl _ rfl) (cS ht ms_J7_fill_53178 tb_615 rfl rfl ⟨Nat.le_of_ble_eq_true rfl, Nat.le_of_ble_eq_true rfl⟩) hP hS hX rfl rfl rfl rfl hl.1 rfl (Nat.le_of_ble_eq_true rfl) dX0_clear_45 ⟨Nat.le_of_ble_eq_true rfl, Nat.le_of_ble_eq_true rfl⟩ (fun H locs hP hS => ?_)
  have hP : PD D A [bl_X0 cy A_a z_7 z_8 z_9 z_10 z_11 z_12 a_liked a_votes a_count a_living a_pride a_quota a_melted a_lost] H := hP
  refine lv_aload_n hx hb dX0_clear_48 rfl (lv_at hl 0 rfl) ?_
  refine lv_iconst (v := 0) hx hb dX0_clear_49 (by decide) ?_
  refine xput (i := 0) (j := 0) (k := 8) (T := TX0) tyX0 tyX0_ok nmX0 hx hb ht tb_iX0 hown hX hP hS rfl rfl rfl (by decide) tb_55 rfl rfl rfl (Nat.le_of_ble_eq_true rfl) dX0_clear_50 (fun H locs hP hS => ?_)
  have hP : PD D A [bl_X0 cy A_a z_7 z_8 z_9 z_10 z_11 z_12 a_liked a_votes 0 a_living a_pride a_quota a_melted a_lost] H := hP
  refine lv_aload_n hx hb dX0_clear_53 rfl (lv_at hl 0 rfl) ?_
  refine lv_iconst (v := 0) hx hb dX0_clear_54 (by decide) ?_
  refine xput (i := 0) (j := 0) (k := 9) (T := TX0) tyX0 tyX0_ok nmX0 hx hb ht tb_iX0 hown hX hP hS rfl rfl rfl (by decide) tb_61 rfl rfl rfl (Nat.le_of_ble_eq_true rfl) dX0_clear_55 (fun H locs hP hS => ?_)
  have hP : PD D A [bl_X0 cy A_a z_7 z_8 z_9 z_10 z_11 z_12 a_liked a_votes 0 0 a_pride a_quota a_melted a_lost] H := hP
  refine lv_aload_n hx hb dX0_clear_58 rfl (lv_at hl 0 rfl) ?_
  refine lv_iconst (v := 1) hx hb dX0_clear_59 (by decide) ?_
  refine xput (i := 0) (j := 0) (k := 10) (T := TX0) tyX0 tyX0_ok nmX0 hx hb ht tb_iX0 hown hX hP hS rfl rfl rfl (by decide) tb_65 rfl rfl rfl (Nat.le_of_ble_eq_true rfl) dX0_clear_60 (fun H locs hP hS => ?_)
  have hP : PD D A [bl_X0 cy A_a z_7 z_8 z_9 z_10 z_11 z_12 a_liked a_votes 0 0 1 a_quota a_melted a_lost] H := hP
  refine lv_aload_n hx hb dX0_clear_63 rfl (lv_at hl 0 rfl) ?_
  refine lv_bipush (v := 50) hx hb dX0_clear_64 (by decide) ?_
  refine xput (i := 0) (j := 0) (k := 11) (T := TX0) tyX0 tyX0_ok nmX0 hx hb ht tb_iX0 hown hX hP hS rfl rfl rfl (by decide) tb_68 rfl rfl rfl (Nat.le_of_ble_eq_true rfl) dX0_clear_66 (fun H locs hP hS => ?_)
  have hP : PD D A [bl_X0 cy A_a z_7 z_8 z_9 z_10 z_11 z_12 a_liked a_votes 0 0 1 50 a_melted a_lost] H := hP
  refine lv_aload_n hx hb dX0_clear_69 rfl (lv_at hl 0 rfl) ?_
  refine lv_iconst (v := 0) hx hb dX0_clear_70 (by decide) ?_
  refine xput (i := 0) (j := 0) (k := 12) (T := TX0) tyX0 tyX0_ok nmX0 hx hb ht tb_iX0 hown hX hP hS rfl rfl rfl (by decide) tb_71 rfl rfl rfl (Nat.le_of_ble_eq_true rfl) dX0_clear_71 (fun H locs hP hS => ?_)
  have hP : PD D A [bl_X0 cy A_a z_7 z_8 z_9 z_10 z_11 z_12 a_liked a_votes 0 0 1 50 0 a_lost] H := hP
  refine lv_aload_n hx hb dX0_clear_74 rfl (lv_at hl 0 rfl) ?_
  refine lv_iconst (v := 0) hx hb dX0_clear_75 (by decide) ?_
  refine xput (i := 0) (j := 0) (k := 13) (T := TX0) tyX0 tyX0_ok nmX0 hx hb ht tb_iX0 hown hX hP hS rfl rfl rfl (by decide) tb_73 rfl rfl rfl (Nat.le_of_ble_eq_true rfl) dX0_clear_76 (fun H locs hP hS => ?_)
  have hP : PD D A [bl_X0 cy A_a z_7 z_8 z_9 z_10 z_11 z_12 a_liked a_votes 0 0 1 50 0 0] H := hP
  cases h
  subst hW1
  exact W.vret hx hb hr (fun _ ht9 _ => ⟨⟨(), rfl, trivial, hPt ht9 hP.1⟩, hS.F ht9⟩) hS.2.2 dX0_clear_79
theorem dX0_become_0 : decode cX0_become 0 = .ok (.aload_n 1, 1) := by decide +kernel
theorem dX0_become_1 : decode cX0_become 1 = .ok (.getfield 9, 3) := by decide +kernel
theorem dX0_become_4 : decode cX0_become 4 = .ok (.iconst 0, 1) := by decide +kernel
theorem dX0_become_5 : decode cX0_become 5 = .ok (.aload_n 0, 1) := by decide +kernel
theorem dX0_become_6 : decode cX0_become 6 = .ok (.getfield 9, 3) := by decide +kernel
theorem dX0_become_9 : decode cX0_become 9 = .ok (.iconst 0, 1) := by decide +kernel
theorem dX0_become_10 : decode cX0_become 10 = .ok (.bipush 8, 2) := by decide +kernel
theorem dX0_become_12 : decode cX0_become 12 = .ok (.invokestatic 65, 3) := by decide +kernel
theorem dX0_become_15 : decode cX0_become 15 = .ok (.aload_n 1, 1) := by decide +kernel
theorem dX0_become_16 : decode cX0_become 16 = .ok (.getfield 15, 3) := by decide +kernel
theorem dX0_become_19 : decode cX0_become 19 = .ok (.iconst 0, 1) := by decide +kernel
theorem dX0_become_20 : decode cX0_become 20 = .ok (.aload_n 0, 1) := by decide +kernel
theorem dX0_become_21 : decode cX0_become 21 = .ok (.getfield 15, 3) := by decide +kernel
theorem dX0_become_24 : decode cX0_become 24 = .ok (.iconst 0, 1) := by decide +kernel
theorem dX0_become_25 : decode cX0_become 25 = .ok (.bipush 8, 2) := by decide +kernel
theorem dX0_become_27 : decode cX0_become 27 = .ok (.invokestatic 65, 3) := by decide +kernel
theorem dX0_become_30 : decode cX0_become 30 = .ok (.aload_n 1, 1) := by decide +kernel
theorem dX0_become_31 : decode cX0_become 31 = .ok (.getfield 19, 3) := by decide +kernel
theorem dX0_become_34 : decode cX0_become 34 = .ok (.iconst 0, 1) := by decide +kernel
theorem dX0_become_35 : decode cX0_become 35 = .ok (.aload_n 0, 1) := by decide +kernel
theorem dX0_become_36 : decode cX0_become 36 = .ok (.getfield 19, 3) := by decide +kernel
theorem dX0_become_39 : decode cX0_become 39 = .ok (.iconst 0, 1) := by decide +kernel
theorem dX0_become_40 : decode cX0_become 40 = .ok (.bipush 8, 2) := by decide +kernel
theorem dX0_become_42 : decode cX0_become 42 = .ok (.invokestatic 65, 3) := by decide +kernel
theorem dX0_become_45 : decode cX0_become 45 = .ok (.aload_n 1, 1) := by decide +kernel
theorem dX0_become_46 : decode cX0_become 46 = .ok (.getfield 22, 3) := by decide +kernel
theorem dX0_become_49 : decode cX0_become 49 = .ok (.iconst 0, 1) := by decide +kernel
theorem dX0_become_50 : decode cX0_become 50 = .ok (.aload_n 0, 1) := by decide +kernel
theorem dX0_become_51 : decode cX0_become 51 = .ok (.getfield 22, 3) := by decide +kernel
theorem dX0_become_54 : decode cX0_become 54 = .ok (.iconst 0, 1) := by decide +kernel
theorem dX0_become_55 : decode cX0_become 55 = .ok (.bipush 8, 2) := by decide +kernel
theorem dX0_become_57 : decode cX0_become 57 = .ok (.invokestatic 65, 3) := by decide +kernel
theorem dX0_become_60 : decode cX0_become 60 = .ok (.aload_n 1, 1) := by decide +kernel
theorem dX0_become_61 : decode cX0_become 61 = .ok (.getfield 25, 3) := by decide +kernel
theorem dX0_become_64 : decode cX0_become 64 = .ok (.iconst 0, 1) := by decide +kernel
theorem dX0_become_65 : decode cX0_become 65 = .ok (.aload_n 0, 1) := by decide +kernel
theorem dX0_become_66 : decode cX0_become 66 = .ok (.getfield 25, 3) := by decide +kernel
theorem dX0_become_69 : decode cX0_become 69 = .ok (.iconst 0, 1) := by decide +kernel
theorem dX0_become_70 : decode cX0_become 70 = .ok (.bipush 8, 2) := by decide +kernel
theorem dX0_become_72 : decode cX0_become 72 = .ok (.invokestatic 65, 3) := by decide +kernel
theorem dX0_become_75 : decode cX0_become 75 = .ok (.aload_n 1, 1) := by decide +kernel
theorem dX0_become_76 : decode cX0_become 76 = .ok (.getfield 28, 3) := by decide +kernel
theorem dX0_become_79 : decode cX0_become 79 = .ok (.iconst 0, 1) := by decide +kernel
theorem dX0_become_80 : decode cX0_become 80 = .ok (.aload_n 0, 1) := by decide +kernel
theorem dX0_become_81 : decode cX0_become 81 = .ok (.getfield 28, 3) := by decide +kernel
theorem dX0_become_84 : decode cX0_become 84 = .ok (.iconst 0, 1) := by decide +kernel
theorem dX0_become_85 : decode cX0_become 85 = .ok (.bipush 8, 2) := by decide +kernel
theorem dX0_become_87 : decode cX0_become 87 = .ok (.invokestatic 65, 3) := by decide +kernel
theorem dX0_become_90 : decode cX0_become 90 = .ok (.aload_n 1, 1) := by decide +kernel
theorem dX0_become_91 : decode cX0_become 91 = .ok (.getfield 31, 3) := by decide +kernel
theorem dX0_become_94 : decode cX0_become 94 = .ok (.iconst 0, 1) := by decide +kernel
theorem dX0_become_95 : decode cX0_become 95 = .ok (.aload_n 0, 1) := by decide +kernel
theorem dX0_become_96 : decode cX0_become 96 = .ok (.getfield 31, 3) := by decide +kernel
theorem dX0_become_99 : decode cX0_become 99 = .ok (.iconst 0, 1) := by decide +kernel
theorem dX0_become_100 : decode cX0_become 100 = .ok (.bipush 64, 2) := by decide +kernel
theorem dX0_become_102 : decode cX0_become 102 = .ok (.invokestatic 65, 3) := by decide +kernel
theorem dX0_become_105 : decode cX0_become 105 = .ok (.aload_n 0, 1) := by decide +kernel
theorem dX0_become_106 : decode cX0_become 106 = .ok (.aload_n 1, 1) := by decide +kernel
theorem dX0_become_107 : decode cX0_become 107 = .ok (.getfield 37, 3) := by decide +kernel
theorem dX0_become_110 : decode cX0_become 110 = .ok (.putfield 37, 3) := by decide +kernel
theorem dX0_become_113 : decode cX0_become 113 = .ok (.aload_n 0, 1) := by decide +kernel
theorem dX0_become_114 : decode cX0_become 114 = .ok (.aload_n 1, 1) := by decide +kernel
theorem dX0_become_115 : decode cX0_become 115 = .ok (.getfield 41, 3) := by decide +kernel
theorem dX0_become_118 : decode cX0_become 118 = .ok (.putfield 41, 3) := by decide +kernel
theorem dX0_become_121 : decode cX0_become 121 = .ok (.aload_n 0, 1) := by decide +kernel
theorem dX0_become_122 : decode cX0_become 122 = .ok (.aload_n 1, 1) := by decide +kernel
theorem dX0_become_123 : decode cX0_become 123 = .ok (.getfield 44, 3) := by decide +kernel
theorem dX0_become_126 : decode cX0_become 126 = .ok (.putfield 44, 3) := by decide +kernel
theorem dX0_become_129 : decode cX0_become 129 = .ok (.aload_n 0, 1) := by decide +kernel
theorem dX0_become_130 : decode cX0_become 130 = .ok (.aload_n 1, 1) := by decide +kernel
theorem dX0_become_131 : decode cX0_become 131 = .ok (.getfield 47, 3) := by decide +kernel
theorem dX0_become_134 : decode cX0_become 134 = .ok (.putfield 47, 3) := by decide +kernel
theorem dX0_become_137 : decode cX0_become 137 = .ok (.aload_n 0, 1) := by decide +kernel
theorem dX0_become_138 : decode cX0_become 138 = .ok (.aload_n 1, 1) := by decide +kernel
theorem dX0_become_139 : decode cX0_become 139 = .ok (.getfield 50, 3) := by decide +kernel
theorem dX0_become_142 : decode cX0_become 142 = .ok (.putfield 50, 3) := by decide +kernel
theorem dX0_become_145 : decode cX0_become 145 = .ok (.aload_n 0, 1) := by decide +kernel
theorem dX0_become_146 : decode cX0_become 146 = .ok (.aload_n 1, 1) := by decide +kernel
theorem dX0_become_147 : decode cX0_become 147 = .ok (.getfield 53, 3) := by decide +kernel
theorem dX0_become_150 : decode cX0_become 150 = .ok (.putfield 53, 3) := by decide +kernel
theorem dX0_become_153 : decode cX0_become 153 = .ok (.return_, 1) := by decide +kernel
theorem mv_X0_become : MV yX0_become RX0 cX0_become 2 none 1 := ⟨tb_690, tb_688, tb_689, tb_2, by decide +kernel, by decide +kernel, by decide +kernel⟩
def f_X0_become (fu : Nat) (a_name : Nat → Int64) (a_courage : Nat → Int32) (a_weight : Nat → Int32) (a_medals : Nat → Int32) (a_stood : Nat → Int32) (a_fled : Nat → Int32) (a_liked : Nat → Int32) (a_count : Int32) (a_living : Int32) (a_pride : Int32) (a_quota : Int32) (a_melted : Int32) (a_lost : Int32) (o_name : Nat → Int64) (o_courage : Nat → Int32) (o_weight : Nat → Int32) (o_medals : Nat → Int32) (o_stood : Nat → Int32) (o_fled : Nat → Int32) (o_liked : Nat → Int32) (o_count : Int32) (o_living : Int32) (o_pride : Int32) (o_quota : Int32) (o_melted : Int32) (o_lost : Int32) : Option ((Nat → Int64) × (Nat → Int32) × (Nat → Int32) × (Nat → Int32) × (Nat → Int32) × (Nat → Int32) × (Nat → Int32) × Int32 × Int32 × Int32 × Int32 × Int32 × Int32) := (cpJ o_name 8 a_name 8 0 0 8).bind fun a_name_8 => (cpI o_courage 8 a_courage 8 0 0 8).bind fun a_courage_9 => (cpI o_weight 8 a_weight 8 0 0 8).bind fun a_weight_10 => (cpI o_medals 8 a_medals 8 0 0 8).bind fun a_medals_11 => (cpI o_stood 8 a_stood 8 0 0 8).bind fun a_stood_12 => (cpI o_fled 8 a_fled 8 0 0 8).bind fun a_fled_13 => (cpI o_liked 64 a_liked 64 0 0 64).bind fun a_liked_14 => some (a_name_8, a_courage_9, a_weight_10, a_medals_11, a_stood_12, a_fled_13, a_liked_14, o_count, o_living, o_pride, o_quota, o_melted, o_lost)
abbrev rm_X0_become : Room := { frames := 1, cells := 0, slots := 0, locals := 60 }
set_option maxHeartbeats 4000000 in
set_option maxRecDepth 100000 in
theorem c_X0_become (l : Launch) (D : va_G) (cy : Nat → ClassId) (fu : Nat) (A_a : Nat → Nat) (a_name : Nat → Int64) (a_courage : Nat → Int32) (a_weight : Nat → Int32) (a_medals : Nat → Int32) (a_stood : Nat → Int32) (a_fled : Nat → Int32) (a_liked : Nat → Int32) (a_votes : Nat → Int32) (a_count : Int32) (a_living : Int32) (a_pride : Int32) (a_quota : Int32) (a_melted : Int32) (a_lost : Int32) (A_o : Nat → Nat) (o_name : Nat → Int64) (o_courage : Nat → Int32) (o_weight : Nat → Int32) (o_medals : Nat → Int32) (o_stood : Nat → Int32) (o_fled : Nat → Int32) (o_liked : Nat → Int32) (o_votes : Nat → Int32) (o_count : Int32) (o_living : Int32) (o_pride : Int32) (o_quota : Int32) (o_melted : Int32) (o_lost : Int32) (res : (Nat → Int64) × (Nat → Int32) × (Nat → Int32) × (Nat → Int32) × (Nat → Int32) × (Nat → Int32) × (Nat → Int32) × Int32 × Int32 × Int32 × Int32 × Int32 × Int32) (h : f_X0_become fu a_name a_courage a_weight a_medals a_stood a_fled a_liked a_count a_living a_pride a_quota a_melted a_lost o_name o_courage o_weight o_medals o_stood o_fled o_liked o_count o_living o_pride o_quota o_melted o_lost = some res) (A : Nat → Prop) (hA : A = adr [bl_X0 cy A_a a_name a_courage a_weight a_medals a_stood a_fled a_liked a_votes a_count a_living a_pride a_quota a_melted a_lost, bl_X0 cy A_o o_name o_courage o_weight o_medals o_stood o_fled o_liked o_votes o_count o_living o_pride o_quota o_melted o_lost]) (W1 : List va_W) (hW1 : W1 = [bl_X0 cy A_a res.1 res.2.1 res.2.2.1 res.2.2.2.1 res.2.2.2.2.1 res.2.2.2.2.2.1 res.2.2.2.2.2.2.1 a_votes res.2.2.2.2.2.2.2.1 res.2.2.2.2.2.2.2.2.1 res.2.2.2.2.2.2.2.2.2.1 res.2.2.2.2.2.2.2.2.2.2.1 res.2.2.2.2.2.2.2.2.2.2.2.1 res.2.2.2.2.2.2.2.2.2.2.2.2, bl_X0 cy A_o o_name o_courage o_weight o_medals o_stood o_fled o_liked o_votes o_count o_living o_pride o_quota o_melted o_lost]) : Met l yX0_become (WW yX0_become cX0_become 2 none) rm_X0_become (Ed D cy [.ref (A_a 0), .ref (A_o 0)] [bl_X0 cy A_a a_name a_courage a_weight a_medals a_stood a_fled a_liked a_votes a_count a_living a_pride a_quota a_melted a_lost, bl_X0 cy A_o o_name o_courage o_weight o_medals o_stood o_fled o_liked o_votes o_count o_living o_pride o_quota o_melted o_lost]) (Qev D A W1) 0 0 A := by
  refine Met.ofW (cc := cX0_become) (maxL := 2) (ret := none) (by decide) rfl ?_
  intro p e s m args below meth c s₁ B hml hv
  obtain ⟨hargs, hP, hX, hD0⟩ := hv
  have hx := B.exec
  have hb := B.bytes
  have hr := B.returns
  have ht : ∀ w ∈ lw_gd, w.before args s = true := fun w hw => atoms_spec (ws := WW yX0_become cX0_become 2 none) B.pre w (List.mem_cons_of_mem _ hw)
  have hown : s.vm.findClass RX0 = some m.cls := findClass_of_methodNamed B.named
  have hlocks := B.notSynchronized
  have hP : PD D A [bl_X0 cy A_a a_name a_courage a_weight a_medals a_stood a_fled a_liked a_votes a_count a_living a_pride a_quota a_melted a_lost, bl_X0 cy A_o o_name o_courage o_weight o_medals o_stood o_fled o_liked o_votes o_count o_living o_pride o_quota o_melted o_lost] s.heap := ⟨hP, by rw [hA]; exact hD0.own⟩
  have hS : va_S A s.heap s.heap [] := va_S.rf
  obtain ⟨ls, hl, hent⟩ := ent (m := m) (n := 2) hargs (Nat.le_of_ble_eq_true rfl) (lv := [(0, .ref (A_a 0)), (1, .ref (A_o 0))]) rfl
  rw [hent]
  clear hent
  unfold f_X0_become at h
  refine lv_aload_n hx hb dX0_become_0 rfl (lv_at hl 1 rfl) ?_
  refine xget (i := 1) (j := 0) (k := 0) (T := TX0) hx hb ht tb_iX0 hown hX hP.1 rfl rfl rfl (by decide) tb_38 rfl dX0_become_1 ?_
  refine lv_iconst (v := 0) hx hb dX0_become_4 (by decide) ?_
  refine lv_aload_n hx hb dX0_become_5 rfl (lv_at hl 0 rfl) ?_
  refine xget (i := 0) (j := 0) (k := 0) (T := TX0) hx hb ht tb_iX0 hown hX hP.1 rfl rfl rfl (by decide) tb_38 rfl dX0_become_6 ?_
  refine lv_iconst (v := 0) hx hb dX0_become_9 (by decide) ?_
  refine lv_bipush (v := 8) hx hb dX0_become_10 (by decide) ?_
  obtain ⟨a_name_8, e_a_name_8, h⟩ := bi h
  refine xcpJ (i0 := 1) (j0 := 1) (i1 := 0) (j1 := 1) hx hb (hml.trans hl.1.symm) hown (ht _ tb_691) (ht _ tb_557) (ht _ tb_556) (ht _ tb_18) hX hP hS rfl rfl rfl rfl e_a_name_8 (Nat.le_of_ble_eq_true rfl) (Nat.le_of_ble_eq_true rfl) dX0_become_12 (fun H locs hP hS => ?_)
  have hP : PD D A [bl_X0 cy A_a a_name_8 a_courage a_weight a_medals a_stood a_fled a_liked a_votes a_count a_living a_pride a_quota a_melted a_lost, bl_X0 cy A_o o_name o_courage o_weight o_medals o_stood o_fled o_liked o_votes o_count o_living o_pride o_quota o_melted o_lost] H := hP
  refine lv_aload_n hx hb dX0_become_15 rfl (lv_at hl 1 rfl) ?_
  refine xget (i := 1) (j := 0) (k := 1) (T := TX0) hx hb ht tb_iX0 hown hX hP.1 rfl rfl rfl (by decide) tb_39 rfl dX0_become_16 ?_
  refine lv_iconst (v := 0) hx hb dX0_become_19 (by decide) ?_
  refine lv_aload_n hx hb dX0_become_20 rfl (lv_at hl 0 rfl) ?_
  refine xget (i := 0) (j := 0) (k := 1) (T := TX0) hx hb ht tb_iX0 hown hX hP.1 rfl rfl rfl (by decide) tb_39 rfl dX0_become_21 ?_
  refine lv_iconst (v := 0) hx hb dX0_become_24 (by decide) ?_
  refine lv_bipush (v := 8) hx hb dX0_become_25 (by decide) ?_
  obtain ⟨a_courage_9, e_a_courage_9, h⟩ := bi h
  refine xcpI (i0 := 1) (j0 := 2) (i1 := 0) (j1 := 2) hx hb (hml.trans hl.1.symm) hown (ht _ tb_691) (ht _ tb_557) (ht _ tb_556) (ht _ tb_18) hX hP hS rfl rfl rfl rfl e_a_courage_9 (Nat.le_of_ble_eq_true rfl) (Nat.le_of_ble_eq_true rfl) dX0_become_27 (fun H locs hP hS => ?_)
  have hP : PD D A [bl_X0 cy A_a a_name_8 a_courage_9 a_weight a_medals a_stood a_fled a_liked a_votes a_count a_living a_pride a_quota a_melted a_lost, bl_X0 cy A_o o_name o_courage o_weight o_medals o_stood o_fled o_liked o_votes o_count o_living o_pride o_quota o_melted o_lost] H := hP
  refine lv_aload_n hx hb dX0_become_30 rfl (lv_at hl 1 rfl) ?_
  refine xget (i := 1) (j := 0) (k := 2) (T := TX0) hx hb ht tb_iX0 hown hX hP.1 rfl rfl rfl (by decide) tb_41 rfl dX0_become_31 ?_
  refine lv_iconst (v := 0) hx hb dX0_become_34 (by decide) ?_
  refine lv_aload_n hx hb dX0_become_35 rfl (lv_at hl 0 rfl) ?_
  refine xget (i := 0) (j := 0) (k := 2) (T := TX0) hx hb ht tb_iX0 hown hX hP.1 rfl rfl rfl (by decide) tb_41 rfl dX0_become_36 ?_
  refine lv_iconst (v := 0) hx hb dX0_become_39 (by decide) ?_
  refine lv_bipush (v := 8) hx hb dX0_become_40 (by decide) ?_
  obtain ⟨a_weight_10, e_a_weight_10, h⟩ := bi h
  refine xcpI (i0 := 1) (j0 := 3) (i1 := 0) (j1 := 3) hx hb (hml.trans hl.1.symm) hown (ht _ tb_691) (ht _ tb_557) (ht _ tb_556) (ht _ tb_18) hX hP hS rfl rfl rfl rfl e_a_weight_10 (Nat.le_of_ble_eq_true rfl) (Nat.le_of_ble_eq_true rfl) dX0_become_42 (fun H locs hP hS => ?_)
  have hP : PD D A [bl_X0 cy A_a a_name_8 a_courage_9 a_weight_10 a_medals a_stood a_fled a_liked a_votes a_count a_living a_pride a_quota a_melted a_lost, bl_X0 cy A_o o_name o_courage o_weight o_medals o_stood o_fled o_liked o_votes o_count o_living o_pride o_quota o_melted o_lost] H := hP
  refine lv_aload_n hx hb dX0_become_45 rfl (lv_at hl 1 rfl) ?_
  refine xget (i := 1) (j := 0) (k := 3) (T := TX0) hx hb ht tb_iX0 hown hX hP.1 rfl rfl rfl (by decide) tb_43 rfl dX0_become_46 ?_
  refine lv_iconst (v := 0) hx hb dX0_become_49 (by decide) ?_
  refine lv_aload_n hx hb dX0_become_50 rfl (lv_at hl 0 rfl) ?_
  refine xget (i := 0) (j := 0) (k := 3) (T := TX0) hx hb ht tb_iX0 hown hX hP.1 rfl rfl rfl (by decide) tb_43 rfl dX0_become_51 ?_
  refine lv_iconst (v := 0) hx hb dX0_become_54 (by decide) ?_
  refine lv_bipush (v := 8) hx hb dX0_become_55 (by decide) ?_
  obtain ⟨a_medals_11, e_a_medals_11, h⟩ := bi h
  refine xcpI (i0 := 1) (j0 := 4) (i1 := 0) (j1 := 4) hx hb (hml.trans hl.1.symm) hown (ht _ tb_691) (ht _ tb_557) (ht _ tb_556) (ht _ tb_18) hX hP hS rfl rfl rfl rfl e_a_medals_11 (Nat.le_of_ble_eq_true rfl) (Nat.le_of_ble_eq_true rfl) dX0_become_57 (fun H locs hP hS => ?_)
  have hP : PD D A [bl_X0 cy A_a a_name_8 a_courage_9 a_weight_10 a_medals_11 a_stood a_fled a_liked a_votes a_count a_living a_pride a_quota a_melted a_lost, bl_X0 cy A_o o_name o_courage o_weight o_medals o_stood o_fled o_liked o_votes o_count o_living o_pride o_quota o_melted o_lost] H := hP
  refine lv_aload_n hx hb dX0_become_60 rfl (lv_at hl 1 rfl) ?_
  refine xget (i := 1) (j := 0) (k := 4) (T := TX0) hx hb ht tb_iX0 hown hX hP.1 rfl rfl rfl (by decide) tb_48 rfl dX0_become_61 ?_
  refine lv_iconst (v := 0) hx hb dX0_become_64 (by decide) ?_
  refine lv_aload_n hx hb dX0_become_65 rfl (lv_at hl 0 rfl) ?_
  refine xget (i := 0) (j := 0) (k := 4) (T := TX0) hx hb ht tb_iX0 hown hX hP.1 rfl rfl rfl (by decide) tb_48 rfl dX0_become_66 ?_
  refine lv_iconst (v := 0) hx hb dX0_become_69 (by decide) ?_
  refine lv_bipush (v := 8) hx hb dX0_become_70 (by decide) ?_
  obtain ⟨a_stood_12, e_a_stood_12, h⟩ := bi h
  refine xcpI (i0 := 1) (j0 := 5) (i1 := 0) (j1 := 5) hx hb (hml.trans hl.1.symm) hown (ht _ tb_691) (ht _ tb_557) (ht _ tb_556) (ht _ tb_18) hX hP hS rfl rfl rfl rfl e_a_stood_12 (Nat.le_of_ble_eq_true rfl) (Nat.le_of_ble_eq_true rfl) dX0_become_72 (fun H locs hP hS => ?_)
  have hP : PD D A [bl_X0 cy A_a a_name_8 a_courage_9 a_weight_10 a_medals_11 a_stood_12 a_fled a_liked a_votes a_count a_living a_pride a_quota a_melted a_lost, bl_X0 cy A_o o_name o_courage o_weight o_medals o_stood o_fled o_liked o_votes o_count o_living o_pride o_quota o_melted o_lost] H := hP
  refine lv_aload_n hx hb dX0_become_75 rfl (lv_at hl 1 rfl) ?_
  refine xget (i := 1) (j := 0) (k := 5) (T := TX0) hx hb ht tb_iX0 hown hX hP.1 rfl rfl rfl (by decide) tb_50 rfl dX0_become_76 ?_
  refine lv_iconst (v := 0) hx hb dX0_become_79 (by decide) ?_
  refine lv_aload_n hx hb dX0_become_80 rfl (lv_at hl 0 rfl) ?_
  refine xget (i := 0) (j := 0) (k := 5) (T := TX0) hx hb ht tb_iX0 hown hX hP.1 rfl rfl rfl (by decide) tb_50 rfl dX0_become_81 ?_
  refine lv_iconst (v := 0) hx hb dX0_become_84 (by decide) ?_
  refine lv_bipush (v := 8) hx hb dX0_become_85 (by decide) ?_
  obtain ⟨a_fled_13, e_a_fled_13, h⟩ := bi h
  refine xcpI (i0 := 1) (j0 := 6) (i1 := 0) (j1 := 6) hx hb (hml.trans hl.1.symm) hown (ht _ tb_691) (ht _ tb_557) (ht _ tb_556) (ht _ tb_18) hX hP hS rfl rfl rfl rfl e_a_fled_13 (Nat.le_of_ble_eq_true rfl) (Nat.le_of_ble_eq_true rfl) dX0_become_87 (fun H locs hP hS => ?_)
  have hP : PD D A [bl_X0 cy A_a a_name_8 a_courage_9 a_weight_10 a_medals_11 a_stood_12 a_fled_13 a_liked a_votes a_count a_living a_pride a_quota a_melted a_lost, bl_X0 cy A_o o_name o_courage o_weight o_medals o_stood o_fled o_liked o_votes o_count o_living o_pride o_quota o_melted o_lost] H := hP
  refine lv_aload_n hx hb dX0_become_90 rfl (lv_at hl 1 rfl) ?_
  refine xget (i := 1) (j := 0) (k := 6) (T := TX0) hx hb ht tb_iX0 hown hX hP.1 rfl rfl rfl (by decide) tb_53 rfl dX0_become_91 ?_
  refine lv_iconst (v := 0) hx hb dX0_become_94 (by decide) ?_
  refine lv_aload_n hx hb dX0_become_95 rfl (lv_at hl 0 rfl) ?_
  refine xget (i := 0) (j := 0) (k := 6) (T := TX0) hx hb ht tb_iX0 hown hX hP.1 rfl rfl rfl (by decide) tb_53 rfl dX0_become_96 ?_
  refine lv_iconst (v := 0) hx hb dX0_become_99 (by decide) ?_
  refine lv_bipush (v := 64) hx hb dX0_become_100 (by decide) ?_
  obtain ⟨a_liked_14, e_a_liked_14, h⟩ := bi h
  refine xcpI (i0 := 1) (j0 := 7) (i1 := 0) (j1 := 7) hx hb (hml.trans hl.1.symm) hown (ht _ tb_691) (ht _ tb_557) (ht _ tb_556) (ht _ tb_18) hX hP hS rfl rfl rfl rfl e_a_liked_14 (Nat.le_of_ble_eq_true rfl) (Nat.le_of_ble_eq_true rfl) dX0_become_102 (fun H locs hP hS => ?_)
  have hP : PD D A [bl_X0 cy A_a a_name_8 a_courage_9 a_weight_10 a_medals_11 a_stood_12 a_fled_13 a_liked_14 a_votes a_count a_living a_pride a_quota a_melted a_lost, bl_X0 cy A_o o_name o_courage o_weight o_medals o_stood o_fled o_liked o_votes o_count o_living o_pride o_quota o_melted o_lost] H := hP
  refine lv_aload_n hx hb dX0_become_105 rfl (lv_at hl 0 rfl) ?_
  refine lv_aload_n hx hb dX0_become_106 rfl (lv_at hl 1 rfl) ?_
  refine xget (i := 1) (j := 0) (k := 8) (T := TX0) hx hb ht tb_iX0 hown hX hP.1 rfl rfl rfl (by decide) tb_55 rfl dX0_become_107 ?_
  refine xput (i := 0) (j := 0) (k := 8) (T := TX0) tyX0 tyX0_ok nmX0 hx hb ht tb_iX0 hown hX hP hS rfl rfl rfl (by decide) tb_55 rfl rfl rfl (Nat.le_of_ble_eq_true rfl) dX0_become_110 (fun H locs hP hS => ?_)
  have hP : PD D A [bl_X0 cy A_a a_name_8 a_courage_9 a_weight_10 a_medals_11 a_stood_12 a_fled_13 a_liked_14 a_votes o_count a_living a_pride a_quota a_melted a_lost, bl_X0 cy A_o o_name o_courage o_weight o_medals o_stood o_fled o_liked o_votes o_count o_living o_pride o_quota o_melted o_lost] H := hP
  refine lv_aload_n hx hb dX0_become_113 rfl (lv_at hl 0 rfl) ?_
  refine lv_aload_n hx hb dX0_become_114 rfl (lv_at hl 1 rfl) ?_
  refine xget (i := 1) (j := 0) (k := 9) (T := TX0) hx hb ht tb_iX0 hown hX hP.1 rfl rfl rfl (by decide) tb_61 rfl dX0_become_115 ?_
  refine xput (i := 0) (j := 0) (k := 9) (T := TX0) tyX0 tyX0_ok nmX0 hx hb ht tb_iX0 hown hX hP hS rfl rfl rfl (by decide) tb_61 rfl rfl rfl (Nat.le_of_ble_eq_true rfl) dX0_become_118 (fun H locs hP hS => ?_)
  have hP : PD D A [bl_X0 cy A_a a_name_8 a_courage_9 a_weight_10 a_medals_11 a_stood_12 a_fled_13 a_liked_14 a_votes o_count o_living a_pride a_quota a_melted a_lost, bl_X0 cy A_o o_name o_courage o_weight o_medals o_stood o_fled o_liked o_votes o_count o_living o_pride o_quota o_melted o_lost] H := hP
  refine lv_aload_n hx hb dX0_become_121 rfl (lv_at hl 0 rfl) ?_
  refine lv_aload_n hx hb dX0_become_122 rfl (lv_at hl 1 rfl) ?_
  refine xget (i := 1) (j := 0) (k := 10) (T := TX0) hx hb ht tb_iX0 hown hX hP.1 rfl rfl rfl (by decide) tb_65 rfl dX0_become_123 ?_
  refine xput (i := 0) (j := 0) (k := 10) (T := TX0) tyX0 tyX0_ok nmX0 hx hb ht tb_iX0 hown hX hP hS rfl rfl rfl (by decide) tb_65 rfl rfl rfl (Nat.le_of_ble_eq_true rfl) dX0_become_126 (fun H locs hP hS => ?_)
  have hP : PD D A [bl_X0 cy A_a a_name_8 a_courage_9 a_weight_10 a_medals_11 a_stood_12 a_fled_13 a_liked_14 a_votes o_count o_living o_pride a_quota a_melted a_lost, bl_X0 cy A_o o_name o_courage o_weight o_medals o_stood o_fled o_liked o_votes o_count o_living o_pride o_quota o_melted o_lost] H := hP
  refine lv_aload_n hx hb dX0_become_129 rfl (lv_at hl 0 rfl) ?_
  refine lv_aload_n hx hb dX0_become_130 rfl (lv_at hl 1 rfl) ?_
  refine xget (i := 1) (j := 0) (k := 11) (T := TX0) hx hb ht tb_iX0 hown hX hP.1 rfl rfl rfl (by decide) tb_68 rfl dX0_become_131 ?_
  refine xput (i := 0) (j := 0) (k := 11) (T := TX0) tyX0 tyX0_ok nmX0 hx hb ht tb_iX0 hown hX hP hS rfl rfl rfl (by decide) tb_68 rfl rfl rfl (Nat.le_of_ble_eq_true rfl) dX0_become_134 (fun H locs hP hS => ?_)
  have hP : PD D A [bl_X0 cy A_a a_name_8 a_courage_9 a_weight_10 a_medals_11 a_stood_12 a_fled_13 a_liked_14 a_votes o_count o_living o_pride o_quota a_melted a_lost, bl_X0 cy A_o o_name o_courage o_weight o_medals o_stood o_fled o_liked o_votes o_count o_living o_pride o_quota o_melted o_lost] H := hP
  refine lv_aload_n hx hb dX0_become_137 rfl (lv_at hl 0 rfl) ?_
  refine lv_aload_n hx hb dX0_become_138 rfl (lv_at hl 1 rfl) ?_
  refine xget (i := 1) (j := 0) (k := 12) (T := TX0) hx hb ht tb_iX0 hown hX hP.1 rfl rfl rfl (by decide) tb_71 rfl dX0_become_139 ?_
  refine xput (i := 0) (j := 0) (k := 12) (T := TX0) tyX0 tyX0_ok nmX0 hx hb ht tb_iX0 hown hX hP hS rfl rfl rfl (by decide) tb_71 rfl rfl rfl (Nat.le_of_ble_eq_true rfl) dX0_become_142 (fun H locs hP hS => ?_)
  have hP : PD D A [bl_X0 cy A_a a_name_8 a_courage_9 a_weight_10 a_medals_11 a_stood_12 a_fled_13 a_liked_14 a_votes o_count o_living o_pride o_quota o_melted a_lost, bl_X0 cy A_o o_name o_courage o_weight o_medals o_stood o_fled o_liked o_votes o_count o_living o_pride o_quota o_melted o_lost] H := hP
  refine lv_aload_n hx hb dX0_become_145 rfl (lv_at hl 0 rfl) ?_
  refine lv_aload_n hx hb dX0_become_146 rfl (lv_at hl 1 rfl) ?_
  refine xget (i := 1) (j := 0) (k := 13) (T := TX0) hx hb ht tb_iX0 hown hX hP.1 rfl rfl rfl (by decide) tb_73 rfl dX0_become_147 ?_
  refine xput (i := 0) (j := 0) (k := 13) (T := TX0) tyX0 tyX0_ok nmX0 hx hb ht tb_iX0 hown hX hP hS rfl rfl rfl (by decide) tb_73 rfl rfl rfl (Nat.le_of_ble_eq_true rfl) dX0_become_150 (fun H locs hP hS => ?_)
  have hP : PD D A [bl_X0 cy A_a a_name_8 a_courage_9 a_weight_10 a_medals_11 a_stood_12 a_fled_13 a_liked_14 a_votes o_count o_living o_pride o_quota o_melted o_lost, bl_X0 cy A_o o_name o_courage o_weight o_medals o_stood o_fled o_liked o_votes o_count o_living o_pride o_quota o_melted o_lost] H := hP
  cases h
  subst hW1
  exact W.vret hx hb hr (fun _ ht9 _ => ⟨⟨(), rfl, trivial, hPt ht9 hP.1⟩, hS.F ht9⟩) hS.2.2 dX0_become_153
theorem dX11_within_0 : decode cX11_within 0 = .ok (.iload_n 0, 1) := by decide +kernel
theorem dX11_within_1 : decode cX11_within 1 = .ok (.iload_n 1, 1) := by decide +kernel
theorem dX11_within_2 : decode cX11_within 2 = .ok (.if_icmp .lt 12, 3) := by decide +kernel
theorem dX11_within_5 : decode cX11_within 5 = .ok (.iload_n 0, 1) := by decide +kernel
theorem dX11_within_6 : decode cX11_within 6 = .ok (.iload_n 2, 1) := by decide +kernel
theorem dX11_within_7 : decode cX11_within 7 = .ok (.if_icmp .gt 7, 3) := by decide +kernel
theorem dX11_within_10 : decode cX11_within 10 = .ok (.iconst 1, 1) := by decide +kernel
theorem dX11_within_11 : decode cX11_within 11 = .ok (.goto 4, 3) := by decide +kernel
theorem dX11_within_14 : decode cX11_within 14 = .ok (.iconst 0, 1) := by decide +kernel
theorem dX11_within_15 : decode cX11_within 15 = .ok (.ireturn, 1) := by decide +kernel
theorem ms_X11_within : MS yX11_within cX11_within 3 (some .boolean) 3 := ⟨tb_506, tb_505, tb_1, by decide +kernel, by decide +kernel, by decide +kernel⟩
def f_X11_within (fu : Nat) (x0 : Int32) (x1 : Int32) (x2 : Int32) : Option (Int32) := (if x0 < x1 then some (0) else (if x2 < x0 then some (0) else some (1)))
abbrev rm_X11_within : Room := { frames := 0, cells := 0, slots := 0, locals := 0 }
set_option maxHeartbeats 4000000 in
set_option maxRecDepth 100000 in
theorem c_X11_within (l : Launch) (D : va_G) (cy : Nat → ClassId) (fu : Nat) (x0 : Int32) (x1 : Int32) (x2 : Int32) (res : Int32) (h : f_X11_within fu x0 x1 x2 = some res) : Met l yX11_within (WW yX11_within cX11_within 3 (some .boolean)) rm_X11_within (Rd D cy [.int x0, .int x1, .int x2] []) (vp_Si (fun v => v = res)) 0 0 (fun _ => False) := by
  refine Met.ofW (cc := cX11_within) (maxL := 3) (ret := (some .boolean)) (by decide) rfl ?_
  intro p e s m args below meth c s₁ B hml hv
  obtain ⟨hargs, hP, hX⟩ := hv
  have hx := B.exec
  have hb := B.bytes
  have hr := B.returns
  have ht : ∀ w ∈ lw_gd, w.before args s = true := fun w hw => atoms_spec (ws := WW yX11_within cX11_within 3 (some .boolean)) B.pre w (List.mem_cons_of_mem _ hw)
  have hown : s.vm.findClass RX11 = some m.cls := findClass_of_methodNamed B.named
  have hlocks := B.notSynchronized
  have hP : PB D [] s.heap := hP
  obtain ⟨ls, hl, hent⟩ := ent (m := m) (n := 3) hargs (Nat.le_of_ble_eq_true rfl) (lv := [(0, .int x0), (1, .int x1), (2, .int x2)]) rfl
  rw [hent]
  clear hent
  unfold f_X11_within at h
  refine lv_iload_n hx hb dX11_within_0 rfl (lv_at hl 0 rfl) ?_
  refine lv_iload_n hx hb dX11_within_1 rfl (lv_at hl 1 rfl) ?_
  refine lv_icmp_lt (tgt := 14) hx hb dX11_within_2 (by decide) (fun c_3 => ?_) (fun c_3 => ?_)
  · have h := it c_3 h
    refine lv_iconst (v := 0) hx hb dX11_within_14 (by decide) ?_
    cases h
    exact W.zret hx hb hr rfl (fun _ ht9 _ => ⟨_, rfl, rfl, ht9⟩) (fun _ hq => by cases hq) dX11_within_15
  · have h := ie c_3 h
    refine lv_iload_n hx hb dX11_within_5 rfl (lv_at hl 0 rfl) ?_
    refine lv_iload_n hx hb dX11_within_6 rfl (lv_at hl 2 rfl) ?_
    refine lv_icmp_gt (tgt := 14) hx hb dX11_within_7 (by decide) (fun c_4 => ?_) (fun c_4 => ?_)
    · have h := it c_4 h
      refine lv_iconst (v := 0) hx hb dX11_within_14 (by decide) ?_
      cases h
      exact W.zret hx hb hr rfl (fun _ ht9 _ => ⟨_, rfl, rfl, ht9⟩) (fun _ hq => by cases hq) dX11_within_15
    · have h := ie c_4 h
      refine lv_iconst (v := 1) hx hb dX11_within_10 (by decide) ?_
      refine lv_goto (tgt := 15) hx hb dX11_within_11 (by decide) ?_
      cases h
      exact W.zret hx hb hr rfl (fun _ ht9 _ => ⟨_, rfl, rfl, ht9⟩) (fun _ hq => by cases hq) dX11_within_15
theorem dX0_add_0 : decode cX0_add 0 = .ok (.aload_n 0, 1) := by decide +kernel
theorem dX0_add_1 : decode cX0_add 1 = .ok (.getfield 37, 3) := by decide +kernel
theorem dX0_add_4 : decode cX0_add 4 = .ok (.iconst 0, 1) := by decide +kernel
theorem dX0_add_5 : decode cX0_add 5 = .ok (.bipush 7, 2) := by decide +kernel
theorem dX0_add_7 : decode cX0_add 7 = .ok (.invokestatic 71, 3) := by decide +kernel
theorem dX0_add_10 : decode cX0_add 10 = .ok (.ifCond .ne 5, 3) := by decide +kernel
theorem dX0_add_13 : decode cX0_add 13 = .ok (.iconst (-1), 1) := by decide +kernel
theorem dX0_add_14 : decode cX0_add 14 = .ok (.ireturn, 1) := by decide +kernel
theorem dX0_add_15 : decode cX0_add 15 = .ok (.aload_n 0, 1) := by decide +kernel
theorem dX0_add_16 : decode cX0_add 16 = .ok (.getfield 37, 3) := by decide +kernel
theorem dX0_add_19 : decode cX0_add 19 = .ok (.istore 5, 2) := by decide +kernel
theorem dX0_add_21 : decode cX0_add 21 = .ok (.aload_n 0, 1) := by decide +kernel
theorem dX0_add_22 : decode cX0_add 22 = .ok (.getfield 9, 3) := by decide +kernel
theorem dX0_add_25 : decode cX0_add 25 = .ok (.iload 5, 2) := by decide +kernel
theorem dX0_add_27 : decode cX0_add 27 = .ok (.lload_n 1, 1) := by decide +kernel
theorem dX0_add_28 : decode cX0_add 28 = .ok (.lastore, 1) := by decide +kernel
theorem dX0_add_29 : decode cX0_add 29 = .ok (.aload_n 0, 1) := by decide +kernel
theorem dX0_add_30 : decode cX0_add 30 = .ok (.getfield 15, 3) := by decide +kernel
theorem dX0_add_33 : decode cX0_add 33 = .ok (.iload 5, 2) := by decide +kernel
theorem dX0_add_35 : decode cX0_add 35 = .ok (.iload_n 3, 1) := by decide +kernel
theorem dX0_add_36 : decode cX0_add 36 = .ok (.iastore, 1) := by decide +kernel
theorem dX0_add_37 : decode cX0_add 37 = .ok (.aload_n 0, 1) := by decide +kernel
theorem dX0_add_38 : decode cX0_add 38 = .ok (.getfield 19, 3) := by decide +kernel
theorem dX0_add_41 : decode cX0_add 41 = .ok (.iload 5, 2) := by decide +kernel
theorem dX0_add_43 : decode cX0_add 43 = .ok (.iload 4, 2) := by decide +kernel
theorem dX0_add_45 : decode cX0_add 45 = .ok (.iastore, 1) := by decide +kernel
theorem dX0_add_46 : decode cX0_add 46 = .ok (.aload_n 0, 1) := by decide +kernel
theorem dX0_add_47 : decode cX0_add 47 = .ok (.getfield 22, 3) := by decide +kernel
theorem dX0_add_50 : decode cX0_add 50 = .ok (.iload 5, 2) := by decide +kernel
theorem dX0_add_52 : decode cX0_add 52 = .ok (.iconst 0, 1) := by decide +kernel
theorem dX0_add_53 : decode cX0_add 53 = .ok (.iastore, 1) := by decide +kernel
theorem dX0_add_54 : decode cX0_add 54 = .ok (.aload_n 0, 1) := by decide +kernel
theorem dX0_add_55 : decode cX0_add 55 = .ok (.getfield 25, 3) := by decide +kernel
theorem dX0_add_58 : decode cX0_add 58 = .ok (.iload 5, 2) := by decide +kernel
theorem dX0_add_60 : decode cX0_add 60 = .ok (.iconst 0, 1) := by decide +kernel
theorem dX0_add_61 : decode cX0_add 61 = .ok (.iastore, 1) := by decide +kernel
theorem dX0_add_62 : decode cX0_add 62 = .ok (.aload_n 0, 1) := by decide +kernel
theorem dX0_add_63 : decode cX0_add 63 = .ok (.getfield 28, 3) := by decide +kernel
theorem dX0_add_66 : decode cX0_add 66 = .ok (.iload 5, 2) := by decide +kernel
theorem dX0_add_68 : decode cX0_add 68 = .ok (.iconst 0, 1) := by decide +kernel
theorem dX0_add_69 : decode cX0_add 69 = .ok (.iastore, 1) := by decide +kernel
theorem dX0_add_70 : decode cX0_add 70 = .ok (.iconst 0, 1) := by decide +kernel
theorem dX0_add_71 : decode cX0_add 71 = .ok (.istore 6, 2) := by decide +kernel
theorem dX0_add_73 : decode cX0_add 73 = .ok (.iload 6, 2) := by decide +kernel
theorem dX0_add_75 : decode cX0_add 75 = .ok (.iload 5, 2) := by decide +kernel
theorem dX0_add_77 : decode cX0_add 77 = .ok (.if_icmp .ge 37, 3) := by decide +kernel
theorem dX0_add_80 : decode cX0_add 80 = .ok (.aload_n 0, 1) := by decide +kernel
theorem dX0_add_81 : decode cX0_add 81 = .ok (.getfield 31, 3) := by decide +kernel
theorem dX0_add_84 : decode cX0_add 84 = .ok (.iload 5, 2) := by decide +kernel
theorem dX0_add_86 : decode cX0_add 86 = .ok (.bipush 8, 2) := by decide +kernel
theorem dX0_add_88 : decode cX0_add 88 = .ok (.imul, 1) := by decide +kernel
theorem dX0_add_89 : decode cX0_add 89 = .ok (.iload 6, 2) := by decide +kernel
theorem dX0_add_91 : decode cX0_add 91 = .ok (.iadd, 1) := by decide +kernel
theorem dX0_add_92 : decode cX0_add 92 = .ok (.iconst 5, 1) := by decide +kernel
theorem dX0_add_93 : decode cX0_add 93 = .ok (.iastore, 1) := by decide +kernel
theorem dX0_add_94 : decode cX0_add 94 = .ok (.aload_n 0, 1) := by decide +kernel
theorem dX0_add_95 : decode cX0_add 95 = .ok (.getfield 31, 3) := by decide +kernel
theorem dX0_add_98 : decode cX0_add 98 = .ok (.iload 6, 2) := by decide +kernel
theorem dX0_add_100 : decode cX0_add 100 = .ok (.bipush 8, 2) := by decide +kernel
theorem dX0_add_102 : decode cX0_add 102 = .ok (.imul, 1) := by decide +kernel
theorem dX0_add_103 : decode cX0_add 103 = .ok (.iload 5, 2) := by decide +kernel
theorem dX0_add_105 : decode cX0_add 105 = .ok (.iadd, 1) := by decide +kernel
theorem dX0_add_106 : decode cX0_add 106 = .ok (.iconst 5, 1) := by decide +kernel
theorem dX0_add_107 : decode cX0_add 107 = .ok (.iastore, 1) := by decide +kernel
theorem dX0_add_108 : decode cX0_add 108 = .ok (.iinc 6 1, 3) := by decide +kernel
theorem dX0_add_111 : decode cX0_add 111 = .ok (.goto (-38), 3) := by decide +kernel
theorem dX0_add_114 : decode cX0_add 114 = .ok (.aload_n 0, 1) := by decide +kernel
theorem dX0_add_115 : decode cX0_add 115 = .ok (.getfield 31, 3) := by decide +kernel
theorem dX0_add_118 : decode cX0_add 118 = .ok (.iload 5, 2) := by decide +kernel
theorem dX0_add_120 : decode cX0_add 120 = .ok (.bipush 8, 2) := by decide +kernel
theorem dX0_add_122 : decode cX0_add 122 = .ok (.imul, 1) := by decide +kernel
theorem dX0_add_123 : decode cX0_add 123 = .ok (.iload 5, 2) := by decide +kernel
theorem dX0_add_125 : decode cX0_add 125 = .ok (.iadd, 1) := by decide +kernel
theorem dX0_add_126 : decode cX0_add 126 = .ok (.iconst 0, 1) := by decide +kernel
theorem dX0_add_127 : decode cX0_add 127 = .ok (.iastore, 1) := by decide +kernel
theorem dX0_add_128 : decode cX0_add 128 = .ok (.aload_n 0, 1) := by decide +kernel
theorem dX0_add_129 : decode cX0_add 129 = .ok (.dup, 1) := by decide +kernel
theorem dX0_add_130 : decode cX0_add 130 = .ok (.getfield 41, 3) := by decide +kernel
theorem dX0_add_133 : decode cX0_add 133 = .ok (.iconst 1, 1) := by decide +kernel
theorem dX0_add_134 : decode cX0_add 134 = .ok (.iload 5, 2) := by decide +kernel
theorem dX0_add_136 : decode cX0_add 136 = .ok (.ishl, 1) := by decide +kernel
theorem dX0_add_137 : decode cX0_add 137 = .ok (.ior, 1) := by decide +kernel
theorem dX0_add_138 : decode cX0_add 138 = .ok (.putfield 41, 3) := by decide +kernel
theorem dX0_add_141 : decode cX0_add 141 = .ok (.aload_n 0, 1) := by decide +kernel
theorem dX0_add_142 : decode cX0_add 142 = .ok (.dup, 1) := by decide +kernel
theorem dX0_add_143 : decode cX0_add 143 = .ok (.getfield 37, 3) := by decide +kernel
theorem dX0_add_146 : decode cX0_add 146 = .ok (.iconst 1, 1) := by decide +kernel
theorem dX0_add_147 : decode cX0_add 147 = .ok (.iadd, 1) := by decide +kernel
theorem dX0_add_148 : decode cX0_add 148 = .ok (.putfield 37, 3) := by decide +kernel
theorem dX0_add_151 : decode cX0_add 151 = .ok (.iload 5, 2) := by decide +kernel
theorem dX0_add_153 : decode cX0_add 153 = .ok (.ireturn, 1) := by decide +kernel
theorem mv_X0_add : MV yX0_add RX0 cX0_add 7 (some .int) 3 := ⟨tb_668, tb_666, tb_667, tb_2, by decide +kernel, by decide +kernel, by decide +kernel⟩
def f_X0_add_b73 (fu : Nat) (x1 : Int64) (x3 : Int32) (x4 : Int32) (k73 : (Nat → Int64) → (Nat → Int32) → (Nat → Int32) → (Nat → Int32) → (Nat → Int32) → (Nat → Int32) → (Nat → Int32) → Int32 → Int32 → Int32 → Int32 → (Option (Int32 × (Nat → Int64) × (Nat → Int32) × (Nat → Int32) × (Nat → Int32) × (Nat → Int32) × (Nat → Int32) × (Nat → Int32) × Int32 × Int32))) (a_name : Nat → Int64) (a_courage : Nat → Int32) (a_weight : Nat → Int32) (a_medals : Nat → Int32) (a_stood : Nat → Int32) (a_fled : Nat → Int32) (a_liked : Nat → Int32) (a_count : Int32) (a_living : Int32) (x5 : Int32) (x6 : Int32) : Option (Int32 × (Nat → Int64) × (Nat → Int32) × (Nat → Int32) × (Nat → Int32) × (Nat → Int32) × (Nat → Int32) × (Nat → Int32) × Int32 × Int32) := (if x5 ≤ x6 then (wrI a_liked 64 ((x5 * 8) + x5) 0).bind fun a_liked_17 => bnd (a_living ||| ((1 : Int32) <<< (x5 &&& 31))) fun a_living_18 => bnd (a_count + 1) fun a_count_19 => some (x5, a_name, a_courage, a_weight, a_medals, a_stood, a_fled, a_liked_17, a_count_19, a_living_18) else (wrI a_liked 64 ((x5 * 8) + x6) 5).bind fun a_liked_20 => (wrI a_liked_20 64 ((x6 * 8) + x5) 5).bind fun a_liked_21 => bnd (x6 + 1) fun x6_22 => k73 a_name a_courage a_weight a_medals a_stood a_fled a_liked_21 a_count a_living x5 x6_22)
def f_X0_add_l73 (fu : Nat) (x1 : Int64) (x3 : Int32) (x4 : Int32) : Nat → (Nat → Int64) → (Nat → Int32) → (Nat → Int32) → (Nat → Int32) → (Nat → Int32) → (Nat → Int32) → (Nat → Int32) → Int32 → Int32 → Int32 → Int32 → (Option (Int32 × (Nat → Int64) × (Nat → Int32) × (Nat → Int32) × (Nat → Int32) × (Nat → Int32) × (Nat → Int32) × (Nat → Int32) × Int32 × Int32))
  | 0, _, _, _, _, _, _, _, _, _, _, _ => none
  | n + 1, a_name, a_courage, a_weight, a_medals, a_stood, a_fled, a_liked, a_count, a_living, x5, x6 => f_X0_add_b73 fu x1 x3 x4 (f_X0_add_l73 fu x1 x3 x4 n) a_name a_courage a_weight a_medals a_stood a_fled a_liked a_count a_living x5 x6
def f_X0_add (fu : Nat) (a_name : Nat → Int64) (a_courage : Nat → Int32) (a_weight : Nat → Int32) (a_medals : Nat → Int32) (a_stood : Nat → Int32) (a_fled : Nat → Int32) (a_liked : Nat → Int32) (a_count : Int32) (a_living : Int32) (x1 : Int64) (x3 : Int32) (x4 : Int32) : Option (Int32 × (Nat → Int64) × (Nat → Int32) × (Nat → Int32) × (Nat → Int32) × (Nat → Int32) × (Nat → Int32) × (Nat → Int32) × Int32 × Int32) := (f_X11_within fu a_count 0 7).bind fun z_23 => (if z_23 = 0 then some ((-1), a_name, a_courage, a_weight, a_medals, a_stood, a_fled, a_liked, a_count, a_living) else (wrJ a_name 8 a_count x1).bind fun a_name_25 => (wrI a_courage 8 a_count x3).bind fun a_courage_26 => (wrI a_weight 8 a_count x4).bind fun a_weight_27 => (wrI a_medals 8 a_count 0).bind fun a_medals_28 => (wrI a_stood 8 a_count 0).bind fun a_stood_29 => (wrI a_fled 8 a_count 0).bind fun a_fled_30 => f_X0_add_l73 fu x1 x3 x4 fu a_name_25 a_courage_26 a_weight_27 a_medals_28 a_stood_29 a_fled_30 a_liked a_count a_living a_count 0)
abbrev rm_X0_add : Room := { frames := 1, cells := 0, slots := 0, locals := 22 }
set_option maxHeartbeats 4000000 in
set_option maxRecDepth 100000 in
theorem c_X0_add (l : Launch) (D : va_G) (cy : Nat → ClassId) (fu : Nat) (A_a : Nat → Nat) (a_name : Nat → Int64) (a_courage : Nat → Int32) (a_weight : Nat → Int32) (a_medals : Nat → Int32) (a_stood : Nat → Int32) (a_fled : Nat → Int32) (a_liked : Nat → Int32) (a_votes : Nat → Int32) (a_count : Int32) (a_living : Int32) (a_pride : Int32) (a_quota : Int32) (a_melted : Int32) (a_lost : Int32) (x1 : Int64) (x3 : Int32) (x4 : Int32) (res : Int32 × (Nat → Int64) × (Nat → Int32) × (Nat → Int32) × (Nat → Int32) × (Nat → Int32) × (Nat → Int32) × (Nat → Int32) × Int32 × Int32) (h : f_X0_add fu a_name a_courage a_weight a_medals a_stood a_fled a_liked a_count a_living x1 x3 x4 = some res) (A : Nat → Prop) (hA : A = adr [bl_X0 cy A_a a_name a_courage a_weight a_medals a_stood a_fled a_liked a_votes a_count a_living a_pride a_quota a_melted a_lost]) (W1 : List va_W) (hW1 : W1 = [bl_X0 cy A_a res.2.1 res.2.2.1 res.2.2.2.1 res.2.2.2.2.1 res.2.2.2.2.2.1 res.2.2.2.2.2.2.1 res.2.2.2.2.2.2.2.1 a_votes res.2.2.2.2.2.2.2.2.1 res.2.2.2.2.2.2.2.2.2 a_pride a_quota a_melted a_lost]) : Met l yX0_add (WW yX0_add cX0_add 7 (some .int)) rm_X0_add (Ed D cy [.ref (A_a 0), .long x1, .int x3, .int x4] [bl_X0 cy A_a a_name a_courage a_weight a_medals a_stood a_fled a_liked a_votes a_count a_living a_pride a_quota a_melted a_lost]) (Qei D res.1 A W1) 0 0 A := by
  refine Met.ofW (cc := cX0_add) (maxL := 7) (ret := (some .int)) (by decide) rfl ?_
  intro p e s m args below meth c s₁ B hml hv
  obtain ⟨hargs, hP, hX, hD0⟩ := hv
  have hx := B.exec
  have hb := B.bytes
  have hr := B.returns
  have ht : ∀ w ∈ lw_gd, w.before args s = true := fun w hw => atoms_spec (ws := WW yX0_add cX0_add 7 (some .int)) B.pre w (List.mem_cons_of_mem _ hw)
  have hown : s.vm.findClass RX0 = some m.cls := findClass_of_methodNamed B.named
  have hlocks := B.notSynchronized
  have hP : PD D A [bl_X0 cy A_a a_name a_courage a_weight a_medals a_stood a_fled a_liked a_votes a_count a_living a_pride a_quota a_melted a_lost] s.heap := ⟨hP, by rw [hA]; exact hD0.own⟩
  have hS : va_S A s.heap s.heap [] := va_S.rf
  obtain ⟨ls, hl, hent⟩ := ent (m := m) (n := 7) hargs (Nat.le_of_ble_eq_true rfl) (lv := [(0, .ref (A_a 0)), (1, .long x1), (3, .int x3), (4, .int x4)]) rfl
  rw [hent]
  clear hent
  have l73 : ∀ (n73 : Nat) (a_name : Nat → Int64) (a_courage : Nat → Int32) (a_weight : Nat → Int32) (a_medals : Nat → Int32) (a_stood : Nat → Int32) (a_fled : Nat → Int32) (a_liked : Nat → Int32) (a_count : Int32) (a_living : Int32) (x5 : Int32) (x6 : Int32) (H : Heap) (locs : List Loc) (_ : PD D A [bl_X0 cy A_a a_name a_courage a_weight a_medals a_stood a_fled a_liked a_votes a_count a_living a_pride a_quota a_melted a_lost] H) (_ : va_S A s.heap H locs) (ls : Array Slot), lv_has ls 7 [(0, .ref (A_a 0)), (5, .int x5), (6, .int x6)] → f_X0_add_l73 fu x1 x3 x4 n73 a_name a_courage a_weight a_medals a_stood a_fled a_liked a_count a_living x5 x6 = some res → W p l e (headSpec (WW yX0_add cX0_add 7 (some .int)) rm_X0_add).room s m args below meth c H locs 0 0 (MQ below (Qei D res.1 A W1) args s 0 0 A) (F0 m 73 ls []) := by
    intro n73
    induction n73 with
    | zero => intro a_name a_courage a_weight a_medals a_stood a_fled a_liked a_count a_living x5 x6 H locs hP hS ls hl h; cases h
    | succ n73 ih73 =>
      intro a_name a_courage a_weight a_medals a_stood a_fled a_liked a_count a_living x5 x6 H locs hP hS ls hl h
      have h : f_X0_add_b73 fu x1 x3 x4 (f_X0_add_l73 fu x1 x3 x4 n73) a_name a_courage a_weight a_medals a_stood a_fled a_liked a_count a_living x5 x6 = some res := h
      unfold f_X0_add_b73 at h
      refine lv_iload hx hb dX0_add_73 (lv_at hl 2 rfl) ?_
      refine lv_iload hx hb dX0_add_75 (lv_at hl 1 rfl) ?_
      refine lv_icmp_ge (tgt := 114) hx hb dX0_add_77 (by decide) (fun c_16 => ?_) (fun c_16 => ?_)
      · have h := it c_16 h
        refine lv_aload_n hx hb dX0_add_114 rfl (lv_at hl 0 rfl) ?_
        refine xget (i := 0) (j := 0) (k := 6) (T := TX0) hx hb ht tb_iX0 hown hX hP.1 rfl rfl rfl (by decide) tb_53 rfl dX0_add_115 ?_
        refine lv_iload hx hb dX0_add_118 (lv_at hl 1 rfl) ?_
        refine lv_bipush (v := 8) hx hb dX0_add_120 (by decide) ?_
        refine lv_imul hx hb dX0_add_122 ?_
        refine lv_iload hx hb dX0_add_123 (lv_at hl 1 rfl) ?_
        refine lv_iadd hx hb dX0_add_125 ?_
        refine lv_iconst (v := 0) hx hb dX0_add_126 (by decide) ?_
        obtain ⟨a_liked_17, e_a_liked_17, h⟩ := bi h
        refine xiast (i0 := 0) (j0 := 7) hx hb hX hP hS rfl rfl e_a_liked_17 dX0_add_127 (fun H locs hP hS => ?_)
        have hP : PD D A [bl_X0 cy A_a a_name a_courage a_weight a_medals a_stood a_fled a_liked_17 a_votes a_count a_living a_pride a_quota a_melted a_lost] H := hP
        refine lv_aload_n hx hb dX0_add_128 rfl (lv_at hl 0 rfl) ?_
        refine lv_dup hx hb dX0_add_129 rfl ?_
        refine xget (i := 0) (j := 0) (k := 9) (T := TX0) hx hb ht tb_iX0 hown hX hP.1 rfl rfl rfl (by decide) tb_61 rfl dX0_add_130 ?_
        refine lv_iconst (v := 1) hx hb dX0_add_133 (by decide) ?_
        refine lv_iload hx hb dX0_add_134 (lv_at hl 1 rfl) ?_
        refine lv_ishl hx hb dX0_add_136 ?_
        refine lv_ior hx hb dX0_add_137 ?_
        refine lv_topi (fun a_living_18 e_a_living_18 => ?_)
        have h := bn e_a_living_18 h
        refine xput (i := 0) (j := 0) (k := 9) (T := TX0) tyX0 tyX0_ok nmX0 hx hb ht tb_iX0 hown hX hP hS rfl rfl rfl (by decide) tb_61 rfl rfl rfl (Nat.le_of_ble_eq_true rfl) dX0_add_138 (fun H locs hP hS => ?_)
        have hP : PD D A [bl_X0 cy A_a a_name a_courage a_weight a_medals a_stood a_fled a_liked_17 a_votes a_count a_living_18 a_pride a_quota a_melted a_lost] H := hP
        refine lv_aload_n hx hb dX0_add_141 rfl (lv_at hl 0 rfl) ?_
        refine lv_dup hx hb dX0_add_142 rfl ?_
        refine xget (i := 0) (j := 0) (k := 8) (T := TX0) hx hb ht tb_iX0 hown hX hP.1 rfl rfl rfl (by decide) tb_55 rfl dX0_add_143 ?_
        refine lv_iconst (v := 1) hx hb dX0_add_146 (by decide) ?_
        refine lv_iadd hx hb dX0_add_147 ?_
        refine lv_topi (fun a_count_19 e_a_count_19 => ?_)
        have h := bn e_a_count_19 h
        refine xput (i := 0) (j := 0) (k := 8) (T := TX0) tyX0 tyX0_ok nmX0 hx hb ht tb_iX0 hown hX hP hS rfl rfl rfl (by decide) tb_55 rfl rfl rfl (Nat.le_of_ble_eq_true rfl) dX0_add_148 (fun H locs hP hS => ?_)
        have hP : PD D A [bl_X0 cy A_a a_name a_courage a_weight a_medals a_stood a_fled a_liked_17 a_votes a_count_19 a_living_18 a_pride a_quota a_melted a_lost] H := hP
        refine lv_iload hx hb dX0_add_151 (lv_at hl 1 rfl) ?_
        cases h
        subst hW1
        exact W.iret hx hb hr (fun _ ht9 _ => ⟨⟨_, (), rfl, rfl, hPt ht9 hP.1⟩, hS.F ht9⟩) hS.2.2 dX0_add_153
      · have h := ie c_16 h
        refine lv_aload_n hx hb dX0_add_80 rfl (lv_at hl 0 rfl) ?_
        refine xget (i := 0) (j := 0) (k := 6) (T := TX0) hx hb ht tb_iX0 hown hX hP.1 rfl rfl rfl (by decide) tb_53 rfl dX0_add_81 ?_
        refine lv_iload hx hb dX0_add_84 (lv_at hl 1 rfl) ?_
        refine lv_bipush (v := 8) hx hb dX0_add_86 (by decide) ?_
        refine lv_imul hx hb dX0_add_88 ?_
        refine lv_iload hx hb dX0_add_89 (lv_at hl 2 rfl) ?_
        refine lv_iadd hx hb dX0_add_91 ?_
        refine lv_iconst (v := 5) hx hb dX0_add_92 (by decide) ?_
        obtain ⟨a_liked_20, e_a_liked_20, h⟩ := bi h
        refine xiast (i0 := 0) (j0 := 7) hx hb hX hP hS rfl rfl e_a_liked_20 dX0_add_93 (fun H locs hP hS => ?_)
        have hP : PD D A [bl_X0 cy A_a a_name a_courage a_weight a_medals a_stood a_fled a_liked_20 a_votes a_count a_living a_pride a_quota a_melted a_lost] H := hP
        refine lv_aload_n hx hb dX0_add_94 rfl (lv_at hl 0 rfl) ?_
        refine xget (i := 0) (j := 0) (k := 6) (T := TX0) hx hb ht tb_iX0 hown hX hP.1 rfl rfl rfl (by decide) tb_53 rfl dX0_add_95 ?_
        refine lv_iload hx hb dX0_add_98 (lv_at hl 2 rfl) ?_
        refine lv_bipush (v := 8) hx hb dX0_add_100 (by decide) ?_
        refine lv_imul hx hb dX0_add_102 ?_
        refine lv_iload hx hb dX0_add_103 (lv_at hl 1 rfl) ?_
        refine lv_iadd hx hb dX0_add_105 ?_
        refine lv_iconst (v := 5) hx hb dX0_add_106 (by decide) ?_
        obtain ⟨a_liked_21, e_a_liked_21, h⟩ := bi h
        refine xiast (i0 := 0) (j0 := 7) hx hb hX hP hS rfl rfl e_a_liked_21 dX0_add_107 (fun H locs hP hS => ?_)
        have hP : PD D A [bl_X0 cy A_a a_name a_courage a_weight a_medals a_stood a_fled a_liked_21 a_votes a_count a_living a_pride a_quota a_melted a_lost] H := hP
        obtain ⟨x6_22, e_x6_22⟩ : ∃ y : Int32, y = x6 + 1 := ⟨_, rfl⟩
        have h := bn e_x6_22 h
        refine lv_iinc (v := x6_22) (lv' := [(6, .int x6_22), (0, .ref (A_a 0)), (5, .int x5)]) hx hb dX0_add_108 hl (k := 2) rfl (by rw [e_x6_22]; rfl) (by decide) rfl (fun ls hl => ?_)
        refine lv_goto (tgt := 73) hx hb dX0_add_111 (by decide) ?_
        exact ih73 a_name a_courage a_weight a_medals a_stood a_fled a_liked_21 a_count a_living x5 x6_22 _ _ hP hS ls (lv_sub hl [1, 2, 0] rfl) h
  unfold f_X0_add at h
  refine lv_aload_n hx hb dX0_add_0 rfl (lv_at hl 0 rfl) ?_
  refine xget (i := 0) (j := 0) (k := 8) (T := TX0) hx hb ht tb_iX0 hown hX hP.1 rfl rfl rfl (by decide) tb_55 rfl dX0_add_1 ?_
  refine lv_iconst (v := 0) hx hb dX0_add_4 (by decide) ?_
  refine lv_bipush (v := 7) hx hb dX0_add_5 (by decide) ?_
  obtain ⟨z_23, e_z_23, h⟩ := bi h
  refine roNi (rest := []) ⟨hx, hb, hml, hown, ht⟩ (c_X11_within l D cy fu  a_count 0 7 z_23 e_z_23) (cN ht hX ms_X11_within (List.mem_of_getElem? (i := 7) rfl) rfl rfl ⟨Nat.le_of_ble_eq_true rfl, Nat.le_of_ble_eq_true rfl⟩) (P_sub hP.1 [] rfl) hX rfl hl.1 rfl (Nat.le_of_ble_eq_true rfl) dX0_add_7 ⟨Nat.le_of_ble_eq_true rfl, Nat.le_of_ble_eq_true rfl⟩ ?_
  refine lv_if_ne (tgt := 15) hx hb dX0_add_10 (by decide) (fun c_24 => ?_) (fun c_24 => ?_)
  · have h := ie c_24 h
    refine lv_aload_n hx hb dX0_add_15 rfl (lv_at hl 0 rfl) ?_
    refine xget (i := 0) (j := 0) (k := 8) (T := TX0) hx hb ht tb_iX0 hown hX hP.1 rfl rfl rfl (by decide) tb_55 rfl dX0_add_16 ?_
    refine lv_istore (lv' := [(5, .int a_count), (0, .ref (A_a 0)), (1, .long x1), (3, .int x3), (4, .int x4)]) hx hb dX0_add_19 hl (by decide) rfl (fun ls hl => ?_)
    refine lv_aload_n hx hb dX0_add_21 rfl (lv_at hl 1 rfl) ?_
    refine xget (i := 0) (j := 0) (k := 0) (T := TX0) hx hb ht tb_iX0 hown hX hP.1 rfl rfl rfl (by decide) tb_38 rfl dX0_add_22 ?_
    refine lv_iload hx hb dX0_add_25 (lv_at hl 0 rfl) ?_
    refine lv_lload_n hx hb dX0_add_27 rfl (lv_at hl 2 rfl) ?_
    obtain ⟨a_name_25, e_a_name_25, h⟩ := bi h
    refine xlast (i0 := 0) (j0 := 1) hx hb hX hP hS rfl rfl e_a_name_25 dX0_add_28 (fun H locs hP hS => ?_)
    have hP : PD D A [bl_X0 cy A_a a_name_25 a_courage a_weight a_medals a_stood a_fled a_liked a_votes a_count a_living a_pride a_quota a_melted a_lost] H := hP
    refine lv_aload_n hx hb dX0_add_29 rfl (lv_at hl 1 rfl) ?_
    refine xget (i := 0) (j := 0) (k := 1) (T := TX0) hx hb ht tb_iX0 hown hX hP.1 rfl rfl rfl (by decide) tb_39 rfl dX0_add_30 ?_
    refine lv_iload hx hb dX0_add_33 (lv_at hl 0 rfl) ?_
    refine lv_iload_n hx hb dX0_add_35 rfl (lv_at hl 3 rfl) ?_
    obtain ⟨a_courage_26, e_a_courage_26, h⟩ := bi h
    refine xiast (i0 := 0) (j0 := 2) hx hb hX hP hS rfl rfl e_a_courage_26 dX0_add_36 (fun H locs hP hS => ?_)
    have hP : PD D A [bl_X0 cy A_a a_name_25 a_courage_26 a_weight a_medals a_stood a_fled a_liked a_votes a_count a_living a_pride a_quota a_melted a_lost] H := hP
    refine lv_aload_n hx hb dX0_add_37 rfl (lv_at hl 1 rfl) ?_
    refine xget (i := 0) (j := 0) (k := 2) (T := TX0) hx hb ht tb_iX0 hown hX hP.1 rfl rfl rfl (by decide) tb_41 rfl dX0_add_38 ?_
    refine lv_iload hx hb dX0_add_41 (lv_at hl 0 rfl) ?_
    refine lv_iload hx hb dX0_add_43 (lv_at hl 4 rfl) ?_
    obtain ⟨a_weight_27, e_a_weight_27, h⟩ := bi h
    refine xiast (i0 := 0) (j0 := 3) hx hb hX hP hS rfl rfl e_a_weight_27 dX0_add_45 (fun H locs hP hS => ?_)
    have hP : PD D A [bl_X0 cy A_a a_name_25 a_courage_26 a_weight_27 a_medals a_stood a_fled a_liked a_votes a_count a_living a_pride a_quota a_melted a_lost] H := hP
    refine lv_aload_n hx hb dX0_add_46 rfl (lv_at hl 1 rfl) ?_
    refine xget (i := 0) (j := 0) (k := 3) (T := TX0) hx hb ht tb_iX0 hown hX hP.1 rfl rfl rfl (by decide) tb_43 rfl dX0_add_47 ?_
    refine lv_iload hx hb dX0_add_50 (lv_at hl 0 rfl) ?_
    refine lv_iconst (v := 0) hx hb dX0_add_52 (by decide) ?_
    obtain ⟨a_medals_28, e_a_medals_28, h⟩ := bi h
    refine xiast (i0 := 0) (j0 := 4) hx hb hX hP hS rfl rfl e_a_medals_28 dX0_add_53 (fun H locs hP hS => ?_)
    have hP : PD D A [bl_X0 cy A_a a_name_25 a_courage_26 a_weight_27 a_medals_28 a_stood a_fled a_liked a_votes a_count a_living a_pride a_quota a_melted a_lost] H := hP
    refine lv_aload_n hx hb dX0_add_54 rfl (lv_at hl 1 rfl) ?_
    refine xget (i := 0) (j := 0) (k := 4) (T := TX0) hx hb ht tb_iX0 hown hX hP.1 rfl rfl rfl (by decide) tb_48 rfl dX0_add_55 ?_
    refine lv_iload hx hb dX0_add_58 (lv_at hl 0 rfl) ?_
    refine lv_iconst (v := 0) hx hb dX0_add_60 (by decide) ?_
    obtain ⟨a_stood_29, e_a_stood_29, h⟩ := bi h
    refine xiast (i0 := 0) (j0 := 5) hx hb hX hP hS rfl rfl e_a_stood_29 dX0_add_61 (fun H locs hP hS => ?_)
    have hP : PD D A [bl_X0 cy A_a a_name_25 a_courage_26 a_weight_27 a_medals_28 a_stood_29 a_fled a_liked a_votes a_count a_living a_pride a_quota a_melted a_lost] H := hP
    refine lv_aload_n hx hb dX0_add_62 rfl (lv_at hl 1 rfl) ?_
    refine xget (i := 0) (j := 0) (k := 5) (T := TX0) hx hb ht tb_iX0 hown hX hP.1 rfl rfl rfl (by decide) tb_50 rfl dX0_add_63 ?_
    refine lv_iload hx hb dX0_add_66 (lv_at hl 0 rfl) ?_
    refine lv_iconst (v := 0) hx hb dX0_add_68 (by decide) ?_
    obtain ⟨a_fled_30, e_a_fled_30, h⟩ := bi h
    refine xiast (i0 := 0) (j0 := 6) hx hb hX hP hS rfl rfl e_a_fled_30 dX0_add_69 (fun H locs hP hS => ?_)
    have hP : PD D A [bl_X0 cy A_a a_name_25 a_courage_26 a_weight_27 a_medals_28 a_stood_29 a_fled_30 a_liked a_votes a_count a_living a_pride a_quota a_melted a_lost] H := hP
    refine lv_iconst (v := 0) hx hb dX0_add_70 (by decide) ?_
    refine lv_istore (lv' := [(6, .int 0), (5, .int a_count), (0, .ref (A_a 0)), (1, .long x1), (3, .int x3), (4, .int x4)]) hx hb dX0_add_71 hl (by decide) rfl (fun ls hl => ?_)
    exact l73 fu a_name_25 a_courage_26 a_weight_27 a_medals_28 a_stood_29 a_fled_30 a_liked a_count a_living a_count 0 _ _ hP hS ls (lv_sub hl [2, 1, 0] rfl) h
  · have h := it c_24 h
    refine lv_iconst (v := (-1)) hx hb dX0_add_13 (by decide) ?_
    cases h
    subst hW1
    exact W.iret hx hb hr (fun _ ht9 _ => ⟨⟨_, (), rfl, rfl, hPt ht9 hP.1⟩, hS.F ht9⟩) hS.2.2 dX0_add_14
theorem dX0_named_0 : decode cX0_named 0 = .ok (.iconst 0, 1) := by decide +kernel
theorem dX0_named_1 : decode cX0_named 1 = .ok (.istore_n 3, 1) := by decide +kernel
theorem dX0_named_2 : decode cX0_named 2 = .ok (.iload_n 3, 1) := by decide +kernel
theorem dX0_named_3 : decode cX0_named 3 = .ok (.aload_n 0, 1) := by decide +kernel
theorem dX0_named_4 : decode cX0_named 4 = .ok (.getfield 37, 3) := by decide +kernel
theorem dX0_named_7 : decode cX0_named 7 = .ok (.if_icmp .ge 22, 3) := by decide +kernel
theorem dX0_named_10 : decode cX0_named 10 = .ok (.aload_n 0, 1) := by decide +kernel
theorem dX0_named_11 : decode cX0_named 11 = .ok (.getfield 9, 3) := by decide +kernel
theorem dX0_named_14 : decode cX0_named 14 = .ok (.iload_n 3, 1) := by decide +kernel
theorem dX0_named_15 : decode cX0_named 15 = .ok (.laload, 1) := by decide +kernel
theorem dX0_named_16 : decode cX0_named 16 = .ok (.lload_n 1, 1) := by decide +kernel
theorem dX0_named_17 : decode cX0_named 17 = .ok (.lcmp, 1) := by decide +kernel
theorem dX0_named_18 : decode cX0_named 18 = .ok (.ifCond .ne 5, 3) := by decide +kernel
theorem dX0_named_21 : decode cX0_named 21 = .ok (.iload_n 3, 1) := by decide +kernel
theorem dX0_named_22 : decode cX0_named 22 = .ok (.ireturn, 1) := by decide +kernel
theorem dX0_named_23 : decode cX0_named 23 = .ok (.iinc 3 1, 3) := by decide +kernel
theorem dX0_named_26 : decode cX0_named 26 = .ok (.goto (-24), 3) := by decide +kernel
theorem dX0_named_29 : decode cX0_named 29 = .ok (.iconst (-1), 1) := by decide +kernel
theorem dX0_named_30 : decode cX0_named 30 = .ok (.ireturn, 1) := by decide +kernel
theorem mv_X0_named : MV yX0_named RX0 cX0_named 4 (some .int) 1 := ⟨tb_656, tb_654, tb_655, tb_2, by decide +kernel, by decide +kernel, by decide +kernel⟩
def f_X0_named_b2 (fu : Nat) (a_name : Nat → Int64) (a_count : Int32) (x1 : Int64) (k2 : Int32 → Option (Int32)) (x3 : Int32) : Option (Int32) := (if a_count ≤ x3 then some ((-1)) else (rdJ a_name 8 x3).bind fun y_6 => (if (lg_cmp y_6 x1) = 0 then some (x3) else bnd (x3 + 1) fun x3_8 => k2 x3_8))
def f_X0_named_l2 (fu : Nat) (a_name : Nat → Int64) (a_count : Int32) (x1 : Int64) : Nat → Int32 → Option (Int32)
  | 0, _ => none
  | n + 1, x3 => f_X0_named_b2 fu a_name a_count x1 (f_X0_named_l2 fu a_name a_count x1 n) x3
def f_X0_named (fu : Nat) (a_name : Nat → Int64) (a_count : Int32) (x1 : Int64) : Option (Int32) := f_X0_named_l2 fu a_name a_count x1 fu 0
abbrev rm_X0_named : Room := { frames := 0, cells := 0, slots := 0, locals := 0 }
set_option maxHeartbeats 4000000 in
set_option maxRecDepth 100000 in
theorem c_X0_named (l : Launch) (D : va_G) (cy : Nat → ClassId) (fu : Nat) (A_a : Nat → Nat) (a_name : Nat → Int64) (a_courage : Nat → Int32) (a_weight : Nat → Int32) (a_medals : Nat → Int32) (a_stood : Nat → Int32) (a_fled : Nat → Int32) (a_liked : Nat → Int32) (a_votes : Nat → Int32) (a_count : Int32) (a_living : Int32) (a_pride : Int32) (a_quota : Int32) (a_melted : Int32) (a_lost : Int32) (x1 : Int64) (res : Int32) (h : f_X0_named fu a_name a_count x1 = some res) : Met l yX0_named (WW yX0_named cX0_named 4 (some .int)) rm_X0_named (Rd D cy [.ref (A_a 0), .long x1] [bl_X0 cy A_a a_name a_courage a_weight a_medals a_stood a_fled a_liked a_votes a_count a_living a_pride a_quota a_melted a_lost]) (vp_Si (fun v => v = res)) 0 0 (fun _ => False) := by
  refine Met.ofW (cc := cX0_named) (maxL := 4) (ret := (some .int)) (by decide) rfl ?_
  intro p e s m args below meth c s₁ B hml hv
  obtain ⟨hargs, hP, hX⟩ := hv
  have hx := B.exec
  have hb := B.bytes
  have hr := B.returns
  have ht : ∀ w ∈ lw_gd, w.before args s = true := fun w hw => atoms_spec (ws := WW yX0_named cX0_named 4 (some .int)) B.pre w (List.mem_cons_of_mem _ hw)
  have hown : s.vm.findClass RX0 = some m.cls := findClass_of_methodNamed B.named
  have hlocks := B.notSynchronized
  have hP : PB D [bl_X0 cy A_a a_name a_courage a_weight a_medals a_stood a_fled a_liked a_votes a_count a_living a_pride a_quota a_melted a_lost] s.heap := hP
  obtain ⟨ls, hl, hent⟩ := ent (m := m) (n := 4) hargs (Nat.le_of_ble_eq_true rfl) (lv := [(0, .ref (A_a 0)), (1, .long x1)]) rfl
  rw [hent]
  clear hent
  have l2 : ∀ (n2 : Nat) (x3 : Int32) (ls : Array Slot), lv_has ls 4 [(0, .ref (A_a 0)), (1, .long x1), (3, .int x3)] → f_X0_named_l2 fu a_name a_count x1 n2 x3 = some res → W p l e (headSpec (WW yX0_named cX0_named 4 (some .int)) rm_X0_named).room s m args below meth c s.heap [] 0 0 (MQ below (vp_Si (fun v => v = res)) args s 0 0 (fun _ => False)) (F0 m 2 ls []) := by
    intro n2
    induction n2 with
    | zero => intro x3 ls hl h; cases h
    | succ n2 ih2 =>
      intro x3 ls hl h
      have h : f_X0_named_b2 fu a_name a_count x1 (f_X0_named_l2 fu a_name a_count x1 n2) x3 = some res := h
      unfold f_X0_named_b2 at h
      refine lv_iload_n hx hb dX0_named_2 rfl (lv_at hl 2 rfl) ?_
      refine lv_aload_n hx hb dX0_named_3 rfl (lv_at hl 0 rfl) ?_
      refine xget (i := 0) (j := 0) (k := 8) (T := TX0) hx hb ht tb_iX0 hown hX hP rfl rfl rfl (by decide) tb_55 rfl dX0_named_4 ?_
      refine lv_icmp_ge (tgt := 29) hx hb dX0_named_7 (by decide) (fun c_5 => ?_) (fun c_5 => ?_)
      · have h := it c_5 h
        refine lv_iconst (v := (-1)) hx hb dX0_named_29 (by decide) ?_
        cases h
        exact W.iret hx hb hr (fun _ ht9 _ => ⟨_, rfl, rfl, ht9⟩) (fun _ hq => by cases hq) dX0_named_30
      · have h := ie c_5 h
        refine lv_aload_n hx hb dX0_named_10 rfl (lv_at hl 0 rfl) ?_
        refine xget (i := 0) (j := 0) (k := 0) (T := TX0) hx hb ht tb_iX0 hown hX hP rfl rfl rfl (by decide) tb_38 rfl dX0_named_11 ?_
        refine lv_iload_n hx hb dX0_named_14 rfl (lv_at hl 2 rfl) ?_
        obtain ⟨y_6, e_y_6, h⟩ := bi h
        refine xlald (i0 := 0) (j0 := 1) hx hb hX hP rfl rfl e_y_6 dX0_named_15 ?_
        refine lv_lload_n hx hb dX0_named_16 rfl (lv_at hl 1 rfl) ?_
        refine W.lcmp hx hb dX0_named_17 ?_
        refine lv_if_ne (tgt := 23) hx hb dX0_named_18 (by decide) (fun c_7 => ?_) (fun c_7 => ?_)
        · have h := ie c_7 h
          obtain ⟨x3_8, e_x3_8⟩ : ∃ y : Int32, y = x3 + 1 := ⟨_, rfl⟩
          have h := bn e_x3_8 h
          refine lv_iinc (v := x3_8) (lv' := [(3, .int x3_8), (0, .ref (A_a 0)), (1, .long x1)]) hx hb dX0_named_23 hl (k := 2) rfl (by rw [e_x3_8]; rfl) (by decide) rfl (fun ls hl => ?_)
          refine lv_goto (tgt := 2) hx hb dX0_named_26 (by decide) ?_
          exact ih2 x3_8 ls (lv_sub hl [1, 2, 0] rfl) h
        · have h := it c_7 h
          refine lv_iload_n hx hb dX0_named_21 rfl (lv_at hl 2 rfl) ?_
          cases h
          exact W.iret hx hb hr (fun _ ht9 _ => ⟨_, rfl, rfl, ht9⟩) (fun _ hq => by cases hq) dX0_named_22
  unfold f_X0_named at h
  refine lv_iconst (v := 0) hx hb dX0_named_0 (by decide) ?_
  refine lv_istore_n (lv' := [(3, .int 0), (0, .ref (A_a 0)), (1, .long x1)]) hx hb dX0_named_1 rfl hl (by decide) rfl (fun ls hl => ?_)
  exact l2 fu 0 ls (lv_sub hl [1, 2, 0] rfl) h
theorem dX0_isMan_0 : decode cX0_isMan 0 = .ok (.iload_n 1, 1) := by decide +kernel
theorem dX0_isMan_1 : decode cX0_isMan 1 = .ok (.ifCond .lt 15, 3) := by decide +kernel
theorem dX0_isMan_4 : decode cX0_isMan 4 = .ok (.iload_n 1, 1) := by decide +kernel
theorem dX0_isMan_5 : decode cX0_isMan 5 = .ok (.aload_n 0, 1) := by decide +kernel
theorem dX0_isMan_6 : decode cX0_isMan 6 = .ok (.getfield 37, 3) := by decide +kernel
theorem dX0_isMan_9 : decode cX0_isMan 9 = .ok (.if_icmp .ge 7, 3) := by decide +kernel
theorem dX0_isMan_12 : decode cX0_isMan 12 = .ok (.iconst 1, 1) := by decide +kernel
theorem dX0_isMan_13 : decode cX0_isMan 13 = .ok (.goto 4, 3) := by decide +kernel
theorem dX0_isMan_16 : decode cX0_isMan 16 = .ok (.iconst 0, 1) := by decide +kernel
theorem dX0_isMan_17 : decode cX0_isMan 17 = .ok (.ireturn, 1) := by decide +kernel
theorem mv_X0_isMan : MV yX0_isMan RX0 cX0_isMan 2 (some .boolean) 1 := ⟨tb_686, tb_684, tb_685, tb_2, by decide +kernel, by decide +kernel, by decide +kernel⟩
def f_X0_isMan (fu : Nat) (a_count : Int32) (x1 : Int32) : Option (Int32) := (if x1 < 0 then some (0) else (if a_count ≤ x1 then some (0) else some (1)))
abbrev rm_X0_isMan : Room := { frames := 0, cells := 0, slots := 0, locals := 0 }
set_option maxHeartbeats 4000000 in
set_option maxRecDepth 100000 in
theorem c_X0_isMan (l : Launch) (D : va_G) (cy : Nat → ClassId) (fu : Nat) (A_a : Nat → Nat) (a_name : Nat → Int64) (a_courage : Nat → Int32) (a_weight : Nat → Int32) (a_medals : Nat → Int32) (a_stood : Nat → Int32) (a_fled : Nat → Int32) (a_liked : Nat → Int32) (a_votes : Nat → Int32) (a_count : Int32) (a_living : Int32) (a_pride : Int32) (a_quota : Int32) (a_melted : Int32) (a_lost : Int32) (x1 : Int32) (res : Int32) (h : f_X0_isMan fu a_count x1 = some res) : Met l yX0_isMan (WW yX0_isMan cX0_isMan 2 (some .boolean)) rm_X0_isMan (Rd D cy [.ref (A_a 0), .int x1] [bl_X0 cy A_a a_name a_courage a_weight a_medals a_stood a_fled a_liked a_votes a_count a_living a_pride a_quota a_melted a_lost]) (vp_Si (fun v => v = res)) 0 0 (fun _ => False) := by
  refine Met.ofW (cc := cX0_isMan) (maxL := 2) (ret := (some .boolean)) (by decide) rfl ?_
  intro p e s m args below meth c s₁ B hml hv
  obtain ⟨hargs, hP, hX⟩ := hv
  have hx := B.exec
  have hb := B.bytes
  have hr := B.returns
  have ht : ∀ w ∈ lw_gd, w.before args s = true := fun w hw => atoms_spec (ws := WW yX0_isMan cX0_isMan 2 (some .boolean)) B.pre w (List.mem_cons_of_mem _ hw)
  have hown : s.vm.findClass RX0 = some m.cls := findClass_of_methodNamed B.named
  have hlocks := B.notSynchronized
  have hP : PB D [bl_X0 cy A_a a_name a_courage a_weight a_medals a_stood a_fled a_liked a_votes a_count a_living a_pride a_quota a_melted a_lost] s.heap := hP
  obtain ⟨ls, hl, hent⟩ := ent (m := m) (n := 2) hargs (Nat.le_of_ble_eq_true rfl) (lv := [(0, .ref (A_a 0)), (1, .int x1)]) rfl
  rw [hent]
  clear hent
  unfold f_X0_isMan at h
  refine lv_iload_n hx hb dX0_isMan_0 rfl (lv_at hl 1 rfl) ?_
  refine lv_if_lt (tgt := 16) hx hb dX0_isMan_1 (by decide) (fun c_3 => ?_) (fun c_3 => ?_)
  · have h := it c_3 h
    refine lv_iconst (v := 0) hx hb dX0_isMan_16 (by decide) ?_
    cases h
    exact W.zret hx hb hr rfl (fun _ ht9 _ => ⟨_, rfl, rfl, ht9⟩) (fun _ hq => by cases hq) dX0_isMan_17
  · have h := ie c_3 h
    refine lv_iload_n hx hb dX0_isMan_4 rfl (lv_at hl 1 rfl) ?_
    refine lv_aload_n hx hb dX0_isMan_5 rfl (lv_at hl 0 rfl) ?_
    refine xget (i := 0) (j := 0) (k := 8) (T := TX0) hx hb ht tb_iX0 hown hX hP rfl rfl rfl (by decide) tb_55 rfl dX0_isMan_6 ?_
    refine lv_icmp_ge (tgt := 16) hx hb dX0_isMan_9 (by decide) (fun c_4 => ?_) (fun c_4 => ?_)
    · have h := it c_4 h
      refine lv_iconst (v := 0) hx hb dX0_isMan_16 (by decide) ?_
      cases h
      exact W.zret hx hb hr rfl (fun _ ht9 _ => ⟨_, rfl, rfl, ht9⟩) (fun _ hq => by cases hq) dX0_isMan_17
    · have h := ie c_4 h
      refine lv_iconst (v := 1) hx hb dX0_isMan_12 (by decide) ?_
      refine lv_goto (tgt := 17) hx hb dX0_isMan_13 (by decide) ?_
      cases h
      exact W.zret hx hb hr rfl (fun _ ht9 _ => ⟨_, rfl, rfl, ht9⟩) (fun _ hq => by cases hq) dX0_isMan_17
theorem dX0_lives_0 : decode cX0_lives 0 = .ok (.aload_n 0, 1) := by decide +kernel
theorem dX0_lives_1 : decode cX0_lives 1 = .ok (.iload_n 1, 1) := by decide +kernel
theorem dX0_lives_2 : decode cX0_lives 2 = .ok (.invokevirtual 75, 3) := by decide +kernel
theorem dX0_lives_5 : decode cX0_lives 5 = .ok (.ifCond .eq 18, 3) := by decide +kernel
theorem dX0_lives_8 : decode cX0_lives 8 = .ok (.aload_n 0, 1) := by decide +kernel
theorem dX0_lives_9 : decode cX0_lives 9 = .ok (.getfield 41, 3) := by decide +kernel
theorem dX0_lives_12 : decode cX0_lives 12 = .ok (.iload_n 1, 1) := by decide +kernel
theorem dX0_lives_13 : decode cX0_lives 13 = .ok (.ishr, 1) := by decide +kernel
theorem dX0_lives_14 : decode cX0_lives 14 = .ok (.iconst 1, 1) := by decide +kernel
theorem dX0_lives_15 : decode cX0_lives 15 = .ok (.iand, 1) := by decide +kernel
theorem dX0_lives_16 : decode cX0_lives 16 = .ok (.ifCond .eq 7, 3) := by decide +kernel
theorem dX0_lives_19 : decode cX0_lives 19 = .ok (.iconst 1, 1) := by decide +kernel
theorem dX0_lives_20 : decode cX0_lives 20 = .ok (.goto 4, 3) := by decide +kernel
theorem dX0_lives_23 : decode cX0_lives 23 = .ok (.iconst 0, 1) := by decide +kernel
theorem dX0_lives_24 : decode cX0_lives 24 = .ok (.ireturn, 1) := by decide +kernel
theorem mv_X0_lives : MV yX0_lives RX0 cX0_lives 2 (some .boolean) 1 := ⟨tb_778, tb_776, tb_777, tb_2, by decide +kernel, by decide +kernel, by decide +kernel⟩
def f_X0_lives (fu : Nat) (a_count : Int32) (a_living : Int32) (x1 : Int32) : Option (Int32) := (f_X0_isMan fu a_count x1).bind fun z_4 => (if z_4 = 0 then some (0) else (if ((a_living >>> (x1 &&& 31)) &&& 1) = 0 then some (0) else some (1)))
abbrev rm_X0_lives : Room := { frames := 1, cells := 0, slots := 0, locals := 21 }
set_option maxHeartbeats 4000000 in
set_option maxRecDepth 100000 in
theorem c_X0_lives (l : Launch) (D : va_G) (cy : Nat → ClassId) (fu : Nat) (A_a : Nat → Nat) (a_name : Nat → Int64) (a_courage : Nat → Int32) (a_weight : Nat → Int32) (a_medals : Nat → Int32) (a_stood : Nat → Int32) (a_fled : Nat → Int32) (a_liked : Nat → Int32) (a_votes : Nat → Int32) (a_count : Int32) (a_living : Int32) (a_pride : Int32) (a_quota : Int32) (a_melted : Int32) (a_lost : Int32) (x1 : Int32) (res : Int32) (h : f_X0_lives fu a_count a_living x1 = some res) : Met l yX0_lives (WW yX0_lives cX0_lives 2 (some .boolean)) rm_X0_lives (Rd D cy [.ref (A_a 0), .int x1] [bl_X0 cy A_a a_name a_courage a_weight a_medals a_stood a_fled a_liked a_votes a_count a_living a_pride a_quota a_melted a_lost]) (vp_Si (fun v => v = res)) 0 0 (fun _ => False) := by
  refine Met.ofW (cc := cX0_lives) (maxL := 2) (ret := (some .boolean)) (by decide) rfl ?_
  intro p e s m args below meth c s₁ B hml hv
  obtain ⟨hargs, hP, hX⟩ := hv
  have hx := B.exec
  have hb := B.bytes
  have hr := B.returns
  have ht : ∀ w ∈ lw_gd, w.before args s = true := fun w hw => atoms_spec (ws := WW yX0_lives cX0_lives 2 (some .boolean)) B.pre w (List.mem_cons_of_mem _ hw)
  have hown : s.vm.findClass RX0 = some m.cls := findClass_of_methodNamed B.named
  have hlocks := B.notSynchronized
  have hP : PB D [bl_X0 cy A_a a_name a_courage a_weight a_medals a_stood a_fled a_liked a_votes a_count a_living a_pride a_quota a_melted a_lost] s.heap := hP
  obtain ⟨ls, hl, hent⟩ := ent (m := m) (n := 2) hargs (Nat.le_of_ble_eq_true rfl) (lv := [(0, .ref (A_a 0)), (1, .int x1)]) rfl
  rw [hent]
  clear hent
  unfold f_X0_lives at h
  refine lv_aload_n hx hb dX0_lives_0 rfl (lv_at hl 0 rfl) ?_
  refine lv_iload_n hx hb dX0_lives_1 rfl (lv_at hl 1 rfl) ?_
  obtain ⟨z_4, e_z_4, h⟩ := bi h
  refine roVi (rest := []) ⟨hx, hb, hml, hown, ht⟩ (c_X0_isMan l D cy fu A_a a_name a_courage a_weight a_medals a_stood a_fled a_liked a_votes a_count a_living a_pride a_quota a_melted a_lost x1 z_4 e_z_4) (cV ht mv_X0_isMan tb_683 rfl rfl ⟨Nat.le_of_ble_eq_true rfl, Nat.le_of_ble_eq_true rfl⟩) (P_sub hP [0] rfl) hX rfl rfl rfl hl.1 rfl (Nat.le_of_ble_eq_true rfl) dX0_lives_2 ⟨Nat.le_of_ble_eq_true rfl, Nat.le_of_ble_eq_true rfl⟩ ?_
  refine lv_if_eq (tgt := 23) hx hb dX0_lives_5 (by decide) (fun c_5 => ?_) (fun c_5 => ?_)
  · have h := it c_5 h
    refine lv_iconst (v := 0) hx hb dX0_lives_23 (by decide) ?_
    cases h
    exact W.zret hx hb hr rfl (fun _ ht9 _ => ⟨_, rfl, rfl, ht9⟩) (fun _ hq => by cases hq) dX0_lives_24
  · have h := ie c_5 h
    refine lv_aload_n hx hb dX0_lives_8 rfl (lv_at hl 0 rfl) ?_
    refine xget (i := 0) (j := 0) (k := 9) (T := TX0) hx hb ht tb_iX0 hown hX hP rfl rfl rfl (by decide) tb_61 rfl dX0_lives_9 ?_
    refine lv_iload_n hx hb dX0_lives_12 rfl (lv_at hl 1 rfl) ?_
    refine lv_ishr hx hb dX0_lives_13 ?_
    refine lv_iconst (v := 1) hx hb dX0_lives_14 (by decide) ?_
    refine lv_iand hx hb dX0_lives_15 ?_
    refine lv_if_eq (tgt := 23) hx hb dX0_lives_16 (by decide) (fun c_6 => ?_) (fun c_6 => ?_)
    · have h := it c_6 h
      refine lv_iconst (v := 0) hx hb dX0_lives_23 (by decide) ?_
      cases h
      exact W.zret hx hb hr rfl (fun _ ht9 _ => ⟨_, rfl, rfl, ht9⟩) (fun _ hq => by cases hq) dX0_lives_24
    · have h := ie c_6 h
      refine lv_iconst (v := 1) hx hb dX0_lives_19 (by decide) ?_
      refine lv_goto (tgt := 24) hx hb dX0_lives_20 (by decide) ?_
      cases h
      exact W.zret hx hb hr rfl (fun _ ht9 _ => ⟨_, rfl, rfl, ht9⟩) (fun _ hq => by cases hq) dX0_lives_24
theorem dX0_liking_0 : decode cX0_liking 0 = .ok (.aload_n 0, 1) := by decide +kernel
theorem dX0_liking_1 : decode cX0_liking 1 = .ok (.iload_n 1, 1) := by decide +kernel
theorem dX0_liking_2 : decode cX0_liking 2 = .ok (.invokevirtual 75, 3) := by decide +kernel
theorem dX0_liking_5 : decode cX0_liking 5 = .ok (.ifCond .eq 25, 3) := by decide +kernel
theorem dX0_liking_8 : decode cX0_liking 8 = .ok (.aload_n 0, 1) := by decide +kernel
theorem dX0_liking_9 : decode cX0_liking 9 = .ok (.iload_n 2, 1) := by decide +kernel
theorem dX0_liking_10 : decode cX0_liking 10 = .ok (.invokevirtual 75, 3) := by decide +kernel
theorem dX0_liking_13 : decode cX0_liking 13 = .ok (.ifCond .eq 17, 3) := by decide +kernel
theorem dX0_liking_16 : decode cX0_liking 16 = .ok (.aload_n 0, 1) := by decide +kernel
theorem dX0_liking_17 : decode cX0_liking 17 = .ok (.getfield 31, 3) := by decide +kernel
theorem dX0_liking_20 : decode cX0_liking 20 = .ok (.iload_n 1, 1) := by decide +kernel
theorem dX0_liking_21 : decode cX0_liking 21 = .ok (.bipush 8, 2) := by decide +kernel
theorem dX0_liking_23 : decode cX0_liking 23 = .ok (.imul, 1) := by decide +kernel
theorem dX0_liking_24 : decode cX0_liking 24 = .ok (.iload_n 2, 1) := by decide +kernel
theorem dX0_liking_25 : decode cX0_liking 25 = .ok (.iadd, 1) := by decide +kernel
theorem dX0_liking_26 : decode cX0_liking 26 = .ok (.iaload, 1) := by decide +kernel
theorem dX0_liking_27 : decode cX0_liking 27 = .ok (.goto 4, 3) := by decide +kernel
theorem dX0_liking_30 : decode cX0_liking 30 = .ok (.iconst 0, 1) := by decide +kernel
theorem dX0_liking_31 : decode cX0_liking 31 = .ok (.ireturn, 1) := by decide +kernel
theorem mv_X0_liking : MV yX0_liking RX0 cX0_liking 3 (some .int) 2 := ⟨tb_794, tb_792, tb_793, tb_2, by decide +kernel, by decide +kernel, by decide +kernel⟩
def f_X0_liking (fu : Nat) (a_liked : Nat → Int32) (a_count : Int32) (x1 : Int32) (x2 : Int32) : Option (Int32) := (f_X0_isMan fu a_count x1).bind fun z_6 => (if z_6 = 0 then some (0) else (f_X0_isMan fu a_count x2).bind fun z_8 => (if z_8 = 0 then some (0) else (rdI a_liked 64 ((x1 * 8) + x2)).bind fun y_10 => some (y_10)))
abbrev rm_X0_liking : Room := { frames := 1, cells := 0, slots := 0, locals := 21 }
set_option maxHeartbeats 4000000 in
set_option maxRecDepth 100000 in
theorem c_X0_liking (l : Launch) (D : va_G) (cy : Nat → ClassId) (fu : Nat) (A_a : Nat → Nat) (a_name : Nat → Int64) (a_courage : Nat → Int32) (a_weight : Nat → Int32) (a_medals : Nat → Int32) (a_stood : Nat → Int32) (a_fled : Nat → Int32) (a_liked : Nat → Int32) (a_votes : Nat → Int32) (a_count : Int32) (a_living : Int32) (a_pride : Int32) (a_quota : Int32) (a_melted : Int32) (a_lost : Int32) (x1 : Int32) (x2 : Int32) (res : Int32) (h : f_X0_liking fu a_liked a_count x1 x2 = some res) : Met l yX0_liking (WW yX0_liking cX0_liking 3 (some .int)) rm_X0_liking (Rd D cy [.ref (A_a 0), .int x1, .int x2] [bl_X0 cy A_a a_name a_courage a_weight a_medals a_stood a_fled a_liked a_votes a_count a_living a_pride a_quota a_melted a_lost]) (vp_Si (fun v => v = res)) 0 0 (fun _ => False) := by
  refine Met.ofW (cc := cX0_liking) (maxL := 3) (ret := (some .int)) (by decide) rfl ?_
  intro p e s m args below meth c s₁ B hml hv
  obtain ⟨hargs, hP, hX⟩ := hv
  have hx := B.exec
  have hb := B.bytes
  have hr := B.returns
  have ht : ∀ w ∈ lw_gd, w.before args s = true := fun w hw => atoms_spec (ws := WW yX0_liking cX0_liking 3 (some .int)) B.pre w (List.mem_cons_of_mem _ hw)
  have hown : s.vm.findClass RX0 = some m.cls := findClass_of_methodNamed B.named
  have hlocks := B.notSynchronized
  have hP : PB D [bl_X0 cy A_a a_name a_courage a_weight a_medals a_stood a_fled a_liked a_votes a_count a_living a_pride a_quota a_melted a_lost] s.heap := hP
  obtain ⟨ls, hl, hent⟩ := ent (m := m) (n := 3) hargs (Nat.le_of_ble_eq_true rfl) (lv := [(0, .ref (A_a 0)), (1, .int x1), (2, .int x2)]) rfl
  rw [hent]
  clear hent
  unfold f_X0_liking at h
  refine lv_aload_n hx hb dX0_liking_0 rfl (lv_at hl 0 rfl) ?_
  refine lv_iload_n hx hb dX0_liking_1 rfl (lv_at hl 1 rfl) ?_
  obtain ⟨z_6, e_z_6, h⟩ := bi h
  refine roVi (rest := []) ⟨hx, hb, hml, hown, ht⟩ (c_X0_isMan l D cy fu A_a a_name a_courage a_weight a_medals a_stood a_fled a_liked a_votes a_count a_living a_pride a_quota a_melted a_lost x1 z_6 e_z_6) (cV ht mv_X0_isMan tb_683 rfl rfl ⟨Nat.le_of_ble_eq_true rfl, Nat.le_of_ble_eq_true rfl⟩) (P_sub hP [0] rfl) hX rfl rfl rfl hl.1 rfl (Nat.le_of_ble_eq_true rfl) dX0_liking_2 ⟨Nat.le_of_ble_eq_true rfl, Nat.le_of_ble_eq_true rfl⟩ ?_
  refine lv_if_eq (tgt := 30) hx hb dX0_liking_5 (by decide) (fun c_7 => ?_) (fun c_7 => ?_)
  · have h := it c_7 h
    refine lv_iconst (v := 0) hx hb dX0_liking_30 (by decide) ?_
    cases h
    exact W.iret hx hb hr (fun _ ht9 _ => ⟨_, rfl, rfl, ht9⟩) (fun _ hq => by cases hq) dX0_liking_31
  · have h := ie c_7 h
    refine lv_aload_n hx hb dX0_liking_8 rfl (lv_at hl 0 rfl) ?_
    refine lv_iload_n hx hb dX0_liking_9 rfl (lv_at hl 2 rfl) ?_
    obtain ⟨z_8, e_z_8, h⟩ := bi h
    refine roVi (rest := []) ⟨hx, hb, hml, hown, ht⟩ (c_X0_isMan l D cy fu A_a a_name a_courage a_weight a_medals a_stood a_fled a_liked a_votes a_count a_living a_pride a_quota a_melted a_lost x2 z_8 e_z_8) (cV ht mv_X0_isMan tb_683 rfl rfl ⟨Nat.le_of_ble_eq_true rfl, Nat.le_of_ble_eq_true rfl⟩) (P_sub hP [0] rfl) hX rfl rfl rfl hl.1 rfl (Nat.le_of_ble_eq_true rfl) dX0_liking_10 ⟨Nat.le_of_ble_eq_true rfl, Nat.le_of_ble_eq_true rfl⟩ ?_
    refine lv_if_eq (tgt := 30) hx hb dX0_liking_13 (by decide) (fun c_9 => ?_) (fun c_9 => ?_)
    · have h := it c_9 h
      refine lv_iconst (v := 0) hx hb dX0_liking_30 (by decide) ?_
      cases h
      exact W.iret hx hb hr (fun _ ht9 _ => ⟨_, rfl, rfl, ht9⟩) (fun _ hq => by cases hq) dX0_liking_31
    · have h := ie c_9 h
      refine lv_aload_n hx hb dX0_liking_16 rfl (lv_at hl 0 rfl) ?_
      refine xget (i := 0) (j := 0) (k := 6) (T := TX0) hx hb ht tb_iX0 hown hX hP rfl rfl rfl (by decide) tb_53 rfl dX0_liking_17 ?_
      refine lv_iload_n hx hb dX0_liking_20 rfl (lv_at hl 1 rfl) ?_
      refine lv_bipush (v := 8) hx hb dX0_liking_21 (by decide) ?_
      refine lv_imul hx hb dX0_liking_23 ?_
      refine lv_iload_n hx hb dX0_liking_24 rfl (lv_at hl 2 rfl) ?_
      refine lv_iadd hx hb dX0_liking_25 ?_
      obtain ⟨y_10, e_y_10, h⟩ := bi h
      refine xiald (i0 := 0) (j0 := 7) hx hb hX hP rfl rfl e_y_10 dX0_liking_26 ?_
      refine lv_goto (tgt := 31) hx hb dX0_liking_27 (by decide) ?_
      cases h
      exact W.iret hx hb hr (fun _ ht9 _ => ⟨_, rfl, rfl, ht9⟩) (fun _ hq => by cases hq) dX0_liking_31
theorem dX0_setLiking_0 : decode cX0_setLiking 0 = .ok (.aload_n 0, 1) := by decide +kernel
theorem dX0_setLiking_1 : decode cX0_setLiking 1 = .ok (.iload_n 1, 1) := by decide +kernel
theorem dX0_setLiking_2 : decode cX0_setLiking 2 = .ok (.invokevirtual 75, 3) := by decide +kernel
theorem dX0_setLiking_5 : decode cX0_setLiking 5 = .ok (.ifCond .eq 23, 3) := by decide +kernel
theorem dX0_setLiking_8 : decode cX0_setLiking 8 = .ok (.aload_n 0, 1) := by decide +kernel
theorem dX0_setLiking_9 : decode cX0_setLiking 9 = .ok (.iload_n 2, 1) := by decide +kernel
theorem dX0_setLiking_10 : decode cX0_setLiking 10 = .ok (.invokevirtual 75, 3) := by decide +kernel
theorem dX0_setLiking_13 : decode cX0_setLiking 13 = .ok (.ifCond .eq 15, 3) := by decide +kernel
theorem dX0_setLiking_16 : decode cX0_setLiking 16 = .ok (.aload_n 0, 1) := by decide +kernel
theorem dX0_setLiking_17 : decode cX0_setLiking 17 = .ok (.getfield 31, 3) := by decide +kernel
theorem dX0_setLiking_20 : decode cX0_setLiking 20 = .ok (.iload_n 1, 1) := by decide +kernel
theorem dX0_setLiking_21 : decode cX0_setLiking 21 = .ok (.bipush 8, 2) := by decide +kernel
theorem dX0_setLiking_23 : decode cX0_setLiking 23 = .ok (.imul, 1) := by decide +kernel
theorem dX0_setLiking_24 : decode cX0_setLiking 24 = .ok (.iload_n 2, 1) := by decide +kernel
theorem dX0_setLiking_25 : decode cX0_setLiking 25 = .ok (.iadd, 1) := by decide +kernel
theorem dX0_setLiking_26 : decode cX0_setLiking 26 = .ok (.iload_n 3, 1) := by decide +kernel
theorem dX0_setLiking_27 : decode cX0_setLiking 27 = .ok (.iastore, 1) := by decide +kernel
theorem dX0_setLiking_28 : decode cX0_setLiking 28 = .ok (.return_, 1) := by decide +kernel
theorem mv_X0_setLiking : MV yX0_setLiking RX0 cX0_setLiking 4 none 3 := ⟨tb_682, tb_680, tb_681, tb_2, by decide +kernel, by decide +kernel, by decide +kernel⟩
def f_X0_setLiking (fu : Nat) (a_liked : Nat → Int32) (a_count : Int32) (x1 : Int32) (x2 : Int32) (x3 : Int32) : Option ((Nat → Int32)) := (f_X0_isMan fu a_count x1).bind fun z_6 => (if z_6 = 0 then some (a_liked) else (f_X0_isMan fu a_count x2).bind fun z_8 => (if z_8 = 0 then some (a_liked) else (wrI a_liked 64 ((x1 * 8) + x2) x3).bind fun a_liked_10 => some (a_liked_10)))
abbrev rm_X0_setLiking : Room := { frames := 1, cells := 0, slots := 0, locals := 21 }
set_option maxHeartbeats 4000000 in
set_option maxRecDepth 100000 in
theorem c_X0_setLiking (l : Launch) (D : va_G) (cy : Nat → ClassId) (fu : Nat) (A_a : Nat → Nat) (a_name : Nat → Int64) (a_courage : Nat → Int32) (a_weight : Nat → Int32) (a_medals : Nat → Int32) (a_stood : Nat → Int32) (a_fled : Nat → Int32) (a_liked : Nat → Int32) (a_votes : Nat → Int32) (a_count : Int32) (a_living : Int32) (a_pride : Int32) (a_quota : Int32) (a_melted : Int32) (a_lost : Int32) (x1 : Int32) (x2 : Int32) (x3 : Int32) (res : (Nat → Int32)) (h : f_X0_setLiking fu a_liked a_count x1 x2 x3 = some res) (A : Nat → Prop) (hA : A = adr [bl_X0 cy A_a a_name a_courage a_weight a_medals a_stood a_fled a_liked a_votes a_count a_living a_pride a_quota a_melted a_lost]) (W1 : List va_W) (hW1 : W1 = [bl_X0 cy A_a a_name a_courage a_weight a_medals a_stood a_fled res a_votes a_count a_living a_pride a_quota a_melted a_lost]) : Met l yX0_setLiking (WW yX0_setLiking cX0_setLiking 4 none) rm_X0_setLiking (Ed D cy [.ref (A_a 0), .int x1, .int x2, .int x3] [bl_X0 cy A_a a_name a_courage a_weight a_medals a_stood a_fled a_liked a_votes a_count a_living a_pride a_quota a_melted a_lost]) (Qev D A W1) 0 0 A := by
  refine Met.ofW (cc := cX0_setLiking) (maxL := 4) (ret := none) (by decide) rfl ?_
  intro p e s m args below meth c s₁ B hml hv
  obtain ⟨hargs, hP, hX, hD0⟩ := hv
  have hx := B.exec
  have hb := B.bytes
  have hr := B.returns
  have ht : ∀ w ∈ lw_gd, w.before args s = true := fun w hw => atoms_spec (ws := WW yX0_setLiking cX0_setLiking 4 none) B.pre w (List.mem_cons_of_mem _ hw)
  have hown : s.vm.findClass RX0 = some m.cls := findClass_of_methodNamed B.named
  have hlocks := B.notSynchronized
  have hP : PD D A [bl_X0 cy A_a a_name a_courage a_weight a_medals a_stood a_fled a_liked a_votes a_count a_living a_pride a_quota a_melted a_lost] s.heap := ⟨hP, by rw [hA]; exact hD0.own⟩
  have hS : va_S A s.heap s.heap [] := va_S.rf
  obtain ⟨ls, hl, hent⟩ := ent (m := m) (n := 4) hargs (Nat.le_of_ble_eq_true rfl) (lv := [(0, .ref (A_a 0)), (1, .int x1), (2, .int x2), (3, .int x3)]) rfl
  rw [hent]
  clear hent
  unfold f_X0_setLiking at h
  refine lv_aload_n hx hb dX0_setLiking_0 rfl (lv_at hl 0 rfl) ?_
  refine lv_iload_n hx hb dX0_setLiking_1 rfl (lv_at hl 1 rfl) ?_
  obtain ⟨z_6, e_z_6, h⟩ := bi h
  refine roVi (rest := []) ⟨hx, hb, hml, hown, ht⟩ (c_X0_isMan l D cy fu A_a a_name a_courage a_weight a_medals a_stood a_fled a_liked a_votes a_count a_living a_pride a_quota a_melted a_lost x1 z_6 e_z_6) (cV ht mv_X0_isMan tb_683 rfl rfl ⟨Nat.le_of_ble_eq_true rfl, Nat.le_of_ble_eq_true rfl⟩) (P_sub hP.1 [0] rfl) hX rfl rfl rfl hl.1 rfl (Nat.le_of_ble_eq_true rfl) dX0_setLiking_2 ⟨Nat.le_of_ble_eq_true rfl, Nat.le_of_ble_eq_true rfl⟩ ?_
  refine lv_if_eq (tgt := 28) hx hb dX0_setLiking_5 (by decide) (fun c_7 => ?_) (fun c_7 => ?_)
  · have h := it c_7 h
    cases h
    subst hW1
    exact W.vret hx hb hr (fun _ ht9 _ => ⟨⟨(), rfl, trivial, hPt ht9 hP.1⟩, hS.F ht9⟩) hS.2.2 dX0_setLiking_28
  · have h := ie c_7 h
    refine lv_aload_n hx hb dX0_setLiking_8 rfl (lv_at hl 0 rfl) ?_
    refine lv_iload_n hx hb dX0_setLiking_9 rfl (lv_at hl 2 rfl) ?_
    obtain ⟨z_8, e_z_8, h⟩ := bi h
    refine roVi (rest := []) ⟨hx, hb, hml, hown, ht⟩ (c_X0_isMan l D cy fu A_a a_name a_courage a_weight a_medals a_stood a_fled a_liked a_votes a_count a_living a_pride a_quota a_melted a_lost x2 z_8 e_z_8) (cV ht mv_X0_isMan tb_683 rfl rfl ⟨Nat.le_of_ble_eq_true rfl, Nat.le_of_ble_eq_true rfl⟩) (P_sub hP.1 [0] rfl) hX rfl rfl rfl hl.1 rfl (Nat.le_of_ble_eq_true rfl) dX0_setLiking_10 ⟨Nat.le_of_ble_eq_true rfl, Nat.le_of_ble_eq_true rfl⟩ ?_
    refine lv_if_eq (tgt := 28) hx hb dX0_setLiking_13 (by decide) (fun c_9 => ?_) (fun c_9 => ?_)
    · have h := it c_9 h
      cases h
      subst hW1
      exact W.vret hx hb hr (fun _ ht9 _ => ⟨⟨(), rfl, trivial, hPt ht9 hP.1⟩, hS.F ht9⟩) hS.2.2 dX0_setLiking_28
    · have h := ie c_9 h
      refine lv_aload_n hx hb dX0_setLiking_16 rfl (lv_at hl 0 rfl) ?_
      refine xget (i := 0) (j := 0) (k := 6) (T := TX0) hx hb ht tb_iX0 hown hX hP.1 rfl rfl rfl (by decide) tb_53 rfl dX0_setLiking_17 ?_
      refine lv_iload_n hx hb dX0_setLiking_20 rfl (lv_at hl 1 rfl) ?_
      refine lv_bipush (v := 8) hx hb dX0_setLiking_21 (by decide) ?_
      refine lv_imul hx hb dX0_setLiking_23 ?_
      refine lv_iload_n hx hb dX0_setLiking_24 rfl (lv_at hl 2 rfl) ?_
      refine lv_iadd hx hb dX0_setLiking_25 ?_
      refine lv_iload_n hx hb dX0_setLiking_26 rfl (lv_at hl 3 rfl) ?_
      obtain ⟨a_liked_10, e_a_liked_10, h⟩ := bi h
      refine xiast (i0 := 0) (j0 := 7) hx hb hX hP hS rfl rfl e_a_liked_10 dX0_setLiking_27 (fun H locs hP hS => ?_)
      have hP : PD D A [bl_X0 cy A_a a_name a_courage a_weight a_medals a_stood a_fled a_liked_10 a_votes a_count a_living a_pride a_quota a_melted a_lost] H := hP
      cases h
      subst hW1
      exact W.vret hx hb hr (fun _ ht9 _ => ⟨⟨(), rfl, trivial, hPt ht9 hP.1⟩, hS.F ht9⟩) hS.2.2 dX0_setLiking_28
theorem dX0_decorated_0 : decode cX0_decorated 0 = .ok (.iconst 0, 1) := by decide +kernel
theorem dX0_decorated_1 : decode cX0_decorated 1 = .ok (.istore_n 1, 1) := by decide +kernel
theorem dX0_decorated_2 : decode cX0_decorated 2 = .ok (.iconst 0, 1) := by decide +kernel
theorem dX0_decorated_3 : decode cX0_decorated 3 = .ok (.istore_n 2, 1) := by decide +kernel
theorem dX0_decorated_4 : decode cX0_decorated 4 = .ok (.iload_n 2, 1) := by decide +kernel
theorem dX0_decorated_5 : decode cX0_decorated 5 = .ok (.aload_n 0, 1) := by decide +kernel
theorem dX0_decorated_6 : decode cX0_decorated 6 = .ok (.getfield 37, 3) := by decide +kernel
theorem dX0_decorated_9 : decode cX0_decorated 9 = .ok (.if_icmp .ge 24, 3) := by decide +kernel
theorem dX0_decorated_12 : decode cX0_decorated 12 = .ok (.aload_n 0, 1) := by decide +kernel
theorem dX0_decorated_13 : decode cX0_decorated 13 = .ok (.getfield 22, 3) := by decide +kernel
theorem dX0_decorated_16 : decode cX0_decorated 16 = .ok (.iload_n 2, 1) := by decide +kernel
theorem dX0_decorated_17 : decode cX0_decorated 17 = .ok (.iaload, 1) := by decide +kernel
theorem dX0_decorated_18 : decode cX0_decorated 18 = .ok (.ifCond .le 9, 3) := by decide +kernel
theorem dX0_decorated_21 : decode cX0_decorated 21 = .ok (.iload_n 1, 1) := by decide +kernel
theorem dX0_decorated_22 : decode cX0_decorated 22 = .ok (.iconst 1, 1) := by decide +kernel
theorem dX0_decorated_23 : decode cX0_decorated 23 = .ok (.iload_n 2, 1) := by decide +kernel
theorem dX0_decorated_24 : decode cX0_decorated 24 = .ok (.ishl, 1) := by decide +kernel
theorem dX0_decorated_25 : decode cX0_decorated 25 = .ok (.ior, 1) := by decide +kernel
theorem dX0_decorated_26 : decode cX0_decorated 26 = .ok (.istore_n 1, 1) := by decide +kernel
theorem dX0_decorated_27 : decode cX0_decorated 27 = .ok (.iinc 2 1, 3) := by decide +kernel
theorem dX0_decorated_30 : decode cX0_decorated 30 = .ok (.goto (-26), 3) := by decide +kernel
theorem dX0_decorated_33 : decode cX0_decorated 33 = .ok (.iload_n 1, 1) := by decide +kernel
theorem dX0_decorated_34 : decode cX0_decorated 34 = .ok (.ireturn, 1) := by decide +kernel
theorem mv_X0_decorated : MV yX0_decorated RX0 cX0_decorated 3 (some .int) 0 := ⟨tb_766, tb_764, tb_765, tb_2, by decide +kernel, by decide +kernel, by decide +kernel⟩
def f_X0_decorated_b4 (fu : Nat) (a_medals : Nat → Int32) (a_count : Int32) (k4 : Int32 → Int32 → Option (Int32)) (x1 : Int32) (x2 : Int32) : Option (Int32) := (if a_count ≤ x2 then some (x1) else (rdI a_medals 8 x2).bind fun y_8 => (if y_8 ≤ 0 then bnd (x2 + 1) fun x2_10 => k4 x1 x2_10 else bnd (x1 ||| ((1 : Int32) <<< (x2 &&& 31))) fun x1_11 => bnd (x2 + 1) fun x2_12 => k4 x1_11 x2_12))
def f_X0_decorated_l4 (fu : Nat) (a_medals : Nat → Int32) (a_count : Int32) : Nat → Int32 → Int32 → Option (Int32)
  | 0, _, _ => none
  | n + 1, x1, x2 => f_X0_decorated_b4 fu a_medals a_count (f_X0_decorated_l4 fu a_medals a_count n) x1 x2
def f_X0_decorated (fu : Nat) (a_medals : Nat → Int32) (a_count : Int32) : Option (Int32) := f_X0_decorated_l4 fu a_medals a_count fu 0 0
abbrev rm_X0_decorated : Room := { frames := 0, cells := 0, slots := 0, locals := 0 }
set_option maxHeartbeats 4000000 in
set_option maxRecDepth 100000 in
theorem c_X0_decorated (l : Launch) (D : va_G) (cy : Nat → ClassId) (fu : Nat) (A_a : Nat → Nat) (a_name : Nat → Int64) (a_courage : Nat → Int32) (a_weight : Nat → Int32) (a_medals : Nat → Int32) (a_stood : Nat → Int32) (a_fled : Nat → Int32) (a_liked : Nat → Int32) (a_votes : Nat → Int32) (a_count : Int32) (a_living : Int32) (a_pride : Int32) (a_quota : Int32) (a_melted : Int32) (a_lost : Int32) (res : Int32) (h : f_X0_decorated fu a_medals a_count = some res) : Met l yX0_decorated (WW yX0_decorated cX0_decorated 3 (some .int)) rm_X0_decorated (Rd D cy [.ref (A_a 0)] [bl_X0 cy A_a a_name a_courage a_weight a_medals a_stood a_fled a_liked a_votes a_count a_living a_pride a_quota a_melted a_lost]) (vp_Si (fun v => v = res)) 0 0 (fun _ => False) := by
  refine Met.ofW (cc := cX0_decorated) (maxL := 3) (ret := (some .int)) (by decide) rfl ?_
  intro p e s m args below meth c s₁ B hml hv
  obtain ⟨hargs, hP, hX⟩ := hv
  have hx := B.exec
  have hb := B.bytes
  have hr := B.returns
  have ht : ∀ w ∈ lw_gd, w.before args s = true := fun w hw => atoms_spec (ws := WW yX0_decorated cX0_decorated 3 (some .int)) B.pre w (List.mem_cons_of_mem _ hw)
  have hown : s.vm.findClass RX0 = some m.cls := findClass_of_methodNamed B.named
  have hlocks := B.notSynchronized
  have hP : PB D [bl_X0 cy A_a a_name a_courage a_weight a_medals a_stood a_fled a_liked a_votes a_count a_living a_pride a_quota a_melted a_lost] s.heap := hP
  obtain ⟨ls, hl, hent⟩ := ent (m := m) (n := 3) hargs (Nat.le_of_ble_eq_true rfl) (lv := [(0, .ref (A_a 0))]) rfl
  rw [hent]
  clear hent
  have l4 : ∀ (n4 : Nat) (x1 : Int32) (x2 : Int32) (ls : Array Slot), lv_has ls 3 [(0, .ref (A_a 0)), (1, .int x1), (2, .int x2)] → f_X0_decorated_l4 fu a_medals a_count n4 x1 x2 = some res → W p l e (headSpec (WW yX0_decorated cX0_decorated 3 (some .int)) rm_X0_decorated).room s m args below meth c s.heap [] 0 0 (MQ below (vp_Si (fun v => v = res)) args s 0 0 (fun _ => False)) (F0 m 4 ls []) := by
    intro n4
    induction n4 with
    | zero => intro x1 x2 ls hl h; cases h
    | succ n4 ih4 =>
      intro x1 x2 ls hl h
      have h : f_X0_decorated_b4 fu a_medals a_count (f_X0_decorated_l4 fu a_medals a_count n4) x1 x2 = some res := h
      unfold f_X0_decorated_b4 at h
      refine lv_iload_n hx hb dX0_decorated_4 rfl (lv_at hl 2 rfl) ?_
      refine lv_aload_n hx hb dX0_decorated_5 rfl (lv_at hl 0 rfl) ?_
      refine xget (i := 0) (j := 0) (k := 8) (T := TX0) hx hb ht tb_iX0 hown hX hP rfl rfl rfl (by decide) tb_55 rfl dX0_decorated_6 ?_
      refine lv_icmp_ge (tgt := 33) hx hb dX0_decorated_9 (by decide) (fun c_7 => ?_) (fun c_7 => ?_)
      · have h := it c_7 h
        refine lv_iload_n hx hb dX0_decorated_33 rfl (lv_at hl 1 rfl) ?_
        cases h
        exact W.iret hx hb hr (fun _ ht9 _ => ⟨_, rfl, rfl, ht9⟩) (fun _ hq => by cases hq) dX0_decorated_34
      · have h := ie c_7 h
        refine lv_aload_n hx hb dX0_decorated_12 rfl (lv_at hl 0 rfl) ?_
        refine xget (i := 0) (j := 0) (k := 3) (T := TX0) hx hb ht tb_iX0 hown hX hP rfl rfl rfl (by decide) tb_43 rfl dX0_decorated_13 ?_
        refine lv_iload_n hx hb dX0_decorated_16 rfl (lv_at hl 2 rfl) ?_
        obtain ⟨y_8, e_y_8, h⟩ := bi h
        refine xiald (i0 := 0) (j0 := 4) hx hb hX hP rfl rfl e_y_8 dX0_decorated_17 ?_
        refine lv_if_le (tgt := 27) hx hb dX0_decorated_18 (by decide) (fun c_9 => ?_) (fun c_9 => ?_)
        · have h := it c_9 h
          obtain ⟨x2_10, e_x2_10⟩ : ∃ y : Int32, y = x2 + 1 := ⟨_, rfl⟩
          have h := bn e_x2_10 h
          refine lv_iinc (v := x2_10) (lv' := [(2, .int x2_10), (0, .ref (A_a 0)), (1, .int x1)]) hx hb dX0_decorated_27 hl (k := 2) rfl (by rw [e_x2_10]; rfl) (by decide) rfl (fun ls hl => ?_)
          refine lv_goto (tgt := 4) hx hb dX0_decorated_30 (by decide) ?_
          exact ih4 x1 x2_10 ls (lv_sub hl [1, 2, 0] rfl) h
        · have h := ie c_9 h
          refine lv_iload_n hx hb dX0_decorated_21 rfl (lv_at hl 1 rfl) ?_
          refine lv_iconst (v := 1) hx hb dX0_decorated_22 (by decide) ?_
          refine lv_iload_n hx hb dX0_decorated_23 rfl (lv_at hl 2 rfl) ?_
          refine lv_ishl hx hb dX0_decorated_24 ?_
          refine lv_ior hx hb dX0_decorated_25 ?_
          refine lv_topi (fun x1_11 e_x1_11 => ?_)
          have h := bn e_x1_11 h
          refine lv_istore_n (lv' := [(1, .int x1_11), (0, .ref (A_a 0)), (2, .int x2)]) hx hb dX0_decorated_26 rfl hl (by decide) rfl (fun ls hl => ?_)
          obtain ⟨x2_12, e_x2_12⟩ : ∃ y : Int32, y = x2 + 1 := ⟨_, rfl⟩
          have h := bn e_x2_12 h
          refine lv_iinc (v := x2_12) (lv' := [(2, .int x2_12), (1, .int x1_11), (0, .ref (A_a 0))]) hx hb dX0_decorated_27 hl (k := 2) rfl (by rw [e_x2_12]; rfl) (by decide) rfl (fun ls hl => ?_)
          refine lv_goto (tgt := 4) hx hb dX0_decorated_30 (by decide) ?_
          exact ih4 x1_11 x2_12 ls (lv_sub hl [2, 1, 0] rfl) h
  unfold f_X0_decorated at h
  refine lv_iconst (v := 0) hx hb dX0_decorated_0 (by decide) ?_
  refine lv_istore_n (lv' := [(1, .int 0), (0, .ref (A_a 0))]) hx hb dX0_decorated_1 rfl hl (by decide) rfl (fun ls hl => ?_)
  refine lv_iconst (v := 0) hx hb dX0_decorated_2 (by decide) ?_
  refine lv_istore_n (lv' := [(2, .int 0), (1, .int 0), (0, .ref (A_a 0))]) hx hb dX0_decorated_3 rfl hl (by decide) rfl (fun ls hl => ?_)
  exact l4 fu 0 0 ls (lv_sub hl [2, 1, 0] rfl) h
theorem dX0_braveryWith_0 : decode cX0_braveryWith 0 = .ok (.iload_n 1, 1) := by decide +kernel
theorem dX0_braveryWith_1 : decode cX0_braveryWith 1 = .ok (.aload_n 0, 1) := by decide +kernel
theorem dX0_braveryWith_2 : decode cX0_braveryWith 2 = .ok (.getfield 44, 3) := by decide +kernel
theorem dX0_braveryWith_5 : decode cX0_braveryWith 5 = .ok (.iload_n 2, 1) := by decide +kernel
theorem dX0_braveryWith_6 : decode cX0_braveryWith 6 = .ok (.imul, 1) := by decide +kernel
theorem dX0_braveryWith_7 : decode cX0_braveryWith 7 = .ok (.iadd, 1) := by decide +kernel
theorem dX0_braveryWith_8 : decode cX0_braveryWith 8 = .ok (.istore_n 3, 1) := by decide +kernel
theorem dX0_braveryWith_9 : decode cX0_braveryWith 9 = .ok (.iload_n 3, 1) := by decide +kernel
theorem dX0_braveryWith_10 : decode cX0_braveryWith 10 = .ok (.bipush 99, 2) := by decide +kernel
theorem dX0_braveryWith_12 : decode cX0_braveryWith 12 = .ok (.if_icmp .le 8, 3) := by decide +kernel
theorem dX0_braveryWith_15 : decode cX0_braveryWith 15 = .ok (.bipush 99, 2) := by decide +kernel
theorem dX0_braveryWith_17 : decode cX0_braveryWith 17 = .ok (.goto 4, 3) := by decide +kernel
theorem dX0_braveryWith_20 : decode cX0_braveryWith 20 = .ok (.iload_n 3, 1) := by decide +kernel
theorem dX0_braveryWith_21 : decode cX0_braveryWith 21 = .ok (.ireturn, 1) := by decide +kernel
theorem mv_X0_braveryWith : MV yX0_braveryWith RX0 cX0_braveryWith 4 (some .int) 2 := ⟨tb_786, tb_784, tb_785, tb_2, by decide +kernel, by decide +kernel, by decide +kernel⟩
def f_X0_braveryWith (fu : Nat) (a_pride : Int32) (x1 : Int32) (x2 : Int32) : Option (Int32) := bnd (x1 + (a_pride * x2)) fun x3_3 => (if x3_3 ≤ 99 then some (x3_3) else some (99))
abbrev rm_X0_braveryWith : Room := { frames := 0, cells := 0, slots := 0, locals := 0 }
set_option maxHeartbeats 4000000 in
set_option maxRecDepth 100000 in
theorem c_X0_braveryWith (l : Launch) (D : va_G) (cy : Nat → ClassId) (fu : Nat) (A_a : Nat → Nat) (a_name : Nat → Int64) (a_courage : Nat → Int32) (a_weight : Nat → Int32) (a_medals : Nat → Int32) (a_stood : Nat → Int32) (a_fled : Nat → Int32) (a_liked : Nat → Int32) (a_votes : Nat → Int32) (a_count : Int32) (a_living : Int32) (a_pride : Int32) (a_quota : Int32) (a_melted : Int32) (a_lost : Int32) (x1 : Int32) (x2 : Int32) (res : Int32) (h : f_X0_braveryWith fu a_pride x1 x2 = some res) : Met l yX0_braveryWith (WW yX0_braveryWith cX0_braveryWith 4 (some .int)) rm_X0_braveryWith (Rd D cy [.ref (A_a 0), .int x1, .int x2] [bl_X0 cy A_a a_name a_courage a_weight a_medals a_stood a_fled a_liked a_votes a_count a_living a_pride a_quota a_melted a_lost]) (vp_Si (fun v => v = res)) 0 0 (fun _ => False) := by
  refine Met.ofW (cc := cX0_braveryWith) (maxL := 4) (ret := (some .int)) (by decide) rfl ?_
  intro p e s m args below meth c s₁ B hml hv
  obtain ⟨hargs, hP, hX⟩ := hv
  have hx := B.exec
  have hb := B.bytes
  have hr := B.returns
  have ht : ∀ w ∈ lw_gd, w.before args s = true := fun w hw => atoms_spec (ws := WW yX0_braveryWith cX0_braveryWith 4 (some .int)) B.pre w (List.mem_cons_of_mem _ hw)
  have hown : s.vm.findClass RX0 = some m.cls := findClass_of_methodNamed B.named
  have hlocks := B.notSynchronized
  have hP : PB D [bl_X0 cy A_a a_name a_courage a_weight a_medals a_stood a_fled a_liked a_votes a_count a_living a_pride a_quota a_melted a_lost] s.heap := hP
  obtain ⟨ls, hl, hent⟩ := ent (m := m) (n := 4) hargs (Nat.le_of_ble_eq_true rfl) (lv := [(0, .ref (A_a 0)), (1, .int x1), (2, .int x2)]) rfl
  rw [hent]
  clear hent
  unfold f_X0_braveryWith at h
  refine lv_iload_n hx hb dX0_braveryWith_0 rfl (lv_at hl 1 rfl) ?_
  refine lv_aload_n hx hb dX0_braveryWith_1 rfl (lv_at hl 0 rfl) ?_
  refine xget (i := 0) (j := 0) (k := 10) (T := TX0) hx hb ht tb_iX0 hown hX hP rfl rfl rfl (by decide) tb_65 rfl dX0_braveryWith_2 ?_
  refine lv_iload_n hx hb dX0_braveryWith_5 rfl (lv_at hl 2 rfl) ?_
  refine lv_imul hx hb dX0_braveryWith_6 ?_
  refine lv_iadd hx hb dX0_braveryWith_7 ?_
  refine lv_topi (fun x3_3 e_x3_3 => ?_)
  have h := bn e_x3_3 h
  refine lv_istore_n (lv' := [(3, .int x3_3), (0, .ref (A_a 0)), (1, .int x1), (2, .int x2)]) hx hb dX0_braveryWith_8 rfl hl (by decide) rfl (fun ls hl => ?_)
  refine lv_iload_n hx hb dX0_braveryWith_9 rfl (lv_at hl 0 rfl) ?_
  refine lv_bipush (v := 99) hx hb dX0_braveryWith_10 (by decide) ?_
  refine lv_icmp_le (tgt := 20) hx hb dX0_braveryWith_12 (by decide) (fun c_4 => ?_) (fun c_4 => ?_)
  · have h := it c_4 h
    refine lv_iload_n hx hb dX0_braveryWith_20 rfl (lv_at hl 0 rfl) ?_
    cases h
    exact W.iret hx hb hr (fun _ ht9 _ => ⟨_, rfl, rfl, ht9⟩) (fun _ hq => by cases hq) dX0_braveryWith_21
  · have h := ie c_4 h
    refine lv_bipush (v := 99) hx hb dX0_braveryWith_15 (by decide) ?_
    refine lv_goto (tgt := 21) hx hb dX0_braveryWith_17 (by decide) ?_
    cases h
    exact W.iret hx hb hr (fun _ ht9 _ => ⟨_, rfl, rfl, ht9⟩) (fun _ hq => by cases hq) dX0_braveryWith_21
theorem dX0_bravery_0 : decode cX0_bravery 0 = .ok (.aload_n 0, 1) := by decide +kernel
theorem dX0_bravery_1 : decode cX0_bravery 1 = .ok (.iload_n 1, 1) := by decide +kernel
theorem dX0_bravery_2 : decode cX0_bravery 2 = .ok (.invokevirtual 75, 3) := by decide +kernel
theorem dX0_bravery_5 : decode cX0_bravery 5 = .ok (.ifCond .eq 22, 3) := by decide +kernel
theorem dX0_bravery_8 : decode cX0_bravery 8 = .ok (.aload_n 0, 1) := by decide +kernel
theorem dX0_bravery_9 : decode cX0_bravery 9 = .ok (.aload_n 0, 1) := by decide +kernel
theorem dX0_bravery_10 : decode cX0_bravery 10 = .ok (.getfield 15, 3) := by decide +kernel
theorem dX0_bravery_13 : decode cX0_bravery 13 = .ok (.iload_n 1, 1) := by decide +kernel
theorem dX0_bravery_14 : decode cX0_bravery 14 = .ok (.iaload, 1) := by decide +kernel
theorem dX0_bravery_15 : decode cX0_bravery 15 = .ok (.aload_n 0, 1) := by decide +kernel
theorem dX0_bravery_16 : decode cX0_bravery 16 = .ok (.getfield 22, 3) := by decide +kernel
theorem dX0_bravery_19 : decode cX0_bravery 19 = .ok (.iload_n 1, 1) := by decide +kernel
theorem dX0_bravery_20 : decode cX0_bravery 20 = .ok (.iaload, 1) := by decide +kernel
theorem dX0_bravery_21 : decode cX0_bravery 21 = .ok (.invokevirtual 79, 3) := by decide +kernel
theorem dX0_bravery_24 : decode cX0_bravery 24 = .ok (.goto 4, 3) := by decide +kernel
theorem dX0_bravery_27 : decode cX0_bravery 27 = .ok (.iconst 0, 1) := by decide +kernel
theorem dX0_bravery_28 : decode cX0_bravery 28 = .ok (.ireturn, 1) := by decide +kernel
theorem mv_X0_bravery : MV yX0_bravery RX0 cX0_bravery 2 (some .int) 1 := ⟨tb_782, tb_780, tb_781, tb_2, by decide +kernel, by decide +kernel, by decide +kernel⟩
def f_X0_bravery (fu : Nat) (a_courage : Nat → Int32) (a_medals : Nat → Int32) (a_count : Int32) (a_pride : Int32) (x1 : Int32) : Option (Int32) := (f_X0_isMan fu a_count x1).bind fun z_6 => (if z_6 = 0 then some (0) else (rdI a_courage 8 x1).bind fun y_8 => (rdI a_medals 8 x1).bind fun y_9 => (f_X0_braveryWith fu a_pride y_8 y_9).bind fun z_10 => some (z_10))
abbrev rm_X0_bravery : Room := { frames := 1, cells := 0, slots := 0, locals := 23 }
set_option maxHeartbeats 4000000 in
set_option maxRecDepth 100000 in
theorem c_X0_bravery (l : Launch) (D : va_G) (cy : Nat → ClassId) (fu : Nat) (A_a : Nat → Nat) (a_name : Nat → Int64) (a_courage : Nat → Int32) (a_weight : Nat → Int32) (a_medals : Nat → Int32) (a_stood : Nat → Int32) (a_fled : Nat → Int32) (a_liked : Nat → Int32) (a_votes : Nat → Int32) (a_count : Int32) (a_living : Int32) (a_pride : Int32) (a_quota : Int32) (a_melted : Int32) (a_lost : Int32) (x1 : Int32) (res : Int32) (h : f_X0_bravery fu a_courage a_medals a_count a_pride x1 = some res) : Met l yX0_bravery (WW yX0_bravery cX0_bravery 2 (some .int)) rm_X0_bravery (Rd D cy [.ref (A_a 0), .int x1] [bl_X0 cy A_a a_name a_courage a_weight a_medals a_stood a_fled a_liked a_votes a_count a_living a_pride a_quota a_melted a_lost]) (vp_Si (fun v => v = res)) 0 0 (fun _ => False) := by
  refine Met.ofW (cc := cX0_bravery) (maxL := 2) (ret := (some .int)) (by decide) rfl ?_
  intro p e s m args below meth c s₁ B hml hv
  obtain ⟨hargs, hP, hX⟩ := hv
  have hx := B.exec
  have hb := B.bytes
  have hr := B.returns
  have ht : ∀ w ∈ lw_gd, w.before args s = true := fun w hw => atoms_spec (ws := WW yX0_bravery cX0_bravery 2 (some .int)) B.pre w (List.mem_cons_of_mem _ hw)
  have hown : s.vm.findClass RX0 = some m.cls := findClass_of_methodNamed B.named
  have hlocks := B.notSynchronized
  have hP : PB D [bl_X0 cy A_a a_name a_courage a_weight a_medals a_stood a_fled a_liked a_votes a_count a_living a_pride a_quota a_melted a_lost] s.heap := hP
  obtain ⟨ls, hl, hent⟩ := ent (m := m) (n := 2) hargs (Nat.le_of_ble_eq_true rfl) (lv := [(0, .ref (A_a 0)), (1, .int x1)]) rfl
  rw [hent]
  clear hent
  unfold f_X0_bravery at h
  refine lv_aload_n hx hb dX0_bravery_0 rfl (lv_at hl 0 rfl) ?_
  refine lv_iload_n hx hb dX0_bravery_1 rfl (lv_at hl 1 rfl) ?_
  obtain ⟨z_6, e_z_6, h⟩ := bi h
  refine roVi (rest := []) ⟨hx, hb, hml, hown, ht⟩ (c_X0_isMan l D cy fu A_a a_name a_courage a_weight a_medals a_stood a_fled a_liked a_votes a_count a_living a_pride a_quota a_melted a_lost x1 z_6 e_z_6) (cV ht mv_X0_isMan tb_683 rfl rfl ⟨Nat.le_of_ble_eq_true rfl, Nat.le_of_ble_eq_true rfl⟩) (P_sub hP [0] rfl) hX rfl rfl rfl hl.1 rfl (Nat.le_of_ble_eq_true rfl) dX0_bravery_2 ⟨Nat.le_of_ble_eq_true rfl, Nat.le_of_ble_eq_true rfl⟩ ?_
  refine lv_if_eq (tgt := 27) hx hb dX0_bravery_5 (by decide) (fun c_7 => ?_) (fun c_7 => ?_)
  · have h := it c_7 h
    refine lv_iconst (v := 0) hx hb dX0_bravery_27 (by decide) ?_
    cases h
    exact W.iret hx hb hr (fun _ ht9 _ => ⟨_, rfl, rfl, ht9⟩) (fun _ hq => by cases hq) dX0_bravery_28
  · have h := ie c_7 h
    refine lv_aload_n hx hb dX0_bravery_8 rfl (lv_at hl 0 rfl) ?_
    refine lv_aload_n hx hb dX0_bravery_9 rfl (lv_at hl 0 rfl) ?_
    refine xget (i := 0) (j := 0) (k := 1) (T := TX0) hx hb ht tb_iX0 hown hX hP rfl rfl rfl (by decide) tb_39 rfl dX0_bravery_10 ?_
    refine lv_iload_n hx hb dX0_bravery_13 rfl (lv_at hl 1 rfl) ?_
    obtain ⟨y_8, e_y_8, h⟩ := bi h
    refine xiald (i0 := 0) (j0 := 2) hx hb hX hP rfl rfl e_y_8 dX0_bravery_14 ?_
    refine lv_aload_n hx hb dX0_bravery_15 rfl (lv_at hl 0 rfl) ?_
    refine xget (i := 0) (j := 0) (k := 3) (T := TX0) hx hb ht tb_iX0 hown hX hP rfl rfl rfl (by decide) tb_43 rfl dX0_bravery_16 ?_
    refine lv_iload_n hx hb dX0_bravery_19 rfl (lv_at hl 1 rfl) ?_
    obtain ⟨y_9, e_y_9, h⟩ := bi h
    refine xiald (i0 := 0) (j0 := 4) hx hb hX hP rfl rfl e_y_9 dX0_bravery_20 ?_
    obtain ⟨z_10, e_z_10, h⟩ := bi h
    refine roVi (rest := []) ⟨hx, hb, hml, hown, ht⟩ (c_X0_braveryWith l D cy fu A_a a_name a_courage a_weight a_medals a_stood a_fled a_liked a_votes a_count a_living a_pride a_quota a_melted a_lost y_8 y_9 z_10 e_z_10) (cV ht mv_X0_braveryWith tb_783 rfl rfl ⟨Nat.le_of_ble_eq_true rfl, Nat.le_of_ble_eq_true rfl⟩) (P_sub hP [0] rfl) hX rfl rfl rfl hl.1 rfl (Nat.le_of_ble_eq_true rfl) dX0_bravery_21 ⟨Nat.le_of_ble_eq_true rfl, Nat.le_of_ble_eq_true rfl⟩ ?_
    refine lv_goto (tgt := 28) hx hb dX0_bravery_24 (by decide) ?_
    cases h
    exact W.iret hx hb hr (fun _ ht9 _ => ⟨_, rfl, rfl, ht9⟩) (fun _ hq => by cases hq) dX0_bravery_28
theorem dX0_stands_0 : decode cX0_stands 0 = .ok (.aload_n 0, 1) := by decide +kernel
theorem dX0_stands_1 : decode cX0_stands 1 = .ok (.iload_n 1, 1) := by decide +kernel
theorem dX0_stands_2 : decode cX0_stands 2 = .ok (.invokevirtual 83, 3) := by decide +kernel
theorem dX0_stands_5 : decode cX0_stands 5 = .ok (.iload_n 2, 1) := by decide +kernel
theorem dX0_stands_6 : decode cX0_stands 6 = .ok (.if_icmp .lt 7, 3) := by decide +kernel
theorem dX0_stands_9 : decode cX0_stands 9 = .ok (.iconst 1, 1) := by decide +kernel
theorem dX0_stands_10 : decode cX0_stands 10 = .ok (.goto 4, 3) := by decide +kernel
theorem dX0_stands_13 : decode cX0_stands 13 = .ok (.iconst 0, 1) := by decide +kernel
theorem dX0_stands_14 : decode cX0_stands 14 = .ok (.ireturn, 1) := by decide +kernel
theorem mv_X0_stands : MV yX0_stands RX0 cX0_stands 3 (some .boolean) 2 := ⟨tb_1037, tb_1035, tb_1036, tb_2, by decide +kernel, by decide +kernel, by decide +kernel⟩
def f_X0_stands (fu : Nat) (a_courage : Nat → Int32) (a_medals : Nat → Int32) (a_count : Int32) (a_pride : Int32) (x1 : Int32) (x2 : Int32) : Option (Int32) := (f_X0_bravery fu a_courage a_medals a_count a_pride x1).bind fun z_3 => (if z_3 < x2 then some (0) else some (1))
abbrev rm_X0_stands : Room := { frames := 2, cells := 0, slots := 0, locals := 44 }
set_option maxHeartbeats 4000000 in
set_option maxRecDepth 100000 in
theorem c_X0_stands (l : Launch) (D : va_G) (cy : Nat → ClassId) (fu : Nat) (A_a : Nat → Nat) (a_name : Nat → Int64) (a_courage : Nat → Int32) (a_weight : Nat → Int32) (a_medals : Nat → Int32) (a_stood : Nat → Int32) (a_fled : Nat → Int32) (a_liked : Nat → Int32) (a_votes : Nat → Int32) (a_count : Int32) (a_living : Int32) (a_pride : Int32) (a_quota : Int32) (a_melted : Int32) (a_lost : Int32) (x1 : Int32) (x2 : Int32) (res : Int32) (h : f_X0_stands fu a_courage a_medals a_count a_pride x1 x2 = some res) : Met l yX0_stands (WW yX0_stands cX0_stands 3 (some .boolean)) rm_X0_stands (Rd D cy [.ref (A_a 0), .int x1, .int x2] [bl_X0 cy A_a a_name a_courage a_weight a_medals a_stood a_fled a_liked a_votes a_count a_living a_pride a_quota a_melted a_lost]) (vp_Si (fun v => v = res)) 0 0 (fun _ => False) := by
  refine Met.ofW (cc := cX0_stands) (maxL := 3) (ret := (some .boolean)) (by decide) rfl ?_
  intro p e s m args below meth c s₁ B hml hv
  obtain ⟨hargs, hP, hX⟩ := hv
  have hx := B.exec
  have hb := B.bytes
  have hr := B.returns
  have ht : ∀ w ∈ lw_gd, w.before args s = true := fun w hw => atoms_spec (ws := WW yX0_stands cX0_stands 3 (some .boolean)) B.pre w (List.mem_cons_of_mem _ hw)
  have hown : s.vm.findClass RX0 = some m.cls := findClass_of_methodNamed B.named
  have hlocks := B.notSynchronized
  have hP : PB D [bl_X0 cy A_a a_name a_courage a_weight a_medals a_stood a_fled a_liked a_votes a_count a_living a_pride a_quota a_melted a_lost] s.heap := hP
  obtain ⟨ls, hl, hent⟩ := ent (m := m) (n := 3) hargs (Nat.le_of_ble_eq_true rfl) (lv := [(0, .ref (A_a 0)), (1, .int x1), (2, .int x2)]) rfl
  rw [hent]
  clear hent
  unfold f_X0_stands at h
  refine lv_aload_n hx hb dX0_stands_0 rfl (lv_at hl 0 rfl) ?_
  refine lv_iload_n hx hb dX0_stands_1 rfl (lv_at hl 1 rfl) ?_
  obtain ⟨z_3, e_z_3, h⟩ := bi h
  refine roVi (rest := []) ⟨hx, hb, hml, hown, ht⟩ (c_X0_bravery l D cy fu A_a a_name a_courage a_weight a_medals a_stood a_fled a_liked a_votes a_count a_living a_pride a_quota a_melted a_lost x1 z_3 e_z_3) (cV ht mv_X0_bravery tb_810 rfl rfl ⟨Nat.le_of_ble_eq_true rfl, Nat.le_of_ble_eq_true rfl⟩) (P_sub hP [0] rfl) hX rfl rfl rfl hl.1 rfl (Nat.le_of_ble_eq_true rfl) dX0_stands_2 ⟨Nat.le_of_ble_eq_true rfl, Nat.le_of_ble_eq_true rfl⟩ ?_
  refine lv_iload_n hx hb dX0_stands_5 rfl (lv_at hl 2 rfl) ?_
  refine lv_icmp_lt (tgt := 13) hx hb dX0_stands_6 (by decide) (fun c_4 => ?_) (fun c_4 => ?_)
  · have h := it c_4 h
    refine lv_iconst (v := 0) hx hb dX0_stands_13 (by decide) ?_
    cases h
    exact W.zret hx hb hr rfl (fun _ ht9 _ => ⟨_, rfl, rfl, ht9⟩) (fun _ hq => by cases hq) dX0_stands_14
  · have h := ie c_4 h
    refine lv_iconst (v := 1) hx hb dX0_stands_9 (by decide) ?_
    refine lv_goto (tgt := 14) hx hb dX0_stands_10 (by decide) ?_
    cases h
    exact W.zret hx hb hr rfl (fun _ ht9 _ => ⟨_, rfl, rfl, ht9⟩) (fun _ hq => by cases hq) dX0_stands_14
theorem dX0_runners_0 : decode cX0_runners 0 = .ok (.iconst 0, 1) := by decide +kernel
theorem dX0_runners_1 : decode cX0_runners 1 = .ok (.istore_n 2, 1) := by decide +kernel
theorem dX0_runners_2 : decode cX0_runners 2 = .ok (.iconst 0, 1) := by decide +kernel
theorem dX0_runners_3 : decode cX0_runners 3 = .ok (.istore_n 3, 1) := by decide +kernel
theorem dX0_runners_4 : decode cX0_runners 4 = .ok (.iload_n 3, 1) := by decide +kernel
theorem dX0_runners_5 : decode cX0_runners 5 = .ok (.aload_n 0, 1) := by decide +kernel
theorem dX0_runners_6 : decode cX0_runners 6 = .ok (.getfield 37, 3) := by decide +kernel
theorem dX0_runners_9 : decode cX0_runners 9 = .ok (.if_icmp .ge 46, 3) := by decide +kernel
theorem dX0_runners_12 : decode cX0_runners 12 = .ok (.aload_n 0, 1) := by decide +kernel
theorem dX0_runners_13 : decode cX0_runners 13 = .ok (.getfield 41, 3) := by decide +kernel
theorem dX0_runners_16 : decode cX0_runners 16 = .ok (.iload_n 3, 1) := by decide +kernel
theorem dX0_runners_17 : decode cX0_runners 17 = .ok (.ishr, 1) := by decide +kernel
theorem dX0_runners_18 : decode cX0_runners 18 = .ok (.iconst 1, 1) := by decide +kernel
theorem dX0_runners_19 : decode cX0_runners 19 = .ok (.iand, 1) := by decide +kernel
theorem dX0_runners_20 : decode cX0_runners 20 = .ok (.ifCond .eq 29, 3) := by decide +kernel
theorem dX0_runners_23 : decode cX0_runners 23 = .ok (.aload_n 0, 1) := by decide +kernel
theorem dX0_runners_24 : decode cX0_runners 24 = .ok (.aload_n 0, 1) := by decide +kernel
theorem dX0_runners_25 : decode cX0_runners 25 = .ok (.getfield 15, 3) := by decide +kernel
theorem dX0_runners_28 : decode cX0_runners 28 = .ok (.iload_n 3, 1) := by decide +kernel
theorem dX0_runners_29 : decode cX0_runners 29 = .ok (.iaload, 1) := by decide +kernel
theorem dX0_runners_30 : decode cX0_runners 30 = .ok (.aload_n 0, 1) := by decide +kernel
theorem dX0_runners_31 : decode cX0_runners 31 = .ok (.getfield 22, 3) := by decide +kernel
theorem dX0_runners_34 : decode cX0_runners 34 = .ok (.iload_n 3, 1) := by decide +kernel
theorem dX0_runners_35 : decode cX0_runners 35 = .ok (.iaload, 1) := by decide +kernel
theorem dX0_runners_36 : decode cX0_runners 36 = .ok (.invokevirtual 79, 3) := by decide +kernel
theorem dX0_runners_39 : decode cX0_runners 39 = .ok (.iload_n 1, 1) := by decide +kernel
theorem dX0_runners_40 : decode cX0_runners 40 = .ok (.if_icmp .ge 9, 3) := by decide +kernel
theorem dX0_runners_43 : decode cX0_runners 43 = .ok (.iload_n 2, 1) := by decide +kernel
theorem dX0_runners_44 : decode cX0_runners 44 = .ok (.iconst 1, 1) := by decide +kernel
theorem dX0_runners_45 : decode cX0_runners 45 = .ok (.iload_n 3, 1) := by decide +kernel
theorem dX0_runners_46 : decode cX0_runners 46 = .ok (.ishl, 1) := by decide +kernel
theorem dX0_runners_47 : decode cX0_runners 47 = .ok (.ior, 1) := by decide +kernel
theorem dX0_runners_48 : decode cX0_runners 48 = .ok (.istore_n 2, 1) := by decide +kernel
theorem dX0_runners_49 : decode cX0_runners 49 = .ok (.iinc 3 1, 3) := by decide +kernel
theorem dX0_runners_52 : decode cX0_runners 52 = .ok (.goto (-48), 3) := by decide +kernel
theorem dX0_runners_55 : decode cX0_runners 55 = .ok (.iload_n 2, 1) := by decide +kernel
theorem dX0_runners_56 : decode cX0_runners 56 = .ok (.ireturn, 1) := by decide +kernel
theorem mv_X0_runners : MV yX0_runners RX0 cX0_runners 4 (some .int) 1 := ⟨tb_814, tb_812, tb_813, tb_2, by decide +kernel, by decide +kernel, by decide +kernel⟩
def f_X0_runners_b4 (fu : Nat) (a_courage : Nat → Int32) (a_medals : Nat → Int32) (a_count : Int32) (a_living : Int32) (a_pride : Int32) (x1 : Int32) (k4 : Int32 → Int32 → Option (Int32)) (x2 : Int32) (x3 : Int32) : Option (Int32) := (if a_count ≤ x3 then some (x2) else (if ((a_living >>> (x3 &&& 31)) &&& 1) = 0 then bnd (x3 + 1) fun x3_13 => k4 x2 x3_13 else (rdI a_courage 8 x3).bind fun y_14 => (rdI a_medals 8 x3).bind fun y_15 => (f_X0_braveryWith fu a_pride y_14 y_15).bind fun z_16 => (if x1 ≤ z_16 then bnd (x3 + 1) fun x3_18 => k4 x2 x3_18 else bnd (x2 ||| ((1 : Int32) <<< (x3 &&& 31))) fun x2_19 => bnd (x3 + 1) fun x3_20 => k4 x2_19 x3_20)))
def f_X0_runners_l4 (fu : Nat) (a_courage : Nat → Int32) (a_medals : Nat → Int32) (a_count : Int32) (a_living : Int32) (a_pride : Int32) (x1 : Int32) : Nat → Int32 → Int32 → Option (Int32)
  | 0, _, _ => none
  | n + 1, x2, x3 => f_X0_runners_b4 fu a_courage a_medals a_count a_living a_pride x1 (f_X0_runners_l4 fu a_courage a_medals a_count a_living a_pride x1 n) x2 x3
def f_X0_runners (fu : Nat) (a_courage : Nat → Int32) (a_medals : Nat → Int32) (a_count : Int32) (a_living : Int32) (a_pride : Int32) (x1 : Int32) : Option (Int32) := f_X0_runners_l4 fu a_courage a_medals a_count a_living a_pride x1 fu 0 0
abbrev rm_X0_runners : Room := { frames := 1, cells := 0, slots := 0, locals := 23 }
set_option maxHeartbeats 4000000 in
set_option maxRecDepth 100000 in
theorem c_X0_runners (l : Launch) (D : va_G) (cy : Nat → ClassId) (fu : Nat) (A_a : Nat → Nat) (a_name : Nat → Int64) (a_courage : Nat → Int32) (a_weight : Nat → Int32) (a_medals : Nat → Int32) (a_stood : Nat → Int32) (a_fled : Nat → Int32) (a_liked : Nat → Int32) (a_votes : Nat → Int32) (a_count : Int32) (a_living : Int32) (a_pride : Int32) (a_quota : Int32) (a_melted : Int32) (a_lost : Int32) (x1 : Int32) (res : Int32) (h : f_X0_runners fu a_courage a_medals a_count a_living a_pride x1 = some res) : Met l yX0_runners (WW yX0_runners cX0_runners 4 (some .int)) rm_X0_runners (Rd D cy [.ref (A_a 0), .int x1] [bl_X0 cy A_a a_name a_courage a_weight a_medals a_stood a_fled a_liked a_votes a_count a_living a_pride a_quota a_melted a_lost]) (vp_Si (fun v => v = res)) 0 0 (fun _ => False) := by
  refine Met.ofW (cc := cX0_runners) (maxL := 4) (ret := (some .int)) (by decide) rfl ?_
  intro p e s m args below meth c s₁ B hml hv
  obtain ⟨hargs, hP, hX⟩ := hv
  have hx := B.exec
  have hb := B.bytes
  have hr := B.returns
  have ht : ∀ w ∈ lw_gd, w.before args s = true := fun w hw => atoms_spec (ws := WW yX0_runners cX0_runners 4 (some .int)) B.pre w (List.mem_cons_of_mem _ hw)
  have hown : s.vm.findClass RX0 = some m.cls := findClass_of_methodNamed B.named
  have hlocks := B.notSynchronized
  have hP : PB D [bl_X0 cy A_a a_name a_courage a_weight a_medals a_stood a_fled a_liked a_votes a_count a_living a_pride a_quota a_melted a_lost] s.heap := hP
  obtain ⟨ls, hl, hent⟩ := ent (m := m) (n := 4) hargs (Nat.le_of_ble_eq_true rfl) (lv := [(0, .ref (A_a 0)), (1, .int x1)]) rfl
  rw [hent]
  clear hent
  have l4 : ∀ (n4 : Nat) (x2 : Int32) (x3 : Int32) (ls : Array Slot), lv_has ls 4 [(0, .ref (A_a 0)), (1, .int x1), (2, .int x2), (3, .int x3)] → f_X0_runners_l4 fu a_courage a_medals a_count a_living a_pride x1 n4 x2 x3 = some res → W p l e (headSpec (WW yX0_runners cX0_runners 4 (some .int)) rm_X0_runners).room s m args below meth c s.heap [] 0 0 (MQ below (vp_Si (fun v => v = res)) args s 0 0 (fun _ => False)) (F0 m 4 ls []) := by
    intro n4
    induction n4 with
    | zero => intro x2 x3 ls hl h; cases h
    | succ n4 ih4 =>
      intro x2 x3 ls hl h
      have h : f_X0_runners_b4 fu a_courage a_medals a_count a_living a_pride x1 (f_X0_runners_l4 fu a_courage a_medals a_count a_living a_pride x1 n4) x2 x3 = some res := h
      unfold f_X0_runners_b4 at h
      refine lv_iload_n hx hb dX0_runners_4 rfl (lv_at hl 3 rfl) ?_
      refine lv_aload_n hx hb dX0_runners_5 rfl (lv_at hl 0 rfl) ?_
      refine xget (i := 0) (j := 0) (k := 8) (T := TX0) hx hb ht tb_iX0 hown hX hP rfl rfl rfl (by decide) tb_55 rfl dX0_runners_6 ?_
      refine lv_icmp_ge (tgt := 55) hx hb dX0_runners_9 (by decide) (fun c_11 => ?_) (fun c_11 => ?_)
      · have h := it c_11 h
        refine lv_iload_n hx hb dX0_runners_55 rfl (lv_at hl 2 rfl) ?_
        cases h
        exact W.iret hx hb hr (fun _ ht9 _ => ⟨_, rfl, rfl, ht9⟩) (fun _ hq => by cases hq) dX0_runners_56
      · have h := ie c_11 h
        refine lv_aload_n hx hb dX0_runners_12 rfl (lv_at hl 0 rfl) ?_
        refine xget (i := 0) (j := 0) (k := 9) (T := TX0) hx hb ht tb_iX0 hown hX hP rfl rfl rfl (by decide) tb_61 rfl dX0_runners_13 ?_
        refine lv_iload_n hx hb dX0_runners_16 rfl (lv_at hl 3 rfl) ?_
        refine lv_ishr hx hb dX0_runners_17 ?_
        refine lv_iconst (v := 1) hx hb dX0_runners_18 (by decide) ?_
        refine lv_iand hx hb dX0_runners_19 ?_
        refine lv_if_eq (tgt := 49) hx hb dX0_runners_20 (by decide) (fun c_12 => ?_) (fun c_12 => ?_)
        · have h := it c_12 h
          obtain ⟨x3_13, e_x3_13⟩ : ∃ y : Int32, y = x3 + 1 := ⟨_, rfl⟩
          have h := bn e_x3_13 h
          refine lv_iinc (v := x3_13) (lv' := [(3, .int x3_13), (0, .ref (A_a 0)), (1, .int x1), (2, .int x2)]) hx hb dX0_runners_49 hl (k := 3) rfl (by rw [e_x3_13]; rfl) (by decide) rfl (fun ls hl => ?_)
          refine lv_goto (tgt := 4) hx hb dX0_runners_52 (by decide) ?_
          exact ih4 x2 x3_13 ls (lv_sub hl [1, 2, 3, 0] rfl) h
        · have h := ie c_12 h
          refine lv_aload_n hx hb dX0_runners_23 rfl (lv_at hl 0 rfl) ?_
          refine lv_aload_n hx hb dX0_runners_24 rfl (lv_at hl 0 rfl) ?_
          refine xget (i := 0) (j := 0) (k := 1) (T := TX0) hx hb ht tb_iX0 hown hX hP rfl rfl rfl (by decide) tb_39 rfl dX0_runners_25 ?_
          refine lv_iload_n hx hb dX0_runners_28 rfl (lv_at hl 3 rfl) ?_
          obtain ⟨y_14, e_y_14, h⟩ := bi h
          refine xiald (i0 := 0) (j0 := 2) hx hb hX hP rfl rfl e_y_14 dX0_runners_29 ?_
          refine lv_aload_n hx hb dX0_runners_30 rfl (lv_at hl 0 rfl) ?_
          refine xget (i := 0) (j := 0) (k := 3) (T := TX0) hx hb ht tb_iX0 hown hX hP rfl rfl rfl (by decide) tb_43 rfl dX0_runners_31 ?_
          refine lv_iload_n hx hb dX0_runners_34 rfl (lv_at hl 3 rfl) ?_
          obtain ⟨y_15, e_y_15, h⟩ := bi h
          refine xiald (i0 := 0) (j0 := 4) hx hb hX hP rfl rfl e_y_15 dX0_runners_35 ?_
          obtain ⟨z_16, e_z_16, h⟩ := bi h
          refine roVi (rest := []) ⟨hx, hb, hml, hown, ht⟩ (c_X0_braveryWith l D cy fu A_a a_name a_courage a_weight a_medals a_stood a_fled a_liked a_votes a_count a_living a_pride a_quota a_melted a_lost y_14 y_15 z_16 e_z_16) (cV ht mv_X0_braveryWith tb_783 rfl rfl ⟨Nat.le_of_ble_eq_true rfl, Nat.le_of_ble_eq_true rfl⟩) (P_sub hP [0] rfl) hX rfl rfl rfl hl.1 rfl (Nat.le_of_ble_eq_true rfl) dX0_runners_36 ⟨Nat.le_of_ble_eq_true rfl, Nat.le_of_ble_eq_true rfl⟩ ?_
          refine lv_iload_n hx hb dX0_runners_39 rfl (lv_at hl 1 rfl) ?_
          refine lv_icmp_ge (tgt := 49) hx hb dX0_runners_40 (by decide) (fun c_17 => ?_) (fun c_17 => ?_)
          · have h := it c_17 h
            obtain ⟨x3_18, e_x3_18⟩ : ∃ y : Int32, y = x3 + 1 := ⟨_, rfl⟩
            have h := bn e_x3_18 h
            refine lv_iinc (v := x3_18) (lv' := [(3, .int x3_18), (0, .ref (A_a 0)), (1, .int x1), (2, .int x2)]) hx hb dX0_runners_49 hl (k := 3) rfl (by rw [e_x3_18]; rfl) (by decide) rfl (fun ls hl => ?_)
            refine lv_goto (tgt := 4) hx hb dX0_runners_52 (by decide) ?_
            exact ih4 x2 x3_18 ls (lv_sub hl [1, 2, 3, 0] rfl) h
          · have h := ie c_17 h
            refine lv_iload_n hx hb dX0_runners_43 rfl (lv_at hl 2 rfl) ?_
            refine lv_iconst (v := 1) hx hb dX0_runners_44 (by decide) ?_
            refine lv_iload_n hx hb dX0_runners_45 rfl (lv_at hl 3 rfl) ?_
            refine lv_ishl hx hb dX0_runners_46 ?_
            refine lv_ior hx hb dX0_runners_47 ?_
            refine lv_topi (fun x2_19 e_x2_19 => ?_)
            have h := bn e_x2_19 h
            refine lv_istore_n (lv' := [(2, .int x2_19), (0, .ref (A_a 0)), (1, .int x1), (3, .int x3)]) hx hb dX0_runners_48 rfl hl (by decide) rfl (fun ls hl => ?_)
            obtain ⟨x3_20, e_x3_20⟩ : ∃ y : Int32, y = x3 + 1 := ⟨_, rfl⟩
            have h := bn e_x3_20 h
            refine lv_iinc (v := x3_20) (lv' := [(3, .int x3_20), (2, .int x2_19), (0, .ref (A_a 0)), (1, .int x1)]) hx hb dX0_runners_49 hl (k := 3) rfl (by rw [e_x3_20]; rfl) (by decide) rfl (fun ls hl => ?_)
            refine lv_goto (tgt := 4) hx hb dX0_runners_52 (by decide) ?_
            exact ih4 x2_19 x3_20 ls (lv_sub hl [2, 3, 1, 0] rfl) h
  unfold f_X0_runners at h
  refine lv_iconst (v := 0) hx hb dX0_runners_0 (by decide) ?_
  refine lv_istore_n (lv' := [(2, .int 0), (0, .ref (A_a 0)), (1, .int x1)]) hx hb dX0_runners_1 rfl hl (by decide) rfl (fun ls hl => ?_)
  refine lv_iconst (v := 0) hx hb dX0_runners_2 (by decide) ?_
  refine lv_istore_n (lv' := [(3, .int 0), (2, .int 0), (0, .ref (A_a 0)), (1, .int x1)]) hx hb dX0_runners_3 rfl hl (by decide) rfl (fun ls hl => ?_)
  exact l4 fu 0 0 ls (lv_sub hl [2, 3, 1, 0] rfl) h
theorem dX0_othersWhoRun_0 : decode cX0_othersWhoRun 0 = .ok (.aload_n 0, 1) := by decide +kernel
theorem dX0_othersWhoRun_1 : decode cX0_othersWhoRun 1 = .ok (.iload_n 1, 1) := by decide +kernel
theorem dX0_othersWhoRun_2 : decode cX0_othersWhoRun 2 = .ok (.invokevirtual 75, 3) := by decide +kernel
theorem dX0_othersWhoRun_5 : decode cX0_othersWhoRun 5 = .ok (.ifCond .eq 17, 3) := by decide +kernel
theorem dX0_othersWhoRun_8 : decode cX0_othersWhoRun 8 = .ok (.aload_n 0, 1) := by decide +kernel
theorem dX0_othersWhoRun_9 : decode cX0_othersWhoRun 9 = .ok (.iload_n 2, 1) := by decide +kernel
theorem dX0_othersWhoRun_10 : decode cX0_othersWhoRun 10 = .ok (.invokevirtual 87, 3) := by decide +kernel
theorem dX0_othersWhoRun_13 : decode cX0_othersWhoRun 13 = .ok (.iconst 1, 1) := by decide +kernel
theorem dX0_othersWhoRun_14 : decode cX0_othersWhoRun 14 = .ok (.iload_n 1, 1) := by decide +kernel
theorem dX0_othersWhoRun_15 : decode cX0_othersWhoRun 15 = .ok (.ishl, 1) := by decide +kernel
theorem dX0_othersWhoRun_16 : decode cX0_othersWhoRun 16 = .ok (.iconst (-1), 1) := by decide +kernel
theorem dX0_othersWhoRun_17 : decode cX0_othersWhoRun 17 = .ok (.ixor, 1) := by decide +kernel
theorem dX0_othersWhoRun_18 : decode cX0_othersWhoRun 18 = .ok (.iand, 1) := by decide +kernel
theorem dX0_othersWhoRun_19 : decode cX0_othersWhoRun 19 = .ok (.goto 4, 3) := by decide +kernel
theorem dX0_othersWhoRun_22 : decode cX0_othersWhoRun 22 = .ok (.iconst 0, 1) := by decide +kernel
theorem dX0_othersWhoRun_23 : decode cX0_othersWhoRun 23 = .ok (.ireturn, 1) := by decide +kernel
theorem mv_X0_othersWhoRun : MV yX0_othersWhoRun RX0 cX0_othersWhoRun 3 (some .int) 2 := ⟨tb_896, tb_894, tb_895, tb_2, by decide +kernel, by decide +kernel, by decide +kernel⟩
def f_X0_othersWhoRun (fu : Nat) (a_courage : Nat → Int32) (a_medals : Nat → Int32) (a_count : Int32) (a_living : Int32) (a_pride : Int32) (x1 : Int32) (x2 : Int32) : Option (Int32) := (f_X0_isMan fu a_count x1).bind fun z_4 => (if z_4 = 0 then some (0) else (f_X0_runners fu a_courage a_medals a_count a_living a_pride x2).bind fun z_6 => some (z_6 &&& (((1 : Int32) <<< (x1 &&& 31)) ^^^ (-1))))
abbrev rm_X0_othersWhoRun : Room := { frames := 2, cells := 0, slots := 0, locals := 46 }
set_option maxHeartbeats 4000000 in
set_option maxRecDepth 100000 in
theorem c_X0_othersWhoRun (l : Launch) (D : va_G) (cy : Nat → ClassId) (fu : Nat) (A_a : Nat → Nat) (a_name : Nat → Int64) (a_courage : Nat → Int32) (a_weight : Nat → Int32) (a_medals : Nat → Int32) (a_stood : Nat → Int32) (a_fled : Nat → Int32) (a_liked : Nat → Int32) (a_votes : Nat → Int32) (a_count : Int32) (a_living : Int32) (a_pride : Int32) (a_quota : Int32) (a_melted : Int32) (a_lost : Int32) (x1 : Int32) (x2 : Int32) (res : Int32) (h : f_X0_othersWhoRun fu a_courage a_medals a_count a_living a_pride x1 x2 = some res) : Met l yX0_othersWhoRun (WW yX0_othersWhoRun cX0_othersWhoRun 3 (some .int)) rm_X0_othersWhoRun (Rd D cy [.ref (A_a 0), .int x1, .int x2] [bl_X0 cy A_a a_name a_courage a_weight a_medals a_stood a_fled a_liked a_votes a_count a_living a_pride a_quota a_melted a_lost]) (vp_Si (fun v => v = res)) 0 0 (fun _ => False) := by
  refine Met.ofW (cc := cX0_othersWhoRun) (maxL := 3) (ret := (some .int)) (by decide) rfl ?_
  intro p e s m args below meth c s₁ B hml hv
  obtain ⟨hargs, hP, hX⟩ := hv
  have hx := B.exec
  have hb := B.bytes
  have hr := B.returns
  have ht : ∀ w ∈ lw_gd, w.before args s = true := fun w hw => atoms_spec (ws := WW yX0_othersWhoRun cX0_othersWhoRun 3 (some .int)) B.pre w (List.mem_cons_of_mem _ hw)
  have hown : s.vm.findClass RX0 = some m.cls := findClass_of_methodNamed B.named
  have hlocks := B.notSynchronized
  have hP : PB D [bl_X0 cy A_a a_name a_courage a_weight a_medals a_stood a_fled a_liked a_votes a_count a_living a_pride a_quota a_melted a_lost] s.heap := hP
  obtain ⟨ls, hl, hent⟩ := ent (m := m) (n := 3) hargs (Nat.le_of_ble_eq_true rfl) (lv := [(0, .ref (A_a 0)), (1, .int x1), (2, .int x2)]) rfl
  rw [hent]
  clear hent
  unfold f_X0_othersWhoRun at h
  refine lv_aload_n hx hb dX0_othersWhoRun_0 rfl (lv_at hl 0 rfl) ?_
  refine lv_iload_n hx hb dX0_othersWhoRun_1 rfl (lv_at hl 1 rfl) ?_
  obtain ⟨z_4, e_z_4, h⟩ := bi h
  refine roVi (rest := []) ⟨hx, hb, hml, hown, ht⟩ (c_X0_isMan l D cy fu A_a a_name a_courage a_weight a_medals a_stood a_fled a_liked a_votes a_count a_living a_pride a_quota a_melted a_lost x1 z_4 e_z_4) (cV ht mv_X0_isMan tb_683 rfl rfl ⟨Nat.le_of_ble_eq_true rfl, Nat.le_of_ble_eq_true rfl⟩) (P_sub hP [0] rfl) hX rfl rfl rfl hl.1 rfl (Nat.le_of_ble_eq_true rfl) dX0_othersWhoRun_2 ⟨Nat.le_of_ble_eq_true rfl, Nat.le_of_ble_eq_true rfl⟩ ?_
  refine lv_if_eq (tgt := 22) hx hb dX0_othersWhoRun_5 (by decide) (fun c_5 => ?_) (fun c_5 => ?_)
  · have h := it c_5 h
    refine lv_iconst (v := 0) hx hb dX0_othersWhoRun_22 (by decide) ?_
    cases h
    exact W.iret hx hb hr (fun _ ht9 _ => ⟨_, rfl, rfl, ht9⟩) (fun _ hq => by cases hq) dX0_othersWhoRun_23
  · have h := ie c_5 h
    refine lv_aload_n hx hb dX0_othersWhoRun_8 rfl (lv_at hl 0 rfl) ?_
    refine lv_iload_n hx hb dX0_othersWhoRun_9 rfl (lv_at hl 2 rfl) ?_
    obtain ⟨z_6, e_z_6, h⟩ := bi h
    refine roVi (rest := []) ⟨hx, hb, hml, hown, ht⟩ (c_X0_runners l D cy fu A_a a_name a_courage a_weight a_medals a_stood a_fled a_liked a_votes a_count a_living a_pride a_quota a_melted a_lost x2 z_6 e_z_6) (cV ht mv_X0_runners tb_811 rfl rfl ⟨Nat.le_of_ble_eq_true rfl, Nat.le_of_ble_eq_true rfl⟩) (P_sub hP [0] rfl) hX rfl rfl rfl hl.1 rfl (Nat.le_of_ble_eq_true rfl) dX0_othersWhoRun_10 ⟨Nat.le_of_ble_eq_true rfl, Nat.le_of_ble_eq_true rfl⟩ ?_
    refine lv_iconst (v := 1) hx hb dX0_othersWhoRun_13 (by decide) ?_
    refine lv_iload_n hx hb dX0_othersWhoRun_14 rfl (lv_at hl 1 rfl) ?_
    refine lv_ishl hx hb dX0_othersWhoRun_15 ?_
    refine lv_iconst (v := (-1)) hx hb dX0_othersWhoRun_16 (by decide) ?_
    refine lv_ixor hx hb dX0_othersWhoRun_17 ?_
    refine lv_iand hx hb dX0_othersWhoRun_18 ?_
    refine lv_goto (tgt := 23) hx hb dX0_othersWhoRun_19 (by decide) ?_
    cases h
    exact W.iret hx hb hr (fun _ ht9 _ => ⟨_, rfl, rfl, ht9⟩) (fun _ hq => by cases hq) dX0_othersWhoRun_23
theorem dX0_choiceOf_0 : decode cX0_choiceOf 0 = .ok (.iconst (-1), 1) := by decide +kernel
theorem dX0_choiceOf_1 : decode cX0_choiceOf 1 = .ok (.istore_n 3, 1) := by decide +kernel
theorem dX0_choiceOf_2 : decode cX0_choiceOf 2 = .ok (.iconst (-1), 1) := by decide +kernel
theorem dX0_choiceOf_3 : decode cX0_choiceOf 3 = .ok (.istore 4, 2) := by decide +kernel
theorem dX0_choiceOf_5 : decode cX0_choiceOf 5 = .ok (.iload_n 1, 1) := by decide +kernel
theorem dX0_choiceOf_6 : decode cX0_choiceOf 6 = .ok (.ifCond .lt 11, 3) := by decide +kernel
theorem dX0_choiceOf_9 : decode cX0_choiceOf 9 = .ok (.iload_n 1, 1) := by decide +kernel
theorem dX0_choiceOf_10 : decode cX0_choiceOf 10 = .ok (.aload_n 0, 1) := by decide +kernel
theorem dX0_choiceOf_11 : decode cX0_choiceOf 11 = .ok (.getfield 37, 3) := by decide +kernel
theorem dX0_choiceOf_14 : decode cX0_choiceOf 14 = .ok (.if_icmp .lt 5, 3) := by decide +kernel
theorem dX0_choiceOf_17 : decode cX0_choiceOf 17 = .ok (.iconst (-1), 1) := by decide +kernel
theorem dX0_choiceOf_18 : decode cX0_choiceOf 18 = .ok (.ireturn, 1) := by decide +kernel
theorem dX0_choiceOf_19 : decode cX0_choiceOf 19 = .ok (.iconst 0, 1) := by decide +kernel
theorem dX0_choiceOf_20 : decode cX0_choiceOf 20 = .ok (.istore 5, 2) := by decide +kernel
theorem dX0_choiceOf_22 : decode cX0_choiceOf 22 = .ok (.iload 5, 2) := by decide +kernel
theorem dX0_choiceOf_24 : decode cX0_choiceOf 24 = .ok (.aload_n 0, 1) := by decide +kernel
theorem dX0_choiceOf_25 : decode cX0_choiceOf 25 = .ok (.getfield 37, 3) := by decide +kernel
theorem dX0_choiceOf_28 : decode cX0_choiceOf 28 = .ok (.if_icmp .ge 52, 3) := by decide +kernel
theorem dX0_choiceOf_31 : decode cX0_choiceOf 31 = .ok (.aload_n 0, 1) := by decide +kernel
theorem dX0_choiceOf_32 : decode cX0_choiceOf 32 = .ok (.getfield 31, 3) := by decide +kernel
theorem dX0_choiceOf_35 : decode cX0_choiceOf 35 = .ok (.iload_n 1, 1) := by decide +kernel
theorem dX0_choiceOf_36 : decode cX0_choiceOf 36 = .ok (.bipush 8, 2) := by decide +kernel
theorem dX0_choiceOf_38 : decode cX0_choiceOf 38 = .ok (.imul, 1) := by decide +kernel
theorem dX0_choiceOf_39 : decode cX0_choiceOf 39 = .ok (.iload 5, 2) := by decide +kernel
theorem dX0_choiceOf_41 : decode cX0_choiceOf 41 = .ok (.iadd, 1) := by decide +kernel
theorem dX0_choiceOf_42 : decode cX0_choiceOf 42 = .ok (.iaload, 1) := by decide +kernel
theorem dX0_choiceOf_43 : decode cX0_choiceOf 43 = .ok (.istore 6, 2) := by decide +kernel
theorem dX0_choiceOf_45 : decode cX0_choiceOf 45 = .ok (.iload 5, 2) := by decide +kernel
theorem dX0_choiceOf_47 : decode cX0_choiceOf 47 = .ok (.iload_n 1, 1) := by decide +kernel
theorem dX0_choiceOf_48 : decode cX0_choiceOf 48 = .ok (.if_icmp .eq 26, 3) := by decide +kernel
theorem dX0_choiceOf_51 : decode cX0_choiceOf 51 = .ok (.iload_n 2, 1) := by decide +kernel
theorem dX0_choiceOf_52 : decode cX0_choiceOf 52 = .ok (.iload 5, 2) := by decide +kernel
theorem dX0_choiceOf_54 : decode cX0_choiceOf 54 = .ok (.ishr, 1) := by decide +kernel
theorem dX0_choiceOf_55 : decode cX0_choiceOf 55 = .ok (.iconst 1, 1) := by decide +kernel
theorem dX0_choiceOf_56 : decode cX0_choiceOf 56 = .ok (.iand, 1) := by decide +kernel
theorem dX0_choiceOf_57 : decode cX0_choiceOf 57 = .ok (.ifCond .eq 17, 3) := by decide +kernel
theorem dX0_choiceOf_60 : decode cX0_choiceOf 60 = .ok (.iload 6, 2) := by decide +kernel
theorem dX0_choiceOf_62 : decode cX0_choiceOf 62 = .ok (.iload 4, 2) := by decide +kernel
theorem dX0_choiceOf_64 : decode cX0_choiceOf 64 = .ok (.if_icmp .le 10, 3) := by decide +kernel
theorem dX0_choiceOf_67 : decode cX0_choiceOf 67 = .ok (.iload 6, 2) := by decide +kernel
theorem dX0_choiceOf_69 : decode cX0_choiceOf 69 = .ok (.istore 4, 2) := by decide +kernel
theorem dX0_choiceOf_71 : decode cX0_choiceOf 71 = .ok (.iload 5, 2) := by decide +kernel
theorem dX0_choiceOf_73 : decode cX0_choiceOf 73 = .ok (.istore_n 3, 1) := by decide +kernel
theorem dX0_choiceOf_74 : decode cX0_choiceOf 74 = .ok (.iinc 5 1, 3) := by decide +kernel
theorem dX0_choiceOf_77 : decode cX0_choiceOf 77 = .ok (.goto (-55), 3) := by decide +kernel
theorem dX0_choiceOf_80 : decode cX0_choiceOf 80 = .ok (.iload_n 3, 1) := by decide +kernel
theorem dX0_choiceOf_81 : decode cX0_choiceOf 81 = .ok (.ireturn, 1) := by decide +kernel
theorem mv_X0_choiceOf : MV yX0_choiceOf RX0 cX0_choiceOf 7 (some .int) 2 := ⟨tb_822, tb_820, tb_821, tb_2, by decide +kernel, by decide +kernel, by decide +kernel⟩
def f_X0_choiceOf_b22 (fu : Nat) (a_liked : Nat → Int32) (a_count : Int32) (x1 : Int32) (x2 : Int32) (k22 : Int32 → Int32 → Int32 → Option (Int32)) (x3 : Int32) (x4 : Int32) (x5 : Int32) : Option (Int32) := (if a_count ≤ x5 then some (x3) else (rdI a_liked 64 ((x1 * 8) + x5)).bind fun y_13 => (if x5 = x1 then bnd (x5 + 1) fun x5_15 => k22 x3 x4 x5_15 else (if ((x2 >>> (x5 &&& 31)) &&& 1) = 0 then bnd (x5 + 1) fun x5_17 => k22 x3 x4 x5_17 else (if y_13 ≤ x4 then bnd (x5 + 1) fun x5_19 => k22 x3 x4 x5_19 else bnd (x5 + 1) fun x5_20 => k22 x5 y_13 x5_20))))
def f_X0_choiceOf_l22 (fu : Nat) (a_liked : Nat → Int32) (a_count : Int32) (x1 : Int32) (x2 : Int32) : Nat → Int32 → Int32 → Int32 → Option (Int32)
  | 0, _, _, _ => none
  | n + 1, x3, x4, x5 => f_X0_choiceOf_b22 fu a_liked a_count x1 x2 (f_X0_choiceOf_l22 fu a_liked a_count x1 x2 n) x3 x4 x5
def f_X0_choiceOf (fu : Nat) (a_liked : Nat → Int32) (a_count : Int32) (x1 : Int32) (x2 : Int32) : Option (Int32) := (if x1 < 0 then some ((-1)) else (if x1 < a_count then f_X0_choiceOf_l22 fu a_liked a_count x1 x2 fu (-1) (-1) 0 else some ((-1))))
abbrev rm_X0_choiceOf : Room := { frames := 0, cells := 0, slots := 0, locals := 0 }
set_option maxHeartbeats 4000000 in
set_option maxRecDepth 100000 in
theorem c_X0_choiceOf (l : Launch) (D : va_G) (cy : Nat → ClassId) (fu : Nat) (A_a : Nat → Nat) (a_name : Nat → Int64) (a_courage : Nat → Int32) (a_weight : Nat → Int32) (a_medals : Nat → Int32) (a_stood : Nat → Int32) (a_fled : Nat → Int32) (a_liked : Nat → Int32) (a_votes : Nat → Int32) (a_count : Int32) (a_living : Int32) (a_pride : Int32) (a_quota : Int32) (a_melted : Int32) (a_lost : Int32) (x1 : Int32) (x2 : Int32) (res : Int32) (h : f_X0_choiceOf fu a_liked a_count x1 x2 = some res) : Met l yX0_choiceOf (WW yX0_choiceOf cX0_choiceOf 7 (some .int)) rm_X0_choiceOf (Rd D cy [.ref (A_a 0), .int x1, .int x2] [bl_X0 cy A_a a_name a_courage a_weight a_medals a_stood a_fled a_liked a_votes a_count a_living a_pride a_quota a_melted a_lost]) (vp_Si (fun v => v = res)) 0 0 (fun _ => False) := by
  refine Met.ofW (cc := cX0_choiceOf) (maxL := 7) (ret := (some .int)) (by decide) rfl ?_
  intro p e s m args below meth c s₁ B hml hv
  obtain ⟨hargs, hP, hX⟩ := hv
  have hx := B.exec
  have hb := B.bytes
  have hr := B.returns
  have ht : ∀ w ∈ lw_gd, w.before args s = true := fun w hw => atoms_spec (ws := WW yX0_choiceOf cX0_choiceOf 7 (some .int)) B.pre w (List.mem_cons_of_mem _ hw)
  have hown : s.vm.findClass RX0 = some m.cls := findClass_of_methodNamed B.named
  have hlocks := B.notSynchronized
  have hP : PB D [bl_X0 cy A_a a_name a_courage a_weight a_medals a_stood a_fled a_liked a_votes a_count a_living a_pride a_quota a_melted a_lost] s.heap := hP
  obtain ⟨ls, hl, hent⟩ := ent (m := m) (n := 7) hargs (Nat.le_of_ble_eq_true rfl) (lv := [(0, .ref (A_a 0)), (1, .int x1), (2, .int x2)]) rfl
  rw [hent]
  clear hent
  have l22 : ∀ (n22 : Nat) (x3 : Int32) (x4 : Int32) (x5 : Int32) (ls : Array Slot), lv_has ls 7 [(0, .ref (A_a 0)), (1, .int x1), (2, .int x2), (3, .int x3), (4, .int x4), (5, .int x5)] → f_X0_choiceOf_l22 fu a_liked a_count x1 x2 n22 x3 x4 x5 = some res → W p l e (headSpec (WW yX0_choiceOf cX0_choiceOf 7 (some .int)) rm_X0_choiceOf).room s m args below meth c s.heap [] 0 0 (MQ below (vp_Si (fun v => v = res)) args s 0 0 (fun _ => False)) (F0 m 22 ls []) := by
    intro n22
    induction n22 with
    | zero => intro x3 x4 x5 ls hl h; cases h
    | succ n22 ih22 =>
      intro x3 x4 x5 ls hl h
      have h : f_X0_choiceOf_b22 fu a_liked a_count x1 x2 (f_X0_choiceOf_l22 fu a_liked a_count x1 x2 n22) x3 x4 x5 = some res := h
      unfold f_X0_choiceOf_b22 at h
      refine lv_iload hx hb dX0_choiceOf_22 (lv_at hl 5 rfl) ?_
      refine lv_aload_n hx hb dX0_choiceOf_24 rfl (lv_at hl 0 rfl) ?_
      refine xget (i := 0) (j := 0) (k := 8) (T := TX0) hx hb ht tb_iX0 hown hX hP rfl rfl rfl (by decide) tb_55 rfl dX0_choiceOf_25 ?_
      refine lv_icmp_ge (tgt := 80) hx hb dX0_choiceOf_28 (by decide) (fun c_12 => ?_) (fun c_12 => ?_)
      · have h := it c_12 h
        refine lv_iload_n hx hb dX0_choiceOf_80 rfl (lv_at hl 3 rfl) ?_
        cases h
        exact W.iret hx hb hr (fun _ ht9 _ => ⟨_, rfl, rfl, ht9⟩) (fun _ hq => by cases hq) dX0_choiceOf_81
      · have h := ie c_12 h
        refine lv_aload_n hx hb dX0_choiceOf_31 rfl (lv_at hl 0 rfl) ?_
        refine xget (i := 0) (j := 0) (k := 6) (T := TX0) hx hb ht tb_iX0 hown hX hP rfl rfl rfl (by decide) tb_53 rfl dX0_choiceOf_32 ?_
        refine lv_iload_n hx hb dX0_choiceOf_35 rfl (lv_at hl 1 rfl) ?_
        refine lv_bipush (v := 8) hx hb dX0_choiceOf_36 (by decide) ?_
        refine lv_imul hx hb dX0_choiceOf_38 ?_
        refine lv_iload hx hb dX0_choiceOf_39 (lv_at hl 5 rfl) ?_
        refine lv_iadd hx hb dX0_choiceOf_41 ?_
        obtain ⟨y_13, e_y_13, h⟩ := bi h
        refine xiald (i0 := 0) (j0 := 7) hx hb hX hP rfl rfl e_y_13 dX0_choiceOf_42 ?_
        refine lv_istore (lv' := [(6, .int y_13), (0, .ref (A_a 0)), (1, .int x1), (2, .int x2), (3, .int x3), (4, .int x4), (5, .int x5)]) hx hb dX0_choiceOf_43 hl (by decide) rfl (fun ls hl => ?_)
        refine lv_iload hx hb dX0_choiceOf_45 (lv_at hl 6 rfl) ?_
        refine lv_iload_n hx hb dX0_choiceOf_47 rfl (lv_at hl 2 rfl) ?_
        refine lv_icmp_eq (tgt := 74) hx hb dX0_choiceOf_48 (by decide) (fun c_14 => ?_) (fun c_14 => ?_)
        · have h := it c_14 h
          obtain ⟨x5_15, e_x5_15⟩ : ∃ y : Int32, y = x5 + 1 := ⟨_, rfl⟩
          have h := bn e_x5_15 h
          refine lv_iinc (v := x5_15) (lv' := [(5, .int x5_15), (6, .int y_13), (0, .ref (A_a 0)), (1, .int x1), (2, .int x2), (3, .int x3), (4, .int x4)]) hx hb dX0_choiceOf_74 hl (k := 6) rfl (by rw [e_x5_15]; rfl) (by decide) rfl (fun ls hl => ?_)
          refine lv_goto (tgt := 22) hx hb dX0_choiceOf_77 (by decide) ?_
          exact ih22 x3 x4 x5_15 ls (lv_sub hl [2, 3, 4, 5, 6, 0] rfl) h
        · have h := ie c_14 h
          refine lv_iload_n hx hb dX0_choiceOf_51 rfl (lv_at hl 3 rfl) ?_
          refine lv_iload hx hb dX0_choiceOf_52 (lv_at hl 6 rfl) ?_
          refine lv_ishr hx hb dX0_choiceOf_54 ?_
          refine lv_iconst (v := 1) hx hb dX0_choiceOf_55 (by decide) ?_
          refine lv_iand hx hb dX0_choiceOf_56 ?_
          refine lv_if_eq (tgt := 74) hx hb dX0_choiceOf_57 (by decide) (fun c_16 => ?_) (fun c_16 => ?_)
          · have h := it c_16 h
            obtain ⟨x5_17, e_x5_17⟩ : ∃ y : Int32, y = x5 + 1 := ⟨_, rfl⟩
            have h := bn e_x5_17 h
            refine lv_iinc (v := x5_17) (lv' := [(5, .int x5_17), (6, .int y_13), (0, .ref (A_a 0)), (1, .int x1), (2, .int x2), (3, .int x3), (4, .int x4)]) hx hb dX0_choiceOf_74 hl (k := 6) rfl (by rw [e_x5_17]; rfl) (by decide) rfl (fun ls hl => ?_)
            refine lv_goto (tgt := 22) hx hb dX0_choiceOf_77 (by decide) ?_
            exact ih22 x3 x4 x5_17 ls (lv_sub hl [2, 3, 4, 5, 6, 0] rfl) h
          · have h := ie c_16 h
            refine lv_iload hx hb dX0_choiceOf_60 (lv_at hl 0 rfl) ?_
            refine lv_iload hx hb dX0_choiceOf_62 (lv_at hl 5 rfl) ?_
            refine lv_icmp_le (tgt := 74) hx hb dX0_choiceOf_64 (by decide) (fun c_18 => ?_) (fun c_18 => ?_)
            · have h := it c_18 h
              obtain ⟨x5_19, e_x5_19⟩ : ∃ y : Int32, y = x5 + 1 := ⟨_, rfl⟩
              have h := bn e_x5_19 h
              refine lv_iinc (v := x5_19) (lv' := [(5, .int x5_19), (6, .int y_13), (0, .ref (A_a 0)), (1, .int x1), (2, .int x2), (3, .int x3), (4, .int x4)]) hx hb dX0_choiceOf_74 hl (k := 6) rfl (by rw [e_x5_19]; rfl) (by decide) rfl (fun ls hl => ?_)
              refine lv_goto (tgt := 22) hx hb dX0_choiceOf_77 (by decide) ?_
              exact ih22 x3 x4 x5_19 ls (lv_sub hl [2, 3, 4, 5, 6, 0] rfl) h
            · have h := ie c_18 h
              refine lv_iload hx hb dX0_choiceOf_67 (lv_at hl 0 rfl) ?_
              refine lv_istore (lv' := [(4, .int y_13), (6, .int y_13), (0, .ref (A_a 0)), (1, .int x1), (2, .int x2), (3, .int x3), (5, .int x5)]) hx hb dX0_choiceOf_69 hl (by decide) rfl (fun ls hl => ?_)
              refine lv_iload hx hb dX0_choiceOf_71 (lv_at hl 6 rfl) ?_
              refine lv_istore_n (lv' := [(3, .int x5), (4, .int y_13), (6, .int y_13), (0, .ref (A_a 0)), (1, .int x1), (2, .int x2), (5, .int x5)]) hx hb dX0_choiceOf_73 rfl hl (by decide) rfl (fun ls hl => ?_)
              obtain ⟨x5_20, e_x5_20⟩ : ∃ y : Int32, y = x5 + 1 := ⟨_, rfl⟩
              have h := bn e_x5_20 h
              refine lv_iinc (v := x5_20) (lv' := [(5, .int x5_20), (3, .int x5), (4, .int y_13), (6, .int y_13), (0, .ref (A_a 0)), (1, .int x1), (2, .int x2)]) hx hb dX0_choiceOf_74 hl (k := 6) rfl (by rw [e_x5_20]; rfl) (by decide) rfl (fun ls hl => ?_)
              refine lv_goto (tgt := 22) hx hb dX0_choiceOf_77 (by decide) ?_
              exact ih22 x5 y_13 x5_20 ls (lv_sub hl [4, 5, 6, 1, 2, 0] rfl) h
  unfold f_X0_choiceOf at h
  refine lv_iconst (v := (-1)) hx hb dX0_choiceOf_0 (by decide) ?_
  refine lv_istore_n (lv' := [(3, .int (-1)), (0, .ref (A_a 0)), (1, .int x1), (2, .int x2)]) hx hb dX0_choiceOf_1 rfl hl (by decide) rfl (fun ls hl => ?_)
  refine lv_iconst (v := (-1)) hx hb dX0_choiceOf_2 (by decide) ?_
  refine lv_istore (lv' := [(4, .int (-1)), (3, .int (-1)), (0, .ref (A_a 0)), (1, .int x1), (2, .int x2)]) hx hb dX0_choiceOf_3 hl (by decide) rfl (fun ls hl => ?_)
  refine lv_iload_n hx hb dX0_choiceOf_5 rfl (lv_at hl 3 rfl) ?_
  refine lv_if_lt (tgt := 17) hx hb dX0_choiceOf_6 (by decide) (fun c_21 => ?_) (fun c_21 => ?_)
  · have h := it c_21 h
    refine lv_iconst (v := (-1)) hx hb dX0_choiceOf_17 (by decide) ?_
    cases h
    exact W.iret hx hb hr (fun _ ht9 _ => ⟨_, rfl, rfl, ht9⟩) (fun _ hq => by cases hq) dX0_choiceOf_18
  · have h := ie c_21 h
    refine lv_iload_n hx hb dX0_choiceOf_9 rfl (lv_at hl 3 rfl) ?_
    refine lv_aload_n hx hb dX0_choiceOf_10 rfl (lv_at hl 2 rfl) ?_
    refine xget (i := 0) (j := 0) (k := 8) (T := TX0) hx hb ht tb_iX0 hown hX hP rfl rfl rfl (by decide) tb_55 rfl dX0_choiceOf_11 ?_
    refine lv_icmp_lt (tgt := 19) hx hb dX0_choiceOf_14 (by decide) (fun c_22 => ?_) (fun c_22 => ?_)
    · have h := it c_22 h
      refine lv_iconst (v := 0) hx hb dX0_choiceOf_19 (by decide) ?_
      refine lv_istore (lv' := [(5, .int 0), (4, .int (-1)), (3, .int (-1)), (0, .ref (A_a 0)), (1, .int x1), (2, .int x2)]) hx hb dX0_choiceOf_20 hl (by decide) rfl (fun ls hl => ?_)
      exact l22 fu (-1) (-1) 0 ls (lv_sub hl [3, 4, 5, 2, 1, 0] rfl) h
    · have h := ie c_22 h
      refine lv_iconst (v := (-1)) hx hb dX0_choiceOf_17 (by decide) ?_
      cases h
      exact W.iret hx hb hr (fun _ ht9 _ => ⟨_, rfl, rfl, ht9⟩) (fun _ hq => by cases hq) dX0_choiceOf_18
theorem dX0_votesFor_0 : decode cX0_votesFor 0 = .ok (.iconst 0, 1) := by decide +kernel
theorem dX0_votesFor_1 : decode cX0_votesFor 1 = .ok (.istore_n 3, 1) := by decide +kernel
theorem dX0_votesFor_2 : decode cX0_votesFor 2 = .ok (.iconst 0, 1) := by decide +kernel
theorem dX0_votesFor_3 : decode cX0_votesFor 3 = .ok (.istore 4, 2) := by decide +kernel
theorem dX0_votesFor_5 : decode cX0_votesFor 5 = .ok (.iload 4, 2) := by decide +kernel
theorem dX0_votesFor_7 : decode cX0_votesFor 7 = .ok (.aload_n 0, 1) := by decide +kernel
theorem dX0_votesFor_8 : decode cX0_votesFor 8 = .ok (.getfield 37, 3) := by decide +kernel
theorem dX0_votesFor_11 : decode cX0_votesFor 11 = .ok (.if_icmp .ge 42, 3) := by decide +kernel
theorem dX0_votesFor_14 : decode cX0_votesFor 14 = .ok (.aload_n 0, 1) := by decide +kernel
theorem dX0_votesFor_15 : decode cX0_votesFor 15 = .ok (.getfield 41, 3) := by decide +kernel
theorem dX0_votesFor_18 : decode cX0_votesFor 18 = .ok (.iload 4, 2) := by decide +kernel
theorem dX0_votesFor_20 : decode cX0_votesFor 20 = .ok (.ishr, 1) := by decide +kernel
theorem dX0_votesFor_21 : decode cX0_votesFor 21 = .ok (.iconst 1, 1) := by decide +kernel
theorem dX0_votesFor_22 : decode cX0_votesFor 22 = .ok (.iand, 1) := by decide +kernel
theorem dX0_votesFor_23 : decode cX0_votesFor 23 = .ok (.ifCond .eq 24, 3) := by decide +kernel
theorem dX0_votesFor_26 : decode cX0_votesFor 26 = .ok (.aload_n 0, 1) := by decide +kernel
theorem dX0_votesFor_27 : decode cX0_votesFor 27 = .ok (.iload 4, 2) := by decide +kernel
theorem dX0_votesFor_29 : decode cX0_votesFor 29 = .ok (.iload_n 2, 1) := by decide +kernel
theorem dX0_votesFor_30 : decode cX0_votesFor 30 = .ok (.invokevirtual 90, 3) := by decide +kernel
theorem dX0_votesFor_33 : decode cX0_votesFor 33 = .ok (.iload_n 1, 1) := by decide +kernel
theorem dX0_votesFor_34 : decode cX0_votesFor 34 = .ok (.if_icmp .ne 13, 3) := by decide +kernel
theorem dX0_votesFor_37 : decode cX0_votesFor 37 = .ok (.iload_n 3, 1) := by decide +kernel
theorem dX0_votesFor_38 : decode cX0_votesFor 38 = .ok (.aload_n 0, 1) := by decide +kernel
theorem dX0_votesFor_39 : decode cX0_votesFor 39 = .ok (.getfield 19, 3) := by decide +kernel
theorem dX0_votesFor_42 : decode cX0_votesFor 42 = .ok (.iload 4, 2) := by decide +kernel
theorem dX0_votesFor_44 : decode cX0_votesFor 44 = .ok (.iaload, 1) := by decide +kernel
theorem dX0_votesFor_45 : decode cX0_votesFor 45 = .ok (.iadd, 1) := by decide +kernel
theorem dX0_votesFor_46 : decode cX0_votesFor 46 = .ok (.istore_n 3, 1) := by decide +kernel
theorem dX0_votesFor_47 : decode cX0_votesFor 47 = .ok (.iinc 4 1, 3) := by decide +kernel
theorem dX0_votesFor_50 : decode cX0_votesFor 50 = .ok (.goto (-45), 3) := by decide +kernel
theorem dX0_votesFor_53 : decode cX0_votesFor 53 = .ok (.iload_n 3, 1) := by decide +kernel
theorem dX0_votesFor_54 : decode cX0_votesFor 54 = .ok (.ireturn, 1) := by decide +kernel
theorem mv_X0_votesFor : MV yX0_votesFor RX0 cX0_votesFor 5 (some .int) 2 := ⟨tb_912, tb_910, tb_911, tb_2, by decide +kernel, by decide +kernel, by decide +kernel⟩
def f_X0_votesFor_b5 (fu : Nat) (a_weight : Nat → Int32) (a_liked : Nat → Int32) (a_count : Int32) (a_living : Int32) (x1 : Int32) (x2 : Int32) (k5 : Int32 → Int32 → Option (Int32)) (x3 : Int32) (x4 : Int32) : Option (Int32) := (if a_count ≤ x4 then some (x3) else (if ((a_living >>> (x4 &&& 31)) &&& 1) = 0 then bnd (x4 + 1) fun x4_12 => k5 x3 x4_12 else (f_X0_choiceOf fu a_liked a_count x4 x2).bind fun z_13 => (if z_13 = x1 then (rdI a_weight 8 x4).bind fun y_16 => bnd (x3 + y_16) fun x3_17 => bnd (x4 + 1) fun x4_18 => k5 x3_17 x4_18 else bnd (x4 + 1) fun x4_15 => k5 x3 x4_15)))
def f_X0_votesFor_l5 (fu : Nat) (a_weight : Nat → Int32) (a_liked : Nat → Int32) (a_count : Int32) (a_living : Int32) (x1 : Int32) (x2 : Int32) : Nat → Int32 → Int32 → Option (Int32)
  | 0, _, _ => none
  | n + 1, x3, x4 => f_X0_votesFor_b5 fu a_weight a_liked a_count a_living x1 x2 (f_X0_votesFor_l5 fu a_weight a_liked a_count a_living x1 x2 n) x3 x4
def f_X0_votesFor (fu : Nat) (a_weight : Nat → Int32) (a_liked : Nat → Int32) (a_count : Int32) (a_living : Int32) (x1 : Int32) (x2 : Int32) : Option (Int32) := f_X0_votesFor_l5 fu a_weight a_liked a_count a_living x1 x2 fu 0 0
abbrev rm_X0_votesFor : Room := { frames := 1, cells := 0, slots := 0, locals := 26 }
set_option maxHeartbeats 4000000 in
set_option maxRecDepth 100000 in
theorem c_X0_votesFor (l : Launch) (D : va_G) (cy : Nat → ClassId) (fu : Nat) (A_a : Nat → Nat) (a_name : Nat → Int64) (a_courage : Nat → Int32) (a_weight : Nat → Int32) (a_medals : Nat → Int32) (a_stood : Nat → Int32) (a_fled : Nat → Int32) (a_liked : Nat → Int32) (a_votes : Nat → Int32) (a_count : Int32) (a_living : Int32) (a_pride : Int32) (a_quota : Int32) (a_melted : Int32) (a_lost : Int32) (x1 : Int32) (x2 : Int32) (res : Int32) (h : f_X0_votesFor fu a_weight a_liked a_count a_living x1 x2 = some res) : Met l yX0_votesFor (WW yX0_votesFor cX0_votesFor 5 (some .int)) rm_X0_votesFor (Rd D cy [.ref (A_a 0), .int x1, .int x2] [bl_X0 cy A_a a_name a_courage a_weight a_medals a_stood a_fled a_liked a_votes a_count a_living a_pride a_quota a_melted a_lost]) (vp_Si (fun v => v = res)) 0 0 (fun _ => False) := by
  refine Met.ofW (cc := cX0_votesFor) (maxL := 5) (ret := (some .int)) (by decide) rfl ?_
  intro p e s m args below meth c s₁ B hml hv
  obtain ⟨hargs, hP, hX⟩ := hv
  have hx := B.exec
  have hb := B.bytes
  have hr := B.returns
  have ht : ∀ w ∈ lw_gd, w.before args s = true := fun w hw => atoms_spec (ws := WW yX0_votesFor cX0_votesFor 5 (some .int)) B.pre w (List.mem_cons_of_mem _ hw)
  have hown : s.vm.findClass RX0 = some m.cls := findClass_of_methodNamed B.named
  have hlocks := B.notSynchronized
  have hP : PB D [bl_X0 cy A_a a_name a_courage a_weight a_medals a_stood a_fled a_liked a_votes a_count a_living a_pride a_quota a_melted a_lost] s.heap := hP
  obtain ⟨ls, hl, hent⟩ := ent (m := m) (n := 5) hargs (Nat.le_of_ble_eq_true rfl) (lv := [(0, .ref (A_a 0)), (1, .int x1), (2, .int x2)]) rfl
  rw [hent]
  clear hent
  have l5 : ∀ (n5 : Nat) (x3 : Int32) (x4 : Int32) (ls : Array Slot), lv_has ls 5 [(0, .ref (A_a 0)), (1, .int x1), (2, .int x2), (3, .int x3), (4, .int x4)] → f_X0_votesFor_l5 fu a_weight a_liked a_count a_living x1 x2 n5 x3 x4 = some res → W p l e (headSpec (WW yX0_votesFor cX0_votesFor 5 (some .int)) rm_X0_votesFor).room s m args below meth c s.heap [] 0 0 (MQ below (vp_Si (fun v => v = res)) args s 0 0 (fun _ => False)) (F0 m 5 ls []) := by
    intro n5
    induction n5 with
    | zero => intro x3 x4 ls hl h; cases h
    | succ n5 ih5 =>
      intro x3 x4 ls hl h
      have h : f_X0_votesFor_b5 fu a_weight a_liked a_count a_living x1 x2 (f_X0_votesFor_l5 fu a_weight a_liked a_count a_living x1 x2 n5) x3 x4 = some res := h
      unfold f_X0_votesFor_b5 at h
      refine lv_iload hx hb dX0_votesFor_5 (lv_at hl 4 rfl) ?_
      refine lv_aload_n hx hb dX0_votesFor_7 rfl (lv_at hl 0 rfl) ?_
      refine xget (i := 0) (j := 0) (k := 8) (T := TX0) hx hb ht tb_iX0 hown hX hP rfl rfl rfl (by decide) tb_55 rfl dX0_votesFor_8 ?_
      refine lv_icmp_ge (tgt := 53) hx hb dX0_votesFor_11 (by decide) (fun c_10 => ?_) (fun c_10 => ?_)
      · have h := it c_10 h
        refine lv_iload_n hx hb dX0_votesFor_53 rfl (lv_at hl 3 rfl) ?_
        cases h
        exact W.iret hx hb hr (fun _ ht9 _ => ⟨_, rfl, rfl, ht9⟩) (fun _ hq => by cases hq) dX0_votesFor_54
      · have h := ie c_10 h
        refine lv_aload_n hx hb dX0_votesFor_14 rfl (lv_at hl 0 rfl) ?_
        refine xget (i := 0) (j := 0) (k := 9) (T := TX0) hx hb ht tb_iX0 hown hX hP rfl rfl rfl (by decide) tb_61 rfl dX0_votesFor_15 ?_
        refine lv_iload hx hb dX0_votesFor_18 (lv_at hl 4 rfl) ?_
        refine lv_ishr hx hb dX0_votesFor_20 ?_
        refine lv_iconst (v := 1) hx hb dX0_votesFor_21 (by decide) ?_
        refine lv_iand hx hb dX0_votesFor_22 ?_
        refine lv_if_eq (tgt := 47) hx hb dX0_votesFor_23 (by decide) (fun c_11 => ?_) (fun c_11 => ?_)
        · have h := it c_11 h
          obtain ⟨x4_12, e_x4_12⟩ : ∃ y : Int32, y = x4 + 1 := ⟨_, rfl⟩
          have h := bn e_x4_12 h
          refine lv_iinc (v := x4_12) (lv' := [(4, .int x4_12), (0, .ref (A_a 0)), (1, .int x1), (2, .int x2), (3, .int x3)]) hx hb dX0_votesFor_47 hl (k := 4) rfl (by rw [e_x4_12]; rfl) (by decide) rfl (fun ls hl => ?_)
          refine lv_goto (tgt := 5) hx hb dX0_votesFor_50 (by decide) ?_
          exact ih5 x3 x4_12 ls (lv_sub hl [1, 2, 3, 4, 0] rfl) h
        · have h := ie c_11 h
          refine lv_aload_n hx hb dX0_votesFor_26 rfl (lv_at hl 0 rfl) ?_
          refine lv_iload hx hb dX0_votesFor_27 (lv_at hl 4 rfl) ?_
          refine lv_iload_n hx hb dX0_votesFor_29 rfl (lv_at hl 2 rfl) ?_
          obtain ⟨z_13, e_z_13, h⟩ := bi h
          refine roVi (rest := []) ⟨hx, hb, hml, hown, ht⟩ (c_X0_choiceOf l D cy fu A_a a_name a_courage a_weight a_medals a_stood a_fled a_liked a_votes a_count a_living a_pride a_quota a_melted a_lost x4 x2 z_13 e_z_13) (cV ht mv_X0_choiceOf tb_819 rfl rfl ⟨Nat.le_of_ble_eq_true rfl, Nat.le_of_ble_eq_true rfl⟩) (P_sub hP [0] rfl) hX rfl rfl rfl hl.1 rfl (Nat.le_of_ble_eq_true rfl) dX0_votesFor_30 ⟨Nat.le_of_ble_eq_true rfl, Nat.le_of_ble_eq_true rfl⟩ ?_
          refine lv_iload_n hx hb dX0_votesFor_33 rfl (lv_at hl 1 rfl) ?_
          refine lv_icmp_ne (tgt := 47) hx hb dX0_votesFor_34 (by decide) (fun c_14 => ?_) (fun c_14 => ?_)
          · have h := ie c_14 h
            obtain ⟨x4_15, e_x4_15⟩ : ∃ y : Int32, y = x4 + 1 := ⟨_, rfl⟩
            have h := bn e_x4_15 h
            refine lv_iinc (v := x4_15) (lv' := [(4, .int x4_15), (0, .ref (A_a 0)), (1, .int x1), (2, .int x2), (3, .int x3)]) hx hb dX0_votesFor_47 hl (k := 4) rfl (by rw [e_x4_15]; rfl) (by decide) rfl (fun ls hl => ?_)
            refine lv_goto (tgt := 5) hx hb dX0_votesFor_50 (by decide) ?_
            exact ih5 x3 x4_15 ls (lv_sub hl [1, 2, 3, 4, 0] rfl) h
          · have h := it c_14 h
            refine lv_iload_n hx hb dX0_votesFor_37 rfl (lv_at hl 3 rfl) ?_
            refine lv_aload_n hx hb dX0_votesFor_38 rfl (lv_at hl 0 rfl) ?_
            refine xget (i := 0) (j := 0) (k := 2) (T := TX0) hx hb ht tb_iX0 hown hX hP rfl rfl rfl (by decide) tb_41 rfl dX0_votesFor_39 ?_
            refine lv_iload hx hb dX0_votesFor_42 (lv_at hl 4 rfl) ?_
            obtain ⟨y_16, e_y_16, h⟩ := bi h
            refine xiald (i0 := 0) (j0 := 3) hx hb hX hP rfl rfl e_y_16 dX0_votesFor_44 ?_
            refine lv_iadd hx hb dX0_votesFor_45 ?_
            refine lv_topi (fun x3_17 e_x3_17 => ?_)
            have h := bn e_x3_17 h
            refine lv_istore_n (lv' := [(3, .int x3_17), (0, .ref (A_a 0)), (1, .int x1), (2, .int x2), (4, .int x4)]) hx hb dX0_votesFor_46 rfl hl (by decide) rfl (fun ls hl => ?_)
            obtain ⟨x4_18, e_x4_18⟩ : ∃ y : Int32, y = x4 + 1 := ⟨_, rfl⟩
            have h := bn e_x4_18 h
            refine lv_iinc (v := x4_18) (lv' := [(4, .int x4_18), (3, .int x3_17), (0, .ref (A_a 0)), (1, .int x1), (2, .int x2)]) hx hb dX0_votesFor_47 hl (k := 4) rfl (by rw [e_x4_18]; rfl) (by decide) rfl (fun ls hl => ?_)
            refine lv_goto (tgt := 5) hx hb dX0_votesFor_50 (by decide) ?_
            exact ih5 x3_17 x4_18 ls (lv_sub hl [2, 3, 4, 1, 0] rfl) h
  unfold f_X0_votesFor at h
  refine lv_iconst (v := 0) hx hb dX0_votesFor_0 (by decide) ?_
  refine lv_istore_n (lv' := [(3, .int 0), (0, .ref (A_a 0)), (1, .int x1), (2, .int x2)]) hx hb dX0_votesFor_1 rfl hl (by decide) rfl (fun ls hl => ?_)
  refine lv_iconst (v := 0) hx hb dX0_votesFor_2 (by decide) ?_
  refine lv_istore (lv' := [(4, .int 0), (3, .int 0), (0, .ref (A_a 0)), (1, .int x1), (2, .int x2)]) hx hb dX0_votesFor_3 hl (by decide) rfl (fun ls hl => ?_)
  exact l5 fu 0 0 ls (lv_sub hl [2, 3, 4, 1, 0] rfl) h
theorem dX0_winnerOf_0 : decode cX0_winnerOf 0 = .ok (.aload_n 0, 1) := by decide +kernel
theorem dX0_winnerOf_1 : decode cX0_winnerOf 1 = .ok (.getfield 34, 3) := by decide +kernel
theorem dX0_winnerOf_4 : decode cX0_winnerOf 4 = .ok (.iconst 0, 1) := by decide +kernel
theorem dX0_winnerOf_5 : decode cX0_winnerOf 5 = .ok (.invokestatic 62, 3) := by decide +kernel
theorem dX0_winnerOf_8 : decode cX0_winnerOf 8 = .ok (.iconst 0, 1) := by decide +kernel
theorem dX0_winnerOf_9 : decode cX0_winnerOf 9 = .ok (.istore_n 2, 1) := by decide +kernel
theorem dX0_winnerOf_10 : decode cX0_winnerOf 10 = .ok (.iload_n 2, 1) := by decide +kernel
theorem dX0_winnerOf_11 : decode cX0_winnerOf 11 = .ok (.aload_n 0, 1) := by decide +kernel
theorem dX0_winnerOf_12 : decode cX0_winnerOf 12 = .ok (.getfield 37, 3) := by decide +kernel
theorem dX0_winnerOf_15 : decode cX0_winnerOf 15 = .ok (.if_icmp .ge 51, 3) := by decide +kernel
theorem dX0_winnerOf_18 : decode cX0_winnerOf 18 = .ok (.aload_n 0, 1) := by decide +kernel
theorem dX0_winnerOf_19 : decode cX0_winnerOf 19 = .ok (.getfield 41, 3) := by decide +kernel
theorem dX0_winnerOf_22 : decode cX0_winnerOf 22 = .ok (.iload_n 2, 1) := by decide +kernel
theorem dX0_winnerOf_23 : decode cX0_winnerOf 23 = .ok (.ishr, 1) := by decide +kernel
theorem dX0_winnerOf_24 : decode cX0_winnerOf 24 = .ok (.iconst 1, 1) := by decide +kernel
theorem dX0_winnerOf_25 : decode cX0_winnerOf 25 = .ok (.iand, 1) := by decide +kernel
theorem dX0_winnerOf_26 : decode cX0_winnerOf 26 = .ok (.ifCond .eq 12, 3) := by decide +kernel
theorem dX0_winnerOf_29 : decode cX0_winnerOf 29 = .ok (.aload_n 0, 1) := by decide +kernel
theorem dX0_winnerOf_30 : decode cX0_winnerOf 30 = .ok (.iload_n 2, 1) := by decide +kernel
theorem dX0_winnerOf_31 : decode cX0_winnerOf 31 = .ok (.iload_n 1, 1) := by decide +kernel
theorem dX0_winnerOf_32 : decode cX0_winnerOf 32 = .ok (.invokevirtual 90, 3) := by decide +kernel
theorem dX0_winnerOf_35 : decode cX0_winnerOf 35 = .ok (.goto 4, 3) := by decide +kernel
theorem dX0_winnerOf_38 : decode cX0_winnerOf 38 = .ok (.iconst (-1), 1) := by decide +kernel
theorem dX0_winnerOf_39 : decode cX0_winnerOf 39 = .ok (.istore_n 3, 1) := by decide +kernel
theorem dX0_winnerOf_40 : decode cX0_winnerOf 40 = .ok (.iload_n 3, 1) := by decide +kernel
theorem dX0_winnerOf_41 : decode cX0_winnerOf 41 = .ok (.iconst (-1), 1) := by decide +kernel
theorem dX0_winnerOf_42 : decode cX0_winnerOf 42 = .ok (.if_icmp .eq 18, 3) := by decide +kernel
theorem dX0_winnerOf_45 : decode cX0_winnerOf 45 = .ok (.aload_n 0, 1) := by decide +kernel
theorem dX0_winnerOf_46 : decode cX0_winnerOf 46 = .ok (.getfield 34, 3) := by decide +kernel
theorem dX0_winnerOf_49 : decode cX0_winnerOf 49 = .ok (.iload_n 3, 1) := by decide +kernel
theorem dX0_winnerOf_50 : decode cX0_winnerOf 50 = .ok (.dup2, 1) := by decide +kernel
theorem dX0_winnerOf_51 : decode cX0_winnerOf 51 = .ok (.iaload, 1) := by decide +kernel
theorem dX0_winnerOf_52 : decode cX0_winnerOf 52 = .ok (.aload_n 0, 1) := by decide +kernel
theorem dX0_winnerOf_53 : decode cX0_winnerOf 53 = .ok (.getfield 19, 3) := by decide +kernel
theorem dX0_winnerOf_56 : decode cX0_winnerOf 56 = .ok (.iload_n 2, 1) := by decide +kernel
theorem dX0_winnerOf_57 : decode cX0_winnerOf 57 = .ok (.iaload, 1) := by decide +kernel
theorem dX0_winnerOf_58 : decode cX0_winnerOf 58 = .ok (.iadd, 1) := by decide +kernel
theorem dX0_winnerOf_59 : decode cX0_winnerOf 59 = .ok (.iastore, 1) := by decide +kernel
theorem dX0_winnerOf_60 : decode cX0_winnerOf 60 = .ok (.iinc 2 1, 3) := by decide +kernel
theorem dX0_winnerOf_63 : decode cX0_winnerOf 63 = .ok (.goto (-53), 3) := by decide +kernel
theorem dX0_winnerOf_66 : decode cX0_winnerOf 66 = .ok (.iconst (-1), 1) := by decide +kernel
theorem dX0_winnerOf_67 : decode cX0_winnerOf 67 = .ok (.istore_n 2, 1) := by decide +kernel
theorem dX0_winnerOf_68 : decode cX0_winnerOf 68 = .ok (.iconst (-1), 1) := by decide +kernel
theorem dX0_winnerOf_69 : decode cX0_winnerOf 69 = .ok (.istore_n 3, 1) := by decide +kernel
theorem dX0_winnerOf_70 : decode cX0_winnerOf 70 = .ok (.iconst 0, 1) := by decide +kernel
theorem dX0_winnerOf_71 : decode cX0_winnerOf 71 = .ok (.istore 4, 2) := by decide +kernel
theorem dX0_winnerOf_73 : decode cX0_winnerOf 73 = .ok (.iload 4, 2) := by decide +kernel
theorem dX0_winnerOf_75 : decode cX0_winnerOf 75 = .ok (.aload_n 0, 1) := by decide +kernel
theorem dX0_winnerOf_76 : decode cX0_winnerOf 76 = .ok (.getfield 37, 3) := by decide +kernel
theorem dX0_winnerOf_79 : decode cX0_winnerOf 79 = .ok (.if_icmp .ge 40, 3) := by decide +kernel
theorem dX0_winnerOf_82 : decode cX0_winnerOf 82 = .ok (.iload_n 1, 1) := by decide +kernel
theorem dX0_winnerOf_83 : decode cX0_winnerOf 83 = .ok (.iload 4, 2) := by decide +kernel
theorem dX0_winnerOf_85 : decode cX0_winnerOf 85 = .ok (.ishr, 1) := by decide +kernel
theorem dX0_winnerOf_86 : decode cX0_winnerOf 86 = .ok (.iconst 1, 1) := by decide +kernel
theorem dX0_winnerOf_87 : decode cX0_winnerOf 87 = .ok (.iand, 1) := by decide +kernel
theorem dX0_winnerOf_88 : decode cX0_winnerOf 88 = .ok (.ifCond .eq 25, 3) := by decide +kernel
theorem dX0_winnerOf_91 : decode cX0_winnerOf 91 = .ok (.aload_n 0, 1) := by decide +kernel
theorem dX0_winnerOf_92 : decode cX0_winnerOf 92 = .ok (.getfield 34, 3) := by decide +kernel
theorem dX0_winnerOf_95 : decode cX0_winnerOf 95 = .ok (.iload 4, 2) := by decide +kernel
theorem dX0_winnerOf_97 : decode cX0_winnerOf 97 = .ok (.iaload, 1) := by decide +kernel
theorem dX0_winnerOf_98 : decode cX0_winnerOf 98 = .ok (.iload_n 3, 1) := by decide +kernel
theorem dX0_winnerOf_99 : decode cX0_winnerOf 99 = .ok (.if_icmp .le 14, 3) := by decide +kernel
theorem dX0_winnerOf_102 : decode cX0_winnerOf 102 = .ok (.aload_n 0, 1) := by decide +kernel
theorem dX0_winnerOf_103 : decode cX0_winnerOf 103 = .ok (.getfield 34, 3) := by decide +kernel
theorem dX0_winnerOf_106 : decode cX0_winnerOf 106 = .ok (.iload 4, 2) := by decide +kernel
theorem dX0_winnerOf_108 : decode cX0_winnerOf 108 = .ok (.iaload, 1) := by decide +kernel
theorem dX0_winnerOf_109 : decode cX0_winnerOf 109 = .ok (.istore_n 3, 1) := by decide +kernel
theorem dX0_winnerOf_110 : decode cX0_winnerOf 110 = .ok (.iload 4, 2) := by decide +kernel
theorem dX0_winnerOf_112 : decode cX0_winnerOf 112 = .ok (.istore_n 2, 1) := by decide +kernel
theorem dX0_winnerOf_113 : decode cX0_winnerOf 113 = .ok (.iinc 4 1, 3) := by decide +kernel
theorem dX0_winnerOf_116 : decode cX0_winnerOf 116 = .ok (.goto (-43), 3) := by decide +kernel
theorem dX0_winnerOf_119 : decode cX0_winnerOf 119 = .ok (.iload_n 2, 1) := by decide +kernel
theorem dX0_winnerOf_120 : decode cX0_winnerOf 120 = .ok (.ireturn, 1) := by decide +kernel
theorem mv_X0_winnerOf : MV yX0_winnerOf RX0 cX0_winnerOf 5 (some .int) 1 := ⟨tb_818, tb_816, tb_817, tb_2, by decide +kernel, by decide +kernel, by decide +kernel⟩
def f_X0_winnerOf_b73 (fu : Nat) (a_weight : Nat → Int32) (a_liked : Nat → Int32) (a_count : Int32) (a_living : Int32) (x1 : Int32) (k73 : (Nat → Int32) → Int32 → Int32 → Int32 → (Option (Int32 × (Nat → Int32)))) (a_votes : Nat → Int32) (x2 : Int32) (x3 : Int32) (x4 : Int32) : Option (Int32 × (Nat → Int32)) := (if a_count ≤ x4 then some (x2, a_votes) else (if ((x1 >>> (x4 &&& 31)) &&& 1) = 0 then bnd (x4 + 1) fun x4_21 => k73 a_votes x2 x3 x4_21 else (rdI a_votes 8 x4).bind fun y_22 => (if y_22 ≤ x3 then bnd (x4 + 1) fun x4_24 => k73 a_votes x2 x3 x4_24 else (rdI a_votes 8 x4).bind fun y_25 => bnd (x4 + 1) fun x4_26 => k73 a_votes x4 y_25 x4_26)))
def f_X0_winnerOf_l73 (fu : Nat) (a_weight : Nat → Int32) (a_liked : Nat → Int32) (a_count : Int32) (a_living : Int32) (x1 : Int32) : Nat → (Nat → Int32) → Int32 → Int32 → Int32 → (Option (Int32 × (Nat → Int32)))
  | 0, _, _, _, _ => none
  | n + 1, a_votes, x2, x3, x4 => f_X0_winnerOf_b73 fu a_weight a_liked a_count a_living x1 (f_X0_winnerOf_l73 fu a_weight a_liked a_count a_living x1 n) a_votes x2 x3 x4
def f_X0_winnerOf_j39 (fu : Nat) (a_weight : Nat → Int32) (a_liked : Nat → Int32) (a_count : Int32) (a_living : Int32) (x1 : Int32) (k10 : (Nat → Int32) → Int32 → (Option (Int32 × (Nat → Int32)))) (a_votes : Nat → Int32) (x2 : Int32) (s0 : Int32) : Option (Int32 × (Nat → Int32)) := (if s0 = (-1) then bnd (x2 + 1) fun x2_28 => k10 a_votes x2_28 else (rdI a_votes 8 s0).bind fun y_29 => (rdI a_weight 8 x2).bind fun y_30 => (wrI a_votes 8 s0 (y_29 + y_30)).bind fun a_votes_31 => bnd (x2 + 1) fun x2_32 => k10 a_votes_31 x2_32)
def f_X0_winnerOf_b10 (fu : Nat) (a_weight : Nat → Int32) (a_liked : Nat → Int32) (a_count : Int32) (a_living : Int32) (x1 : Int32) (k10 : (Nat → Int32) → Int32 → (Option (Int32 × (Nat → Int32)))) (a_votes : Nat → Int32) (x2 : Int32) : Option (Int32 × (Nat → Int32)) := (if a_count ≤ x2 then f_X0_winnerOf_l73 fu a_weight a_liked a_count a_living x1 fu a_votes (-1) (-1) 0 else (if ((a_living >>> (x2 &&& 31)) &&& 1) = 0 then f_X0_winnerOf_j39 fu a_weight a_liked a_count a_living x1 k10 a_votes x2 (-1) else (f_X0_choiceOf fu a_liked a_count x2 x1).bind fun z_35 => f_X0_winnerOf_j39 fu a_weight a_liked a_count a_living x1 k10 a_votes x2 z_35))
def f_X0_winnerOf_l10 (fu : Nat) (a_weight : Nat → Int32) (a_liked : Nat → Int32) (a_count : Int32) (a_living : Int32) (x1 : Int32) : Nat → (Nat → Int32) → Int32 → (Option (Int32 × (Nat → Int32)))
  | 0, _, _ => none
  | n + 1, a_votes, x2 => f_X0_winnerOf_b10 fu a_weight a_liked a_count a_living x1 (f_X0_winnerOf_l10 fu a_weight a_liked a_count a_living x1 n) a_votes x2
def f_X0_winnerOf (fu : Nat) (a_weight : Nat → Int32) (a_liked : Nat → Int32) (a_votes : Nat → Int32) (a_count : Int32) (a_living : Int32) (x1 : Int32) : Option (Int32 × (Nat → Int32)) := (f_J7_fill_53178 fu 8 a_votes 0).bind fun z_36 => f_X0_winnerOf_l10 fu a_weight a_liked a_count a_living x1 fu z_36 0
abbrev rm_X0_winnerOf : Room := { frames := 1, cells := 0, slots := 0, locals := 26 }
set_option maxHeartbeats 4000000 in
set_option maxRecDepth 100000 in
theorem c_X0_winnerOf (l : Launch) (D : va_G) (cy : Nat → ClassId) (fu : Nat) (A_a : Nat → Nat) (a_name : Nat → Int64) (a_courage : Nat → Int32) (a_weight : Nat → Int32) (a_medals : Nat → Int32) (a_stood : Nat → Int32) (a_fled : Nat → Int32) (a_liked : Nat → Int32) (a_votes : Nat → Int32) (a_count : Int32) (a_living : Int32) (a_pride : Int32) (a_quota : Int32) (a_melted : Int32) (a_lost : Int32) (x1 : Int32) (res : Int32 × (Nat → Int32)) (h : f_X0_winnerOf fu a_weight a_liked a_votes a_count a_living x1 = some res) (A : Nat → Prop) (hA : A = adr [bl_X0 cy A_a a_name a_courage a_weight a_medals a_stood a_fled a_liked a_votes a_count a_living a_pride a_quota a_melted a_lost]) (W1 : List va_W) (hW1 : W1 = [bl_X0 cy A_a a_name a_courage a_weight a_medals a_stood a_fled a_liked res.2 a_count a_living a_pride a_quota a_melted a_lost]) : Met l yX0_winnerOf (WW yX0_winnerOf cX0_winnerOf 5 (some .int)) rm_X0_winnerOf (Ed D cy [.ref (A_a 0), .int x1] [bl_X0 cy A_a a_name a_courage a_weight a_medals a_stood a_fled a_liked a_votes a_count a_living a_pride a_quota a_melted a_lost]) (Qei D res.1 A W1) 0 0 A := by
  refine Met.ofW (cc := cX0_winnerOf) (maxL := 5) (ret := (some .int)) (by decide) rfl ?_
  intro p e s m args below meth c s₁ B hml hv
  obtain ⟨hargs, hP, hX, hD0⟩ := hv
  have hx := B.exec
  have hb := B.bytes
  have hr := B.returns
  have ht : ∀ w ∈ lw_gd, w.before args s = true := fun w hw => atoms_spec (ws := WW yX0_winnerOf cX0_winnerOf 5 (some .int)) B.pre w (List.mem_cons_of_mem _ hw)
  have hown : s.vm.findClass RX0 = some m.cls := findClass_of_methodNamed B.named
  have hlocks := B.notSynchronized
  have hP : PD D A [bl_X0 cy A_a a_name a_courage a_weight a_medals a_stood a_fled a_liked a_votes a_count a_living a_pride a_quota a_melted a_lost] s.heap := ⟨hP, by rw [hA]; exact hD0.own⟩
  have hS : va_S A s.heap s.heap [] := va_S.rf
  obtain ⟨ls, hl, hent⟩ := ent (m := m) (n := 5) hargs (Nat.le_of_ble_eq_true rfl) (lv := [(0, .ref (A_a 0)), (1, .int x1)]) rfl
  rw [hent]
  clear hent
  have l73 : ∀ (n73 : Nat) (a_votes : Nat → Int32) (x2 : Int32) (x3 : Int32) (x4 : Int32) (H : Heap) (locs : List Loc) (_ : PD D A [bl_X0 cy A_a a_name a_courage a_weight a_medals a_stood a_fled a_liked a_votes a_count a_living a_pride a_quota a_melted a_lost] H) (_ : va_S A s.heap H locs) (ls : Array Slot), lv_has ls 5 [(0, .ref (A_a 0)), (1, .int x1), (2, .int x2), (3, .int x3), (4, .int x4)] → f_X0_winnerOf_l73 fu a_weight a_liked a_count a_living x1 n73 a_votes x2 x3 x4 = some res → W p l e (headSpec (WW yX0_winnerOf cX0_winnerOf 5 (some .int)) rm_X0_winnerOf).room s m args below meth c H locs 0 0 (MQ below (Qei D res.1 A W1) args s 0 0 A) (F0 m 73 ls []) := by
    intro n73
    induction n73 with
    | zero => intro a_votes x2 x3 x4 H locs hP hS ls hl h; cases h
    | succ n73 ih73 =>
      intro a_votes x2 x3 x4 H locs hP hS ls hl h
      have h : f_X0_winnerOf_b73 fu a_weight a_liked a_count a_living x1 (f_X0_winnerOf_l73 fu a_weight a_liked a_count a_living x1 n73) a_votes x2 x3 x4 = some res := h
      unfold f_X0_winnerOf_b73 at h
      refine lv_iload hx hb dX0_winnerOf_73 (lv_at hl 4 rfl) ?_
      refine lv_aload_n hx hb dX0_winnerOf_75 rfl (lv_at hl 0 rfl) ?_
      refine xget (i := 0) (j := 0) (k := 8) (T := TX0) hx hb ht tb_iX0 hown hX hP.1 rfl rfl rfl (by decide) tb_55 rfl dX0_winnerOf_76 ?_
      refine lv_icmp_ge (tgt := 119) hx hb dX0_winnerOf_79 (by decide) (fun c_19 => ?_) (fun c_19 => ?_)
      · have h := it c_19 h
        refine lv_iload_n hx hb dX0_winnerOf_119 rfl (lv_at hl 2 rfl) ?_
        cases h
        subst hW1
        exact W.iret hx hb hr (fun _ ht9 _ => ⟨⟨_, (), rfl, rfl, hPt ht9 hP.1⟩, hS.F ht9⟩) hS.2.2 dX0_winnerOf_120
      · have h := ie c_19 h
        refine lv_iload_n hx hb dX0_winnerOf_82 rfl (lv_at hl 1 rfl) ?_
        refine lv_iload hx hb dX0_winnerOf_83 (lv_at hl 4 rfl) ?_
        refine lv_ishr hx hb dX0_winnerOf_85 ?_
        refine lv_iconst (v := 1) hx hb dX0_winnerOf_86 (by decide) ?_
        refine lv_iand hx hb dX0_winnerOf_87 ?_
        refine lv_if_eq (tgt := 113) hx hb dX0_winnerOf_88 (by decide) (fun c_20 => ?_) (fun c_20 => ?_)
        · have h := it c_20 h
          obtain ⟨x4_21, e_x4_21⟩ : ∃ y : Int32, y = x4 + 1 := ⟨_, rfl⟩
          have h := bn e_x4_21 h
          refine lv_iinc (v := x4_21) (lv' := [(4, .int x4_21), (0, .ref (A_a 0)), (1, .int x1), (2, .int x2), (3, .int x3)]) hx hb dX0_winnerOf_113 hl (k := 4) rfl (by rw [e_x4_21]; rfl) (by decide) rfl (fun ls hl => ?_)
          refine lv_goto (tgt := 73) hx hb dX0_winnerOf_116 (by decide) ?_
          exact ih73 a_votes x2 x3 x4_21 _ _ hP hS ls (lv_sub hl [1, 2, 3, 4, 0] rfl) h
        · have h := ie c_20 h
          refine lv_aload_n hx hb dX0_winnerOf_91 rfl (lv_at hl 0 rfl) ?_
          refine xget (i := 0) (j := 0) (k := 7) (T := TX0) hx hb ht tb_iX0 hown hX hP.1 rfl rfl rfl (by decide) tb_54 rfl dX0_winnerOf_92 ?_
          refine lv_iload hx hb dX0_winnerOf_95 (lv_at hl 4 rfl) ?_
          obtain ⟨y_22, e_y_22, h⟩ := bi h
          refine xiald (i0 := 0) (j0 := 8) hx hb hX hP.1 rfl rfl e_y_22 dX0_winnerOf_97 ?_
          refine lv_iload_n hx hb dX0_winnerOf_98 rfl (lv_at hl 3 rfl) ?_
          refine lv_icmp_le (tgt := 113) hx hb dX0_winnerOf_99 (by decide) (fun c_23 => ?_) (fun c_23 => ?_)
          · have h := it c_23 h
            obtain ⟨x4_24, e_x4_24⟩ : ∃ y : Int32, y = x4 + 1 := ⟨_, rfl⟩
            have h := bn e_x4_24 h
            refine lv_iinc (v := x4_24) (lv' := [(4, .int x4_24), (0, .ref (A_a 0)), (1, .int x1), (2, .int x2), (3, .int x3)]) hx hb dX0_winnerOf_113 hl (k := 4) rfl (by rw [e_x4_24]; rfl) (by decide) rfl (fun ls hl => ?_)
            refine lv_goto (tgt := 73) hx hb dX0_winnerOf_116 (by decide) ?_
            exact ih73 a_votes x2 x3 x4_24 _ _ hP hS ls (lv_sub hl [1, 2, 3, 4, 0] rfl) h
          · have h := ie c_23 h
            refine lv_aload_n hx hb dX0_winnerOf_102 rfl (lv_at hl 0 rfl) ?_
            refine xget (i := 0) (j := 0) (k := 7) (T := TX0) hx hb ht tb_iX0 hown hX hP.1 rfl rfl rfl (by decide) tb_54 rfl dX0_winnerOf_103 ?_
            refine lv_iload hx hb dX0_winnerOf_106 (lv_at hl 4 rfl) ?_
            obtain ⟨y_25, e_y_25, h⟩ := bi h
            refine xiald (i0 := 0) (j0 := 8) hx hb hX hP.1 rfl rfl e_y_25 dX0_winnerOf_108 ?_
            refine lv_istore_n (lv' := [(3, .int y_25), (0, .ref (A_a 0)), (1, .int x1), (2, .int x2), (4, .int x4)]) hx hb dX0_winnerOf_109 rfl hl (by decide) rfl (fun ls hl => ?_)
            refine lv_iload hx hb dX0_winnerOf_110 (lv_at hl 4 rfl) ?_
            refine lv_istore_n (lv' := [(2, .int x4), (3, .int y_25), (0, .ref (A_a 0)), (1, .int x1), (4, .int x4)]) hx hb dX0_winnerOf_112 rfl hl (by decide) rfl (fun ls hl => ?_)
            obtain ⟨x4_26, e_x4_26⟩ : ∃ y : Int32, y = x4 + 1 := ⟨_, rfl⟩
            have h := bn e_x4_26 h
            refine lv_iinc (v := x4_26) (lv' := [(4, .int x4_26), (2, .int x4), (3, .int y_25), (0, .ref (A_a 0)), (1, .int x1)]) hx hb dX0_winnerOf_113 hl (k := 4) rfl (by rw [e_x4_26]; rfl) (by decide) rfl (fun ls hl => ?_)
            refine lv_goto (tgt := 73) hx hb dX0_winnerOf_116 (by decide) ?_
            exact ih73 a_votes x4 y_25 x4_26 _ _ hP hS ls (lv_sub hl [3, 4, 1, 2, 0] rfl) h
  have l10 : ∀ (n10 : Nat) (a_votes : Nat → Int32) (x2 : Int32) (H : Heap) (locs : List Loc) (_ : PD D A [bl_X0 cy A_a a_name a_courage a_weight a_medals a_stood a_fled a_liked a_votes a_count a_living a_pride a_quota a_melted a_lost] H) (_ : va_S A s.heap H locs) (ls : Array Slot), lv_has ls 5 [(0, .ref (A_a 0)), (1, .int x1), (2, .int x2)] → f_X0_winnerOf_l10 fu a_weight a_liked a_count a_living x1 n10 a_votes x2 = some res → W p l e (headSpec (WW yX0_winnerOf cX0_winnerOf 5 (some .int)) rm_X0_winnerOf).room s m args below meth c H locs 0 0 (MQ below (Qei D res.1 A W1) args s 0 0 A) (F0 m 10 ls []) := by
    intro n10
    induction n10 with
    | zero => intro a_votes x2 H locs hP hS ls hl h; cases h
    | succ n10 ih10 =>
      have j39 : ∀ (a_votes : Nat → Int32) (x2 : Int32) (s0 : Int32) (H : Heap) (locs : List Loc) (_ : PD D A [bl_X0 cy A_a a_name a_courage a_weight a_medals a_stood a_fled a_liked a_votes a_count a_living a_pride a_quota a_melted a_lost] H) (_ : va_S A s.heap H locs) (ls : Array Slot), lv_has ls 5 [(0, .ref (A_a 0)), (1, .int x1), (2, .int x2)] → f_X0_winnerOf_j39 fu a_weight a_liked a_count a_living x1 (f_X0_winnerOf_l10 fu a_weight a_liked a_count a_living x1 n10) a_votes x2 s0 = some res → W p l e (headSpec (WW yX0_winnerOf cX0_winnerOf 5 (some .int)) rm_X0_winnerOf).room s m args below meth c H locs 0 0 (MQ below (Qei D res.1 A W1) args s 0 0 A) (F0 m 39 ls [.int s0]) := by
        intro a_votes x2 s0 H locs hP hS ls hl h
        unfold f_X0_winnerOf_j39 at h
        refine lv_istore_n (lv' := [(3, .int s0), (0, .ref (A_a 0)), (1, .int x1), (2, .int x2)]) hx hb dX0_winnerOf_39 rfl hl (by decide) rfl (fun ls hl => ?_)
        refine lv_iload_n hx hb dX0_winnerOf_40 rfl (lv_at hl 0 rfl) ?_
        refine lv_iconst (v := (-1)) hx hb dX0_winnerOf_41 (by decide) ?_
        refine lv_icmp_eq (tgt := 60) hx hb dX0_winnerOf_42 (by decide) (fun c_27 => ?_) (fun c_27 => ?_)
        · have h := it c_27 h
          obtain ⟨x2_28, e_x2_28⟩ : ∃ y : Int32, y = x2 + 1 := ⟨_, rfl⟩
          have h := bn e_x2_28 h
          refine lv_iinc (v := x2_28) (lv' := [(2, .int x2_28), (3, .int s0), (0, .ref (A_a 0)), (1, .int x1)]) hx hb dX0_winnerOf_60 hl (k := 3) rfl (by rw [e_x2_28]; rfl) (by decide) rfl (fun ls hl => ?_)
          refine lv_goto (tgt := 10) hx hb dX0_winnerOf_63 (by decide) ?_
          exact ih10 a_votes x2_28 _ _ hP hS ls (lv_sub hl [2, 3, 0] rfl) h
        · have h := ie c_27 h
          refine lv_aload_n hx hb dX0_winnerOf_45 rfl (lv_at hl 1 rfl) ?_
          refine xget (i := 0) (j := 0) (k := 7) (T := TX0) hx hb ht tb_iX0 hown hX hP.1 rfl rfl rfl (by decide) tb_54 rfl dX0_winnerOf_46 ?_
          refine lv_iload_n hx hb dX0_winnerOf_49 rfl (lv_at hl 0 rfl) ?_
          refine lv_dup2_11 hx hb dX0_winnerOf_50 rfl rfl ?_
          obtain ⟨y_29, e_y_29, h⟩ := bi h
          refine xiald (i0 := 0) (j0 := 8) hx hb hX hP.1 rfl rfl e_y_29 dX0_winnerOf_51 ?_
          refine lv_aload_n hx hb dX0_winnerOf_52 rfl (lv_at hl 1 rfl) ?_
          refine xget (i := 0) (j := 0) (k := 2) (T := TX0) hx hb ht tb_iX0 hown hX hP.1 rfl rfl rfl (by decide) tb_41 rfl dX0_winnerOf_53 ?_
          refine lv_iload_n hx hb dX0_winnerOf_56 rfl (lv_at hl 3 rfl) ?_
          obtain ⟨y_30, e_y_30, h⟩ := bi h
          refine xiald (i0 := 0) (j0 := 3) hx hb hX hP.1 rfl rfl e_y_30 dX0_winnerOf_57 ?_
          refine lv_iadd hx hb dX0_winnerOf_58 ?_
          obtain ⟨a_votes_31, e_a_votes_31, h⟩ := bi h
          refine xiast (i0 := 0) (j0 := 8) hx hb hX hP hS rfl rfl e_a_votes_31 dX0_winnerOf_59 (fun H locs hP hS => ?_)
          have hP : PD D A [bl_X0 cy A_a a_name a_courage a_weight a_medals a_stood a_fled a_liked a_votes_31 a_count a_living a_pride a_quota a_melted a_lost] H := hP
          obtain ⟨x2_32, e_x2_32⟩ : ∃ y : Int32, y = x2 + 1 := ⟨_, rfl⟩
          have h := bn e_x2_32 h
          refine lv_iinc (v := x2_32) (lv' := [(2, .int x2_32), (3, .int s0), (0, .ref (A_a 0)), (1, .int x1)]) hx hb dX0_winnerOf_60 hl (k := 3) rfl (by rw [e_x2_32]; rfl) (by decide) rfl (fun ls hl => ?_)
          refine lv_goto (tgt := 10) hx hb dX0_winnerOf_63 (by decide) ?_
          exact ih10 a_votes_31 x2_32 _ _ hP hS ls (lv_sub hl [2, 3, 0] rfl) h
      intro a_votes x2 H locs hP hS ls hl h
      have h : f_X0_winnerOf_b10 fu a_weight a_liked a_count a_living x1 (f_X0_winnerOf_l10 fu a_weight a_liked a_count a_living x1 n10) a_votes x2 = some res := h
      unfold f_X0_winnerOf_b10 at h
      refine lv_iload_n hx hb dX0_winnerOf_10 rfl (lv_at hl 2 rfl) ?_
      refine lv_aload_n hx hb dX0_winnerOf_11 rfl (lv_at hl 0 rfl) ?_
      refine xget (i := 0) (j := 0) (k := 8) (T := TX0) hx hb ht tb_iX0 hown hX hP.1 rfl rfl rfl (by decide) tb_55 rfl dX0_winnerOf_12 ?_
      refine lv_icmp_ge (tgt := 66) hx hb dX0_winnerOf_15 (by decide) (fun c_33 => ?_) (fun c_33 => ?_)
      · have h := it c_33 h
        refine lv_iconst (v := (-1)) hx hb dX0_winnerOf_66 (by decide) ?_
        refine lv_istore_n (lv' := [(2, .int (-1)), (0, .ref (A_a 0)), (1, .int x1)]) hx hb dX0_winnerOf_67 rfl hl (by decide) rfl (fun ls hl => ?_)
        refine lv_iconst (v := (-1)) hx hb dX0_winnerOf_68 (by decide) ?_
        refine lv_istore_n (lv' := [(3, .int (-1)), (2, .int (-1)), (0, .ref (A_a 0)), (1, .int x1)]) hx hb dX0_winnerOf_69 rfl hl (by decide) rfl (fun ls hl => ?_)
        refine lv_iconst (v := 0) hx hb dX0_winnerOf_70 (by decide) ?_
        refine lv_istore (lv' := [(4, .int 0), (3, .int (-1)), (2, .int (-1)), (0, .ref (A_a 0)), (1, .int x1)]) hx hb dX0_winnerOf_71 hl (by decide) rfl (fun ls hl => ?_)
        exact l73 fu a_votes (-1) (-1) 0 _ _ hP hS ls (lv_sub hl [3, 4, 2, 1, 0] rfl) h
      · have h := ie c_33 h
        refine lv_aload_n hx hb dX0_winnerOf_18 rfl (lv_at hl 0 rfl) ?_
        refine xget (i := 0) (j := 0) (k := 9) (T := TX0) hx hb ht tb_iX0 hown hX hP.1 rfl rfl rfl (by decide) tb_61 rfl dX0_winnerOf_19 ?_
        refine lv_iload_n hx hb dX0_winnerOf_22 rfl (lv_at hl 2 rfl) ?_
        refine lv_ishr hx hb dX0_winnerOf_23 ?_
        refine lv_iconst (v := 1) hx hb dX0_winnerOf_24 (by decide) ?_
        refine lv_iand hx hb dX0_winnerOf_25 ?_
        refine lv_if_eq (tgt := 38) hx hb dX0_winnerOf_26 (by decide) (fun c_34 => ?_) (fun c_34 => ?_)
        · have h := it c_34 h
          refine lv_iconst (v := (-1)) hx hb dX0_winnerOf_38 (by decide) ?_
          exact j39 a_votes x2 (-1) _ _ hP hS ls (lv_sub hl [0, 1, 2] rfl) h
        · have h := ie c_34 h
          refine lv_aload_n hx hb dX0_winnerOf_29 rfl (lv_at hl 0 rfl) ?_
          refine lv_iload_n hx hb dX0_winnerOf_30 rfl (lv_at hl 2 rfl) ?_
          refine lv_iload_n hx hb dX0_winnerOf_31 rfl (lv_at hl 1 rfl) ?_
          obtain ⟨z_35, e_z_35, h⟩ := bi h
          refine roVi (rest := []) ⟨hx, hb, hml, hown, ht⟩ (c_X0_choiceOf l D cy fu A_a a_name a_courage a_weight a_medals a_stood a_fled a_liked a_votes a_count a_living a_pride a_quota a_melted a_lost x2 x1 z_35 e_z_35) (cV ht mv_X0_choiceOf tb_819 rfl rfl ⟨Nat.le_of_ble_eq_true rfl, Nat.le_of_ble_eq_true rfl⟩) (P_sub hP.1 [0] rfl) hX rfl rfl rfl hl.1 rfl (Nat.le_of_ble_eq_true rfl) dX0_winnerOf_32 ⟨Nat.le_of_ble_eq_true rfl, Nat.le_of_ble_eq_true rfl⟩ ?_
          refine lv_goto (tgt := 39) hx hb dX0_winnerOf_35 (by decide) ?_
          exact j39 a_votes x2 z_35 _ _ hP hS ls (lv_sub hl [0, 1, 2] rfl) h
  unfold f_X0_winnerOf at h
  refine lv_aload_n hx hb dX0_winnerOf_0 rfl (lv_at hl 0 rfl) ?_
  refine xget (i := 0) (j := 0) (k := 7) (T := TX0) hx hb ht tb_iX0 hown hX hP.1 rfl rfl rfl (by decide) tb_54 rfl dX0_winnerOf_1 ?_
  refine lv_iconst (v := 0) hx hb dX0_winnerOf_4 (by decide) ?_
  obtain ⟨z_36, e_z_36, h⟩ := bi h
  refine efAv (i := 0) (j := 8) (rest := []) ⟨hx, hb, hml, hown, ht⟩ (c_J7_fill_53178 l D cy fu (A_a 8) 8 a_votes 0 z_36 e_z_36 _ rfl _ rfl) (cS ht ms_J7_fill_53178 tb_615 rfl rfl ⟨Nat.le_of_ble_eq_true rfl, Nat.le_of_ble_eq_true rfl⟩) hP hS hX rfl rfl rfl rfl hl.1 rfl (Nat.le_of_ble_eq_true rfl) dX0_winnerOf_5 ⟨Nat.le_of_ble_eq_true rfl, Nat.le_of_ble_eq_true rfl⟩ (fun H locs hP hS => ?_)
  have hP : PD D A [bl_X0 cy A_a a_name a_courage a_weight a_medals a_stood a_fled a_liked z_36 a_count a_living a_pride a_quota a_melted a_lost] H := hP
  refine lv_iconst (v := 0) hx hb dX0_winnerOf_8 (by decide) ?_
  refine lv_istore_n (lv' := [(2, .int 0), (0, .ref (A_a 0)), (1, .int x1)]) hx hb dX0_winnerOf_9 rfl hl (by decide) rfl (fun ls hl => ?_)
  exact l10 fu z_36 0 _ _ hP hS ls (lv_sub hl [1, 2, 0] rfl) h
theorem dX0_pin_0 : decode cX0_pin 0 = .ok (.aload_n 0, 1) := by decide +kernel
theorem dX0_pin_1 : decode cX0_pin 1 = .ok (.iload_n 1, 1) := by decide +kernel
theorem dX0_pin_2 : decode cX0_pin 2 = .ok (.invokevirtual 75, 3) := by decide +kernel
theorem dX0_pin_5 : decode cX0_pin 5 = .ok (.ifCond .eq 14, 3) := by decide +kernel
theorem dX0_pin_8 : decode cX0_pin 8 = .ok (.aload_n 0, 1) := by decide +kernel
theorem dX0_pin_9 : decode cX0_pin 9 = .ok (.getfield 22, 3) := by decide +kernel
theorem dX0_pin_12 : decode cX0_pin 12 = .ok (.iload_n 1, 1) := by decide +kernel
theorem dX0_pin_13 : decode cX0_pin 13 = .ok (.iaload, 1) := by decide +kernel
theorem dX0_pin_14 : decode cX0_pin 14 = .ok (.bipush 99, 2) := by decide +kernel
theorem dX0_pin_16 : decode cX0_pin 16 = .ok (.if_icmp .lt 5, 3) := by decide +kernel
theorem dX0_pin_19 : decode cX0_pin 19 = .ok (.iconst 0, 1) := by decide +kernel
theorem dX0_pin_20 : decode cX0_pin 20 = .ok (.ireturn, 1) := by decide +kernel
theorem dX0_pin_21 : decode cX0_pin 21 = .ok (.aload_n 0, 1) := by decide +kernel
theorem dX0_pin_22 : decode cX0_pin 22 = .ok (.getfield 22, 3) := by decide +kernel
theorem dX0_pin_25 : decode cX0_pin 25 = .ok (.iload_n 1, 1) := by decide +kernel
theorem dX0_pin_26 : decode cX0_pin 26 = .ok (.dup2, 1) := by decide +kernel
theorem dX0_pin_27 : decode cX0_pin 27 = .ok (.iaload, 1) := by decide +kernel
theorem dX0_pin_28 : decode cX0_pin 28 = .ok (.iconst 1, 1) := by decide +kernel
theorem dX0_pin_29 : decode cX0_pin 29 = .ok (.iadd, 1) := by decide +kernel
theorem dX0_pin_30 : decode cX0_pin 30 = .ok (.iastore, 1) := by decide +kernel
theorem dX0_pin_31 : decode cX0_pin 31 = .ok (.iconst 1, 1) := by decide +kernel
theorem dX0_pin_32 : decode cX0_pin 32 = .ok (.ireturn, 1) := by decide +kernel
theorem mv_X0_pin : MV yX0_pin RX0 cX0_pin 2 (some .boolean) 1 := ⟨tb_826, tb_824, tb_825, tb_2, by decide +kernel, by decide +kernel, by decide +kernel⟩
def f_X0_pin (fu : Nat) (a_medals : Nat → Int32) (a_count : Int32) (x1 : Int32) : Option (Int32 × (Nat → Int32)) := (f_X0_isMan fu a_count x1).bind fun z_7 => (if z_7 = 0 then some (0, a_medals) else (rdI a_medals 8 x1).bind fun y_9 => (if y_9 < 99 then (rdI a_medals 8 x1).bind fun y_11 => (wrI a_medals 8 x1 (y_11 + 1)).bind fun a_medals_12 => some (1, a_medals_12) else some (0, a_medals)))
abbrev rm_X0_pin : Room := { frames := 1, cells := 0, slots := 0, locals := 21 }
set_option maxHeartbeats 4000000 in
set_option maxRecDepth 100000 in
theorem c_X0_pin (l : Launch) (D : va_G) (cy : Nat → ClassId) (fu : Nat) (A_a : Nat → Nat) (a_name : Nat → Int64) (a_courage : Nat → Int32) (a_weight : Nat → Int32) (a_medals : Nat → Int32) (a_stood : Nat → Int32) (a_fled : Nat → Int32) (a_liked : Nat → Int32) (a_votes : Nat → Int32) (a_count : Int32) (a_living : Int32) (a_pride : Int32) (a_quota : Int32) (a_melted : Int32) (a_lost : Int32) (x1 : Int32) (res : Int32 × (Nat → Int32)) (h : f_X0_pin fu a_medals a_count x1 = some res) (A : Nat → Prop) (hA : A = adr [bl_X0 cy A_a a_name a_courage a_weight a_medals a_stood a_fled a_liked a_votes a_count a_living a_pride a_quota a_melted a_lost]) (W1 : List va_W) (hW1 : W1 = [bl_X0 cy A_a a_name a_courage a_weight res.2 a_stood a_fled a_liked a_votes a_count a_living a_pride a_quota a_melted a_lost]) : Met l yX0_pin (WW yX0_pin cX0_pin 2 (some .boolean)) rm_X0_pin (Ed D cy [.ref (A_a 0), .int x1] [bl_X0 cy A_a a_name a_courage a_weight a_medals a_stood a_fled a_liked a_votes a_count a_living a_pride a_quota a_melted a_lost]) (Qei D res.1 A W1) 0 0 A := by
  refine Met.ofW (cc := cX0_pin) (maxL := 2) (ret := (some .boolean)) (by decide) rfl ?_
  intro p e s m args below meth c s₁ B hml hv
  obtain ⟨hargs, hP, hX, hD0⟩ := hv
  have hx := B.exec
  have hb := B.bytes
  have hr := B.returns
  have ht : ∀ w ∈ lw_gd, w.before args s = true := fun w hw => atoms_spec (ws := WW yX0_pin cX0_pin 2 (some .boolean)) B.pre w (List.mem_cons_of_mem _ hw)
  have hown : s.vm.findClass RX0 = some m.cls := findClass_of_methodNamed B.named
  have hlocks := B.notSynchronized
  have hP : PD D A [bl_X0 cy A_a a_name a_courage a_weight a_medals a_stood a_fled a_liked a_votes a_count a_living a_pride a_quota a_melted a_lost] s.heap := ⟨hP, by rw [hA]; exact hD0.own⟩
  have hS : va_S A s.heap s.heap [] := va_S.rf
  obtain ⟨ls, hl, hent⟩ := ent (m := m) (n := 2) hargs (Nat.le_of_ble_eq_true rfl) (lv := [(0, .ref (A_a 0)), (1, .int x1)]) rfl
  rw [hent]
  clear hent
  unfold f_X0_pin at h
  refine lv_aload_n hx hb dX0_pin_0 rfl (lv_at hl 0 rfl) ?_
  refine lv_iload_n hx hb dX0_pin_1 rfl (lv_at hl 1 rfl) ?_
  obtain ⟨z_7, e_z_7, h⟩ := bi h
  refine roVi (rest := []) ⟨hx, hb, hml, hown, ht⟩ (c_X0_isMan l D cy fu A_a a_name a_courage a_weight a_medals a_stood a_fled a_liked a_votes a_count a_living a_pride a_quota a_melted a_lost x1 z_7 e_z_7) (cV ht mv_X0_isMan tb_683 rfl rfl ⟨Nat.le_of_ble_eq_true rfl, Nat.le_of_ble_eq_true rfl⟩) (P_sub hP.1 [0] rfl) hX rfl rfl rfl hl.1 rfl (Nat.le_of_ble_eq_true rfl) dX0_pin_2 ⟨Nat.le_of_ble_eq_true rfl, Nat.le_of_ble_eq_true rfl⟩ ?_
  refine lv_if_eq (tgt := 19) hx hb dX0_pin_5 (by decide) (fun c_8 => ?_) (fun c_8 => ?_)
  · have h := it c_8 h
    refine lv_iconst (v := 0) hx hb dX0_pin_19 (by decide) ?_
    cases h
    subst hW1
    exact W.zret hx hb hr rfl (fun _ ht9 _ => ⟨⟨_, (), rfl, rfl, hPt ht9 hP.1⟩, hS.F ht9⟩) hS.2.2 dX0_pin_20
  · have h := ie c_8 h
    refine lv_aload_n hx hb dX0_pin_8 rfl (lv_at hl 0 rfl) ?_
    refine xget (i := 0) (j := 0) (k := 3) (T := TX0) hx hb ht tb_iX0 hown hX hP.1 rfl rfl rfl (by decide) tb_43 rfl dX0_pin_9 ?_
    refine lv_iload_n hx hb dX0_pin_12 rfl (lv_at hl 1 rfl) ?_
    obtain ⟨y_9, e_y_9, h⟩ := bi h
    refine xiald (i0 := 0) (j0 := 4) hx hb hX hP.1 rfl rfl e_y_9 dX0_pin_13 ?_
    refine lv_bipush (v := 99) hx hb dX0_pin_14 (by decide) ?_
    refine lv_icmp_lt (tgt := 21) hx hb dX0_pin_16 (by decide) (fun c_10 => ?_) (fun c_10 => ?_)
    · have h := it c_10 h
      refine lv_aload_n hx hb dX0_pin_21 rfl (lv_at hl 0 rfl) ?_
      refine xget (i := 0) (j := 0) (k := 3) (T := TX0) hx hb ht tb_iX0 hown hX hP.1 rfl rfl rfl (by decide) tb_43 rfl dX0_pin_22 ?_
      refine lv_iload_n hx hb dX0_pin_25 rfl (lv_at hl 1 rfl) ?_
      refine lv_dup2_11 hx hb dX0_pin_26 rfl rfl ?_
      obtain ⟨y_11, e_y_11, h⟩ := bi h
      refine xiald (i0 := 0) (j0 := 4) hx hb hX hP.1 rfl rfl e_y_11 dX0_pin_27 ?_
      refine lv_iconst (v := 1) hx hb dX0_pin_28 (by decide) ?_
      refine lv_iadd hx hb dX0_pin_29 ?_
      obtain ⟨a_medals_12, e_a_medals_12, h⟩ := bi h
      refine xiast (i0 := 0) (j0 := 4) hx hb hX hP hS rfl rfl e_a_medals_12 dX0_pin_30 (fun H locs hP hS => ?_)
      have hP : PD D A [bl_X0 cy A_a a_name a_courage a_weight a_medals_12 a_stood a_fled a_liked a_votes a_count a_living a_pride a_quota a_melted a_lost] H := hP
      refine lv_iconst (v := 1) hx hb dX0_pin_31 (by decide) ?_
      cases h
      subst hW1
      exact W.zret hx hb hr rfl (fun _ ht9 _ => ⟨⟨_, (), rfl, rfl, hPt ht9 hP.1⟩, hS.F ht9⟩) hS.2.2 dX0_pin_32
    · have h := ie c_10 h
      refine lv_iconst (v := 0) hx hb dX0_pin_19 (by decide) ?_
      cases h
      subst hW1
      exact W.zret hx hb hr rfl (fun _ ht9 _ => ⟨⟨_, (), rfl, rfl, hPt ht9 hP.1⟩, hS.F ht9⟩) hS.2.2 dX0_pin_20
theorem dX0_endure_0 : decode cX0_endure 0 = .ok (.aload_n 0, 1) := by decide +kernel
theorem dX0_endure_1 : decode cX0_endure 1 = .ok (.iload_n 1, 1) := by decide +kernel
theorem dX0_endure_2 : decode cX0_endure 2 = .ok (.invokevirtual 75, 3) := by decide +kernel
theorem dX0_endure_5 : decode cX0_endure 5 = .ok (.ifCond .ne 6, 3) := by decide +kernel
theorem dX0_endure_8 : decode cX0_endure 8 = .ok (.bipush 9, 2) := by decide +kernel
theorem dX0_endure_10 : decode cX0_endure 10 = .ok (.ireturn, 1) := by decide +kernel
theorem dX0_endure_11 : decode cX0_endure 11 = .ok (.aload_n 0, 1) := by decide +kernel
theorem dX0_endure_12 : decode cX0_endure 12 = .ok (.iload_n 1, 1) := by decide +kernel
theorem dX0_endure_13 : decode cX0_endure 13 = .ok (.invokevirtual 83, 3) := by decide +kernel
theorem dX0_endure_16 : decode cX0_endure 16 = .ok (.iload_n 2, 1) := by decide +kernel
theorem dX0_endure_17 : decode cX0_endure 17 = .ok (.if_icmp .ge 16, 3) := by decide +kernel
theorem dX0_endure_20 : decode cX0_endure 20 = .ok (.aload_n 0, 1) := by decide +kernel
theorem dX0_endure_21 : decode cX0_endure 21 = .ok (.getfield 28, 3) := by decide +kernel
theorem dX0_endure_24 : decode cX0_endure 24 = .ok (.iload_n 1, 1) := by decide +kernel
theorem dX0_endure_25 : decode cX0_endure 25 = .ok (.dup2, 1) := by decide +kernel
theorem dX0_endure_26 : decode cX0_endure 26 = .ok (.iaload, 1) := by decide +kernel
theorem dX0_endure_27 : decode cX0_endure 27 = .ok (.iconst 1, 1) := by decide +kernel
theorem dX0_endure_28 : decode cX0_endure 28 = .ok (.iadd, 1) := by decide +kernel
theorem dX0_endure_29 : decode cX0_endure 29 = .ok (.iastore, 1) := by decide +kernel
theorem dX0_endure_30 : decode cX0_endure 30 = .ok (.bipush 9, 2) := by decide +kernel
theorem dX0_endure_32 : decode cX0_endure 32 = .ok (.ireturn, 1) := by decide +kernel
theorem dX0_endure_33 : decode cX0_endure 33 = .ok (.aload_n 0, 1) := by decide +kernel
theorem dX0_endure_34 : decode cX0_endure 34 = .ok (.getfield 25, 3) := by decide +kernel
theorem dX0_endure_37 : decode cX0_endure 37 = .ok (.iload_n 1, 1) := by decide +kernel
theorem dX0_endure_38 : decode cX0_endure 38 = .ok (.dup2, 1) := by decide +kernel
theorem dX0_endure_39 : decode cX0_endure 39 = .ok (.iaload, 1) := by decide +kernel
theorem dX0_endure_40 : decode cX0_endure 40 = .ok (.iconst 1, 1) := by decide +kernel
theorem dX0_endure_41 : decode cX0_endure 41 = .ok (.iadd, 1) := by decide +kernel
theorem dX0_endure_42 : decode cX0_endure 42 = .ok (.iastore, 1) := by decide +kernel
theorem dX0_endure_43 : decode cX0_endure 43 = .ok (.aload_n 0, 1) := by decide +kernel
theorem dX0_endure_44 : decode cX0_endure 44 = .ok (.aload_n 0, 1) := by decide +kernel
theorem dX0_endure_45 : decode cX0_endure 45 = .ok (.iload_n 2, 1) := by decide +kernel
theorem dX0_endure_46 : decode cX0_endure 46 = .ok (.invokevirtual 87, 3) := by decide +kernel
theorem dX0_endure_49 : decode cX0_endure 49 = .ok (.invokevirtual 93, 3) := by decide +kernel
theorem dX0_endure_52 : decode cX0_endure 52 = .ok (.istore_n 3, 1) := by decide +kernel
theorem dX0_endure_53 : decode cX0_endure 53 = .ok (.iload_n 3, 1) := by decide +kernel
theorem dX0_endure_54 : decode cX0_endure 54 = .ok (.iconst (-1), 1) := by decide +kernel
theorem dX0_endure_55 : decode cX0_endure 55 = .ok (.if_icmp .ne 16, 3) := by decide +kernel
theorem dX0_endure_58 : decode cX0_endure 58 = .ok (.aload_n 0, 1) := by decide +kernel
theorem dX0_endure_59 : decode cX0_endure 59 = .ok (.dup, 1) := by decide +kernel
theorem dX0_endure_60 : decode cX0_endure 60 = .ok (.getfield 50, 3) := by decide +kernel
theorem dX0_endure_63 : decode cX0_endure 63 = .ok (.iconst 1, 1) := by decide +kernel
theorem dX0_endure_64 : decode cX0_endure 64 = .ok (.iadd, 1) := by decide +kernel
theorem dX0_endure_65 : decode cX0_endure 65 = .ok (.putfield 50, 3) := by decide +kernel
theorem dX0_endure_68 : decode cX0_endure 68 = .ok (.bipush 8, 2) := by decide +kernel
theorem dX0_endure_70 : decode cX0_endure 70 = .ok (.ireturn, 1) := by decide +kernel
theorem dX0_endure_71 : decode cX0_endure 71 = .ok (.aload_n 0, 1) := by decide +kernel
theorem dX0_endure_72 : decode cX0_endure 72 = .ok (.iload_n 3, 1) := by decide +kernel
theorem dX0_endure_73 : decode cX0_endure 73 = .ok (.invokevirtual 96, 3) := by decide +kernel
theorem dX0_endure_76 : decode cX0_endure 76 = .ok (.ifCond .ne 13, 3) := by decide +kernel
theorem dX0_endure_79 : decode cX0_endure 79 = .ok (.aload_n 0, 1) := by decide +kernel
theorem dX0_endure_80 : decode cX0_endure 80 = .ok (.dup, 1) := by decide +kernel
theorem dX0_endure_81 : decode cX0_endure 81 = .ok (.getfield 53, 3) := by decide +kernel
theorem dX0_endure_84 : decode cX0_endure 84 = .ok (.iconst 1, 1) := by decide +kernel
theorem dX0_endure_85 : decode cX0_endure 85 = .ok (.iadd, 1) := by decide +kernel
theorem dX0_endure_86 : decode cX0_endure 86 = .ok (.putfield 53, 3) := by decide +kernel
theorem dX0_endure_89 : decode cX0_endure 89 = .ok (.iload_n 3, 1) := by decide +kernel
theorem dX0_endure_90 : decode cX0_endure 90 = .ok (.ireturn, 1) := by decide +kernel
theorem mv_X0_endure : MV yX0_endure RX0 cX0_endure 4 (some .int) 2 := ⟨tb_809, tb_807, tb_808, tb_2, by decide +kernel, by decide +kernel, by decide +kernel⟩
def f_X0_endure (fu : Nat) (a_courage : Nat → Int32) (a_weight : Nat → Int32) (a_medals : Nat → Int32) (a_stood : Nat → Int32) (a_fled : Nat → Int32) (a_liked : Nat → Int32) (a_votes : Nat → Int32) (a_count : Int32) (a_living : Int32) (a_pride : Int32) (a_melted : Int32) (a_lost : Int32) (x1 : Int32) (x2 : Int32) : Option (Int32 × (Nat → Int32) × (Nat → Int32) × (Nat → Int32) × (Nat → Int32) × Int32 × Int32) := (f_X0_isMan fu a_count x1).bind fun z_16 => (if z_16 = 0 then some (9, a_medals, a_stood, a_fled, a_votes, a_melted, a_lost) else (f_X0_bravery fu a_courage a_medals a_count a_pride x1).bind fun z_18 => (if x2 ≤ z_18 then (rdI a_stood 8 x1).bind fun y_20 => (wrI a_stood 8 x1 (y_20 + 1)).bind fun a_stood_21 => (f_X0_runners fu a_courage a_medals a_count a_living a_pride x2).bind fun z_22 => (f_X0_winnerOf fu a_weight a_liked a_votes a_count a_living z_22).bind fun z_23 => (if z_23.1 = (-1) then bnd (a_melted + 1) fun a_melted_28 => some (8, a_medals, a_stood_21, a_fled, z_23.2, a_melted_28, a_lost) else (f_X0_pin fu a_medals a_count z_23.1).bind fun z_25 => (if z_25.1 = 0 then bnd (a_lost + 1) fun a_lost_27 => some (z_23.1, z_25.2, a_stood_21, a_fled, z_23.2, a_melted, a_lost_27) else some (z_23.1, z_25.2, a_stood_21, a_fled, z_23.2, a_melted, a_lost))) else (rdI a_fled 8 x1).bind fun y_29 => (wrI a_fled 8 x1 (y_29 + 1)).bind fun a_fled_30 => some (9, a_medals, a_stood, a_fled_30, a_votes, a_melted, a_lost)))
abbrev rm_X0_endure : Room := { frames := 2, cells := 0, slots := 0, locals := 50 }
set_option maxHeartbeats 4000000 in
set_option maxRecDepth 100000 in
theorem c_X0_endure (l : Launch) (D : va_G) (cy : Nat → ClassId) (fu : Nat) (A_a : Nat → Nat) (a_name : Nat → Int64) (a_courage : Nat → Int32) (a_weight : Nat → Int32) (a_medals : Nat → Int32) (a_stood : Nat → Int32) (a_fled : Nat → Int32) (a_liked : Nat → Int32) (a_votes : Nat → Int32) (a_count : Int32) (a_living : Int32) (a_pride : Int32) (a_quota : Int32) (a_melted : Int32) (a_lost : Int32) (x1 : Int32) (x2 : Int32) (res : Int32 × (Nat → Int32) × (Nat → Int32) × (Nat → Int32) × (Nat → Int32) × Int32 × Int32) (h : f_X0_endure fu a_courage a_weight a_medals a_stood a_fled a_liked a_votes a_count a_living a_pride a_melted a_lost x1 x2 = some res) (A : Nat → Prop) (hA : A = adr [bl_X0 cy A_a a_name a_courage a_weight a_medals a_stood a_fled a_liked a_votes a_count a_living a_pride a_quota a_melted a_lost]) (W1 : List va_W) (hW1 : W1 = [bl_X0 cy A_a a_name a_courage a_weight res.2.1 res.2.2.1 res.2.2.2.1 a_liked res.2.2.2.2.1 a_count a_living a_pride a_quota res.2.2.2.2.2.1 res.2.2.2.2.2.2]) : Met l yX0_endure (WW yX0_endure cX0_endure 4 (some .int)) rm_X0_endure (Ed D cy [.ref (A_a 0), .int x1, .int x2] [bl_X0 cy A_a a_name a_courage a_weight a_medals a_stood a_fled a_liked a_votes a_count a_living a_pride a_quota a_melted a_lost]) (Qei D res.1 A W1) 0 0 A := by
  refine Met.ofW (cc := cX0_endure) (maxL := 4) (ret := (some .int)) (by decide) rfl ?_
  intro p e s m args below meth c s₁ B hml hv
  obtain ⟨hargs, hP, hX, hD0⟩ := hv
  have hx := B.exec
  have hb := B.bytes
  have hr := B.returns
  have ht : ∀ w ∈ lw_gd, w.before args s = true := fun w hw => atoms_spec (ws := WW yX0_endure cX0_endure 4 (some .int)) B.pre w (List.mem_cons_of_mem _ hw)
  have hown : s.vm.findClass RX0 = some m.cls := findClass_of_methodNamed B.named
  have hlocks := B.notSynchronized
  have hP : PD D A [bl_X0 cy A_a a_name a_courage a_weight a_medals a_stood a_fled a_liked a_votes a_count a_living a_pride a_quota a_melted a_lost] s.heap := ⟨hP, by rw [hA]; exact hD0.own⟩
  have hS : va_S A s.heap s.heap [] := va_S.rf
  obtain ⟨ls, hl, hent⟩ := ent (m := m) (n := 4) hargs (Nat.le_of_ble_eq_true rfl) (lv := [(0, .ref (A_a 0)), (1, .int x1), (2, .int x2)]) rfl
  rw [hent]
  clear hent
  unfold f_X0_endure at h
  refine lv_aload_n hx hb dX0_endure_0 rfl (lv_at hl 0 rfl) ?_
  refine lv_iload_n hx hb dX0_endure_1 rfl (lv_at hl 1 rfl) ?_
  obtain ⟨z_16, e_z_16, h⟩ := bi h
  refine roVi (rest := []) ⟨hx, hb, hml, hown, ht⟩ (c_X0_isMan l D cy fu A_a a_name a_courage a_weight a_medals a_stood a_fled a_liked a_votes a_count a_living a_pride a_quota a_melted a_lost x1 z_16 e_z_16) (cV ht mv_X0_isMan tb_683 rfl rfl ⟨Nat.le_of_ble_eq_true rfl, Nat.le_of_ble_eq_true rfl⟩) (P_sub hP.1 [0] rfl) hX rfl rfl rfl hl.1 rfl (Nat.le_of_ble_eq_true rfl) dX0_endure_2 ⟨Nat.le_of_ble_eq_true rfl, Nat.le_of_ble_eq_true rfl⟩ ?_
  refine lv_if_ne (tgt := 11) hx hb dX0_endure_5 (by decide) (fun c_17 => ?_) (fun c_17 => ?_)
  · have h := ie c_17 h
    refine lv_aload_n hx hb dX0_endure_11 rfl (lv_at hl 0 rfl) ?_
    refine lv_iload_n hx hb dX0_endure_12 rfl (lv_at hl 1 rfl) ?_
    obtain ⟨z_18, e_z_18, h⟩ := bi h
    refine roVi (rest := []) ⟨hx, hb, hml, hown, ht⟩ (c_X0_bravery l D cy fu A_a a_name a_courage a_weight a_medals a_stood a_fled a_liked a_votes a_count a_living a_pride a_quota a_melted a_lost x1 z_18 e_z_18) (cV ht mv_X0_bravery tb_810 rfl rfl ⟨Nat.le_of_ble_eq_true rfl, Nat.le_of_ble_eq_true rfl⟩) (P_sub hP.1 [0] rfl) hX rfl rfl rfl hl.1 rfl (Nat.le_of_ble_eq_true rfl) dX0_endure_13 ⟨Nat.le_of_ble_eq_true rfl, Nat.le_of_ble_eq_true rfl⟩ ?_
    refine lv_iload_n hx hb dX0_endure_16 rfl (lv_at hl 2 rfl) ?_
    refine lv_icmp_ge (tgt := 33) hx hb dX0_endure_17 (by decide) (fun c_19 => ?_) (fun c_19 => ?_)
    · have h := it c_19 h
      refine lv_aload_n hx hb dX0_endure_33 rfl (lv_at hl 0 rfl) ?_
      refine xget (i := 0) (j := 0) (k := 4) (T := TX0) hx hb ht tb_iX0 hown hX hP.1 rfl rfl rfl (by decide) tb_48 rfl dX0_endure_34 ?_
      refine lv_iload_n hx hb dX0_endure_37 rfl (lv_at hl 1 rfl) ?_
      refine lv_dup2_11 hx hb dX0_endure_38 rfl rfl ?_
      obtain ⟨y_20, e_y_20, h⟩ := bi h
      refine xiald (i0 := 0) (j0 := 5) hx hb hX hP.1 rfl rfl e_y_20 dX0_endure_39 ?_
      refine lv_iconst (v := 1) hx hb dX0_endure_40 (by decide) ?_
      refine lv_iadd hx hb dX0_endure_41 ?_
      obtain ⟨a_stood_21, e_a_stood_21, h⟩ := bi h
      refine xiast (i0 := 0) (j0 := 5) hx hb hX hP hS rfl rfl e_a_stood_21 dX0_endure_42 (fun H locs hP hS => ?_)
      have hP : PD D A [bl_X0 cy A_a a_name a_courage a_weight a_medals a_stood_21 a_fled a_liked a_votes a_count a_living a_pride a_quota a_melted a_lost] H := hP
      refine lv_aload_n hx hb dX0_endure_43 rfl (lv_at hl 0 rfl) ?_
      refine lv_aload_n hx hb dX0_endure_44 rfl (lv_at hl 0 rfl) ?_
      refine lv_iload_n hx hb dX0_endure_45 rfl (lv_at hl 2 rfl) ?_
      obtain ⟨z_22, e_z_22, h⟩ := bi h
      refine roVi (rest := [.ref (A_a 0)]) ⟨hx, hb, hml, hown, ht⟩ (c_X0_runners l D cy fu A_a a_name a_courage a_weight a_medals a_stood_21 a_fled a_liked a_votes a_count a_living a_pride a_quota a_melted a_lost x2 z_22 e_z_22) (cV ht mv_X0_runners tb_811 rfl rfl ⟨Nat.le_of_ble_eq_true rfl, Nat.le_of_ble_eq_true rfl⟩) (P_sub hP.1 [0] rfl) hX rfl rfl rfl hl.1 rfl (Nat.le_of_ble_eq_true rfl) dX0_endure_46 ⟨Nat.le_of_ble_eq_true rfl, Nat.le_of_ble_eq_true rfl⟩ ?_
      obtain ⟨z_23, e_z_23, h⟩ := bi h
      refine efVi (rest := []) ⟨hx, hb, hml, hown, ht⟩ (c_X0_winnerOf l D cy fu A_a a_name a_courage a_weight a_medals a_stood_21 a_fled a_liked a_votes a_count a_living a_pride a_quota a_melted a_lost z_22 z_23 e_z_23 _ rfl _ rfl) (cV ht mv_X0_winnerOf tb_815 rfl rfl ⟨Nat.le_of_ble_eq_true rfl, Nat.le_of_ble_eq_true rfl⟩) hP hS hX [0] rfl rfl rfl rfl rfl rfl hl.1 rfl (Nat.le_of_ble_eq_true rfl) dX0_endure_49 ⟨Nat.le_of_ble_eq_true rfl, Nat.le_of_ble_eq_true rfl⟩ (fun H locs hP hS => ?_)
      have hP : PD D A [bl_X0 cy A_a a_name a_courage a_weight a_medals a_stood_21 a_fled a_liked z_23.2 a_count a_living a_pride a_quota a_melted a_lost] H := hP
      refine lv_istore_n (lv' := [(3, .int z_23.1), (0, .ref (A_a 0)), (1, .int x1), (2, .int x2)]) hx hb dX0_endure_52 rfl hl (by decide) rfl (fun ls hl => ?_)
      refine lv_iload_n hx hb dX0_endure_53 rfl (lv_at hl 0 rfl) ?_
      refine lv_iconst (v := (-1)) hx hb dX0_endure_54 (by decide) ?_
      refine lv_icmp_ne (tgt := 71) hx hb dX0_endure_55 (by decide) (fun c_24 => ?_) (fun c_24 => ?_)
      · have h := ie c_24 h
        refine lv_aload_n hx hb dX0_endure_71 rfl (lv_at hl 1 rfl) ?_
        refine lv_iload_n hx hb dX0_endure_72 rfl (lv_at hl 0 rfl) ?_
        obtain ⟨z_25, e_z_25, h⟩ := bi h
        refine efVi (rest := []) ⟨hx, hb, hml, hown, ht⟩ (c_X0_pin l D cy fu A_a a_name a_courage a_weight a_medals a_stood_21 a_fled a_liked z_23.2 a_count a_living a_pride a_quota a_melted a_lost z_23.1 z_25 e_z_25 _ rfl _ rfl) (cV ht mv_X0_pin tb_823 rfl rfl ⟨Nat.le_of_ble_eq_true rfl, Nat.le_of_ble_eq_true rfl⟩) hP hS hX [0] rfl rfl rfl rfl rfl rfl hl.1 rfl (Nat.le_of_ble_eq_true rfl) dX0_endure_73 ⟨Nat.le_of_ble_eq_true rfl, Nat.le_of_ble_eq_true rfl⟩ (fun H locs hP hS => ?_)
        have hP : PD D A [bl_X0 cy A_a a_name a_courage a_weight z_25.2 a_stood_21 a_fled a_liked z_23.2 a_count a_living a_pride a_quota a_melted a_lost] H := hP
        refine lv_if_ne (tgt := 89) hx hb dX0_endure_76 (by decide) (fun c_26 => ?_) (fun c_26 => ?_)
        · have h := ie c_26 h
          refine lv_iload_n hx hb dX0_endure_89 rfl (lv_at hl 0 rfl) ?_
          cases h
          subst hW1
          exact W.iret hx hb hr (fun _ ht9 _ => ⟨⟨_, (), rfl, rfl, hPt ht9 hP.1⟩, hS.F ht9⟩) hS.2.2 dX0_endure_90
        · have h := it c_26 h
          refine lv_aload_n hx hb dX0_endure_79 rfl (lv_at hl 1 rfl) ?_
          refine lv_dup hx hb dX0_endure_80 rfl ?_
          refine xget (i := 0) (j := 0) (k := 13) (T := TX0) hx hb ht tb_iX0 hown hX hP.1 rfl rfl rfl (by decide) tb_73 rfl dX0_endure_81 ?_
          refine lv_iconst (v := 1) hx hb dX0_endure_84 (by decide) ?_
          refine lv_iadd hx hb dX0_endure_85 ?_
          refine lv_topi (fun a_lost_27 e_a_lost_27 => ?_)
          have h := bn e_a_lost_27 h
          refine xput (i := 0) (j := 0) (k := 13) (T := TX0) tyX0 tyX0_ok nmX0 hx hb ht tb_iX0 hown hX hP hS rfl rfl rfl (by decide) tb_73 rfl rfl rfl (Nat.le_of_ble_eq_true rfl) dX0_endure_86 (fun H locs hP hS => ?_)
          have hP : PD D A [bl_X0 cy A_a a_name a_courage a_weight z_25.2 a_stood_21 a_fled a_liked z_23.2 a_count a_living a_pride a_quota a_melted a_lost_27] H := hP
          refine lv_iload_n hx hb dX0_endure_89 rfl (lv_at hl 0 rfl) ?_
          cases h
          subst hW1
          exact W.iret hx hb hr (fun _ ht9 _ => ⟨⟨_, (), rfl, rfl, hPt ht9 hP.1⟩, hS.F ht9⟩) hS.2.2 dX0_endure_90
      · have h := it c_24 h
        refine lv_aload_n hx hb dX0_endure_58 rfl (lv_at hl 1 rfl) ?_
        refine lv_dup hx hb dX0_endure_59 rfl ?_
        refine xget (i := 0) (j := 0) (k := 12) (T := TX0) hx hb ht tb_iX0 hown hX hP.1 rfl rfl rfl (by decide) tb_71 rfl dX0_endure_60 ?_
        refine lv_iconst (v := 1) hx hb dX0_endure_63 (by decide) ?_
        refine lv_iadd hx hb dX0_endure_64 ?_
        refine lv_topi (fun a_melted_28 e_a_melted_28 => ?_)
        have h := bn e_a_melted_28 h
        refine xput (i := 0) (j := 0) (k := 12) (T := TX0) tyX0 tyX0_ok nmX0 hx hb ht tb_iX0 hown hX hP hS rfl rfl rfl (by decide) tb_71 rfl rfl rfl (Nat.le_of_ble_eq_true rfl) dX0_endure_65 (fun H locs hP hS => ?_)
        have hP : PD D A [bl_X0 cy A_a a_name a_courage a_weight a_medals a_stood_21 a_fled a_liked z_23.2 a_count a_living a_pride a_quota a_melted_28 a_lost] H := hP
        refine lv_bipush (v := 8) hx hb dX0_endure_68 (by decide) ?_
        cases h
        subst hW1
        exact W.iret hx hb hr (fun _ ht9 _ => ⟨⟨_, (), rfl, rfl, hPt ht9 hP.1⟩, hS.F ht9⟩) hS.2.2 dX0_endure_70
    · have h := ie c_19 h
      refine lv_aload_n hx hb dX0_endure_20 rfl (lv_at hl 0 rfl) ?_
      refine xget (i := 0) (j := 0) (k := 5) (T := TX0) hx hb ht tb_iX0 hown hX hP.1 rfl rfl rfl (by decide) tb_50 rfl dX0_endure_21 ?_
      refine lv_iload_n hx hb dX0_endure_24 rfl (lv_at hl 1 rfl) ?_
      refine lv_dup2_11 hx hb dX0_endure_25 rfl rfl ?_
      obtain ⟨y_29, e_y_29, h⟩ := bi h
      refine xiald (i0 := 0) (j0 := 6) hx hb hX hP.1 rfl rfl e_y_29 dX0_endure_26 ?_
      refine lv_iconst (v := 1) hx hb dX0_endure_27 (by decide) ?_
      refine lv_iadd hx hb dX0_endure_28 ?_
      obtain ⟨a_fled_30, e_a_fled_30, h⟩ := bi h
      refine xiast (i0 := 0) (j0 := 6) hx hb hX hP hS rfl rfl e_a_fled_30 dX0_endure_29 (fun H locs hP hS => ?_)
      have hP : PD D A [bl_X0 cy A_a a_name a_courage a_weight a_medals a_stood a_fled_30 a_liked a_votes a_count a_living a_pride a_quota a_melted a_lost] H := hP
      refine lv_bipush (v := 9) hx hb dX0_endure_30 (by decide) ?_
      cases h
      subst hW1
      exact W.iret hx hb hr (fun _ ht9 _ => ⟨⟨_, (), rfl, rfl, hPt ht9 hP.1⟩, hS.F ht9⟩) hS.2.2 dX0_endure_32
  · have h := it c_17 h
    refine lv_bipush (v := 9) hx hb dX0_endure_8 (by decide) ?_
    cases h
    subst hW1
    exact W.iret hx hb hr (fun _ ht9 _ => ⟨⟨_, (), rfl, rfl, hPt ht9 hP.1⟩, hS.F ht9⟩) hS.2.2 dX0_endure_10
theorem dX0_unpin_0 : decode cX0_unpin 0 = .ok (.aload_n 0, 1) := by decide +kernel
theorem dX0_unpin_1 : decode cX0_unpin 1 = .ok (.iload_n 1, 1) := by decide +kernel
theorem dX0_unpin_2 : decode cX0_unpin 2 = .ok (.invokevirtual 75, 3) := by decide +kernel
theorem dX0_unpin_5 : decode cX0_unpin 5 = .ok (.ifCond .eq 22, 3) := by decide +kernel
theorem dX0_unpin_8 : decode cX0_unpin 8 = .ok (.aload_n 0, 1) := by decide +kernel
theorem dX0_unpin_9 : decode cX0_unpin 9 = .ok (.getfield 22, 3) := by decide +kernel
theorem dX0_unpin_12 : decode cX0_unpin 12 = .ok (.iload_n 1, 1) := by decide +kernel
theorem dX0_unpin_13 : decode cX0_unpin 13 = .ok (.iaload, 1) := by decide +kernel
theorem dX0_unpin_14 : decode cX0_unpin 14 = .ok (.ifCond .le 13, 3) := by decide +kernel
theorem dX0_unpin_17 : decode cX0_unpin 17 = .ok (.aload_n 0, 1) := by decide +kernel
theorem dX0_unpin_18 : decode cX0_unpin 18 = .ok (.getfield 22, 3) := by decide +kernel
theorem dX0_unpin_21 : decode cX0_unpin 21 = .ok (.iload_n 1, 1) := by decide +kernel
theorem dX0_unpin_22 : decode cX0_unpin 22 = .ok (.dup2, 1) := by decide +kernel
theorem dX0_unpin_23 : decode cX0_unpin 23 = .ok (.iaload, 1) := by decide +kernel
theorem dX0_unpin_24 : decode cX0_unpin 24 = .ok (.iconst 1, 1) := by decide +kernel
theorem dX0_unpin_25 : decode cX0_unpin 25 = .ok (.isub, 1) := by decide +kernel
theorem dX0_unpin_26 : decode cX0_unpin 26 = .ok (.iastore, 1) := by decide +kernel
theorem dX0_unpin_27 : decode cX0_unpin 27 = .ok (.return_, 1) := by decide +kernel
theorem mv_X0_unpin : MV yX0_unpin RX0 cX0_unpin 2 none 1 := ⟨tb_1018, tb_1016, tb_1017, tb_2, by decide +kernel, by decide +kernel, by decide +kernel⟩
def f_X0_unpin (fu : Nat) (a_medals : Nat → Int32) (a_count : Int32) (x1 : Int32) : Option ((Nat → Int32)) := (f_X0_isMan fu a_count x1).bind fun z_7 => (if z_7 = 0 then some (a_medals) else (rdI a_medals 8 x1).bind fun y_9 => (if y_9 ≤ 0 then some (a_medals) else (rdI a_medals 8 x1).bind fun y_11 => (wrI a_medals 8 x1 (y_11 - 1)).bind fun a_medals_12 => some (a_medals_12)))
abbrev rm_X0_unpin : Room := { frames := 1, cells := 0, slots := 0, locals := 21 }
set_option maxHeartbeats 4000000 in
set_option maxRecDepth 100000 in
theorem c_X0_unpin (l : Launch) (D : va_G) (cy : Nat → ClassId) (fu : Nat) (A_a : Nat → Nat) (a_name : Nat → Int64) (a_courage : Nat → Int32) (a_weight : Nat → Int32) (a_medals : Nat → Int32) (a_stood : Nat → Int32) (a_fled : Nat → Int32) (a_liked : Nat → Int32) (a_votes : Nat → Int32) (a_count : Int32) (a_living : Int32) (a_pride : Int32) (a_quota : Int32) (a_melted : Int32) (a_lost : Int32) (x1 : Int32) (res : (Nat → Int32)) (h : f_X0_unpin fu a_medals a_count x1 = some res) (A : Nat → Prop) (hA : A = adr [bl_X0 cy A_a a_name a_courage a_weight a_medals a_stood a_fled a_liked a_votes a_count a_living a_pride a_quota a_melted a_lost]) (W1 : List va_W) (hW1 : W1 = [bl_X0 cy A_a a_name a_courage a_weight res a_stood a_fled a_liked a_votes a_count a_living a_pride a_quota a_melted a_lost]) : Met l yX0_unpin (WW yX0_unpin cX0_unpin 2 none) rm_X0_unpin (Ed D cy [.ref (A_a 0), .int x1] [bl_X0 cy A_a a_name a_courage a_weight a_medals a_stood a_fled a_liked a_votes a_count a_living a_pride a_quota a_melted a_lost]) (Qev D A W1) 0 0 A := by
  refine Met.ofW (cc := cX0_unpin) (maxL := 2) (ret := none) (by decide) rfl ?_
  intro p e s m args below meth c s₁ B hml hv
  obtain ⟨hargs, hP, hX, hD0⟩ := hv
  have hx := B.exec
  have hb := B.bytes
  have hr := B.returns
  have ht : ∀ w ∈ lw_gd, w.before args s = true := fun w hw => atoms_spec (ws := WW yX0_unpin cX0_unpin 2 none) B.pre w (List.mem_cons_of_mem _ hw)
  have hown : s.vm.findClass RX0 = some m.cls := findClass_of_methodNamed B.named
  have hlocks := B.notSynchronized
  have hP : PD D A [bl_X0 cy A_a a_name a_courage a_weight a_medals a_stood a_fled a_liked a_votes a_count a_living a_pride a_quota a_melted a_lost] s.heap := ⟨hP, by rw [hA]; exact hD0.own⟩
  have hS : va_S A s.heap s.heap [] := va_S.rf
  obtain ⟨ls, hl, hent⟩ := ent (m := m) (n := 2) hargs (Nat.le_of_ble_eq_true rfl) (lv := [(0, .ref (A_a 0)), (1, .int x1)]) rfl
  rw [hent]
  clear hent
  unfold f_X0_unpin at h
  refine lv_aload_n hx hb dX0_unpin_0 rfl (lv_at hl 0 rfl) ?_
  refine lv_iload_n hx hb dX0_unpin_1 rfl (lv_at hl 1 rfl) ?_
  obtain ⟨z_7, e_z_7, h⟩ := bi h
  refine roVi (rest := []) ⟨hx, hb, hml, hown, ht⟩ (c_X0_isMan l D cy fu A_a a_name a_courage a_weight a_medals a_stood a_fled a_liked a_votes a_count a_living a_pride a_quota a_melted a_lost x1 z_7 e_z_7) (cV ht mv_X0_isMan tb_683 rfl rfl ⟨Nat.le_of_ble_eq_true rfl, Nat.le_of_ble_eq_true rfl⟩) (P_sub hP.1 [0] rfl) hX rfl rfl rfl hl.1 rfl (Nat.le_of_ble_eq_true rfl) dX0_unpin_2 ⟨Nat.le_of_ble_eq_true rfl, Nat.le_of_ble_eq_true rfl⟩ ?_
  refine lv_if_eq (tgt := 27) hx hb dX0_unpin_5 (by decide) (fun c_8 => ?_) (fun c_8 => ?_)
  · have h := it c_8 h
    cases h
    subst hW1
    exact W.vret hx hb hr (fun _ ht9 _ => ⟨⟨(), rfl, trivial, hPt ht9 hP.1⟩, hS.F ht9⟩) hS.2.2 dX0_unpin_27
  · have h := ie c_8 h
    refine lv_aload_n hx hb dX0_unpin_8 rfl (lv_at hl 0 rfl) ?_
    refine xget (i := 0) (j := 0) (k := 3) (T := TX0) hx hb ht tb_iX0 hown hX hP.1 rfl rfl rfl (by decide) tb_43 rfl dX0_unpin_9 ?_
    refine lv_iload_n hx hb dX0_unpin_12 rfl (lv_at hl 1 rfl) ?_
    obtain ⟨y_9, e_y_9, h⟩ := bi h
    refine xiald (i0 := 0) (j0 := 4) hx hb hX hP.1 rfl rfl e_y_9 dX0_unpin_13 ?_
    refine lv_if_le (tgt := 27) hx hb dX0_unpin_14 (by decide) (fun c_10 => ?_) (fun c_10 => ?_)
    · have h := it c_10 h
      cases h
      subst hW1
      exact W.vret hx hb hr (fun _ ht9 _ => ⟨⟨(), rfl, trivial, hPt ht9 hP.1⟩, hS.F ht9⟩) hS.2.2 dX0_unpin_27
    · have h := ie c_10 h
      refine lv_aload_n hx hb dX0_unpin_17 rfl (lv_at hl 0 rfl) ?_
      refine xget (i := 0) (j := 0) (k := 3) (T := TX0) hx hb ht tb_iX0 hown hX hP.1 rfl rfl rfl (by decide) tb_43 rfl dX0_unpin_18 ?_
      refine lv_iload_n hx hb dX0_unpin_21 rfl (lv_at hl 1 rfl) ?_
      refine lv_dup2_11 hx hb dX0_unpin_22 rfl rfl ?_
      obtain ⟨y_11, e_y_11, h⟩ := bi h
      refine xiald (i0 := 0) (j0 := 4) hx hb hX hP.1 rfl rfl e_y_11 dX0_unpin_23 ?_
      refine lv_iconst (v := 1) hx hb dX0_unpin_24 (by decide) ?_
      refine lv_isub hx hb dX0_unpin_25 ?_
      obtain ⟨a_medals_12, e_a_medals_12, h⟩ := bi h
      refine xiast (i0 := 0) (j0 := 4) hx hb hX hP hS rfl rfl e_a_medals_12 dX0_unpin_26 (fun H locs hP hS => ?_)
      have hP : PD D A [bl_X0 cy A_a a_name a_courage a_weight a_medals_12 a_stood a_fled a_liked a_votes a_count a_living a_pride a_quota a_melted a_lost] H := hP
      cases h
      subst hW1
      exact W.vret hx hb hr (fun _ ht9 _ => ⟨⟨(), rfl, trivial, hPt ht9 hP.1⟩, hS.F ht9⟩) hS.2.2 dX0_unpin_27
theorem dX0_handOver_0 : decode cX0_handOver 0 = .ok (.iload_n 1, 1) := by decide +kernel
theorem dX0_handOver_1 : decode cX0_handOver 1 = .ok (.iload_n 2, 1) := by decide +kernel
theorem dX0_handOver_2 : decode cX0_handOver 2 = .ok (.if_icmp .eq 36, 3) := by decide +kernel
theorem dX0_handOver_5 : decode cX0_handOver 5 = .ok (.aload_n 0, 1) := by decide +kernel
theorem dX0_handOver_6 : decode cX0_handOver 6 = .ok (.iload_n 1, 1) := by decide +kernel
theorem dX0_handOver_7 : decode cX0_handOver 7 = .ok (.invokevirtual 99, 3) := by decide +kernel
theorem dX0_handOver_10 : decode cX0_handOver 10 = .ok (.ifCond .eq 28, 3) := by decide +kernel
theorem dX0_handOver_13 : decode cX0_handOver 13 = .ok (.aload_n 0, 1) := by decide +kernel
theorem dX0_handOver_14 : decode cX0_handOver 14 = .ok (.iload_n 2, 1) := by decide +kernel
theorem dX0_handOver_15 : decode cX0_handOver 15 = .ok (.invokevirtual 99, 3) := by decide +kernel
theorem dX0_handOver_18 : decode cX0_handOver 18 = .ok (.ifCond .eq 20, 3) := by decide +kernel
theorem dX0_handOver_21 : decode cX0_handOver 21 = .ok (.aload_n 0, 1) := by decide +kernel
theorem dX0_handOver_22 : decode cX0_handOver 22 = .ok (.getfield 22, 3) := by decide +kernel
theorem dX0_handOver_25 : decode cX0_handOver 25 = .ok (.iload_n 1, 1) := by decide +kernel
theorem dX0_handOver_26 : decode cX0_handOver 26 = .ok (.iaload, 1) := by decide +kernel
theorem dX0_handOver_27 : decode cX0_handOver 27 = .ok (.ifCond .eq 11, 3) := by decide +kernel
theorem dX0_handOver_30 : decode cX0_handOver 30 = .ok (.aload_n 0, 1) := by decide +kernel
theorem dX0_handOver_31 : decode cX0_handOver 31 = .ok (.iload_n 2, 1) := by decide +kernel
theorem dX0_handOver_32 : decode cX0_handOver 32 = .ok (.invokevirtual 96, 3) := by decide +kernel
theorem dX0_handOver_35 : decode cX0_handOver 35 = .ok (.ifCond .ne 5, 3) := by decide +kernel
theorem dX0_handOver_38 : decode cX0_handOver 38 = .ok (.iconst 0, 1) := by decide +kernel
theorem dX0_handOver_39 : decode cX0_handOver 39 = .ok (.ireturn, 1) := by decide +kernel
theorem dX0_handOver_40 : decode cX0_handOver 40 = .ok (.aload_n 0, 1) := by decide +kernel
theorem dX0_handOver_41 : decode cX0_handOver 41 = .ok (.getfield 22, 3) := by decide +kernel
theorem dX0_handOver_44 : decode cX0_handOver 44 = .ok (.iload_n 1, 1) := by decide +kernel
theorem dX0_handOver_45 : decode cX0_handOver 45 = .ok (.dup2, 1) := by decide +kernel
theorem dX0_handOver_46 : decode cX0_handOver 46 = .ok (.iaload, 1) := by decide +kernel
theorem dX0_handOver_47 : decode cX0_handOver 47 = .ok (.iconst 1, 1) := by decide +kernel
theorem dX0_handOver_48 : decode cX0_handOver 48 = .ok (.isub, 1) := by decide +kernel
theorem dX0_handOver_49 : decode cX0_handOver 49 = .ok (.iastore, 1) := by decide +kernel
theorem dX0_handOver_50 : decode cX0_handOver 50 = .ok (.iconst 1, 1) := by decide +kernel
theorem dX0_handOver_51 : decode cX0_handOver 51 = .ok (.ireturn, 1) := by decide +kernel
theorem mv_X0_handOver : MV yX0_handOver RX0 cX0_handOver 3 (some .boolean) 2 := ⟨tb_834, tb_832, tb_833, tb_2, by decide +kernel, by decide +kernel, by decide +kernel⟩
def f_X0_handOver (fu : Nat) (a_medals : Nat → Int32) (a_count : Int32) (a_living : Int32) (x1 : Int32) (x2 : Int32) : Option (Int32 × (Nat → Int32)) := (if x1 = x2 then some (0, a_medals) else (f_X0_lives fu a_count a_living x1).bind fun z_13 => (if z_13 = 0 then some (0, a_medals) else (f_X0_lives fu a_count a_living x2).bind fun z_15 => (if z_15 = 0 then some (0, a_medals) else (rdI a_medals 8 x1).bind fun y_17 => (if y_17 = 0 then some (0, a_medals) else (f_X0_pin fu a_medals a_count x2).bind fun z_19 => (if z_19.1 = 0 then some (0, z_19.2) else (rdI z_19.2 8 x1).bind fun y_21 => (wrI z_19.2 8 x1 (y_21 - 1)).bind fun a_medals_22 => some (1, a_medals_22))))))
abbrev rm_X0_handOver : Room := { frames := 2, cells := 0, slots := 0, locals := 42 }
set_option maxHeartbeats 4000000 in
set_option maxRecDepth 100000 in
theorem c_X0_handOver (l : Launch) (D : va_G) (cy : Nat → ClassId) (fu : Nat) (A_a : Nat → Nat) (a_name : Nat → Int64) (a_courage : Nat → Int32) (a_weight : Nat → Int32) (a_medals : Nat → Int32) (a_stood : Nat → Int32) (a_fled : Nat → Int32) (a_liked : Nat → Int32) (a_votes : Nat → Int32) (a_count : Int32) (a_living : Int32) (a_pride : Int32) (a_quota : Int32) (a_melted : Int32) (a_lost : Int32) (x1 : Int32) (x2 : Int32) (res : Int32 × (Nat → Int32)) (h : f_X0_handOver fu a_medals a_count a_living x1 x2 = some res) (A : Nat → Prop) (hA : A = adr [bl_X0 cy A_a a_name a_courage a_weight a_medals a_stood a_fled a_liked a_votes a_count a_living a_pride a_quota a_melted a_lost]) (W1 : List va_W) (hW1 : W1 = [bl_X0 cy A_a a_name a_courage a_weight res.2 a_stood a_fled a_liked a_votes a_count a_living a_pride a_quota a_melted a_lost]) : Met l yX0_handOver (WW yX0_handOver cX0_handOver 3 (some .boolean)) rm_X0_handOver (Ed D cy [.ref (A_a 0), .int x1, .int x2] [bl_X0 cy A_a a_name a_courage a_weight a_medals a_stood a_fled a_liked a_votes a_count a_living a_pride a_quota a_melted a_lost]) (Qei D res.1 A W1) 0 0 A := by
  refine Met.ofW (cc := cX0_handOver) (maxL := 3) (ret := (some .boolean)) (by decide) rfl ?_
  intro p e s m args below meth c s₁ B hml hv
  obtain ⟨hargs, hP, hX, hD0⟩ := hv
  have hx := B.exec
  have hb := B.bytes
  have hr := B.returns
  have ht : ∀ w ∈ lw_gd, w.before args s = true := fun w hw => atoms_spec (ws := WW yX0_handOver cX0_handOver 3 (some .boolean)) B.pre w (List.mem_cons_of_mem _ hw)
  have hown : s.vm.findClass RX0 = some m.cls := findClass_of_methodNamed B.named
  have hlocks := B.notSynchronized
  have hP : PD D A [bl_X0 cy A_a a_name a_courage a_weight a_medals a_stood a_fled a_liked a_votes a_count a_living a_pride a_quota a_melted a_lost] s.heap := ⟨hP, by rw [hA]; exact hD0.own⟩
  have hS : va_S A s.heap s.heap [] := va_S.rf
  obtain ⟨ls, hl, hent⟩ := ent (m := m) (n := 3) hargs (Nat.le_of_ble_eq_true rfl) (lv := [(0, .ref (A_a 0)), (1, .int x1), (2, .int x2)]) rfl
  rw [hent]
  clear hent
  unfold f_X0_handOver at h
  refine lv_iload_n hx hb dX0_handOver_0 rfl (lv_at hl 1 rfl) ?_
  refine lv_iload_n hx hb dX0_handOver_1 rfl (lv_at hl 2 rfl) ?_
  refine lv_icmp_eq (tgt := 38) hx hb dX0_handOver_2 (by decide) (fun c_12 => ?_) (fun c_12 => ?_)
  · have h := it c_12 h
    refine lv_iconst (v := 0) hx hb dX0_handOver_38 (by decide) ?_
    cases h
    subst hW1
    exact W.zret hx hb hr rfl (fun _ ht9 _ => ⟨⟨_, (), rfl, rfl, hPt ht9 hP.1⟩, hS.F ht9⟩) hS.2.2 dX0_handOver_39
  · have h := ie c_12 h
    refine lv_aload_n hx hb dX0_handOver_5 rfl (lv_at hl 0 rfl) ?_
    refine lv_iload_n hx hb dX0_handOver_6 rfl (lv_at hl 1 rfl) ?_
    obtain ⟨z_13, e_z_13, h⟩ := bi h
    refine roVi (rest := []) ⟨hx, hb, hml, hown, ht⟩ (c_X0_lives l D cy fu A_a a_name a_courage a_weight a_medals a_stood a_fled a_liked a_votes a_count a_living a_pride a_quota a_melted a_lost x1 z_13 e_z_13) (cV ht mv_X0_lives tb_835 rfl rfl ⟨Nat.le_of_ble_eq_true rfl, Nat.le_of_ble_eq_true rfl⟩) (P_sub hP.1 [0] rfl) hX rfl rfl rfl hl.1 rfl (Nat.le_of_ble_eq_true rfl) dX0_handOver_7 ⟨Nat.le_of_ble_eq_true rfl, Nat.le_of_ble_eq_true rfl⟩ ?_
    refine lv_if_eq (tgt := 38) hx hb dX0_handOver_10 (by decide) (fun c_14 => ?_) (fun c_14 => ?_)
    · have h := it c_14 h
      refine lv_iconst (v := 0) hx hb dX0_handOver_38 (by decide) ?_
      cases h
      subst hW1
      exact W.zret hx hb hr rfl (fun _ ht9 _ => ⟨⟨_, (), rfl, rfl, hPt ht9 hP.1⟩, hS.F ht9⟩) hS.2.2 dX0_handOver_39
    · have h := ie c_14 h
      refine lv_aload_n hx hb dX0_handOver_13 rfl (lv_at hl 0 rfl) ?_
      refine lv_iload_n hx hb dX0_handOver_14 rfl (lv_at hl 2 rfl) ?_
      obtain ⟨z_15, e_z_15, h⟩ := bi h
      refine roVi (rest := []) ⟨hx, hb, hml, hown, ht⟩ (c_X0_lives l D cy fu A_a a_name a_courage a_weight a_medals a_stood a_fled a_liked a_votes a_count a_living a_pride a_quota a_melted a_lost x2 z_15 e_z_15) (cV ht mv_X0_lives tb_835 rfl rfl ⟨Nat.le_of_ble_eq_true rfl, Nat.le_of_ble_eq_true rfl⟩) (P_sub hP.1 [0] rfl) hX rfl rfl rfl hl.1 rfl (Nat.le_of_ble_eq_true rfl) dX0_handOver_15 ⟨Nat.le_of_ble_eq_true rfl, Nat.le_of_ble_eq_true rfl⟩ ?_
      refine lv_if_eq (tgt := 38) hx hb dX0_handOver_18 (by decide) (fun c_16 => ?_) (fun c_16 => ?_)
      · have h := it c_16 h
        refine lv_iconst (v := 0) hx hb dX0_handOver_38 (by decide) ?_
        cases h
        subst hW1
        exact W.zret hx hb hr rfl (fun _ ht9 _ => ⟨⟨_, (), rfl, rfl, hPt ht9 hP.1⟩, hS.F ht9⟩) hS.2.2 dX0_handOver_39
      · have h := ie c_16 h
        refine lv_aload_n hx hb dX0_handOver_21 rfl (lv_at hl 0 rfl) ?_
        refine xget (i := 0) (j := 0) (k := 3) (T := TX0) hx hb ht tb_iX0 hown hX hP.1 rfl rfl rfl (by decide) tb_43 rfl dX0_handOver_22 ?_
        refine lv_iload_n hx hb dX0_handOver_25 rfl (lv_at hl 1 rfl) ?_
        obtain ⟨y_17, e_y_17, h⟩ := bi h
        refine xiald (i0 := 0) (j0 := 4) hx hb hX hP.1 rfl rfl e_y_17 dX0_handOver_26 ?_
        refine lv_if_eq (tgt := 38) hx hb dX0_handOver_27 (by decide) (fun c_18 => ?_) (fun c_18 => ?_)
        · have h := it c_18 h
          refine lv_iconst (v := 0) hx hb dX0_handOver_38 (by decide) ?_
          cases h
          subst hW1
          exact W.zret hx hb hr rfl (fun _ ht9 _ => ⟨⟨_, (), rfl, rfl, hPt ht9 hP.1⟩, hS.F ht9⟩) hS.2.2 dX0_handOver_39
        · have h := ie c_18 h
          refine lv_aload_n hx hb dX0_handOver_30 rfl (lv_at hl 0 rfl) ?_
          refine lv_iload_n hx hb dX0_handOver_31 rfl (lv_at hl 2 rfl) ?_
          obtain ⟨z_19, e_z_19, h⟩ := bi h
          refine efVi (rest := []) ⟨hx, hb, hml, hown, ht⟩ (c_X0_pin l D cy fu A_a a_name a_courage a_weight a_medals a_stood a_fled a_liked a_votes a_count a_living a_pride a_quota a_melted a_lost x2 z_19 e_z_19 _ rfl _ rfl) (cV ht mv_X0_pin tb_823 rfl rfl ⟨Nat.le_of_ble_eq_true rfl, Nat.le_of_ble_eq_true rfl⟩) hP hS hX [0] rfl rfl rfl rfl rfl rfl hl.1 rfl (Nat.le_of_ble_eq_true rfl) dX0_handOver_32 ⟨Nat.le_of_ble_eq_true rfl, Nat.le_of_ble_eq_true rfl⟩ (fun H locs hP hS => ?_)
          have hP : PD D A [bl_X0 cy A_a a_name a_courage a_weight z_19.2 a_stood a_fled a_liked a_votes a_count a_living a_pride a_quota a_melted a_lost] H := hP
          refine lv_if_ne (tgt := 40) hx hb dX0_handOver_35 (by decide) (fun c_20 => ?_) (fun c_20 => ?_)
          · have h := ie c_20 h
            refine lv_aload_n hx hb dX0_handOver_40 rfl (lv_at hl 0 rfl) ?_
            refine xget (i := 0) (j := 0) (k := 3) (T := TX0) hx hb ht tb_iX0 hown hX hP.1 rfl rfl rfl (by decide) tb_43 rfl dX0_handOver_41 ?_
            refine lv_iload_n hx hb dX0_handOver_44 rfl (lv_at hl 1 rfl) ?_
            refine lv_dup2_11 hx hb dX0_handOver_45 rfl rfl ?_
            obtain ⟨y_21, e_y_21, h⟩ := bi h
            refine xiald (i0 := 0) (j0 := 4) hx hb hX hP.1 rfl rfl e_y_21 dX0_handOver_46 ?_
            refine lv_iconst (v := 1) hx hb dX0_handOver_47 (by decide) ?_
            refine lv_isub hx hb dX0_handOver_48 ?_
            obtain ⟨a_medals_22, e_a_medals_22, h⟩ := bi h
            refine xiast (i0 := 0) (j0 := 4) hx hb hX hP hS rfl rfl e_a_medals_22 dX0_handOver_49 (fun H locs hP hS => ?_)
            have hP : PD D A [bl_X0 cy A_a a_name a_courage a_weight a_medals_22 a_stood a_fled a_liked a_votes a_count a_living a_pride a_quota a_melted a_lost] H := hP
            refine lv_iconst (v := 1) hx hb dX0_handOver_50 (by decide) ?_
            cases h
            subst hW1
            exact W.zret hx hb hr rfl (fun _ ht9 _ => ⟨⟨_, (), rfl, rfl, hPt ht9 hP.1⟩, hS.F ht9⟩) hS.2.2 dX0_handOver_51
          · have h := it c_20 h
            refine lv_iconst (v := 0) hx hb dX0_handOver_38 (by decide) ?_
            cases h
            subst hW1
            exact W.zret hx hb hr rfl (fun _ ht9 _ => ⟨⟨_, (), rfl, rfl, hPt ht9 hP.1⟩, hS.F ht9⟩) hS.2.2 dX0_handOver_39
theorem dX0_loseOne_0 : decode cX0_loseOne 0 = .ok (.aload_n 0, 1) := by decide +kernel
theorem dX0_loseOne_1 : decode cX0_loseOne 1 = .ok (.iload_n 1, 1) := by decide +kernel
theorem dX0_loseOne_2 : decode cX0_loseOne 2 = .ok (.invokevirtual 75, 3) := by decide +kernel
theorem dX0_loseOne_5 : decode cX0_loseOne 5 = .ok (.ifCond .eq 12, 3) := by decide +kernel
theorem dX0_loseOne_8 : decode cX0_loseOne 8 = .ok (.aload_n 0, 1) := by decide +kernel
theorem dX0_loseOne_9 : decode cX0_loseOne 9 = .ok (.getfield 22, 3) := by decide +kernel
theorem dX0_loseOne_12 : decode cX0_loseOne 12 = .ok (.iload_n 1, 1) := by decide +kernel
theorem dX0_loseOne_13 : decode cX0_loseOne 13 = .ok (.iaload, 1) := by decide +kernel
theorem dX0_loseOne_14 : decode cX0_loseOne 14 = .ok (.ifCond .ne 5, 3) := by decide +kernel
theorem dX0_loseOne_17 : decode cX0_loseOne 17 = .ok (.iconst 0, 1) := by decide +kernel
theorem dX0_loseOne_18 : decode cX0_loseOne 18 = .ok (.ireturn, 1) := by decide +kernel
theorem dX0_loseOne_19 : decode cX0_loseOne 19 = .ok (.aload_n 0, 1) := by decide +kernel
theorem dX0_loseOne_20 : decode cX0_loseOne 20 = .ok (.getfield 22, 3) := by decide +kernel
theorem dX0_loseOne_23 : decode cX0_loseOne 23 = .ok (.iload_n 1, 1) := by decide +kernel
theorem dX0_loseOne_24 : decode cX0_loseOne 24 = .ok (.dup2, 1) := by decide +kernel
theorem dX0_loseOne_25 : decode cX0_loseOne 25 = .ok (.iaload, 1) := by decide +kernel
theorem dX0_loseOne_26 : decode cX0_loseOne 26 = .ok (.iconst 1, 1) := by decide +kernel
theorem dX0_loseOne_27 : decode cX0_loseOne 27 = .ok (.isub, 1) := by decide +kernel
theorem dX0_loseOne_28 : decode cX0_loseOne 28 = .ok (.iastore, 1) := by decide +kernel
theorem dX0_loseOne_29 : decode cX0_loseOne 29 = .ok (.aload_n 0, 1) := by decide +kernel
theorem dX0_loseOne_30 : decode cX0_loseOne 30 = .ok (.dup, 1) := by decide +kernel
theorem dX0_loseOne_31 : decode cX0_loseOne 31 = .ok (.getfield 53, 3) := by decide +kernel
theorem dX0_loseOne_34 : decode cX0_loseOne 34 = .ok (.iconst 1, 1) := by decide +kernel
theorem dX0_loseOne_35 : decode cX0_loseOne 35 = .ok (.iadd, 1) := by decide +kernel
theorem dX0_loseOne_36 : decode cX0_loseOne 36 = .ok (.putfield 53, 3) := by decide +kernel
theorem dX0_loseOne_39 : decode cX0_loseOne 39 = .ok (.iconst 1, 1) := by decide +kernel
theorem dX0_loseOne_40 : decode cX0_loseOne 40 = .ok (.ireturn, 1) := by decide +kernel
theorem mv_X0_loseOne : MV yX0_loseOne RX0 cX0_loseOne 2 (some .boolean) 1 := ⟨tb_843, tb_841, tb_842, tb_2, by decide +kernel, by decide +kernel, by decide +kernel⟩
def f_X0_loseOne (fu : Nat) (a_medals : Nat → Int32) (a_count : Int32) (a_lost : Int32) (x1 : Int32) : Option (Int32 × (Nat → Int32) × Int32) := (f_X0_isMan fu a_count x1).bind fun z_8 => (if z_8 = 0 then some (0, a_medals, a_lost) else (rdI a_medals 8 x1).bind fun y_10 => (if y_10 = 0 then some (0, a_medals, a_lost) else (rdI a_medals 8 x1).bind fun y_12 => (wrI a_medals 8 x1 (y_12 - 1)).bind fun a_medals_13 => bnd (a_lost + 1) fun a_lost_14 => some (1, a_medals_13, a_lost_14)))
abbrev rm_X0_loseOne : Room := { frames := 1, cells := 0, slots := 0, locals := 21 }
set_option maxHeartbeats 4000000 in
set_option maxRecDepth 100000 in
theorem c_X0_loseOne (l : Launch) (D : va_G) (cy : Nat → ClassId) (fu : Nat) (A_a : Nat → Nat) (a_name : Nat → Int64) (a_courage : Nat → Int32) (a_weight : Nat → Int32) (a_medals : Nat → Int32) (a_stood : Nat → Int32) (a_fled : Nat → Int32) (a_liked : Nat → Int32) (a_votes : Nat → Int32) (a_count : Int32) (a_living : Int32) (a_pride : Int32) (a_quota : Int32) (a_melted : Int32) (a_lost : Int32) (x1 : Int32) (res : Int32 × (Nat → Int32) × Int32) (h : f_X0_loseOne fu a_medals a_count a_lost x1 = some res) (A : Nat → Prop) (hA : A = adr [bl_X0 cy A_a a_name a_courage a_weight a_medals a_stood a_fled a_liked a_votes a_count a_living a_pride a_quota a_melted a_lost]) (W1 : List va_W) (hW1 : W1 = [bl_X0 cy A_a a_name a_courage a_weight res.2.1 a_stood a_fled a_liked a_votes a_count a_living a_pride a_quota a_melted res.2.2]) : Met l yX0_loseOne (WW yX0_loseOne cX0_loseOne 2 (some .boolean)) rm_X0_loseOne (Ed D cy [.ref (A_a 0), .int x1] [bl_X0 cy A_a a_name a_courage a_weight a_medals a_stood a_fled a_liked a_votes a_count a_living a_pride a_quota a_melted a_lost]) (Qei D res.1 A W1) 0 0 A := by
  refine Met.ofW (cc := cX0_loseOne) (maxL := 2) (ret := (some .boolean)) (by decide) rfl ?_
  intro p e s m args below meth c s₁ B hml hv
  obtain ⟨hargs, hP, hX, hD0⟩ := hv
  have hx := B.exec
  have hb := B.bytes
  have hr := B.returns
  have ht : ∀ w ∈ lw_gd, w.before args s = true := fun w hw => atoms_spec (ws := WW yX0_loseOne cX0_loseOne 2 (some .boolean)) B.pre w (List.mem_cons_of_mem _ hw)
  have hown : s.vm.findClass RX0 = some m.cls := findClass_of_methodNamed B.named
  have hlocks := B.notSynchronized
  have hP : PD D A [bl_X0 cy A_a a_name a_courage a_weight a_medals a_stood a_fled a_liked a_votes a_count a_living a_pride a_quota a_melted a_lost] s.heap := ⟨hP, by rw [hA]; exact hD0.own⟩
  have hS : va_S A s.heap s.heap [] := va_S.rf
  obtain ⟨ls, hl, hent⟩ := ent (m := m) (n := 2) hargs (Nat.le_of_ble_eq_true rfl) (lv := [(0, .ref (A_a 0)), (1, .int x1)]) rfl
  rw [hent]
  clear hent
  unfold f_X0_loseOne at h
  refine lv_aload_n hx hb dX0_loseOne_0 rfl (lv_at hl 0 rfl) ?_
  refine lv_iload_n hx hb dX0_loseOne_1 rfl (lv_at hl 1 rfl) ?_
  obtain ⟨z_8, e_z_8, h⟩ := bi h
  refine roVi (rest := []) ⟨hx, hb, hml, hown, ht⟩ (c_X0_isMan l D cy fu A_a a_name a_courage a_weight a_medals a_stood a_fled a_liked a_votes a_count a_living a_pride a_quota a_melted a_lost x1 z_8 e_z_8) (cV ht mv_X0_isMan tb_683 rfl rfl ⟨Nat.le_of_ble_eq_true rfl, Nat.le_of_ble_eq_true rfl⟩) (P_sub hP.1 [0] rfl) hX rfl rfl rfl hl.1 rfl (Nat.le_of_ble_eq_true rfl) dX0_loseOne_2 ⟨Nat.le_of_ble_eq_true rfl, Nat.le_of_ble_eq_true rfl⟩ ?_
  refine lv_if_eq (tgt := 17) hx hb dX0_loseOne_5 (by decide) (fun c_9 => ?_) (fun c_9 => ?_)
  · have h := it c_9 h
    refine lv_iconst (v := 0) hx hb dX0_loseOne_17 (by decide) ?_
    cases h
    subst hW1
    exact W.zret hx hb hr rfl (fun _ ht9 _ => ⟨⟨_, (), rfl, rfl, hPt ht9 hP.1⟩, hS.F ht9⟩) hS.2.2 dX0_loseOne_18
  · have h := ie c_9 h
    refine lv_aload_n hx hb dX0_loseOne_8 rfl (lv_at hl 0 rfl) ?_
    refine xget (i := 0) (j := 0) (k := 3) (T := TX0) hx hb ht tb_iX0 hown hX hP.1 rfl rfl rfl (by decide) tb_43 rfl dX0_loseOne_9 ?_
    refine lv_iload_n hx hb dX0_loseOne_12 rfl (lv_at hl 1 rfl) ?_
    obtain ⟨y_10, e_y_10, h⟩ := bi h
    refine xiald (i0 := 0) (j0 := 4) hx hb hX hP.1 rfl rfl e_y_10 dX0_loseOne_13 ?_
    refine lv_if_ne (tgt := 19) hx hb dX0_loseOne_14 (by decide) (fun c_11 => ?_) (fun c_11 => ?_)
    · have h := ie c_11 h
      refine lv_aload_n hx hb dX0_loseOne_19 rfl (lv_at hl 0 rfl) ?_
      refine xget (i := 0) (j := 0) (k := 3) (T := TX0) hx hb ht tb_iX0 hown hX hP.1 rfl rfl rfl (by decide) tb_43 rfl dX0_loseOne_20 ?_
      refine lv_iload_n hx hb dX0_loseOne_23 rfl (lv_at hl 1 rfl) ?_
      refine lv_dup2_11 hx hb dX0_loseOne_24 rfl rfl ?_
      obtain ⟨y_12, e_y_12, h⟩ := bi h
      refine xiald (i0 := 0) (j0 := 4) hx hb hX hP.1 rfl rfl e_y_12 dX0_loseOne_25 ?_
      refine lv_iconst (v := 1) hx hb dX0_loseOne_26 (by decide) ?_
      refine lv_isub hx hb dX0_loseOne_27 ?_
      obtain ⟨a_medals_13, e_a_medals_13, h⟩ := bi h
      refine xiast (i0 := 0) (j0 := 4) hx hb hX hP hS rfl rfl e_a_medals_13 dX0_loseOne_28 (fun H locs hP hS => ?_)
      have hP : PD D A [bl_X0 cy A_a a_name a_courage a_weight a_medals_13 a_stood a_fled a_liked a_votes a_count a_living a_pride a_quota a_melted a_lost] H := hP
      refine lv_aload_n hx hb dX0_loseOne_29 rfl (lv_at hl 0 rfl) ?_
      refine lv_dup hx hb dX0_loseOne_30 rfl ?_
      refine xget (i := 0) (j := 0) (k := 13) (T := TX0) hx hb ht tb_iX0 hown hX hP.1 rfl rfl rfl (by decide) tb_73 rfl dX0_loseOne_31 ?_
      refine lv_iconst (v := 1) hx hb dX0_loseOne_34 (by decide) ?_
      refine lv_iadd hx hb dX0_loseOne_35 ?_
      refine lv_topi (fun a_lost_14 e_a_lost_14 => ?_)
      have h := bn e_a_lost_14 h
      refine xput (i := 0) (j := 0) (k := 13) (T := TX0) tyX0 tyX0_ok nmX0 hx hb ht tb_iX0 hown hX hP hS rfl rfl rfl (by decide) tb_73 rfl rfl rfl (Nat.le_of_ble_eq_true rfl) dX0_loseOne_36 (fun H locs hP hS => ?_)
      have hP : PD D A [bl_X0 cy A_a a_name a_courage a_weight a_medals_13 a_stood a_fled a_liked a_votes a_count a_living a_pride a_quota a_melted a_lost_14] H := hP
      refine lv_iconst (v := 1) hx hb dX0_loseOne_39 (by decide) ?_
      cases h
      subst hW1
      exact W.zret hx hb hr rfl (fun _ ht9 _ => ⟨⟨_, (), rfl, rfl, hPt ht9 hP.1⟩, hS.F ht9⟩) hS.2.2 dX0_loseOne_40
    · have h := it c_11 h
      refine lv_iconst (v := 0) hx hb dX0_loseOne_17 (by decide) ?_
      cases h
      subst hW1
      exact W.zret hx hb hr rfl (fun _ ht9 _ => ⟨⟨_, (), rfl, rfl, hPt ht9 hP.1⟩, hS.F ht9⟩) hS.2.2 dX0_loseOne_18
theorem dX0_strike_0 : decode cX0_strike 0 = .ok (.aload_n 0, 1) := by decide +kernel
theorem dX0_strike_1 : decode cX0_strike 1 = .ok (.iload_n 1, 1) := by decide +kernel
theorem dX0_strike_2 : decode cX0_strike 2 = .ok (.invokevirtual 99, 3) := by decide +kernel
theorem dX0_strike_5 : decode cX0_strike 5 = .ok (.ifCond .ne 5, 3) := by decide +kernel
theorem dX0_strike_8 : decode cX0_strike 8 = .ok (.iconst 0, 1) := by decide +kernel
theorem dX0_strike_9 : decode cX0_strike 9 = .ok (.ireturn, 1) := by decide +kernel
theorem dX0_strike_10 : decode cX0_strike 10 = .ok (.aload_n 0, 1) := by decide +kernel
theorem dX0_strike_11 : decode cX0_strike 11 = .ok (.dup, 1) := by decide +kernel
theorem dX0_strike_12 : decode cX0_strike 12 = .ok (.getfield 41, 3) := by decide +kernel
theorem dX0_strike_15 : decode cX0_strike 15 = .ok (.iconst 1, 1) := by decide +kernel
theorem dX0_strike_16 : decode cX0_strike 16 = .ok (.iload_n 1, 1) := by decide +kernel
theorem dX0_strike_17 : decode cX0_strike 17 = .ok (.ishl, 1) := by decide +kernel
theorem dX0_strike_18 : decode cX0_strike 18 = .ok (.iconst (-1), 1) := by decide +kernel
theorem dX0_strike_19 : decode cX0_strike 19 = .ok (.ixor, 1) := by decide +kernel
theorem dX0_strike_20 : decode cX0_strike 20 = .ok (.iand, 1) := by decide +kernel
theorem dX0_strike_21 : decode cX0_strike 21 = .ok (.putfield 41, 3) := by decide +kernel
theorem dX0_strike_24 : decode cX0_strike 24 = .ok (.iconst 1, 1) := by decide +kernel
theorem dX0_strike_25 : decode cX0_strike 25 = .ok (.ireturn, 1) := by decide +kernel
theorem mv_X0_strike : MV yX0_strike RX0 cX0_strike 2 (some .boolean) 1 := ⟨tb_851, tb_849, tb_850, tb_2, by decide +kernel, by decide +kernel, by decide +kernel⟩
def f_X0_strike (fu : Nat) (a_count : Int32) (a_living : Int32) (x1 : Int32) : Option (Int32 × Int32) := (f_X0_lives fu a_count a_living x1).bind fun z_4 => (if z_4 = 0 then some (0, a_living) else bnd (a_living &&& (((1 : Int32) <<< (x1 &&& 31)) ^^^ (-1))) fun a_living_6 => some (1, a_living_6))
abbrev rm_X0_strike : Room := { frames := 2, cells := 0, slots := 0, locals := 42 }
set_option maxHeartbeats 4000000 in
set_option maxRecDepth 100000 in
theorem c_X0_strike (l : Launch) (D : va_G) (cy : Nat → ClassId) (fu : Nat) (A_a : Nat → Nat) (a_name : Nat → Int64) (a_courage : Nat → Int32) (a_weight : Nat → Int32) (a_medals : Nat → Int32) (a_stood : Nat → Int32) (a_fled : Nat → Int32) (a_liked : Nat → Int32) (a_votes : Nat → Int32) (a_count : Int32) (a_living : Int32) (a_pride : Int32) (a_quota : Int32) (a_melted : Int32) (a_lost : Int32) (x1 : Int32) (res : Int32 × Int32) (h : f_X0_strike fu a_count a_living x1 = some res) (A : Nat → Prop) (hA : A = adr [bl_X0 cy A_a a_name a_courage a_weight a_medals a_stood a_fled a_liked a_votes a_count a_living a_pride a_quota a_melted a_lost]) (W1 : List va_W) (hW1 : W1 = [bl_X0 cy A_a a_name a_courage a_weight a_medals a_stood a_fled a_liked a_votes a_count res.2 a_pride a_quota a_melted a_lost]) : Met l yX0_strike (WW yX0_strike cX0_strike 2 (some .boolean)) rm_X0_strike (Ed D cy [.ref (A_a 0), .int x1] [bl_X0 cy A_a a_name a_courage a_weight a_medals a_stood a_fled a_liked a_votes a_count a_living a_pride a_quota a_melted a_lost]) (Qei D res.1 A W1) 0 0 A := by
  refine Met.ofW (cc := cX0_strike) (maxL := 2) (ret := (some .boolean)) (by decide) rfl ?_
  intro p e s m args below meth c s₁ B hml hv
  obtain ⟨hargs, hP, hX, hD0⟩ := hv
  have hx := B.exec
  have hb := B.bytes
  have hr := B.returns
  have ht : ∀ w ∈ lw_gd, w.before args s = true := fun w hw => atoms_spec (ws := WW yX0_strike cX0_strike 2 (some .boolean)) B.pre w (List.mem_cons_of_mem _ hw)
  have hown : s.vm.findClass RX0 = some m.cls := findClass_of_methodNamed B.named
  have hlocks := B.notSynchronized
  have hP : PD D A [bl_X0 cy A_a a_name a_courage a_weight a_medals a_stood a_fled a_liked a_votes a_count a_living a_pride a_quota a_melted a_lost] s.heap := ⟨hP, by rw [hA]; exact hD0.own⟩
  have hS : va_S A s.heap s.heap [] := va_S.rf
  obtain ⟨ls, hl, hent⟩ := ent (m := m) (n := 2) hargs (Nat.le_of_ble_eq_true rfl) (lv := [(0, .ref (A_a 0)), (1, .int x1)]) rfl
  rw [hent]
  clear hent
  unfold f_X0_strike at h
  refine lv_aload_n hx hb dX0_strike_0 rfl (lv_at hl 0 rfl) ?_
  refine lv_iload_n hx hb dX0_strike_1 rfl (lv_at hl 1 rfl) ?_
  obtain ⟨z_4, e_z_4, h⟩ := bi h
  refine roVi (rest := []) ⟨hx, hb, hml, hown, ht⟩ (c_X0_lives l D cy fu A_a a_name a_courage a_weight a_medals a_stood a_fled a_liked a_votes a_count a_living a_pride a_quota a_melted a_lost x1 z_4 e_z_4) (cV ht mv_X0_lives tb_835 rfl rfl ⟨Nat.le_of_ble_eq_true rfl, Nat.le_of_ble_eq_true rfl⟩) (P_sub hP.1 [0] rfl) hX rfl rfl rfl hl.1 rfl (Nat.le_of_ble_eq_true rfl) dX0_strike_2 ⟨Nat.le_of_ble_eq_true rfl, Nat.le_of_ble_eq_true rfl⟩ ?_
  refine lv_if_ne (tgt := 10) hx hb dX0_strike_5 (by decide) (fun c_5 => ?_) (fun c_5 => ?_)
  · have h := ie c_5 h
    refine lv_aload_n hx hb dX0_strike_10 rfl (lv_at hl 0 rfl) ?_
    refine lv_dup hx hb dX0_strike_11 rfl ?_
    refine xget (i := 0) (j := 0) (k := 9) (T := TX0) hx hb ht tb_iX0 hown hX hP.1 rfl rfl rfl (by decide) tb_61 rfl dX0_strike_12 ?_
    refine lv_iconst (v := 1) hx hb dX0_strike_15 (by decide) ?_
    refine lv_iload_n hx hb dX0_strike_16 rfl (lv_at hl 1 rfl) ?_
    refine lv_ishl hx hb dX0_strike_17 ?_
    refine lv_iconst (v := (-1)) hx hb dX0_strike_18 (by decide) ?_
    refine lv_ixor hx hb dX0_strike_19 ?_
    refine lv_iand hx hb dX0_strike_20 ?_
    refine lv_topi (fun a_living_6 e_a_living_6 => ?_)
    have h := bn e_a_living_6 h
    refine xput (i := 0) (j := 0) (k := 9) (T := TX0) tyX0 tyX0_ok nmX0 hx hb ht tb_iX0 hown hX hP hS rfl rfl rfl (by decide) tb_61 rfl rfl rfl (Nat.le_of_ble_eq_true rfl) dX0_strike_21 (fun H locs hP hS => ?_)
    have hP : PD D A [bl_X0 cy A_a a_name a_courage a_weight a_medals a_stood a_fled a_liked a_votes a_count a_living_6 a_pride a_quota a_melted a_lost] H := hP
    refine lv_iconst (v := 1) hx hb dX0_strike_24 (by decide) ?_
    cases h
    subst hW1
    exact W.zret hx hb hr rfl (fun _ ht9 _ => ⟨⟨_, (), rfl, rfl, hPt ht9 hP.1⟩, hS.F ht9⟩) hS.2.2 dX0_strike_25
  · have h := it c_5 h
    refine lv_iconst (v := 0) hx hb dX0_strike_8 (by decide) ?_
    cases h
    subst hW1
    exact W.zret hx hb hr rfl (fun _ ht9 _ => ⟨⟨_, (), rfl, rfl, hPt ht9 hP.1⟩, hS.F ht9⟩) hS.2.2 dX0_strike_9
theorem dX0_weightOf_0 : decode cX0_weightOf 0 = .ok (.iconst 0, 1) := by decide +kernel
theorem dX0_weightOf_1 : decode cX0_weightOf 1 = .ok (.istore_n 2, 1) := by decide +kernel
theorem dX0_weightOf_2 : decode cX0_weightOf 2 = .ok (.iconst 0, 1) := by decide +kernel
theorem dX0_weightOf_3 : decode cX0_weightOf 3 = .ok (.istore_n 3, 1) := by decide +kernel
theorem dX0_weightOf_4 : decode cX0_weightOf 4 = .ok (.iload_n 3, 1) := by decide +kernel
theorem dX0_weightOf_5 : decode cX0_weightOf 5 = .ok (.aload_n 0, 1) := by decide +kernel
theorem dX0_weightOf_6 : decode cX0_weightOf 6 = .ok (.getfield 37, 3) := by decide +kernel
theorem dX0_weightOf_9 : decode cX0_weightOf 9 = .ok (.if_icmp .ge 26, 3) := by decide +kernel
theorem dX0_weightOf_12 : decode cX0_weightOf 12 = .ok (.iload_n 1, 1) := by decide +kernel
theorem dX0_weightOf_13 : decode cX0_weightOf 13 = .ok (.iload_n 3, 1) := by decide +kernel
theorem dX0_weightOf_14 : decode cX0_weightOf 14 = .ok (.ishr, 1) := by decide +kernel
theorem dX0_weightOf_15 : decode cX0_weightOf 15 = .ok (.iconst 1, 1) := by decide +kernel
theorem dX0_weightOf_16 : decode cX0_weightOf 16 = .ok (.iand, 1) := by decide +kernel
theorem dX0_weightOf_17 : decode cX0_weightOf 17 = .ok (.ifCond .eq 12, 3) := by decide +kernel
theorem dX0_weightOf_20 : decode cX0_weightOf 20 = .ok (.iload_n 2, 1) := by decide +kernel
theorem dX0_weightOf_21 : decode cX0_weightOf 21 = .ok (.aload_n 0, 1) := by decide +kernel
theorem dX0_weightOf_22 : decode cX0_weightOf 22 = .ok (.getfield 19, 3) := by decide +kernel
theorem dX0_weightOf_25 : decode cX0_weightOf 25 = .ok (.iload_n 3, 1) := by decide +kernel
theorem dX0_weightOf_26 : decode cX0_weightOf 26 = .ok (.iaload, 1) := by decide +kernel
theorem dX0_weightOf_27 : decode cX0_weightOf 27 = .ok (.iadd, 1) := by decide +kernel
theorem dX0_weightOf_28 : decode cX0_weightOf 28 = .ok (.istore_n 2, 1) := by decide +kernel
theorem dX0_weightOf_29 : decode cX0_weightOf 29 = .ok (.iinc 3 1, 3) := by decide +kernel
theorem dX0_weightOf_32 : decode cX0_weightOf 32 = .ok (.goto (-28), 3) := by decide +kernel
theorem dX0_weightOf_35 : decode cX0_weightOf 35 = .ok (.iload_n 2, 1) := by decide +kernel
theorem dX0_weightOf_36 : decode cX0_weightOf 36 = .ok (.ireturn, 1) := by decide +kernel
theorem mv_X0_weightOf : MV yX0_weightOf RX0 cX0_weightOf 4 (some .int) 1 := ⟨tb_929, tb_927, tb_928, tb_2, by decide +kernel, by decide +kernel, by decide +kernel⟩
def f_X0_weightOf_b4 (fu : Nat) (a_weight : Nat → Int32) (a_count : Int32) (x1 : Int32) (k4 : Int32 → Int32 → Option (Int32)) (x2 : Int32) (x3 : Int32) : Option (Int32) := (if a_count ≤ x3 then some (x2) else (if ((x1 >>> (x3 &&& 31)) &&& 1) = 0 then bnd (x3 + 1) fun x3_9 => k4 x2 x3_9 else (rdI a_weight 8 x3).bind fun y_10 => bnd (x2 + y_10) fun x2_11 => bnd (x3 + 1) fun x3_12 => k4 x2_11 x3_12))
def f_X0_weightOf_l4 (fu : Nat) (a_weight : Nat → Int32) (a_count : Int32) (x1 : Int32) : Nat → Int32 → Int32 → Option (Int32)
  | 0, _, _ => none
  | n + 1, x2, x3 => f_X0_weightOf_b4 fu a_weight a_count x1 (f_X0_weightOf_l4 fu a_weight a_count x1 n) x2 x3
def f_X0_weightOf (fu : Nat) (a_weight : Nat → Int32) (a_count : Int32) (x1 : Int32) : Option (Int32) := f_X0_weightOf_l4 fu a_weight a_count x1 fu 0 0
abbrev rm_X0_weightOf : Room := { frames := 0, cells := 0, slots := 0, locals := 0 }
set_option maxHeartbeats 4000000 in
set_option maxRecDepth 100000 in
theorem c_X0_weightOf (l : Launch) (D : va_G) (cy : Nat → ClassId) (fu : Nat) (A_a : Nat → Nat) (a_name : Nat → Int64) (a_courage : Nat → Int32) (a_weight : Nat → Int32) (a_medals : Nat → Int32) (a_stood : Nat → Int32) (a_fled : Nat → Int32) (a_liked : Nat → Int32) (a_votes : Nat → Int32) (a_count : Int32) (a_living : Int32) (a_pride : Int32) (a_quota : Int32) (a_melted : Int32) (a_lost : Int32) (x1 : Int32) (res : Int32) (h : f_X0_weightOf fu a_weight a_count x1 = some res) : Met l yX0_weightOf (WW yX0_weightOf cX0_weightOf 4 (some .int)) rm_X0_weightOf (Rd D cy [.ref (A_a 0), .int x1] [bl_X0 cy A_a a_name a_courage a_weight a_medals a_stood a_fled a_liked a_votes a_count a_living a_pride a_quota a_melted a_lost]) (vp_Si (fun v => v = res)) 0 0 (fun _ => False) := by
  refine Met.ofW (cc := cX0_weightOf) (maxL := 4) (ret := (some .int)) (by decide) rfl ?_
  intro p e s m args below meth c s₁ B hml hv
  obtain ⟨hargs, hP, hX⟩ := hv
  have hx := B.exec
  have hb := B.bytes
  have hr := B.returns
  have ht : ∀ w ∈ lw_gd, w.before args s = true := fun w hw => atoms_spec (ws := WW yX0_weightOf cX0_weightOf 4 (some .int)) B.pre w (List.mem_cons_of_mem _ hw)
  have hown : s.vm.findClass RX0 = some m.cls := findClass_of_methodNamed B.named
  have hlocks := B.notSynchronized
  have hP : PB D [bl_X0 cy A_a a_name a_courage a_weight a_medals a_stood a_fled a_liked a_votes a_count a_living a_pride a_quota a_melted a_lost] s.heap := hP
  obtain ⟨ls, hl, hent⟩ := ent (m := m) (n := 4) hargs (Nat.le_of_ble_eq_true rfl) (lv := [(0, .ref (A_a 0)), (1, .int x1)]) rfl
  rw [hent]
  clear hent
  have l4 : ∀ (n4 : Nat) (x2 : Int32) (x3 : Int32) (ls : Array Slot), lv_has ls 4 [(0, .ref (A_a 0)), (1, .int x1), (2, .int x2), (3, .int x3)] → f_X0_weightOf_l4 fu a_weight a_count x1 n4 x2 x3 = some res → W p l e (headSpec (WW yX0_weightOf cX0_weightOf 4 (some .int)) rm_X0_weightOf).room s m args below meth c s.heap [] 0 0 (MQ below (vp_Si (fun v => v = res)) args s 0 0 (fun _ => False)) (F0 m 4 ls []) := by
    intro n4
    induction n4 with
    | zero => intro x2 x3 ls hl h; cases h
    | succ n4 ih4 =>
      intro x2 x3 ls hl h
      have h : f_X0_weightOf_b4 fu a_weight a_count x1 (f_X0_weightOf_l4 fu a_weight a_count x1 n4) x2 x3 = some res := h
      unfold f_X0_weightOf_b4 at h
      refine lv_iload_n hx hb dX0_weightOf_4 rfl (lv_at hl 3 rfl) ?_
      refine lv_aload_n hx hb dX0_weightOf_5 rfl (lv_at hl 0 rfl) ?_
      refine xget (i := 0) (j := 0) (k := 8) (T := TX0) hx hb ht tb_iX0 hown hX hP rfl rfl rfl (by decide) tb_55 rfl dX0_weightOf_6 ?_
      refine lv_icmp_ge (tgt := 35) hx hb dX0_weightOf_9 (by decide) (fun c_7 => ?_) (fun c_7 => ?_)
      · have h := it c_7 h
        refine lv_iload_n hx hb dX0_weightOf_35 rfl (lv_at hl 2 rfl) ?_
        cases h
        exact W.iret hx hb hr (fun _ ht9 _ => ⟨_, rfl, rfl, ht9⟩) (fun _ hq => by cases hq) dX0_weightOf_36
      · have h := ie c_7 h
        refine lv_iload_n hx hb dX0_weightOf_12 rfl (lv_at hl 1 rfl) ?_
        refine lv_iload_n hx hb dX0_weightOf_13 rfl (lv_at hl 3 rfl) ?_
        refine lv_ishr hx hb dX0_weightOf_14 ?_
        refine lv_iconst (v := 1) hx hb dX0_weightOf_15 (by decide) ?_
        refine lv_iand hx hb dX0_weightOf_16 ?_
        refine lv_if_eq (tgt := 29) hx hb dX0_weightOf_17 (by decide) (fun c_8 => ?_) (fun c_8 => ?_)
        · have h := it c_8 h
          obtain ⟨x3_9, e_x3_9⟩ : ∃ y : Int32, y = x3 + 1 := ⟨_, rfl⟩
          have h := bn e_x3_9 h
          refine lv_iinc (v := x3_9) (lv' := [(3, .int x3_9), (0, .ref (A_a 0)), (1, .int x1), (2, .int x2)]) hx hb dX0_weightOf_29 hl (k := 3) rfl (by rw [e_x3_9]; rfl) (by decide) rfl (fun ls hl => ?_)
          refine lv_goto (tgt := 4) hx hb dX0_weightOf_32 (by decide) ?_
          exact ih4 x2 x3_9 ls (lv_sub hl [1, 2, 3, 0] rfl) h
        · have h := ie c_8 h
          refine lv_iload_n hx hb dX0_weightOf_20 rfl (lv_at hl 2 rfl) ?_
          refine lv_aload_n hx hb dX0_weightOf_21 rfl (lv_at hl 0 rfl) ?_
          refine xget (i := 0) (j := 0) (k := 2) (T := TX0) hx hb ht tb_iX0 hown hX hP rfl rfl rfl (by decide) tb_41 rfl dX0_weightOf_22 ?_
          refine lv_iload_n hx hb dX0_weightOf_25 rfl (lv_at hl 3 rfl) ?_
          obtain ⟨y_10, e_y_10, h⟩ := bi h
          refine xiald (i0 := 0) (j0 := 3) hx hb hX hP rfl rfl e_y_10 dX0_weightOf_26 ?_
          refine lv_iadd hx hb dX0_weightOf_27 ?_
          refine lv_topi (fun x2_11 e_x2_11 => ?_)
          have h := bn e_x2_11 h
          refine lv_istore_n (lv' := [(2, .int x2_11), (0, .ref (A_a 0)), (1, .int x1), (3, .int x3)]) hx hb dX0_weightOf_28 rfl hl (by decide) rfl (fun ls hl => ?_)
          obtain ⟨x3_12, e_x3_12⟩ : ∃ y : Int32, y = x3 + 1 := ⟨_, rfl⟩
          have h := bn e_x3_12 h
          refine lv_iinc (v := x3_12) (lv' := [(3, .int x3_12), (2, .int x2_11), (0, .ref (A_a 0)), (1, .int x1)]) hx hb dX0_weightOf_29 hl (k := 3) rfl (by rw [e_x3_12]; rfl) (by decide) rfl (fun ls hl => ?_)
          refine lv_goto (tgt := 4) hx hb dX0_weightOf_32 (by decide) ?_
          exact ih4 x2_11 x3_12 ls (lv_sub hl [2, 3, 1, 0] rfl) h
  unfold f_X0_weightOf at h
  refine lv_iconst (v := 0) hx hb dX0_weightOf_0 (by decide) ?_
  refine lv_istore_n (lv' := [(2, .int 0), (0, .ref (A_a 0)), (1, .int x1)]) hx hb dX0_weightOf_1 rfl hl (by decide) rfl (fun ls hl => ?_)
  refine lv_iconst (v := 0) hx hb dX0_weightOf_2 (by decide) ?_
  refine lv_istore_n (lv' := [(3, .int 0), (2, .int 0), (0, .ref (A_a 0)), (1, .int x1)]) hx hb dX0_weightOf_3 rfl hl (by decide) rfl (fun ls hl => ?_)
  exact l4 fu 0 0 ls (lv_sub hl [2, 3, 1, 0] rfl) h
theorem dX0_isCarriedBy_0 : decode cX0_isCarriedBy 0 = .ok (.aload_n 0, 1) := by decide +kernel
theorem dX0_isCarriedBy_1 : decode cX0_isCarriedBy 1 = .ok (.iload_n 1, 1) := by decide +kernel
theorem dX0_isCarriedBy_2 : decode cX0_isCarriedBy 2 = .ok (.invokevirtual 102, 3) := by decide +kernel
theorem dX0_isCarriedBy_5 : decode cX0_isCarriedBy 5 = .ok (.bipush 100, 2) := by decide +kernel
theorem dX0_isCarriedBy_7 : decode cX0_isCarriedBy 7 = .ok (.imul, 1) := by decide +kernel
theorem dX0_isCarriedBy_8 : decode cX0_isCarriedBy 8 = .ok (.aload_n 0, 1) := by decide +kernel
theorem dX0_isCarriedBy_9 : decode cX0_isCarriedBy 9 = .ok (.getfield 47, 3) := by decide +kernel
theorem dX0_isCarriedBy_12 : decode cX0_isCarriedBy 12 = .ok (.aload_n 0, 1) := by decide +kernel
theorem dX0_isCarriedBy_13 : decode cX0_isCarriedBy 13 = .ok (.aload_n 0, 1) := by decide +kernel
theorem dX0_isCarriedBy_14 : decode cX0_isCarriedBy 14 = .ok (.getfield 41, 3) := by decide +kernel
theorem dX0_isCarriedBy_17 : decode cX0_isCarriedBy 17 = .ok (.invokevirtual 102, 3) := by decide +kernel
theorem dX0_isCarriedBy_20 : decode cX0_isCarriedBy 20 = .ok (.imul, 1) := by decide +kernel
theorem dX0_isCarriedBy_21 : decode cX0_isCarriedBy 21 = .ok (.if_icmp .le 7, 3) := by decide +kernel
theorem dX0_isCarriedBy_24 : decode cX0_isCarriedBy 24 = .ok (.iconst 1, 1) := by decide +kernel
theorem dX0_isCarriedBy_25 : decode cX0_isCarriedBy 25 = .ok (.goto 4, 3) := by decide +kernel
theorem dX0_isCarriedBy_28 : decode cX0_isCarriedBy 28 = .ok (.iconst 0, 1) := by decide +kernel
theorem dX0_isCarriedBy_29 : decode cX0_isCarriedBy 29 = .ok (.ireturn, 1) := by decide +kernel
theorem mv_X0_isCarriedBy : MV yX0_isCarriedBy RX0 cX0_isCarriedBy 2 (some .boolean) 1 := ⟨tb_925, tb_923, tb_924, tb_2, by decide +kernel, by decide +kernel, by decide +kernel⟩
def f_X0_isCarriedBy (fu : Nat) (a_weight : Nat → Int32) (a_count : Int32) (a_living : Int32) (a_quota : Int32) (x1 : Int32) : Option (Int32) := (f_X0_weightOf fu a_weight a_count x1).bind fun z_4 => (f_X0_weightOf fu a_weight a_count a_living).bind fun z_5 => (if (z_4 * 100) ≤ (a_quota * z_5) then some (0) else some (1))
abbrev rm_X0_isCarriedBy : Room := { frames := 1, cells := 0, slots := 0, locals := 23 }
set_option maxHeartbeats 4000000 in
set_option maxRecDepth 100000 in
theorem c_X0_isCarriedBy (l : Launch) (D : va_G) (cy : Nat → ClassId) (fu : Nat) (A_a : Nat → Nat) (a_name : Nat → Int64) (a_courage : Nat → Int32) (a_weight : Nat → Int32) (a_medals : Nat → Int32) (a_stood : Nat → Int32) (a_fled : Nat → Int32) (a_liked : Nat → Int32) (a_votes : Nat → Int32) (a_count : Int32) (a_living : Int32) (a_pride : Int32) (a_quota : Int32) (a_melted : Int32) (a_lost : Int32) (x1 : Int32) (res : Int32) (h : f_X0_isCarriedBy fu a_weight a_count a_living a_quota x1 = some res) : Met l yX0_isCarriedBy (WW yX0_isCarriedBy cX0_isCarriedBy 2 (some .boolean)) rm_X0_isCarriedBy (Rd D cy [.ref (A_a 0), .int x1] [bl_X0 cy A_a a_name a_courage a_weight a_medals a_stood a_fled a_liked a_votes a_count a_living a_pride a_quota a_melted a_lost]) (vp_Si (fun v => v = res)) 0 0 (fun _ => False) := by
  refine Met.ofW (cc := cX0_isCarriedBy) (maxL := 2) (ret := (some .boolean)) (by decide) rfl ?_
  intro p e s m args below meth c s₁ B hml hv
  obtain ⟨hargs, hP, hX⟩ := hv
  have hx := B.exec
  have hb := B.bytes
  have hr := B.returns
  have ht : ∀ w ∈ lw_gd, w.before args s = true := fun w hw => atoms_spec (ws := WW yX0_isCarriedBy cX0_isCarriedBy 2 (some .boolean)) B.pre w (List.mem_cons_of_mem _ hw)
  have hown : s.vm.findClass RX0 = some m.cls := findClass_of_methodNamed B.named
  have hlocks := B.notSynchronized
  have hP : PB D [bl_X0 cy A_a a_name a_courage a_weight a_medals a_stood a_fled a_liked a_votes a_count a_living a_pride a_quota a_melted a_lost] s.heap := hP
  obtain ⟨ls, hl, hent⟩ := ent (m := m) (n := 2) hargs (Nat.le_of_ble_eq_true rfl) (lv := [(0, .ref (A_a 0)), (1, .int x1)]) rfl
  rw [hent]
  clear hent
  unfold f_X0_isCarriedBy at h
  refine lv_aload_n hx hb dX0_isCarriedBy_0 rfl (lv_at hl 0 rfl) ?_
  refine lv_iload_n hx hb dX0_isCarriedBy_1 rfl (lv_at hl 1 rfl) ?_
  obtain ⟨z_4, e_z_4, h⟩ := bi h
  refine roVi (rest := []) ⟨hx, hb, hml, hown, ht⟩ (c_X0_weightOf l D cy fu A_a a_name a_courage a_weight a_medals a_stood a_fled a_liked a_votes a_count a_living a_pride a_quota a_melted a_lost x1 z_4 e_z_4) (cV ht mv_X0_weightOf tb_926 rfl rfl ⟨Nat.le_of_ble_eq_true rfl, Nat.le_of_ble_eq_true rfl⟩) (P_sub hP [0] rfl) hX rfl rfl rfl hl.1 rfl (Nat.le_of_ble_eq_true rfl) dX0_isCarriedBy_2 ⟨Nat.le_of_ble_eq_true rfl, Nat.le_of_ble_eq_true rfl⟩ ?_
  refine lv_bipush (v := 100) hx hb dX0_isCarriedBy_5 (by decide) ?_
  refine lv_imul hx hb dX0_isCarriedBy_7 ?_
  refine lv_aload_n hx hb dX0_isCarriedBy_8 rfl (lv_at hl 0 rfl) ?_
  refine xget (i := 0) (j := 0) (k := 11) (T := TX0) hx hb ht tb_iX0 hown hX hP rfl rfl rfl (by decide) tb_68 rfl dX0_isCarriedBy_9 ?_
  refine lv_aload_n hx hb dX0_isCarriedBy_12 rfl (lv_at hl 0 rfl) ?_
  refine lv_aload_n hx hb dX0_isCarriedBy_13 rfl (lv_at hl 0 rfl) ?_
  refine xget (i := 0) (j := 0) (k := 9) (T := TX0) hx hb ht tb_iX0 hown hX hP rfl rfl rfl (by decide) tb_61 rfl dX0_isCarriedBy_14 ?_
  obtain ⟨z_5, e_z_5, h⟩ := bi h
  refine roVi (rest := [.int a_quota, .int (z_4 * 100)]) ⟨hx, hb, hml, hown, ht⟩ (c_X0_weightOf l D cy fu A_a a_name a_courage a_weight a_medals a_stood a_fled a_liked a_votes a_count a_living a_pride a_quota a_melted a_lost a_living z_5 e_z_5) (cV ht mv_X0_weightOf tb_926 rfl rfl ⟨Nat.le_of_ble_eq_true rfl, Nat.le_of_ble_eq_true rfl⟩) (P_sub hP [0] rfl) hX rfl rfl rfl hl.1 rfl (Nat.le_of_ble_eq_true rfl) dX0_isCarriedBy_17 ⟨Nat.le_of_ble_eq_true rfl, Nat.le_of_ble_eq_true rfl⟩ ?_
  refine lv_imul hx hb dX0_isCarriedBy_20 ?_
  refine lv_icmp_le (tgt := 28) hx hb dX0_isCarriedBy_21 (by decide) (fun c_6 => ?_) (fun c_6 => ?_)
  · have h := it c_6 h
    refine lv_iconst (v := 0) hx hb dX0_isCarriedBy_28 (by decide) ?_
    cases h
    exact W.zret hx hb hr rfl (fun _ ht9 _ => ⟨_, rfl, rfl, ht9⟩) (fun _ hq => by cases hq) dX0_isCarriedBy_29
  · have h := ie c_6 h
    refine lv_iconst (v := 1) hx hb dX0_isCarriedBy_24 (by decide) ?_
    refine lv_goto (tgt := 29) hx hb dX0_isCarriedBy_25 (by decide) ?_
    cases h
    exact W.zret hx hb hr rfl (fun _ ht9 _ => ⟨_, rfl, rfl, ht9⟩) (fun _ hq => by cases hq) dX0_isCarriedBy_29

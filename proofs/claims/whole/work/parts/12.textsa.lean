theorem dJ0_coder_7d493_0 : decode cJ0_coder_7d493 0 = .ok (.getstatic 38, 3) := by decide +kernel
theorem dJ0_coder_7d493_3 : decode cJ0_coder_7d493 3 = .ok (.ifCond .eq 10, 3) := by decide +kernel
theorem dJ0_coder_7d493_6 : decode cJ0_coder_7d493 6 = .ok (.aload_n 0, 1) := by decide +kernel
theorem dJ0_coder_7d493_7 : decode cJ0_coder_7d493 7 = .ok (.getfield 15, 3) := by decide +kernel
theorem dJ0_coder_7d493_10 : decode cJ0_coder_7d493 10 = .ok (.goto 4, 3) := by decide +kernel
theorem dJ0_coder_7d493_13 : decode cJ0_coder_7d493 13 = .ok (.iconst 1, 1) := by decide +kernel
theorem dJ0_coder_7d493_14 : decode cJ0_coder_7d493 14 = .ok (.ireturn, 1) := by decide +kernel
theorem mv_J0_coder_7d493 : MV yJ0_coder_7d493 RJ0 cJ0_coder_7d493 1 (some .byte) 0 := ⟨tb_176, tb_174, tb_175, tb_6, by decide +kernel, by decide +kernel, by decide +kernel⟩
def f_J0_coder_7d493 (fu : Nat) (i0 : Nat) : Option (Int32) := (if (1 : Int32) = 0 then some (1) else some (0))
abbrev rm_J0_coder_7d493 : Room := { frames := 0, cells := 0, slots := 0, locals := 0 }
set_option maxHeartbeats 4000000 in
set_option maxRecDepth 100000 in
theorem c_J0_coder_7d493 (l : Launch) (D : va_G) (cy : Nat → ClassId) (fu : Nat) (tO : Nat) (aK aV : Nat → Nat) (i0 : Nat) (hi0 : i0 < 2) (res : Int32) (h : f_J0_coder_7d493 fu i0 = some res) : Met l yJ0_coder_7d493 (WW yJ0_coder_7d493 cJ0_coder_7d493 1 (some .byte)) rm_J0_coder_7d493 (RdX D cy tO aK aV [.ref (aK i0)] []) (vp_Si (fun v => v = res)) 0 0 (fun _ => False) := by
  refine Met.ofW (cc := cJ0_coder_7d493) (maxL := 1) (ret := (some .byte)) (by decide) rfl ?_
  intro p e s m args below meth c s₁ B hml hv
  obtain ⟨hargs, hP, hX, hE⟩ := hv
  have hx := B.exec
  have hb := B.bytes
  have hr := B.returns
  have ht : ∀ w ∈ lw_gd, w.before args s = true := fun w hw => atoms_spec (ws := WW yJ0_coder_7d493 cJ0_coder_7d493 1 (some .byte)) B.pre w (List.mem_cons_of_mem _ hw)
  have hown : s.vm.findClass RJ0 = some m.cls := findClass_of_methodNamed B.named
  have hlocks := B.notSynchronized
  have hP : PB D [] s.heap := hP
  have hS : va_S (fun _ => False) s.heap s.heap [] := va_S.rf
  obtain ⟨ls, hl, hent⟩ := ent (m := m) (n := 1) hargs (Nat.le_of_ble_eq_true rfl) (lv := [(0, .ref (aK i0))]) rfl
  rw [hent]
  clear hent
  unfold f_J0_coder_7d493 at h
  refine va_gets hx hb hE.2.2.2.2.1 hS hown (ht _ tb_177) (fun _ h9 => h9) dJ0_coder_7d493_0 ?_
  refine lv_if_eq (tgt := 13) hx hb dJ0_coder_7d493_3 (by decide) (fun c_2 => ?_) (fun c_2 => ?_)
  · have h := it c_2 h
    refine lv_iconst (v := 1) hx hb dJ0_coder_7d493_13 (by decide) ?_
    cases h
    exact W.zret hx hb hr rfl (fun _ ht9 _ => ⟨_, rfl, rfl, ht9⟩) (fun _ hq => by cases hq) dJ0_coder_7d493_14
  · have h := ie c_2 h
    refine lv_aload_n hx hb dJ0_coder_7d493_6 rfl (lv_at hl 0 rfl) ?_
    refine vk_getf (o := "java/lang/String") (n := "coder") (d := "B") hx hb (hE.2.2.2.1.1 i0 hi0).2.1 hS hown (ht _ tb_1922) (fun _ h9 => h9) dJ0_coder_7d493_7 ?_
    refine lv_goto (tgt := 14) hx hb dJ0_coder_7d493_10 (by decide) ?_
    cases h
    exact W.zret hx hb hr rfl (fun _ ht9 _ => ⟨_, rfl, rfl, ht9⟩) (fun _ hq => by cases hq) dJ0_coder_7d493_14
theorem dJ0_isLatin1_aae02_0 : decode cJ0_isLatin1_aae02 0 = .ok (.getstatic 38, 3) := by decide +kernel
theorem dJ0_isLatin1_aae02_3 : decode cJ0_isLatin1_aae02 3 = .ok (.ifCond .eq 14, 3) := by decide +kernel
theorem dJ0_isLatin1_aae02_6 : decode cJ0_isLatin1_aae02 6 = .ok (.aload_n 0, 1) := by decide +kernel
theorem dJ0_isLatin1_aae02_7 : decode cJ0_isLatin1_aae02 7 = .ok (.getfield 15, 3) := by decide +kernel
theorem dJ0_isLatin1_aae02_10 : decode cJ0_isLatin1_aae02 10 = .ok (.ifCond .ne 7, 3) := by decide +kernel
theorem dJ0_isLatin1_aae02_13 : decode cJ0_isLatin1_aae02 13 = .ok (.iconst 1, 1) := by decide +kernel
theorem dJ0_isLatin1_aae02_14 : decode cJ0_isLatin1_aae02 14 = .ok (.goto 4, 3) := by decide +kernel
theorem dJ0_isLatin1_aae02_17 : decode cJ0_isLatin1_aae02 17 = .ok (.iconst 0, 1) := by decide +kernel
theorem dJ0_isLatin1_aae02_18 : decode cJ0_isLatin1_aae02 18 = .ok (.ireturn, 1) := by decide +kernel
theorem mv_J0_isLatin1_aae02 : MV yJ0_isLatin1_aae02 RJ0 cJ0_isLatin1_aae02 1 (some .boolean) 0 := ⟨tb_186, tb_184, tb_185, tb_6, by decide +kernel, by decide +kernel, by decide +kernel⟩
def f_J0_isLatin1_aae02 (fu : Nat) (i0 : Nat) : Option (Int32) := (if (1 : Int32) = 0 then some (0) else (if (0 : Int32) = 0 then some (1) else some (0)))
abbrev rm_J0_isLatin1_aae02 : Room := { frames := 0, cells := 0, slots := 0, locals := 0 }
set_option maxHeartbeats 4000000 in
set_option maxRecDepth 100000 in
theorem c_J0_isLatin1_aae02 (l : Launch) (D : va_G) (cy : Nat → ClassId) (fu : Nat) (tO : Nat) (aK aV : Nat → Nat) (i0 : Nat) (hi0 : i0 < 2) (res : Int32) (h : f_J0_isLatin1_aae02 fu i0 = some res) : Met l yJ0_isLatin1_aae02 (WW yJ0_isLatin1_aae02 cJ0_isLatin1_aae02 1 (some .boolean)) rm_J0_isLatin1_aae02 (RdX D cy tO aK aV [.ref (aK i0)] []) (vp_Si (fun v => v = res)) 0 0 (fun _ => False) := by
  refine Met.ofW (cc := cJ0_isLatin1_aae02) (maxL := 1) (ret := (some .boolean)) (by decide) rfl ?_
  intro p e s m args below meth c s₁ B hml hv
  obtain ⟨hargs, hP, hX, hE⟩ := hv
  have hx := B.exec
  have hb := B.bytes
  have hr := B.returns
  have ht : ∀ w ∈ lw_gd, w.before args s = true := fun w hw => atoms_spec (ws := WW yJ0_isLatin1_aae02 cJ0_isLatin1_aae02 1 (some .boolean)) B.pre w (List.mem_cons_of_mem _ hw)
  have hown : s.vm.findClass RJ0 = some m.cls := findClass_of_methodNamed B.named
  have hlocks := B.notSynchronized
  have hP : PB D [] s.heap := hP
  have hS : va_S (fun _ => False) s.heap s.heap [] := va_S.rf
  obtain ⟨ls, hl, hent⟩ := ent (m := m) (n := 1) hargs (Nat.le_of_ble_eq_true rfl) (lv := [(0, .ref (aK i0))]) rfl
  rw [hent]
  clear hent
  unfold f_J0_isLatin1_aae02 at h
  refine va_gets hx hb hE.2.2.2.2.1 hS hown (ht _ tb_177) (fun _ h9 => h9) dJ0_isLatin1_aae02_0 ?_
  refine lv_if_eq (tgt := 17) hx hb dJ0_isLatin1_aae02_3 (by decide) (fun c_3 => ?_) (fun c_3 => ?_)
  · have h := it c_3 h
    refine lv_iconst (v := 0) hx hb dJ0_isLatin1_aae02_17 (by decide) ?_
    cases h
    exact W.zret hx hb hr rfl (fun _ ht9 _ => ⟨_, rfl, rfl, ht9⟩) (fun _ hq => by cases hq) dJ0_isLatin1_aae02_18
  · have h := ie c_3 h
    refine lv_aload_n hx hb dJ0_isLatin1_aae02_6 rfl (lv_at hl 0 rfl) ?_
    refine vk_getf (o := "java/lang/String") (n := "coder") (d := "B") hx hb (hE.2.2.2.1.1 i0 hi0).2.1 hS hown (ht _ tb_1922) (fun _ h9 => h9) dJ0_isLatin1_aae02_7 ?_
    refine lv_if_ne (tgt := 17) hx hb dJ0_isLatin1_aae02_10 (by decide) (fun c_4 => ?_) (fun c_4 => ?_)
    · have h := ie c_4 h
      refine lv_iconst (v := 0) hx hb dJ0_isLatin1_aae02_17 (by decide) ?_
      cases h
      exact W.zret hx hb hr rfl (fun _ ht9 _ => ⟨_, rfl, rfl, ht9⟩) (fun _ hq => by cases hq) dJ0_isLatin1_aae02_18
    · have h := it c_4 h
      refine lv_iconst (v := 1) hx hb dJ0_isLatin1_aae02_13 (by decide) ?_
      refine lv_goto (tgt := 18) hx hb dJ0_isLatin1_aae02_14 (by decide) ?_
      cases h
      exact W.zret hx hb hr rfl (fun _ ht9 _ => ⟨_, rfl, rfl, ht9⟩) (fun _ hq => by cases hq) dJ0_isLatin1_aae02_18
theorem dJ0_length_8abf5_0 : decode cJ0_length_8abf5 0 = .ok (.aload_n 0, 1) := by decide +kernel
theorem dJ0_length_8abf5_1 : decode cJ0_length_8abf5 1 = .ok (.getfield 9, 3) := by decide +kernel
theorem dJ0_length_8abf5_4 : decode cJ0_length_8abf5 4 = .ok (.arraylength, 1) := by decide +kernel
theorem dJ0_length_8abf5_5 : decode cJ0_length_8abf5 5 = .ok (.aload_n 0, 1) := by decide +kernel
theorem dJ0_length_8abf5_6 : decode cJ0_length_8abf5 6 = .ok (.invokevirtual 335, 3) := by decide +kernel
theorem dJ0_length_8abf5_9 : decode cJ0_length_8abf5 9 = .ok (.ishr, 1) := by decide +kernel
theorem dJ0_length_8abf5_10 : decode cJ0_length_8abf5 10 = .ok (.ireturn, 1) := by decide +kernel
theorem mv_J0_length_8abf5 : MV yJ0_length_8abf5 RJ0 cJ0_length_8abf5 1 (some .int) 0 := ⟨tb_172, tb_170, tb_171, tb_6, by decide +kernel, by decide +kernel, by decide +kernel⟩
def f_J0_length_8abf5 (fu : Nat) (i0 : Nat) : Option (Int32) := (f_J0_coder_7d493 fu i0).bind fun z_2 => some ((Int32.ofNat (strN i0)) >>> (z_2 &&& 31))
abbrev rm_J0_length_8abf5 : Room := { frames := 1, cells := 0, slots := 0, locals := 20 }
set_option maxHeartbeats 4000000 in
set_option maxRecDepth 100000 in
theorem c_J0_length_8abf5 (l : Launch) (D : va_G) (cy : Nat → ClassId) (fu : Nat) (tO : Nat) (aK aV : Nat → Nat) (i0 : Nat) (hi0 : i0 < 2) (res : Int32) (h : f_J0_length_8abf5 fu i0 = some res) : Met l yJ0_length_8abf5 (WW yJ0_length_8abf5 cJ0_length_8abf5 1 (some .int)) rm_J0_length_8abf5 (RdX D cy tO aK aV [.ref (aK i0)] []) (vp_Si (fun v => v = res)) 0 0 (fun _ => False) := by
  refine Met.ofW (cc := cJ0_length_8abf5) (maxL := 1) (ret := (some .int)) (by decide) rfl ?_
  intro p e s m args below meth c s₁ B hml hv
  obtain ⟨hargs, hP, hX, hE⟩ := hv
  have hx := B.exec
  have hb := B.bytes
  have hr := B.returns
  have ht : ∀ w ∈ lw_gd, w.before args s = true := fun w hw => atoms_spec (ws := WW yJ0_length_8abf5 cJ0_length_8abf5 1 (some .int)) B.pre w (List.mem_cons_of_mem _ hw)
  have hown : s.vm.findClass RJ0 = some m.cls := findClass_of_methodNamed B.named
  have hlocks := B.notSynchronized
  have hP : PB D [] s.heap := hP
  have hS : va_S (fun _ => False) s.heap s.heap [] := va_S.rf
  obtain ⟨ls, hl, hent⟩ := ent (m := m) (n := 1) hargs (Nat.le_of_ble_eq_true rfl) (lv := [(0, .ref (aK i0))]) rfl
  rw [hent]
  clear hent
  unfold f_J0_length_8abf5 at h
  refine lv_aload_n hx hb dJ0_length_8abf5_0 rfl (lv_at hl 0 rfl) ?_
  refine vk_getf (o := "java/lang/String") (n := "value") (d := "[B") hx hb (hE.2.2.2.1.1 i0 hi0).2.2.1 hS hown (ht _ tb_1921) (fun _ h9 => h9) dJ0_length_8abf5_1 ?_
  refine va_tlen (v := Int32.ofNat (strN i0)) hx hb (hE.2.2.2.1.1 i0 hi0).2.2.2 hS rfl dJ0_length_8abf5_4 ?_
  refine lv_aload_n hx hb dJ0_length_8abf5_5 rfl (lv_at hl 0 rfl) ?_
  obtain ⟨z_2, e_z_2, h⟩ := bi h
  refine roTiX (rest := [.int (Int32.ofNat (strN i0))]) ⟨hx, hb, hml, hown, ht⟩ (c_J0_coder_7d493 l D cy fu tO aK aV i0 hi0  z_2 e_z_2) (cV ht mv_J0_coder_7d493 tb_173 rfl rfl ⟨Nat.le_of_ble_eq_true rfl, Nat.le_of_ble_eq_true rfl⟩) (P_sub hP [] rfl) hX hE hS hi0 rfl hl.1 rfl (Nat.le_of_ble_eq_true rfl) dJ0_length_8abf5_6 ⟨Nat.le_of_ble_eq_true rfl, Nat.le_of_ble_eq_true rfl⟩ ?_
  refine lv_ishr hx hb dJ0_length_8abf5_9 ?_
  cases h
  exact W.iret hx hb hr (fun _ ht9 _ => ⟨_, rfl, rfl, ht9⟩) (fun _ hq => by cases hq) dJ0_length_8abf5_10
theorem dJ3_checkIndex_8e157_0 : decode cJ3_checkIndex_8e157 0 = .ok (.iload_n 0, 1) := by decide +kernel
theorem dJ3_checkIndex_8e157_1 : decode cJ3_checkIndex_8e157 1 = .ok (.ifCond .lt 8, 3) := by decide +kernel
theorem dJ3_checkIndex_8e157_4 : decode cJ3_checkIndex_8e157 4 = .ok (.iload_n 0, 1) := by decide +kernel
theorem dJ3_checkIndex_8e157_5 : decode cJ3_checkIndex_8e157 5 = .ok (.iload_n 1, 1) := by decide +kernel
theorem dJ3_checkIndex_8e157_6 : decode cJ3_checkIndex_8e157 6 = .ok (.if_icmp .lt 10, 3) := by decide +kernel
theorem dJ3_checkIndex_8e157_9 : decode cJ3_checkIndex_8e157 9 = .ok (.aload_n 2, 1) := by decide +kernel
theorem dJ3_checkIndex_8e157_10 : decode cJ3_checkIndex_8e157 10 = .ok (.iload_n 0, 1) := by decide +kernel
theorem dJ3_checkIndex_8e157_11 : decode cJ3_checkIndex_8e157 11 = .ok (.iload_n 1, 1) := by decide +kernel
theorem dJ3_checkIndex_8e157_12 : decode cJ3_checkIndex_8e157 12 = .ok (.invokestatic 95, 3) := by decide +kernel
theorem dJ3_checkIndex_8e157_15 : decode cJ3_checkIndex_8e157 15 = .ok (.athrow, 1) := by decide +kernel
theorem dJ3_checkIndex_8e157_16 : decode cJ3_checkIndex_8e157 16 = .ok (.iload_n 0, 1) := by decide +kernel
theorem dJ3_checkIndex_8e157_17 : decode cJ3_checkIndex_8e157 17 = .ok (.ireturn, 1) := by decide +kernel
theorem ms_J3_checkIndex_8e157 : MS yJ3_checkIndex_8e157 cJ3_checkIndex_8e157 3 (some .int) 3 := ⟨tb_197, tb_196, tb_8, by decide +kernel, by decide +kernel, by decide +kernel⟩
def f_J3_checkIndex_8e157_j9 (fu : Nat) (x0 : Int32) (x1 : Int32) : Option (Int32) := none
def f_J3_checkIndex_8e157 (fu : Nat) (x0 : Int32) (x1 : Int32) : Option (Int32) := (if x0 < 0 then f_J3_checkIndex_8e157_j9 fu x0 x1  else (if x0 < x1 then some (x0) else f_J3_checkIndex_8e157_j9 fu x0 x1 ))
abbrev rm_J3_checkIndex_8e157 : Room := { frames := 0, cells := 0, slots := 0, locals := 0 }
set_option maxHeartbeats 4000000 in
set_option maxRecDepth 100000 in
theorem c_J3_checkIndex_8e157 (l : Launch) (D : va_G) (cy : Nat → ClassId) (fu : Nat) (A_z : Nat) (x0 : Int32) (x1 : Int32) (res : Int32) (h : f_J3_checkIndex_8e157 fu x0 x1 = some res) : Met l yJ3_checkIndex_8e157 (WW yJ3_checkIndex_8e157 cJ3_checkIndex_8e157 3 (some .int)) rm_J3_checkIndex_8e157 (Rd D cy [.int x0, .int x1, .ref A_z] []) (vp_Si (fun v => v = res)) 0 0 (fun _ => False) := by
  refine Met.ofW (cc := cJ3_checkIndex_8e157) (maxL := 3) (ret := (some .int)) (by decide) rfl ?_
  intro p e s m args below meth c s₁ B hml hv
  obtain ⟨hargs, hP, hX⟩ := hv
  have hx := B.exec
  have hb := B.bytes
  have hr := B.returns
  have ht : ∀ w ∈ lw_gd, w.before args s = true := fun w hw => atoms_spec (ws := WW yJ3_checkIndex_8e157 cJ3_checkIndex_8e157 3 (some .int)) B.pre w (List.mem_cons_of_mem _ hw)
  have hown : s.vm.findClass RJ3 = some m.cls := findClass_of_methodNamed B.named
  have hlocks := B.notSynchronized
  have hP : PB D [] s.heap := hP
  obtain ⟨ls, hl, hent⟩ := ent (m := m) (n := 3) hargs (Nat.le_of_ble_eq_true rfl) (lv := [(0, .int x0), (1, .int x1), (2, .ref A_z)]) rfl
  rw [hent]
  clear hent
  have j9 : ∀ (ls : Array Slot), lv_has ls 3 [(0, .int x0), (1, .int x1), (2, .ref A_z)] → f_J3_checkIndex_8e157_j9 fu x0 x1 = some res → W p l e (headSpec (WW yJ3_checkIndex_8e157 cJ3_checkIndex_8e157 3 (some .int)) rm_J3_checkIndex_8e157).room s m args below meth c s.heap [] 0 0 (MQ below (vp_Si (fun v => v = res)) args s 0 0 (fun _ => False)) (F0 m 9 ls []) := by
    intro  ls hl h
    unfold f_J3_checkIndex_8e157_j9 at h
    refine lv_aload_n hx hb dJ3_checkIndex_8e157_9 rfl (lv_at hl 2 rfl) ?_
    refine lv_iload_n hx hb dJ3_checkIndex_8e157_10 rfl (lv_at hl 0 rfl) ?_
    refine lv_iload_n hx hb dJ3_checkIndex_8e157_11 rfl (lv_at hl 1 rfl) ?_
    cases h
  unfold f_J3_checkIndex_8e157 at h
  refine lv_iload_n hx hb dJ3_checkIndex_8e157_0 rfl (lv_at hl 0 rfl) ?_
  refine lv_if_lt (tgt := 9) hx hb dJ3_checkIndex_8e157_1 (by decide) (fun c_3 => ?_) (fun c_3 => ?_)
  · have h := it c_3 h
    exact j9  ls (lv_sub hl [0, 1, 2] rfl) h
  · have h := ie c_3 h
    refine lv_iload_n hx hb dJ3_checkIndex_8e157_4 rfl (lv_at hl 0 rfl) ?_
    refine lv_iload_n hx hb dJ3_checkIndex_8e157_5 rfl (lv_at hl 1 rfl) ?_
    refine lv_icmp_lt (tgt := 16) hx hb dJ3_checkIndex_8e157_6 (by decide) (fun c_4 => ?_) (fun c_4 => ?_)
    · have h := it c_4 h
      refine lv_iload_n hx hb dJ3_checkIndex_8e157_16 rfl (lv_at hl 0 rfl) ?_
      cases h
      exact W.iret hx hb hr (fun _ ht9 _ => ⟨_, rfl, rfl, ht9⟩) (fun _ hq => by cases hq) dJ3_checkIndex_8e157_17
    · have h := ie c_4 h
      exact j9  ls (lv_sub hl [0, 1, 2] rfl) h
abbrev rm_J3_checkIndex_8e157_n2 : Room := { frames := 0, cells := 0, slots := 0, locals := 0 }
set_option maxHeartbeats 4000000 in
set_option maxRecDepth 100000 in
theorem c_J3_checkIndex_8e157_n2 (l : Launch) (D : va_G) (cy : Nat → ClassId) (fu : Nat) (x0 : Int32) (x1 : Int32) (res : Int32) (h : f_J3_checkIndex_8e157 fu x0 x1 = some res) : Met l yJ3_checkIndex_8e157 (WW yJ3_checkIndex_8e157 cJ3_checkIndex_8e157 3 (some .int)) rm_J3_checkIndex_8e157_n2 (Rd D cy [.int x0, .int x1, .null] []) (vp_Si (fun v => v = res)) 0 0 (fun _ => False) := by
  refine Met.ofW (cc := cJ3_checkIndex_8e157) (maxL := 3) (ret := (some .int)) (by decide) rfl ?_
  intro p e s m args below meth c s₁ B hml hv
  obtain ⟨hargs, hP, hX⟩ := hv
  have hx := B.exec
  have hb := B.bytes
  have hr := B.returns
  have ht : ∀ w ∈ lw_gd, w.before args s = true := fun w hw => atoms_spec (ws := WW yJ3_checkIndex_8e157 cJ3_checkIndex_8e157 3 (some .int)) B.pre w (List.mem_cons_of_mem _ hw)
  have hown : s.vm.findClass RJ3 = some m.cls := findClass_of_methodNamed B.named
  have hlocks := B.notSynchronized
  have hP : PB D [] s.heap := hP
  obtain ⟨ls, hl, hent⟩ := ent (m := m) (n := 3) hargs (Nat.le_of_ble_eq_true rfl) (lv := [(0, .int x0), (1, .int x1), (2, .null)]) rfl
  rw [hent]
  clear hent
  have j9 : ∀ (ls : Array Slot), lv_has ls 3 [(0, .int x0), (1, .int x1), (2, .null)] → f_J3_checkIndex_8e157_j9 fu x0 x1 = some res → W p l e (headSpec (WW yJ3_checkIndex_8e157 cJ3_checkIndex_8e157 3 (some .int)) rm_J3_checkIndex_8e157_n2).room s m args below meth c s.heap [] 0 0 (MQ below (vp_Si (fun v => v = res)) args s 0 0 (fun _ => False)) (F0 m 9 ls []) := by
    intro  ls hl h
    unfold f_J3_checkIndex_8e157_j9 at h
    refine lv_aload_nN hx hb dJ3_checkIndex_8e157_9 rfl (lv_at hl 2 rfl) ?_
    refine lv_iload_n hx hb dJ3_checkIndex_8e157_10 rfl (lv_at hl 0 rfl) ?_
    refine lv_iload_n hx hb dJ3_checkIndex_8e157_11 rfl (lv_at hl 1 rfl) ?_
    cases h
  unfold f_J3_checkIndex_8e157 at h
  refine lv_iload_n hx hb dJ3_checkIndex_8e157_0 rfl (lv_at hl 0 rfl) ?_
  refine lv_if_lt (tgt := 9) hx hb dJ3_checkIndex_8e157_1 (by decide) (fun c_3 => ?_) (fun c_3 => ?_)
  · have h := it c_3 h
    exact j9  ls (lv_sub hl [0, 1, 2] rfl) h
  · have h := ie c_3 h
    refine lv_iload_n hx hb dJ3_checkIndex_8e157_4 rfl (lv_at hl 0 rfl) ?_
    refine lv_iload_n hx hb dJ3_checkIndex_8e157_5 rfl (lv_at hl 1 rfl) ?_
    refine lv_icmp_lt (tgt := 16) hx hb dJ3_checkIndex_8e157_6 (by decide) (fun c_4 => ?_) (fun c_4 => ?_)
    · have h := it c_4 h
      refine lv_iload_n hx hb dJ3_checkIndex_8e157_16 rfl (lv_at hl 0 rfl) ?_
      cases h
      exact W.iret hx hb hr (fun _ ht9 _ => ⟨_, rfl, rfl, ht9⟩) (fun _ hq => by cases hq) dJ3_checkIndex_8e157_17
    · have h := ie c_4 h
      exact j9  ls (lv_sub hl [0, 1, 2] rfl) h
theorem dJ0_checkIndex_df160_0 : decode cJ0_checkIndex_df160 0 = .ok (.iload_n 0, 1) := by decide +kernel
theorem dJ0_checkIndex_df160_1 : decode cJ0_checkIndex_df160 1 = .ok (.iload_n 1, 1) := by decide +kernel
theorem dJ0_checkIndex_df160_2 : decode cJ0_checkIndex_df160 2 = .ok (.getstatic 1053, 3) := by decide +kernel
theorem dJ0_checkIndex_df160_5 : decode cJ0_checkIndex_df160 5 = .ok (.invokestatic 1059, 3) := by decide +kernel
theorem dJ0_checkIndex_df160_8 : decode cJ0_checkIndex_df160 8 = .ok (.pop, 1) := by decide +kernel
theorem dJ0_checkIndex_df160_9 : decode cJ0_checkIndex_df160 9 = .ok (.return_, 1) := by decide +kernel
theorem ms_J0_checkIndex_df160 : MS yJ0_checkIndex_df160 cJ0_checkIndex_df160 2 none 2 := ⟨tb_192, tb_191, tb_6, by decide +kernel, by decide +kernel, by decide +kernel⟩
def f_J0_checkIndex_df160 (fu : Nat) (x0 : Int32) (x1 : Int32) : Option (Unit) := (f_J3_checkIndex_8e157 fu x0 x1).bind fun z_2 => some ()
abbrev rm_J0_checkIndex_df160 : Room := { frames := 1, cells := 0, slots := 0, locals := 22 }
set_option maxHeartbeats 4000000 in
set_option maxRecDepth 100000 in
theorem c_J0_checkIndex_df160 (l : Launch) (D : va_G) (cy : Nat → ClassId) (fu : Nat) (tO : Nat) (aK aV : Nat → Nat) (x0 : Int32) (x1 : Int32) (res : Unit) (h : f_J0_checkIndex_df160 fu x0 x1 = some res) : Met l yJ0_checkIndex_df160 (WW yJ0_checkIndex_df160 cJ0_checkIndex_df160 2 none) rm_J0_checkIndex_df160 (RdX D cy tO aK aV [.int x0, .int x1] []) (va_Sv (fun _ => True)) 0 0 (fun _ => False) := by
  refine Met.ofW (cc := cJ0_checkIndex_df160) (maxL := 2) (ret := none) (by decide) rfl ?_
  intro p e s m args below meth c s₁ B hml hv
  obtain ⟨hargs, hP, hX, hE⟩ := hv
  have hx := B.exec
  have hb := B.bytes
  have hr := B.returns
  have ht : ∀ w ∈ lw_gd, w.before args s = true := fun w hw => atoms_spec (ws := WW yJ0_checkIndex_df160 cJ0_checkIndex_df160 2 none) B.pre w (List.mem_cons_of_mem _ hw)
  have hown : s.vm.findClass RJ0 = some m.cls := findClass_of_methodNamed B.named
  have hlocks := B.notSynchronized
  have hP : PB D [] s.heap := hP
  have hS : va_S (fun _ => False) s.heap s.heap [] := va_S.rf
  obtain ⟨ls, hl, hent⟩ := ent (m := m) (n := 2) hargs (Nat.le_of_ble_eq_true rfl) (lv := [(0, .int x0), (1, .int x1)]) rfl
  rw [hent]
  clear hent
  unfold f_J0_checkIndex_df160 at h
  refine lv_iload_n hx hb dJ0_checkIndex_df160_0 rfl (lv_at hl 0 rfl) ?_
  refine lv_iload_n hx hb dJ0_checkIndex_df160_1 rfl (lv_at hl 1 rfl) ?_
  rcases hE.2.2.2.2.2.1 with hz | ⟨tz, hz⟩
  · refine va_gets hx hb hz hS hown (ht _ tb_193) (fun _ h9 => h9) dJ0_checkIndex_df160_2 ?_
    obtain ⟨z_2, e_z_2, h⟩ := bi h
    refine roSi (rest := []) ⟨hx, hb, hml, hown, ht⟩ (c_J3_checkIndex_8e157_n2 l D cy fu  x0 x1 z_2 e_z_2) (cS ht ms_J3_checkIndex_8e157 tb_195 rfl rfl ⟨Nat.le_of_ble_eq_true rfl, Nat.le_of_ble_eq_true rfl⟩) (P_sub hP [] rfl) hX rfl hl.1 rfl (Nat.le_of_ble_eq_true rfl) dJ0_checkIndex_df160_5 ⟨Nat.le_of_ble_eq_true rfl, Nat.le_of_ble_eq_true rfl⟩ ?_
    refine lv_pop hx hb dJ0_checkIndex_df160_8 rfl ?_
    cases h
    exact W.vret hx hb hr (fun _ ht9 _ => ⟨rfl, trivial, ht9⟩) (fun _ hq => by cases hq) dJ0_checkIndex_df160_9
  · refine va_gets hx hb hz hS hown (ht _ tb_193) (fun _ h9 => h9) dJ0_checkIndex_df160_2 ?_
    obtain ⟨z_2, e_z_2, h⟩ := bi h
    refine roSi (rest := []) ⟨hx, hb, hml, hown, ht⟩ (c_J3_checkIndex_8e157 l D cy fu tz  x0 x1 z_2 e_z_2) (cS ht ms_J3_checkIndex_8e157 tb_195 rfl rfl ⟨Nat.le_of_ble_eq_true rfl, Nat.le_of_ble_eq_true rfl⟩) (P_sub hP [] rfl) hX rfl hl.1 rfl (Nat.le_of_ble_eq_true rfl) dJ0_checkIndex_df160_5 ⟨Nat.le_of_ble_eq_true rfl, Nat.le_of_ble_eq_true rfl⟩ ?_
    refine lv_pop hx hb dJ0_checkIndex_df160_8 rfl ?_
    cases h
    exact W.vret hx hb hr (fun _ ht9 _ => ⟨rfl, trivial, ht9⟩) (fun _ hq => by cases hq) dJ0_checkIndex_df160_9
theorem dJ1_charAt_3b067_0 : decode cJ1_charAt_3b067 0 = .ok (.iload_n 1, 1) := by decide +kernel
theorem dJ1_charAt_3b067_1 : decode cJ1_charAt_3b067 1 = .ok (.aload_n 0, 1) := by decide +kernel
theorem dJ1_charAt_3b067_2 : decode cJ1_charAt_3b067 2 = .ok (.arraylength, 1) := by decide +kernel
theorem dJ1_charAt_3b067_3 : decode cJ1_charAt_3b067 3 = .ok (.invokestatic 9, 3) := by decide +kernel
theorem dJ1_charAt_3b067_6 : decode cJ1_charAt_3b067 6 = .ok (.aload_n 0, 1) := by decide +kernel
theorem dJ1_charAt_3b067_7 : decode cJ1_charAt_3b067 7 = .ok (.iload_n 1, 1) := by decide +kernel
theorem dJ1_charAt_3b067_8 : decode cJ1_charAt_3b067 8 = .ok (.baload, 1) := by decide +kernel
theorem dJ1_charAt_3b067_9 : decode cJ1_charAt_3b067 9 = .ok (.sipush 255, 3) := by decide +kernel
theorem dJ1_charAt_3b067_12 : decode cJ1_charAt_3b067 12 = .ok (.iand, 1) := by decide +kernel
theorem dJ1_charAt_3b067_13 : decode cJ1_charAt_3b067 13 = .ok (.i2c, 1) := by decide +kernel
theorem dJ1_charAt_3b067_14 : decode cJ1_charAt_3b067 14 = .ok (.ireturn, 1) := by decide +kernel
theorem ms_J1_charAt_3b067 : MS yJ1_charAt_3b067 cJ1_charAt_3b067 2 (some .char) 2 := ⟨tb_189, tb_188, tb_7, by decide +kernel, by decide +kernel, by decide +kernel⟩
def f_J1_charAt_3b067 (fu : Nat) (i0 : Nat) (x1 : Int32) : Option (Int32) := (f_J0_checkIndex_df160 fu x1 (Int32.ofNat (strN i0))).bind fun z_3 => (rdI (strF i0) (strN i0) x1).bind fun y_4 => some (((y_4 &&& 255).toUInt32 % 65536).toInt32)
abbrev rm_J1_charAt_3b067 : Room := { frames := 2, cells := 0, slots := 0, locals := 43 }
set_option maxHeartbeats 4000000 in
set_option maxRecDepth 100000 in
theorem c_J1_charAt_3b067 (l : Launch) (D : va_G) (cy : Nat → ClassId) (fu : Nat) (tO : Nat) (aK aV : Nat → Nat) (i0 : Nat) (hi0 : i0 < 2) (x1 : Int32) (res : Int32) (h : f_J1_charAt_3b067 fu i0 x1 = some res) : Met l yJ1_charAt_3b067 (WW yJ1_charAt_3b067 cJ1_charAt_3b067 2 (some .char)) rm_J1_charAt_3b067 (RdX D cy tO aK aV [.ref (aV i0), .int x1] []) (vp_Si (fun v => v = res)) 0 0 (fun _ => False) := by
  refine Met.ofW (cc := cJ1_charAt_3b067) (maxL := 2) (ret := (some .char)) (by decide) rfl ?_
  intro p e s m args below meth c s₁ B hml hv
  obtain ⟨hargs, hP, hX, hE⟩ := hv
  have hx := B.exec
  have hb := B.bytes
  have hr := B.returns
  have ht : ∀ w ∈ lw_gd, w.before args s = true := fun w hw => atoms_spec (ws := WW yJ1_charAt_3b067 cJ1_charAt_3b067 2 (some .char)) B.pre w (List.mem_cons_of_mem _ hw)
  have hown : s.vm.findClass RJ1 = some m.cls := findClass_of_methodNamed B.named
  have hlocks := B.notSynchronized
  have hP : PB D [] s.heap := hP
  have hS : va_S (fun _ => False) s.heap s.heap [] := va_S.rf
  obtain ⟨ls, hl, hent⟩ := ent (m := m) (n := 2) hargs (Nat.le_of_ble_eq_true rfl) (lv := [(0, .ref (aV i0)), (1, .int x1)]) rfl
  rw [hent]
  clear hent
  unfold f_J1_charAt_3b067 at h
  refine lv_iload_n hx hb dJ1_charAt_3b067_0 rfl (lv_at hl 1 rfl) ?_
  refine lv_aload_n hx hb dJ1_charAt_3b067_1 rfl (lv_at hl 0 rfl) ?_
  refine va_tlen (v := Int32.ofNat (strN i0)) hx hb (hE.2.2.2.1.1 i0 hi0).2.2.2 hS rfl dJ1_charAt_3b067_2 ?_
  obtain ⟨z_3, e_z_3, h⟩ := bi h
  refine roSvX (rest := []) ⟨hx, hb, hml, hown, ht⟩ (c_J0_checkIndex_df160 l D cy fu tO aK aV  x1 (Int32.ofNat (strN i0)) z_3 e_z_3) (cS ht ms_J0_checkIndex_df160 tb_190 rfl rfl ⟨Nat.le_of_ble_eq_true rfl, Nat.le_of_ble_eq_true rfl⟩) (P_sub hP [] rfl) hX hE hS rfl hl.1 rfl (Nat.le_of_ble_eq_true rfl) dJ1_charAt_3b067_3 ⟨Nat.le_of_ble_eq_true rfl, Nat.le_of_ble_eq_true rfl⟩ ?_
  refine lv_aload_n hx hb dJ1_charAt_3b067_6 rfl (lv_at hl 0 rfl) ?_
  refine lv_iload_n hx hb dJ1_charAt_3b067_7 rfl (lv_at hl 1 rfl) ?_
  obtain ⟨y_4, e_y_4, h⟩ := bi h
  refine xtb hx hb hE hS hi0 e_y_4 dJ1_charAt_3b067_8 ?_
  refine lv_sipush (v := 255) hx hb dJ1_charAt_3b067_9 (by decide) ?_
  refine lv_iand hx hb dJ1_charAt_3b067_12 ?_
  refine lv_i2c (v := ((y_4 &&& 255).toUInt32 % 65536).toInt32) hx hb dJ1_charAt_3b067_13 rfl ?_
  cases h
  exact W.zret hx hb hr (pk_nc _) (fun _ ht9 _ => ⟨_, rfl, rfl, ht9⟩) (fun _ hq => by cases hq) dJ1_charAt_3b067_14
theorem dJ0_charAt_5068e_0 : decode cJ0_charAt_5068e 0 = .ok (.aload_n 0, 1) := by decide +kernel
theorem dJ0_charAt_5068e_1 : decode cJ0_charAt_5068e 1 = .ok (.invokevirtual 492, 3) := by decide +kernel
theorem dJ0_charAt_5068e_4 : decode cJ0_charAt_5068e 4 = .ok (.ifCond .eq 12, 3) := by decide +kernel
theorem dJ0_charAt_5068e_7 : decode cJ0_charAt_5068e 7 = .ok (.aload_n 0, 1) := by decide +kernel
theorem dJ0_charAt_5068e_8 : decode cJ0_charAt_5068e 8 = .ok (.getfield 9, 3) := by decide +kernel
theorem dJ0_charAt_5068e_11 : decode cJ0_charAt_5068e 11 = .ok (.iload_n 1, 1) := by decide +kernel
theorem dJ0_charAt_5068e_12 : decode cJ0_charAt_5068e 12 = .ok (.invokestatic 495, 3) := by decide +kernel
theorem dJ0_charAt_5068e_15 : decode cJ0_charAt_5068e 15 = .ok (.ireturn, 1) := by decide +kernel
theorem dJ0_charAt_5068e_16 : decode cJ0_charAt_5068e 16 = .ok (.aload_n 0, 1) := by decide +kernel
theorem dJ0_charAt_5068e_17 : decode cJ0_charAt_5068e 17 = .ok (.getfield 9, 3) := by decide +kernel
theorem dJ0_charAt_5068e_20 : decode cJ0_charAt_5068e 20 = .ok (.iload_n 1, 1) := by decide +kernel
theorem dJ0_charAt_5068e_21 : decode cJ0_charAt_5068e 21 = .ok (.invokestatic 498, 3) := by decide +kernel
theorem dJ0_charAt_5068e_24 : decode cJ0_charAt_5068e 24 = .ok (.ireturn, 1) := by decide +kernel
theorem mv_J0_charAt_5068e : MV yJ0_charAt_5068e RJ0 cJ0_charAt_5068e 2 (some .char) 1 := ⟨tb_182, tb_180, tb_181, tb_6, by decide +kernel, by decide +kernel, by decide +kernel⟩
def f_J0_charAt_5068e (fu : Nat) (i0 : Nat) (x1 : Int32) : Option (Int32) := (f_J0_isLatin1_aae02 fu i0).bind fun z_5 => (if z_5 = 0 then none else (f_J1_charAt_3b067 fu i0 x1).bind fun z_7 => (cz z_7).bind fun _ => some (z_7))
abbrev rm_J0_charAt_5068e : Room := { frames := 3, cells := 0, slots := 0, locals := 64 }
set_option maxHeartbeats 4000000 in
set_option maxRecDepth 100000 in
theorem c_J0_charAt_5068e (l : Launch) (D : va_G) (cy : Nat → ClassId) (fu : Nat) (tO : Nat) (aK aV : Nat → Nat) (i0 : Nat) (hi0 : i0 < 2) (x1 : Int32) (res : Int32) (h : f_J0_charAt_5068e fu i0 x1 = some res) : Met l yJ0_charAt_5068e (WW yJ0_charAt_5068e cJ0_charAt_5068e 2 (some .char)) rm_J0_charAt_5068e (RdX D cy tO aK aV [.ref (aK i0), .int x1] []) (vp_Si (fun v => v = res)) 0 0 (fun _ => False) := by
  refine Met.ofW (cc := cJ0_charAt_5068e) (maxL := 2) (ret := (some .char)) (by decide) rfl ?_
  intro p e s m args below meth c s₁ B hml hv
  obtain ⟨hargs, hP, hX, hE⟩ := hv
  have hx := B.exec
  have hb := B.bytes
  have hr := B.returns
  have ht : ∀ w ∈ lw_gd, w.before args s = true := fun w hw => atoms_spec (ws := WW yJ0_charAt_5068e cJ0_charAt_5068e 2 (some .char)) B.pre w (List.mem_cons_of_mem _ hw)
  have hown : s.vm.findClass RJ0 = some m.cls := findClass_of_methodNamed B.named
  have hlocks := B.notSynchronized
  have hP : PB D [] s.heap := hP
  have hS : va_S (fun _ => False) s.heap s.heap [] := va_S.rf
  obtain ⟨ls, hl, hent⟩ := ent (m := m) (n := 2) hargs (Nat.le_of_ble_eq_true rfl) (lv := [(0, .ref (aK i0)), (1, .int x1)]) rfl
  rw [hent]
  clear hent
  unfold f_J0_charAt_5068e at h
  refine lv_aload_n hx hb dJ0_charAt_5068e_0 rfl (lv_at hl 0 rfl) ?_
  obtain ⟨z_5, e_z_5, h⟩ := bi h
  refine roTiX (rest := []) ⟨hx, hb, hml, hown, ht⟩ (c_J0_isLatin1_aae02 l D cy fu tO aK aV i0 hi0  z_5 e_z_5) (cV ht mv_J0_isLatin1_aae02 tb_183 rfl rfl ⟨Nat.le_of_ble_eq_true rfl, Nat.le_of_ble_eq_true rfl⟩) (P_sub hP [] rfl) hX hE hS hi0 rfl hl.1 rfl (Nat.le_of_ble_eq_true rfl) dJ0_charAt_5068e_1 ⟨Nat.le_of_ble_eq_true rfl, Nat.le_of_ble_eq_true rfl⟩ ?_
  refine lv_if_eq (tgt := 16) hx hb dJ0_charAt_5068e_4 (by decide) (fun c_6 => ?_) (fun c_6 => ?_)
  · have h := it c_6 h
    refine lv_aload_n hx hb dJ0_charAt_5068e_16 rfl (lv_at hl 0 rfl) ?_
    refine vk_getf (o := "java/lang/String") (n := "value") (d := "[B") hx hb (hE.2.2.2.1.1 i0 hi0).2.2.1 hS hown (ht _ tb_1921) (fun _ h9 => h9) dJ0_charAt_5068e_17 ?_
    refine lv_iload_n hx hb dJ0_charAt_5068e_20 rfl (lv_at hl 1 rfl) ?_
    cases h
  · have h := ie c_6 h
    refine lv_aload_n hx hb dJ0_charAt_5068e_7 rfl (lv_at hl 0 rfl) ?_
    refine vk_getf (o := "java/lang/String") (n := "value") (d := "[B") hx hb (hE.2.2.2.1.1 i0 hi0).2.2.1 hS hown (ht _ tb_1921) (fun _ h9 => h9) dJ0_charAt_5068e_8 ?_
    refine lv_iload_n hx hb dJ0_charAt_5068e_11 rfl (lv_at hl 1 rfl) ?_
    obtain ⟨z_7, e_z_7, h⟩ := bi h
    refine roSiX (rest := []) ⟨hx, hb, hml, hown, ht⟩ (c_J1_charAt_3b067 l D cy fu tO aK aV i0 hi0  x1 z_7 e_z_7) (cS ht ms_J1_charAt_3b067 tb_187 rfl rfl ⟨Nat.le_of_ble_eq_true rfl, Nat.le_of_ble_eq_true rfl⟩) (P_sub hP [] rfl) hX hE hS rfl hl.1 rfl (Nat.le_of_ble_eq_true rfl) dJ0_charAt_5068e_12 ⟨Nat.le_of_ble_eq_true rfl, Nat.le_of_ble_eq_true rfl⟩ ?_
    obtain ⟨b_8, e_b_8, h⟩ := bi h
    cases h
    exact W.zret hx hb hr (cz_ok e_b_8) (fun _ ht9 _ => ⟨_, rfl, rfl, ht9⟩) (fun _ hq => by cases hq) dJ0_charAt_5068e_15
theorem dX3_ordersOf_0 : decode cX3_ordersOf 0 = .ok (.iload_n 0, 1) := by decide +kernel
theorem dX3_ordersOf_1 : decode cX3_ordersOf 1 = .ok (.iconst 0, 1) := by decide +kernel
theorem dX3_ordersOf_2 : decode cX3_ordersOf 2 = .ok (.bipush 8, 2) := by decide +kernel
theorem dX3_ordersOf_4 : decode cX3_ordersOf 4 = .ok (.invokestatic 25, 3) := by decide +kernel
theorem dX3_ordersOf_7 : decode cX3_ordersOf 7 = .ok (.ifCond .eq 11, 3) := by decide +kernel
theorem dX3_ordersOf_10 : decode cX3_ordersOf 10 = .ok (.getstatic 29, 3) := by decide +kernel
theorem dX3_ordersOf_13 : decode cX3_ordersOf 13 = .ok (.iload_n 0, 1) := by decide +kernel
theorem dX3_ordersOf_14 : decode cX3_ordersOf 14 = .ok (.iaload, 1) := by decide +kernel
theorem dX3_ordersOf_15 : decode cX3_ordersOf 15 = .ok (.goto 4, 3) := by decide +kernel
theorem dX3_ordersOf_18 : decode cX3_ordersOf 18 = .ok (.iconst 1, 1) := by decide +kernel
theorem dX3_ordersOf_19 : decode cX3_ordersOf 19 = .ok (.ireturn, 1) := by decide +kernel
theorem ms_X3_ordersOf : MS yX3_ordersOf cX3_ordersOf 1 (some .int) 1 := ⟨tb_952, tb_951, tb_21, by decide +kernel, by decide +kernel, by decide +kernel⟩
def f_X3_ordersOf (fu : Nat) (x0 : Int32) : Option (Int32) := (f_X11_within fu x0 0 8).bind fun z_4 => (if z_4 = 0 then some (1) else (rdI ordF 9 x0).bind fun y_6 => some (y_6))
abbrev rm_X3_ordersOf : Room := { frames := 1, cells := 0, slots := 0, locals := 22 }
set_option maxHeartbeats 4000000 in
set_option maxRecDepth 100000 in
theorem c_X3_ordersOf (l : Launch) (D : va_G) (cy : Nat → ClassId) (fu : Nat) (tO : Nat) (aK aV : Nat → Nat) (x0 : Int32) (res : Int32) (h : f_X3_ordersOf fu x0 = some res) : Met l yX3_ordersOf (WW yX3_ordersOf cX3_ordersOf 1 (some .int)) rm_X3_ordersOf (RdX D cy tO aK aV [.int x0] []) (vp_Si (fun v => v = res)) 0 0 (fun _ => False) := by
  refine Met.ofW (cc := cX3_ordersOf) (maxL := 1) (ret := (some .int)) (by decide) rfl ?_
  intro p e s m args below meth c s₁ B hml hv
  obtain ⟨hargs, hP, hX, hE⟩ := hv
  have hx := B.exec
  have hb := B.bytes
  have hr := B.returns
  have ht : ∀ w ∈ lw_gd, w.before args s = true := fun w hw => atoms_spec (ws := WW yX3_ordersOf cX3_ordersOf 1 (some .int)) B.pre w (List.mem_cons_of_mem _ hw)
  have hown : s.vm.findClass RX3 = some m.cls := findClass_of_methodNamed B.named
  have hlocks := B.notSynchronized
  have hP : PB D [] s.heap := hP
  have hS : va_S (fun _ => False) s.heap s.heap [] := va_S.rf
  obtain ⟨ls, hl, hent⟩ := ent (m := m) (n := 1) hargs (Nat.le_of_ble_eq_true rfl) (lv := [(0, .int x0)]) rfl
  rw [hent]
  clear hent
  unfold f_X3_ordersOf at h
  refine lv_iload_n hx hb dX3_ordersOf_0 rfl (lv_at hl 0 rfl) ?_
  refine lv_iconst (v := 0) hx hb dX3_ordersOf_1 (by decide) ?_
  refine lv_bipush (v := 8) hx hb dX3_ordersOf_2 (by decide) ?_
  obtain ⟨z_4, e_z_4, h⟩ := bi h
  refine roNi (rest := []) ⟨hx, hb, hml, hown, ht⟩ (c_X11_within l D cy fu  x0 0 8 z_4 e_z_4) (cN ht hX ms_X11_within (List.mem_of_getElem? (i := 10) rfl) rfl rfl ⟨Nat.le_of_ble_eq_true rfl, Nat.le_of_ble_eq_true rfl⟩) (P_sub hP [] rfl) hX rfl hl.1 rfl (Nat.le_of_ble_eq_true rfl) dX3_ordersOf_4 ⟨Nat.le_of_ble_eq_true rfl, Nat.le_of_ble_eq_true rfl⟩ ?_
  refine lv_if_eq (tgt := 18) hx hb dX3_ordersOf_7 (by decide) (fun c_5 => ?_) (fun c_5 => ?_)
  · have h := it c_5 h
    refine lv_iconst (v := 1) hx hb dX3_ordersOf_18 (by decide) ?_
    cases h
    exact W.iret hx hb hr (fun _ ht9 _ => ⟨_, rfl, rfl, ht9⟩) (fun _ hq => by cases hq) dX3_ordersOf_19
  · have h := ie c_5 h
    refine va_getsN hx hb hE.1 hS hown (va_Nw.use rfl hE.2.2.1) (fun _ h9 => h9) dX3_ordersOf_10 ?_
    refine lv_iload_n hx hb dX3_ordersOf_13 rfl (lv_at hl 0 rfl) ?_
    obtain ⟨y_6, e_y_6, h⟩ := bi h
    refine xti hx hb hE hS e_y_6 dX3_ordersOf_14 ?_
    refine lv_goto (tgt := 19) hx hb dX3_ordersOf_15 (by decide) ?_
    cases h
    exact W.iret hx hb hr (fun _ ht9 _ => ⟨_, rfl, rfl, ht9⟩) (fun _ hq => by cases hq) dX3_ordersOf_19
theorem dJ6_bitCount_0f7a4_0 : decode cJ6_bitCount_0f7a4 0 = .ok (.iload_n 0, 1) := by decide +kernel
theorem dJ6_bitCount_0f7a4_1 : decode cJ6_bitCount_0f7a4 1 = .ok (.iload_n 0, 1) := by decide +kernel
theorem dJ6_bitCount_0f7a4_2 : decode cJ6_bitCount_0f7a4 2 = .ok (.iconst 1, 1) := by decide +kernel
theorem dJ6_bitCount_0f7a4_3 : decode cJ6_bitCount_0f7a4 3 = .ok (.iushr, 1) := by decide +kernel
theorem dJ6_bitCount_0f7a4_4 : decode cJ6_bitCount_0f7a4 4 = .ok (.ldc_w 265, 3) := by decide +kernel
theorem dJ6_bitCount_0f7a4_7 : decode cJ6_bitCount_0f7a4 7 = .ok (.iand, 1) := by decide +kernel
theorem dJ6_bitCount_0f7a4_8 : decode cJ6_bitCount_0f7a4 8 = .ok (.isub, 1) := by decide +kernel
theorem dJ6_bitCount_0f7a4_9 : decode cJ6_bitCount_0f7a4 9 = .ok (.istore_n 0, 1) := by decide +kernel
theorem dJ6_bitCount_0f7a4_10 : decode cJ6_bitCount_0f7a4 10 = .ok (.iload_n 0, 1) := by decide +kernel
theorem dJ6_bitCount_0f7a4_11 : decode cJ6_bitCount_0f7a4 11 = .ok (.ldc_w 266, 3) := by decide +kernel
theorem dJ6_bitCount_0f7a4_14 : decode cJ6_bitCount_0f7a4 14 = .ok (.iand, 1) := by decide +kernel
theorem dJ6_bitCount_0f7a4_15 : decode cJ6_bitCount_0f7a4 15 = .ok (.iload_n 0, 1) := by decide +kernel
theorem dJ6_bitCount_0f7a4_16 : decode cJ6_bitCount_0f7a4 16 = .ok (.iconst 2, 1) := by decide +kernel
theorem dJ6_bitCount_0f7a4_17 : decode cJ6_bitCount_0f7a4 17 = .ok (.iushr, 1) := by decide +kernel
theorem dJ6_bitCount_0f7a4_18 : decode cJ6_bitCount_0f7a4 18 = .ok (.ldc_w 266, 3) := by decide +kernel
theorem dJ6_bitCount_0f7a4_21 : decode cJ6_bitCount_0f7a4 21 = .ok (.iand, 1) := by decide +kernel
theorem dJ6_bitCount_0f7a4_22 : decode cJ6_bitCount_0f7a4 22 = .ok (.iadd, 1) := by decide +kernel
theorem dJ6_bitCount_0f7a4_23 : decode cJ6_bitCount_0f7a4 23 = .ok (.istore_n 0, 1) := by decide +kernel
theorem dJ6_bitCount_0f7a4_24 : decode cJ6_bitCount_0f7a4 24 = .ok (.iload_n 0, 1) := by decide +kernel
theorem dJ6_bitCount_0f7a4_25 : decode cJ6_bitCount_0f7a4 25 = .ok (.iload_n 0, 1) := by decide +kernel
theorem dJ6_bitCount_0f7a4_26 : decode cJ6_bitCount_0f7a4 26 = .ok (.iconst 4, 1) := by decide +kernel
theorem dJ6_bitCount_0f7a4_27 : decode cJ6_bitCount_0f7a4 27 = .ok (.iushr, 1) := by decide +kernel
theorem dJ6_bitCount_0f7a4_28 : decode cJ6_bitCount_0f7a4 28 = .ok (.iadd, 1) := by decide +kernel
theorem dJ6_bitCount_0f7a4_29 : decode cJ6_bitCount_0f7a4 29 = .ok (.ldc_w 267, 3) := by decide +kernel
theorem dJ6_bitCount_0f7a4_32 : decode cJ6_bitCount_0f7a4 32 = .ok (.iand, 1) := by decide +kernel
theorem dJ6_bitCount_0f7a4_33 : decode cJ6_bitCount_0f7a4 33 = .ok (.istore_n 0, 1) := by decide +kernel
theorem dJ6_bitCount_0f7a4_34 : decode cJ6_bitCount_0f7a4 34 = .ok (.iload_n 0, 1) := by decide +kernel
theorem dJ6_bitCount_0f7a4_35 : decode cJ6_bitCount_0f7a4 35 = .ok (.iload_n 0, 1) := by decide +kernel
theorem dJ6_bitCount_0f7a4_36 : decode cJ6_bitCount_0f7a4 36 = .ok (.bipush 8, 2) := by decide +kernel
theorem dJ6_bitCount_0f7a4_38 : decode cJ6_bitCount_0f7a4 38 = .ok (.iushr, 1) := by decide +kernel
theorem dJ6_bitCount_0f7a4_39 : decode cJ6_bitCount_0f7a4 39 = .ok (.iadd, 1) := by decide +kernel
theorem dJ6_bitCount_0f7a4_40 : decode cJ6_bitCount_0f7a4 40 = .ok (.istore_n 0, 1) := by decide +kernel
theorem dJ6_bitCount_0f7a4_41 : decode cJ6_bitCount_0f7a4 41 = .ok (.iload_n 0, 1) := by decide +kernel
theorem dJ6_bitCount_0f7a4_42 : decode cJ6_bitCount_0f7a4 42 = .ok (.iload_n 0, 1) := by decide +kernel
theorem dJ6_bitCount_0f7a4_43 : decode cJ6_bitCount_0f7a4 43 = .ok (.bipush 16, 2) := by decide +kernel
theorem dJ6_bitCount_0f7a4_45 : decode cJ6_bitCount_0f7a4 45 = .ok (.iushr, 1) := by decide +kernel
theorem dJ6_bitCount_0f7a4_46 : decode cJ6_bitCount_0f7a4 46 = .ok (.iadd, 1) := by decide +kernel
theorem dJ6_bitCount_0f7a4_47 : decode cJ6_bitCount_0f7a4 47 = .ok (.istore_n 0, 1) := by decide +kernel
theorem dJ6_bitCount_0f7a4_48 : decode cJ6_bitCount_0f7a4 48 = .ok (.iload_n 0, 1) := by decide +kernel
theorem dJ6_bitCount_0f7a4_49 : decode cJ6_bitCount_0f7a4 49 = .ok (.bipush 63, 2) := by decide +kernel
theorem dJ6_bitCount_0f7a4_51 : decode cJ6_bitCount_0f7a4 51 = .ok (.iand, 1) := by decide +kernel
theorem dJ6_bitCount_0f7a4_52 : decode cJ6_bitCount_0f7a4 52 = .ok (.ireturn, 1) := by decide +kernel
theorem ms_J6_bitCount_0f7a4 : MS yJ6_bitCount_0f7a4 cJ6_bitCount_0f7a4 1 (some .int) 1 := ⟨tb_854, tb_853, tb_20, by decide +kernel, by decide +kernel, by decide +kernel⟩
def f_J6_bitCount_0f7a4 (fu : Nat) (x0 : Int32) : Option (Int32) := bnd (x0 - (((x0.toUInt32 >>> ((1 : Int32).toUInt32 &&& Int32.toUInt32 31)).toInt32) &&& 1431655765)) fun x0_6 => bnd ((x0_6 &&& 858993459) + (((x0_6.toUInt32 >>> ((2 : Int32).toUInt32 &&& Int32.toUInt32 31)).toInt32) &&& 858993459)) fun x0_7 => bnd ((x0_7 + ((x0_7.toUInt32 >>> ((4 : Int32).toUInt32 &&& Int32.toUInt32 31)).toInt32)) &&& 252645135) fun x0_8 => bnd (x0_8 + ((x0_8.toUInt32 >>> ((8 : Int32).toUInt32 &&& Int32.toUInt32 31)).toInt32)) fun x0_9 => bnd (x0_9 + ((x0_9.toUInt32 >>> ((16 : Int32).toUInt32 &&& Int32.toUInt32 31)).toInt32)) fun x0_10 => some (x0_10 &&& 63)
abbrev rm_J6_bitCount_0f7a4 : Room := { frames := 0, cells := 0, slots := 0, locals := 0 }
set_option maxHeartbeats 4000000 in
set_option maxRecDepth 100000 in
theorem c_J6_bitCount_0f7a4 (l : Launch) (D : va_G) (cy : Nat → ClassId) (fu : Nat) (x0 : Int32) (res : Int32) (h : f_J6_bitCount_0f7a4 fu x0 = some res) : Met l yJ6_bitCount_0f7a4 (WW yJ6_bitCount_0f7a4 cJ6_bitCount_0f7a4 1 (some .int)) rm_J6_bitCount_0f7a4 (Rd D cy [.int x0] []) (vp_Si (fun v => v = res)) 0 0 (fun _ => False) := by
  refine Met.ofW (cc := cJ6_bitCount_0f7a4) (maxL := 1) (ret := (some .int)) (by decide) rfl ?_
  intro p e s m args below meth c s₁ B hml hv
  obtain ⟨hargs, hP, hX⟩ := hv
  have hx := B.exec
  have hb := B.bytes
  have hr := B.returns
  have ht : ∀ w ∈ lw_gd, w.before args s = true := fun w hw => atoms_spec (ws := WW yJ6_bitCount_0f7a4 cJ6_bitCount_0f7a4 1 (some .int)) B.pre w (List.mem_cons_of_mem _ hw)
  have hown : s.vm.findClass RJ6 = some m.cls := findClass_of_methodNamed B.named
  have hlocks := B.notSynchronized
  have hP : PB D [] s.heap := hP
  obtain ⟨ls, hl, hent⟩ := ent (m := m) (n := 1) hargs (Nat.le_of_ble_eq_true rfl) (lv := [(0, .int x0)]) rfl
  rw [hent]
  clear hent
  unfold f_J6_bitCount_0f7a4 at h
  refine lv_iload_n hx hb dJ6_bitCount_0f7a4_0 rfl (lv_at hl 0 rfl) ?_
  refine lv_iload_n hx hb dJ6_bitCount_0f7a4_1 rfl (lv_at hl 0 rfl) ?_
  refine lv_iconst (v := 1) hx hb dJ6_bitCount_0f7a4_2 (by decide) ?_
  refine lv_iushr (v := (x0.toUInt32 >>> ((1 : Int32).toUInt32 &&& Int32.toUInt32 31)).toInt32) hx hb dJ6_bitCount_0f7a4_3 rfl ?_
  refine lv_ldcw (v := 1431655765) hx hb hown (ht _ tb_855) dJ6_bitCount_0f7a4_4 ?_
  refine lv_iand hx hb dJ6_bitCount_0f7a4_7 ?_
  refine lv_isub hx hb dJ6_bitCount_0f7a4_8 ?_
  refine lv_topi (fun x0_6 e_x0_6 => ?_)
  have h := bn e_x0_6 h
  refine lv_istore_n (lv' := [(0, .int x0_6)]) hx hb dJ6_bitCount_0f7a4_9 rfl hl (by decide) rfl (fun ls hl => ?_)
  refine lv_iload_n hx hb dJ6_bitCount_0f7a4_10 rfl (lv_at hl 0 rfl) ?_
  refine lv_ldcw (v := 858993459) hx hb hown (ht _ tb_856) dJ6_bitCount_0f7a4_11 ?_
  refine lv_iand hx hb dJ6_bitCount_0f7a4_14 ?_
  refine lv_iload_n hx hb dJ6_bitCount_0f7a4_15 rfl (lv_at hl 0 rfl) ?_
  refine lv_iconst (v := 2) hx hb dJ6_bitCount_0f7a4_16 (by decide) ?_
  refine lv_iushr (v := (x0_6.toUInt32 >>> ((2 : Int32).toUInt32 &&& Int32.toUInt32 31)).toInt32) hx hb dJ6_bitCount_0f7a4_17 rfl ?_
  refine lv_ldcw (v := 858993459) hx hb hown (ht _ tb_856) dJ6_bitCount_0f7a4_18 ?_
  refine lv_iand hx hb dJ6_bitCount_0f7a4_21 ?_
  refine lv_iadd hx hb dJ6_bitCount_0f7a4_22 ?_
  refine lv_topi (fun x0_7 e_x0_7 => ?_)
  have h := bn e_x0_7 h
  refine lv_istore_n (lv' := [(0, .int x0_7)]) hx hb dJ6_bitCount_0f7a4_23 rfl hl (by decide) rfl (fun ls hl => ?_)
  refine lv_iload_n hx hb dJ6_bitCount_0f7a4_24 rfl (lv_at hl 0 rfl) ?_
  refine lv_iload_n hx hb dJ6_bitCount_0f7a4_25 rfl (lv_at hl 0 rfl) ?_
  refine lv_iconst (v := 4) hx hb dJ6_bitCount_0f7a4_26 (by decide) ?_
  refine lv_iushr (v := (x0_7.toUInt32 >>> ((4 : Int32).toUInt32 &&& Int32.toUInt32 31)).toInt32) hx hb dJ6_bitCount_0f7a4_27 rfl ?_
  refine lv_iadd hx hb dJ6_bitCount_0f7a4_28 ?_
  refine lv_ldcw (v := 252645135) hx hb hown (ht _ tb_857) dJ6_bitCount_0f7a4_29 ?_
  refine lv_iand hx hb dJ6_bitCount_0f7a4_32 ?_
  refine lv_topi (fun x0_8 e_x0_8 => ?_)
  have h := bn e_x0_8 h
  refine lv_istore_n (lv' := [(0, .int x0_8)]) hx hb dJ6_bitCount_0f7a4_33 rfl hl (by decide) rfl (fun ls hl => ?_)
  refine lv_iload_n hx hb dJ6_bitCount_0f7a4_34 rfl (lv_at hl 0 rfl) ?_
  refine lv_iload_n hx hb dJ6_bitCount_0f7a4_35 rfl (lv_at hl 0 rfl) ?_
  refine lv_bipush (v := 8) hx hb dJ6_bitCount_0f7a4_36 (by decide) ?_
  refine lv_iushr (v := (x0_8.toUInt32 >>> ((8 : Int32).toUInt32 &&& Int32.toUInt32 31)).toInt32) hx hb dJ6_bitCount_0f7a4_38 rfl ?_
  refine lv_iadd hx hb dJ6_bitCount_0f7a4_39 ?_
  refine lv_topi (fun x0_9 e_x0_9 => ?_)
  have h := bn e_x0_9 h
  refine lv_istore_n (lv' := [(0, .int x0_9)]) hx hb dJ6_bitCount_0f7a4_40 rfl hl (by decide) rfl (fun ls hl => ?_)
  refine lv_iload_n hx hb dJ6_bitCount_0f7a4_41 rfl (lv_at hl 0 rfl) ?_
  refine lv_iload_n hx hb dJ6_bitCount_0f7a4_42 rfl (lv_at hl 0 rfl) ?_
  refine lv_bipush (v := 16) hx hb dJ6_bitCount_0f7a4_43 (by decide) ?_
  refine lv_iushr (v := (x0_9.toUInt32 >>> ((16 : Int32).toUInt32 &&& Int32.toUInt32 31)).toInt32) hx hb dJ6_bitCount_0f7a4_45 rfl ?_
  refine lv_iadd hx hb dJ6_bitCount_0f7a4_46 ?_
  refine lv_topi (fun x0_10 e_x0_10 => ?_)
  have h := bn e_x0_10 h
  refine lv_istore_n (lv' := [(0, .int x0_10)]) hx hb dJ6_bitCount_0f7a4_47 rfl hl (by decide) rfl (fun ls hl => ?_)
  refine lv_iload_n hx hb dJ6_bitCount_0f7a4_48 rfl (lv_at hl 0 rfl) ?_
  refine lv_bipush (v := 63) hx hb dJ6_bitCount_0f7a4_49 (by decide) ?_
  refine lv_iand hx hb dJ6_bitCount_0f7a4_51 ?_
  cases h
  exact W.iret hx hb hr (fun _ ht9 _ => ⟨_, rfl, rfl, ht9⟩) (fun _ hq => by cases hq) dJ6_bitCount_0f7a4_52
theorem dX3_ordersCarriedBy_0 : decode cX3_ordersCarriedBy 0 = .ok (.aload_n 0, 1) := by decide +kernel
theorem dX3_ordersCarriedBy_1 : decode cX3_ordersCarriedBy 1 = .ok (.getfield 9, 3) := by decide +kernel
theorem dX3_ordersCarriedBy_4 : decode cX3_ordersCarriedBy 4 = .ok (.iconst 1, 1) := by decide +kernel
theorem dX3_ordersCarriedBy_5 : decode cX3_ordersCarriedBy 5 = .ok (.iload_n 1, 1) := by decide +kernel
theorem dX3_ordersCarriedBy_6 : decode cX3_ordersCarriedBy 6 = .ok (.ishl, 1) := by decide +kernel
theorem dX3_ordersCarriedBy_7 : decode cX3_ordersCarriedBy 7 = .ok (.iconst (-1), 1) := by decide +kernel
theorem dX3_ordersCarriedBy_8 : decode cX3_ordersCarriedBy 8 = .ok (.ixor, 1) := by decide +kernel
theorem dX3_ordersCarriedBy_9 : decode cX3_ordersCarriedBy 9 = .ok (.iand, 1) := by decide +kernel
theorem dX3_ordersCarriedBy_10 : decode cX3_ordersCarriedBy 10 = .ok (.istore_n 2, 1) := by decide +kernel
theorem dX3_ordersCarriedBy_11 : decode cX3_ordersCarriedBy 11 = .ok (.iload_n 2, 1) := by decide +kernel
theorem dX3_ordersCarriedBy_12 : decode cX3_ordersCarriedBy 12 = .ok (.invokestatic 15, 3) := by decide +kernel
theorem dX3_ordersCarriedBy_15 : decode cX3_ordersCarriedBy 15 = .ok (.istore_n 3, 1) := by decide +kernel
theorem dX3_ordersCarriedBy_16 : decode cX3_ordersCarriedBy 16 = .ok (.iconst 0, 1) := by decide +kernel
theorem dX3_ordersCarriedBy_17 : decode cX3_ordersCarriedBy 17 = .ok (.istore 4, 2) := by decide +kernel
theorem dX3_ordersCarriedBy_19 : decode cX3_ordersCarriedBy 19 = .ok (.iconst 0, 1) := by decide +kernel
theorem dX3_ordersCarriedBy_20 : decode cX3_ordersCarriedBy 20 = .ok (.istore 5, 2) := by decide +kernel
theorem dX3_ordersCarriedBy_22 : decode cX3_ordersCarriedBy 22 = .ok (.iload 5, 2) := by decide +kernel
theorem dX3_ordersCarriedBy_24 : decode cX3_ordersCarriedBy 24 = .ok (.iload_n 2, 1) := by decide +kernel
theorem dX3_ordersCarriedBy_25 : decode cX3_ordersCarriedBy 25 = .ok (.if_icmp .gt 77, 3) := by decide +kernel
theorem dX3_ordersCarriedBy_28 : decode cX3_ordersCarriedBy 28 = .ok (.iload 5, 2) := by decide +kernel
theorem dX3_ordersCarriedBy_30 : decode cX3_ordersCarriedBy 30 = .ok (.iload_n 2, 1) := by decide +kernel
theorem dX3_ordersCarriedBy_31 : decode cX3_ordersCarriedBy 31 = .ok (.iconst (-1), 1) := by decide +kernel
theorem dX3_ordersCarriedBy_32 : decode cX3_ordersCarriedBy 32 = .ok (.ixor, 1) := by decide +kernel
theorem dX3_ordersCarriedBy_33 : decode cX3_ordersCarriedBy 33 = .ok (.iand, 1) := by decide +kernel
theorem dX3_ordersCarriedBy_34 : decode cX3_ordersCarriedBy 34 = .ok (.ifCond .ne 7, 3) := by decide +kernel
theorem dX3_ordersCarriedBy_37 : decode cX3_ordersCarriedBy 37 = .ok (.iconst 1, 1) := by decide +kernel
theorem dX3_ordersCarriedBy_38 : decode cX3_ordersCarriedBy 38 = .ok (.goto 4, 3) := by decide +kernel
theorem dX3_ordersCarriedBy_41 : decode cX3_ordersCarriedBy 41 = .ok (.iconst 0, 1) := by decide +kernel
theorem dX3_ordersCarriedBy_42 : decode cX3_ordersCarriedBy 42 = .ok (.istore 6, 2) := by decide +kernel
theorem dX3_ordersCarriedBy_44 : decode cX3_ordersCarriedBy 44 = .ok (.iload 6, 2) := by decide +kernel
theorem dX3_ordersCarriedBy_46 : decode cX3_ordersCarriedBy 46 = .ok (.ifCond .eq 50, 3) := by decide +kernel
theorem dX3_ordersCarriedBy_49 : decode cX3_ordersCarriedBy 49 = .ok (.aload_n 0, 1) := by decide +kernel
theorem dX3_ordersCarriedBy_50 : decode cX3_ordersCarriedBy 50 = .ok (.iload 5, 2) := by decide +kernel
theorem dX3_ordersCarriedBy_52 : decode cX3_ordersCarriedBy 52 = .ok (.invokevirtual 21, 3) := by decide +kernel
theorem dX3_ordersCarriedBy_55 : decode cX3_ordersCarriedBy 55 = .ok (.ifCond .ne 41, 3) := by decide +kernel
theorem dX3_ordersCarriedBy_58 : decode cX3_ordersCarriedBy 58 = .ok (.aload_n 0, 1) := by decide +kernel
theorem dX3_ordersCarriedBy_59 : decode cX3_ordersCarriedBy 59 = .ok (.iload 5, 2) := by decide +kernel
theorem dX3_ordersCarriedBy_61 : decode cX3_ordersCarriedBy 61 = .ok (.iconst 1, 1) := by decide +kernel
theorem dX3_ordersCarriedBy_62 : decode cX3_ordersCarriedBy 62 = .ok (.iload_n 1, 1) := by decide +kernel
theorem dX3_ordersCarriedBy_63 : decode cX3_ordersCarriedBy 63 = .ok (.ishl, 1) := by decide +kernel
theorem dX3_ordersCarriedBy_64 : decode cX3_ordersCarriedBy 64 = .ok (.ior, 1) := by decide +kernel
theorem dX3_ordersCarriedBy_65 : decode cX3_ordersCarriedBy 65 = .ok (.invokevirtual 21, 3) := by decide +kernel
theorem dX3_ordersCarriedBy_68 : decode cX3_ordersCarriedBy 68 = .ok (.ifCond .eq 28, 3) := by decide +kernel
theorem dX3_ordersCarriedBy_71 : decode cX3_ordersCarriedBy 71 = .ok (.iload 5, 2) := by decide +kernel
theorem dX3_ordersCarriedBy_73 : decode cX3_ordersCarriedBy 73 = .ok (.invokestatic 15, 3) := by decide +kernel
theorem dX3_ordersCarriedBy_76 : decode cX3_ordersCarriedBy 76 = .ok (.istore 7, 2) := by decide +kernel
theorem dX3_ordersCarriedBy_78 : decode cX3_ordersCarriedBy 78 = .ok (.iload 4, 2) := by decide +kernel
theorem dX3_ordersCarriedBy_80 : decode cX3_ordersCarriedBy 80 = .ok (.iload 7, 2) := by decide +kernel
theorem dX3_ordersCarriedBy_82 : decode cX3_ordersCarriedBy 82 = .ok (.invokestatic 33, 3) := by decide +kernel
theorem dX3_ordersCarriedBy_85 : decode cX3_ordersCarriedBy 85 = .ok (.iload_n 3, 1) := by decide +kernel
theorem dX3_ordersCarriedBy_86 : decode cX3_ordersCarriedBy 86 = .ok (.iload 7, 2) := by decide +kernel
theorem dX3_ordersCarriedBy_88 : decode cX3_ordersCarriedBy 88 = .ok (.isub, 1) := by decide +kernel
theorem dX3_ordersCarriedBy_89 : decode cX3_ordersCarriedBy 89 = .ok (.invokestatic 33, 3) := by decide +kernel
theorem dX3_ordersCarriedBy_92 : decode cX3_ordersCarriedBy 92 = .ok (.imul, 1) := by decide +kernel
theorem dX3_ordersCarriedBy_93 : decode cX3_ordersCarriedBy 93 = .ok (.iadd, 1) := by decide +kernel
theorem dX3_ordersCarriedBy_94 : decode cX3_ordersCarriedBy 94 = .ok (.istore 4, 2) := by decide +kernel
theorem dX3_ordersCarriedBy_96 : decode cX3_ordersCarriedBy 96 = .ok (.iinc 5 1, 3) := by decide +kernel
theorem dX3_ordersCarriedBy_99 : decode cX3_ordersCarriedBy 99 = .ok (.goto (-77), 3) := by decide +kernel
theorem dX3_ordersCarriedBy_102 : decode cX3_ordersCarriedBy 102 = .ok (.iload 4, 2) := by decide +kernel
theorem dX3_ordersCarriedBy_104 : decode cX3_ordersCarriedBy 104 = .ok (.ireturn, 1) := by decide +kernel
theorem ms_X3_ordersCarriedBy : MS yX3_ordersCarriedBy cX3_ordersCarriedBy 8 (some .int) 2 := ⟨tb_949, tb_948, tb_21, by decide +kernel, by decide +kernel, by decide +kernel⟩
def f_X3_ordersCarriedBy_j42 (fu : Nat) (a_weight : Nat → Int32) (a_count : Int32) (a_living : Int32) (a_quota : Int32) (x1 : Int32) (k22 : Int32 → Int32 → Int32 → Int32 → Option (Int32)) (x2 : Int32) (x3 : Int32) (x4 : Int32) (x5 : Int32) (s0 : Int32) : Option (Int32) := (if s0 = 0 then bnd (x5 + 1) fun x5_19 => k22 x2 x3 x4 x5_19 else (f_X0_isCarriedBy fu a_weight a_count a_living a_quota x5).bind fun z_20 => (if z_20 = 0 then (f_X0_isCarriedBy fu a_weight a_count a_living a_quota (x5 ||| ((1 : Int32) <<< (x1 &&& 31)))).bind fun z_23 => (if z_23 = 0 then bnd (x5 + 1) fun x5_25 => k22 x2 x3 x4 x5_25 else (f_J6_bitCount_0f7a4 fu x5).bind fun z_26 => (f_X3_ordersOf fu z_26).bind fun z_27 => (f_X3_ordersOf fu (x3 - z_26)).bind fun z_28 => bnd (x4 + (z_27 * z_28)) fun x4_29 => bnd (x5 + 1) fun x5_30 => k22 x2 x3 x4_29 x5_30) else bnd (x5 + 1) fun x5_22 => k22 x2 x3 x4 x5_22))
def f_X3_ordersCarriedBy_b22 (fu : Nat) (a_weight : Nat → Int32) (a_count : Int32) (a_living : Int32) (a_quota : Int32) (x1 : Int32) (k22 : Int32 → Int32 → Int32 → Int32 → Option (Int32)) (x2 : Int32) (x3 : Int32) (x4 : Int32) (x5 : Int32) : Option (Int32) := (if x2 < x5 then some (x4) else (if (x5 &&& (x2 ^^^ (-1))) = 0 then f_X3_ordersCarriedBy_j42 fu a_weight a_count a_living a_quota x1 k22 x2 x3 x4 x5 1 else f_X3_ordersCarriedBy_j42 fu a_weight a_count a_living a_quota x1 k22 x2 x3 x4 x5 0))
def f_X3_ordersCarriedBy_l22 (fu : Nat) (a_weight : Nat → Int32) (a_count : Int32) (a_living : Int32) (a_quota : Int32) (x1 : Int32) : Nat → Int32 → Int32 → Int32 → Int32 → Option (Int32)
  | 0, _, _, _, _ => none
  | n + 1, x2, x3, x4, x5 => f_X3_ordersCarriedBy_b22 fu a_weight a_count a_living a_quota x1 (f_X3_ordersCarriedBy_l22 fu a_weight a_count a_living a_quota x1 n) x2 x3 x4 x5
def f_X3_ordersCarriedBy (fu : Nat) (a_weight : Nat → Int32) (a_count : Int32) (a_living : Int32) (a_quota : Int32) (x1 : Int32) : Option (Int32) := bnd (a_living &&& (((1 : Int32) <<< (x1 &&& 31)) ^^^ (-1))) fun x2_33 => (f_J6_bitCount_0f7a4 fu x2_33).bind fun z_34 => f_X3_ordersCarriedBy_l22 fu a_weight a_count a_living a_quota x1 fu x2_33 z_34 0 0
abbrev rm_X3_ordersCarriedBy : Room := { frames := 2, cells := 0, slots := 0, locals := 44 }
set_option maxHeartbeats 4000000 in
set_option maxRecDepth 100000 in
theorem c_X3_ordersCarriedBy (l : Launch) (D : va_G) (cy : Nat → ClassId) (fu : Nat) (tO : Nat) (aK aV : Nat → Nat) (A_a : Nat → Nat) (a_name : Nat → Int64) (a_courage : Nat → Int32) (a_weight : Nat → Int32) (a_medals : Nat → Int32) (a_stood : Nat → Int32) (a_fled : Nat → Int32) (a_liked : Nat → Int32) (a_votes : Nat → Int32) (a_count : Int32) (a_living : Int32) (a_pride : Int32) (a_quota : Int32) (a_melted : Int32) (a_lost : Int32) (x1 : Int32) (res : Int32) (h : f_X3_ordersCarriedBy fu a_weight a_count a_living a_quota x1 = some res) : Met l yX3_ordersCarriedBy (WW yX3_ordersCarriedBy cX3_ordersCarriedBy 8 (some .int)) rm_X3_ordersCarriedBy (RdX D cy tO aK aV [.ref (A_a 0), .int x1] [bl_X0 cy A_a a_name a_courage a_weight a_medals a_stood a_fled a_liked a_votes a_count a_living a_pride a_quota a_melted a_lost]) (vp_Si (fun v => v = res)) 0 0 (fun _ => False) := by
  refine Met.ofW (cc := cX3_ordersCarriedBy) (maxL := 8) (ret := (some .int)) (by decide) rfl ?_
  intro p e s m args below meth c s₁ B hml hv
  obtain ⟨hargs, hP, hX, hE⟩ := hv
  have hx := B.exec
  have hb := B.bytes
  have hr := B.returns
  have ht : ∀ w ∈ lw_gd, w.before args s = true := fun w hw => atoms_spec (ws := WW yX3_ordersCarriedBy cX3_ordersCarriedBy 8 (some .int)) B.pre w (List.mem_cons_of_mem _ hw)
  have hown : s.vm.findClass RX3 = some m.cls := findClass_of_methodNamed B.named
  have hlocks := B.notSynchronized
  have hP : PB D [bl_X0 cy A_a a_name a_courage a_weight a_medals a_stood a_fled a_liked a_votes a_count a_living a_pride a_quota a_melted a_lost] s.heap := hP
  have hS : va_S (fun _ => False) s.heap s.heap [] := va_S.rf
  obtain ⟨ls, hl, hent⟩ := ent (m := m) (n := 8) hargs (Nat.le_of_ble_eq_true rfl) (lv := [(0, .ref (A_a 0)), (1, .int x1)]) rfl
  rw [hent]
  clear hent
  have l22 : ∀ (n22 : Nat) (x2 : Int32) (x3 : Int32) (x4 : Int32) (x5 : Int32) (ls : Array Slot), lv_has ls 8 [(0, .ref (A_a 0)), (1, .int x1), (2, .int x2), (3, .int x3), (4, .int x4), (5, .int x5)] → f_X3_ordersCarriedBy_l22 fu a_weight a_count a_living a_quota x1 n22 x2 x3 x4 x5 = some res → W p l e (headSpec (WW yX3_ordersCarriedBy cX3_ordersCarriedBy 8 (some .int)) rm_X3_ordersCarriedBy).room s m args below meth c s.heap [] 0 0 (MQ below (vp_Si (fun v => v = res)) args s 0 0 (fun _ => False)) (F0 m 22 ls []) := by
    intro n22
    induction n22 with
    | zero => intro x2 x3 x4 x5 ls hl h; cases h
    | succ n22 ih22 =>
      have j42 : ∀ (x2 : Int32) (x3 : Int32) (x4 : Int32) (x5 : Int32) (s0 : Int32) (ls : Array Slot), lv_has ls 8 [(0, .ref (A_a 0)), (1, .int x1), (2, .int x2), (3, .int x3), (4, .int x4), (5, .int x5)] → f_X3_ordersCarriedBy_j42 fu a_weight a_count a_living a_quota x1 (f_X3_ordersCarriedBy_l22 fu a_weight a_count a_living a_quota x1 n22) x2 x3 x4 x5 s0 = some res → W p l e (headSpec (WW yX3_ordersCarriedBy cX3_ordersCarriedBy 8 (some .int)) rm_X3_ordersCarriedBy).room s m args below meth c s.heap [] 0 0 (MQ below (vp_Si (fun v => v = res)) args s 0 0 (fun _ => False)) (F0 m 42 ls [.int s0]) := by
        intro x2 x3 x4 x5 s0 ls hl h
        unfold f_X3_ordersCarriedBy_j42 at h
        refine lv_istore (lv' := [(6, .int s0), (0, .ref (A_a 0)), (1, .int x1), (2, .int x2), (3, .int x3), (4, .int x4), (5, .int x5)]) hx hb dX3_ordersCarriedBy_42 hl (by decide) rfl (fun ls hl => ?_)
        refine lv_iload hx hb dX3_ordersCarriedBy_44 (lv_at hl 0 rfl) ?_
        refine lv_if_eq (tgt := 96) hx hb dX3_ordersCarriedBy_46 (by decide) (fun c_18 => ?_) (fun c_18 => ?_)
        · have h := it c_18 h
          obtain ⟨x5_19, e_x5_19⟩ : ∃ y : Int32, y = x5 + 1 := ⟨_, rfl⟩
          have h := bn e_x5_19 h
          refine lv_iinc (v := x5_19) (lv' := [(5, .int x5_19), (6, .int s0), (0, .ref (A_a 0)), (1, .int x1), (2, .int x2), (3, .int x3), (4, .int x4)]) hx hb dX3_ordersCarriedBy_96 hl (k := 6) rfl (by rw [e_x5_19]; rfl) (by decide) rfl (fun ls hl => ?_)
          refine lv_goto (tgt := 22) hx hb dX3_ordersCarriedBy_99 (by decide) ?_
          exact ih22 x2 x3 x4 x5_19 ls (lv_sub hl [2, 3, 4, 5, 6, 0] rfl) h
        · have h := ie c_18 h
          refine lv_aload_n hx hb dX3_ordersCarriedBy_49 rfl (lv_at hl 1 rfl) ?_
          refine lv_iload hx hb dX3_ordersCarriedBy_50 (lv_at hl 6 rfl) ?_
          obtain ⟨z_20, e_z_20, h⟩ := bi h
          refine roVi (rest := []) ⟨hx, hb, hml, hown, ht⟩ (c_X0_isCarriedBy l D cy fu A_a a_name a_courage a_weight a_medals a_stood a_fled a_liked a_votes a_count a_living a_pride a_quota a_melted a_lost x5 z_20 e_z_20) (cV ht mv_X0_isCarriedBy tb_938 rfl rfl ⟨Nat.le_of_ble_eq_true rfl, Nat.le_of_ble_eq_true rfl⟩) (P_sub hP [0] rfl) hX rfl rfl rfl hl.1 rfl (Nat.le_of_ble_eq_true rfl) dX3_ordersCarriedBy_52 ⟨Nat.le_of_ble_eq_true rfl, Nat.le_of_ble_eq_true rfl⟩ ?_
          refine lv_if_ne (tgt := 96) hx hb dX3_ordersCarriedBy_55 (by decide) (fun c_21 => ?_) (fun c_21 => ?_)
          · have h := ie c_21 h
            obtain ⟨x5_22, e_x5_22⟩ : ∃ y : Int32, y = x5 + 1 := ⟨_, rfl⟩
            have h := bn e_x5_22 h
            refine lv_iinc (v := x5_22) (lv' := [(5, .int x5_22), (6, .int s0), (0, .ref (A_a 0)), (1, .int x1), (2, .int x2), (3, .int x3), (4, .int x4)]) hx hb dX3_ordersCarriedBy_96 hl (k := 6) rfl (by rw [e_x5_22]; rfl) (by decide) rfl (fun ls hl => ?_)
            refine lv_goto (tgt := 22) hx hb dX3_ordersCarriedBy_99 (by decide) ?_
            exact ih22 x2 x3 x4 x5_22 ls (lv_sub hl [2, 3, 4, 5, 6, 0] rfl) h
          · have h := it c_21 h
            refine lv_aload_n hx hb dX3_ordersCarriedBy_58 rfl (lv_at hl 1 rfl) ?_
            refine lv_iload hx hb dX3_ordersCarriedBy_59 (lv_at hl 6 rfl) ?_
            refine lv_iconst (v := 1) hx hb dX3_ordersCarriedBy_61 (by decide) ?_
            refine lv_iload_n hx hb dX3_ordersCarriedBy_62 rfl (lv_at hl 2 rfl) ?_
            refine lv_ishl hx hb dX3_ordersCarriedBy_63 ?_
            refine lv_ior hx hb dX3_ordersCarriedBy_64 ?_
            obtain ⟨z_23, e_z_23, h⟩ := bi h
            refine roVi (rest := []) ⟨hx, hb, hml, hown, ht⟩ (c_X0_isCarriedBy l D cy fu A_a a_name a_courage a_weight a_medals a_stood a_fled a_liked a_votes a_count a_living a_pride a_quota a_melted a_lost (x5 ||| ((1 : Int32) <<< (x1 &&& 31))) z_23 e_z_23) (cV ht mv_X0_isCarriedBy tb_938 rfl rfl ⟨Nat.le_of_ble_eq_true rfl, Nat.le_of_ble_eq_true rfl⟩) (P_sub hP [0] rfl) hX rfl rfl rfl hl.1 rfl (Nat.le_of_ble_eq_true rfl) dX3_ordersCarriedBy_65 ⟨Nat.le_of_ble_eq_true rfl, Nat.le_of_ble_eq_true rfl⟩ ?_
            refine lv_if_eq (tgt := 96) hx hb dX3_ordersCarriedBy_68 (by decide) (fun c_24 => ?_) (fun c_24 => ?_)
            · have h := it c_24 h
              obtain ⟨x5_25, e_x5_25⟩ : ∃ y : Int32, y = x5 + 1 := ⟨_, rfl⟩
              have h := bn e_x5_25 h
              refine lv_iinc (v := x5_25) (lv' := [(5, .int x5_25), (6, .int s0), (0, .ref (A_a 0)), (1, .int x1), (2, .int x2), (3, .int x3), (4, .int x4)]) hx hb dX3_ordersCarriedBy_96 hl (k := 6) rfl (by rw [e_x5_25]; rfl) (by decide) rfl (fun ls hl => ?_)
              refine lv_goto (tgt := 22) hx hb dX3_ordersCarriedBy_99 (by decide) ?_
              exact ih22 x2 x3 x4 x5_25 ls (lv_sub hl [2, 3, 4, 5, 6, 0] rfl) h
            · have h := ie c_24 h
              refine lv_iload hx hb dX3_ordersCarriedBy_71 (lv_at hl 6 rfl) ?_
              obtain ⟨z_26, e_z_26, h⟩ := bi h
              refine roSi (rest := []) ⟨hx, hb, hml, hown, ht⟩ (c_J6_bitCount_0f7a4 l D cy fu  x5 z_26 e_z_26) (cS ht ms_J6_bitCount_0f7a4 tb_937 rfl rfl ⟨Nat.le_of_ble_eq_true rfl, Nat.le_of_ble_eq_true rfl⟩) (P_sub hP [] rfl) hX rfl hl.1 rfl (Nat.le_of_ble_eq_true rfl) dX3_ordersCarriedBy_73 ⟨Nat.le_of_ble_eq_true rfl, Nat.le_of_ble_eq_true rfl⟩ ?_
              refine lv_istore (lv' := [(7, .int z_26), (6, .int s0), (0, .ref (A_a 0)), (1, .int x1), (2, .int x2), (3, .int x3), (4, .int x4), (5, .int x5)]) hx hb dX3_ordersCarriedBy_76 hl (by decide) rfl (fun ls hl => ?_)
              refine lv_iload hx hb dX3_ordersCarriedBy_78 (lv_at hl 6 rfl) ?_
              refine lv_iload hx hb dX3_ordersCarriedBy_80 (lv_at hl 0 rfl) ?_
              obtain ⟨z_27, e_z_27, h⟩ := bi h
              refine roSiX (rest := [.int x4]) ⟨hx, hb, hml, hown, ht⟩ (c_X3_ordersOf l D cy fu tO aK aV  z_26 z_27 e_z_27) (cS ht ms_X3_ordersOf tb_950 rfl rfl ⟨Nat.le_of_ble_eq_true rfl, Nat.le_of_ble_eq_true rfl⟩) (P_sub hP [] rfl) hX hE hS rfl hl.1 rfl (Nat.le_of_ble_eq_true rfl) dX3_ordersCarriedBy_82 ⟨Nat.le_of_ble_eq_true rfl, Nat.le_of_ble_eq_true rfl⟩ ?_
              refine lv_iload_n hx hb dX3_ordersCarriedBy_85 rfl (lv_at hl 5 rfl) ?_
              refine lv_iload hx hb dX3_ordersCarriedBy_86 (lv_at hl 0 rfl) ?_
              refine lv_isub hx hb dX3_ordersCarriedBy_88 ?_
              obtain ⟨z_28, e_z_28, h⟩ := bi h
              refine roSiX (rest := [.int z_27, .int x4]) ⟨hx, hb, hml, hown, ht⟩ (c_X3_ordersOf l D cy fu tO aK aV  (x3 - z_26) z_28 e_z_28) (cS ht ms_X3_ordersOf tb_950 rfl rfl ⟨Nat.le_of_ble_eq_true rfl, Nat.le_of_ble_eq_true rfl⟩) (P_sub hP [] rfl) hX hE hS rfl hl.1 rfl (Nat.le_of_ble_eq_true rfl) dX3_ordersCarriedBy_89 ⟨Nat.le_of_ble_eq_true rfl, Nat.le_of_ble_eq_true rfl⟩ ?_
              refine lv_imul hx hb dX3_ordersCarriedBy_92 ?_
              refine lv_iadd hx hb dX3_ordersCarriedBy_93 ?_
              refine lv_topi (fun x4_29 e_x4_29 => ?_)
              have h := bn e_x4_29 h
              refine lv_istore (lv' := [(4, .int x4_29), (7, .int z_26), (6, .int s0), (0, .ref (A_a 0)), (1, .int x1), (2, .int x2), (3, .int x3), (5, .int x5)]) hx hb dX3_ordersCarriedBy_94 hl (by decide) rfl (fun ls hl => ?_)
              obtain ⟨x5_30, e_x5_30⟩ : ∃ y : Int32, y = x5 + 1 := ⟨_, rfl⟩
              have h := bn e_x5_30 h
              refine lv_iinc (v := x5_30) (lv' := [(5, .int x5_30), (4, .int x4_29), (7, .int z_26), (6, .int s0), (0, .ref (A_a 0)), (1, .int x1), (2, .int x2), (3, .int x3)]) hx hb dX3_ordersCarriedBy_96 hl (k := 7) rfl (by rw [e_x5_30]; rfl) (by decide) rfl (fun ls hl => ?_)
              refine lv_goto (tgt := 22) hx hb dX3_ordersCarriedBy_99 (by decide) ?_
              exact ih22 x2 x3 x4_29 x5_30 ls (lv_sub hl [4, 5, 6, 7, 1, 0] rfl) h
      intro x2 x3 x4 x5 ls hl h
      have h : f_X3_ordersCarriedBy_b22 fu a_weight a_count a_living a_quota x1 (f_X3_ordersCarriedBy_l22 fu a_weight a_count a_living a_quota x1 n22) x2 x3 x4 x5 = some res := h
      unfold f_X3_ordersCarriedBy_b22 at h
      refine lv_iload hx hb dX3_ordersCarriedBy_22 (lv_at hl 5 rfl) ?_
      refine lv_iload_n hx hb dX3_ordersCarriedBy_24 rfl (lv_at hl 2 rfl) ?_
      refine lv_icmp_gt (tgt := 102) hx hb dX3_ordersCarriedBy_25 (by decide) (fun c_31 => ?_) (fun c_31 => ?_)
      · have h := it c_31 h
        refine lv_iload hx hb dX3_ordersCarriedBy_102 (lv_at hl 4 rfl) ?_
        cases h
        exact W.iret hx hb hr (fun _ ht9 _ => ⟨_, rfl, rfl, ht9⟩) (fun _ hq => by cases hq) dX3_ordersCarriedBy_104
      · have h := ie c_31 h
        refine lv_iload hx hb dX3_ordersCarriedBy_28 (lv_at hl 5 rfl) ?_
        refine lv_iload_n hx hb dX3_ordersCarriedBy_30 rfl (lv_at hl 2 rfl) ?_
        refine lv_iconst (v := (-1)) hx hb dX3_ordersCarriedBy_31 (by decide) ?_
        refine lv_ixor hx hb dX3_ordersCarriedBy_32 ?_
        refine lv_iand hx hb dX3_ordersCarriedBy_33 ?_
        refine lv_if_ne (tgt := 41) hx hb dX3_ordersCarriedBy_34 (by decide) (fun c_32 => ?_) (fun c_32 => ?_)
        · have h := ie c_32 h
          refine lv_iconst (v := 0) hx hb dX3_ordersCarriedBy_41 (by decide) ?_
          exact j42 x2 x3 x4 x5 0 ls (lv_sub hl [0, 1, 2, 3, 4, 5] rfl) h
        · have h := it c_32 h
          refine lv_iconst (v := 1) hx hb dX3_ordersCarriedBy_37 (by decide) ?_
          refine lv_goto (tgt := 42) hx hb dX3_ordersCarriedBy_38 (by decide) ?_
          exact j42 x2 x3 x4 x5 1 ls (lv_sub hl [0, 1, 2, 3, 4, 5] rfl) h
  unfold f_X3_ordersCarriedBy at h
  refine lv_aload_n hx hb dX3_ordersCarriedBy_0 rfl (lv_at hl 0 rfl) ?_
  refine xget (i := 0) (j := 0) (k := 9) (T := TX0) hx hb ht tb_iX0 hown hX hP rfl rfl rfl (by decide) tb_62 rfl dX3_ordersCarriedBy_1 ?_
  refine lv_iconst (v := 1) hx hb dX3_ordersCarriedBy_4 (by decide) ?_
  refine lv_iload_n hx hb dX3_ordersCarriedBy_5 rfl (lv_at hl 1 rfl) ?_
  refine lv_ishl hx hb dX3_ordersCarriedBy_6 ?_
  refine lv_iconst (v := (-1)) hx hb dX3_ordersCarriedBy_7 (by decide) ?_
  refine lv_ixor hx hb dX3_ordersCarriedBy_8 ?_
  refine lv_iand hx hb dX3_ordersCarriedBy_9 ?_
  refine lv_topi (fun x2_33 e_x2_33 => ?_)
  have h := bn e_x2_33 h
  refine lv_istore_n (lv' := [(2, .int x2_33), (0, .ref (A_a 0)), (1, .int x1)]) hx hb dX3_ordersCarriedBy_10 rfl hl (by decide) rfl (fun ls hl => ?_)
  refine lv_iload_n hx hb dX3_ordersCarriedBy_11 rfl (lv_at hl 0 rfl) ?_
  obtain ⟨z_34, e_z_34, h⟩ := bi h
  refine roSi (rest := []) ⟨hx, hb, hml, hown, ht⟩ (c_J6_bitCount_0f7a4 l D cy fu  x2_33 z_34 e_z_34) (cS ht ms_J6_bitCount_0f7a4 tb_937 rfl rfl ⟨Nat.le_of_ble_eq_true rfl, Nat.le_of_ble_eq_true rfl⟩) (P_sub hP [] rfl) hX rfl hl.1 rfl (Nat.le_of_ble_eq_true rfl) dX3_ordersCarriedBy_12 ⟨Nat.le_of_ble_eq_true rfl, Nat.le_of_ble_eq_true rfl⟩ ?_
  refine lv_istore_n (lv' := [(3, .int z_34), (2, .int x2_33), (0, .ref (A_a 0)), (1, .int x1)]) hx hb dX3_ordersCarriedBy_15 rfl hl (by decide) rfl (fun ls hl => ?_)
  refine lv_iconst (v := 0) hx hb dX3_ordersCarriedBy_16 (by decide) ?_
  refine lv_istore (lv' := [(4, .int 0), (3, .int z_34), (2, .int x2_33), (0, .ref (A_a 0)), (1, .int x1)]) hx hb dX3_ordersCarriedBy_17 hl (by decide) rfl (fun ls hl => ?_)
  refine lv_iconst (v := 0) hx hb dX3_ordersCarriedBy_19 (by decide) ?_
  refine lv_istore (lv' := [(5, .int 0), (4, .int 0), (3, .int z_34), (2, .int x2_33), (0, .ref (A_a 0)), (1, .int x1)]) hx hb dX3_ordersCarriedBy_20 hl (by decide) rfl (fun ls hl => ?_)
  exact l22 fu x2_33 z_34 0 0 ls (lv_sub hl [4, 5, 3, 2, 1, 0] rfl) h
theorem dX3_mightiestOf_0 : decode cX3_mightiestOf 0 = .ok (.iconst (-1), 1) := by decide +kernel
theorem dX3_mightiestOf_1 : decode cX3_mightiestOf 1 = .ok (.istore_n 1, 1) := by decide +kernel
theorem dX3_mightiestOf_2 : decode cX3_mightiestOf 2 = .ok (.iconst (-1), 1) := by decide +kernel
theorem dX3_mightiestOf_3 : decode cX3_mightiestOf 3 = .ok (.istore_n 2, 1) := by decide +kernel
theorem dX3_mightiestOf_4 : decode cX3_mightiestOf 4 = .ok (.iconst 0, 1) := by decide +kernel
theorem dX3_mightiestOf_5 : decode cX3_mightiestOf 5 = .ok (.istore_n 3, 1) := by decide +kernel
theorem dX3_mightiestOf_6 : decode cX3_mightiestOf 6 = .ok (.iload_n 3, 1) := by decide +kernel
theorem dX3_mightiestOf_7 : decode cX3_mightiestOf 7 = .ok (.aload_n 0, 1) := by decide +kernel
theorem dX3_mightiestOf_8 : decode cX3_mightiestOf 8 = .ok (.getfield 38, 3) := by decide +kernel
theorem dX3_mightiestOf_11 : decode cX3_mightiestOf 11 = .ok (.if_icmp .ge 39, 3) := by decide +kernel
theorem dX3_mightiestOf_14 : decode cX3_mightiestOf 14 = .ok (.aload_n 0, 1) := by decide +kernel
theorem dX3_mightiestOf_15 : decode cX3_mightiestOf 15 = .ok (.iload_n 3, 1) := by decide +kernel
theorem dX3_mightiestOf_16 : decode cX3_mightiestOf 16 = .ok (.invokevirtual 41, 3) := by decide +kernel
theorem dX3_mightiestOf_19 : decode cX3_mightiestOf 19 = .ok (.ifCond .eq 11, 3) := by decide +kernel
theorem dX3_mightiestOf_22 : decode cX3_mightiestOf 22 = .ok (.aload_n 0, 1) := by decide +kernel
theorem dX3_mightiestOf_23 : decode cX3_mightiestOf 23 = .ok (.iload_n 3, 1) := by decide +kernel
theorem dX3_mightiestOf_24 : decode cX3_mightiestOf 24 = .ok (.invokestatic 44, 3) := by decide +kernel
theorem dX3_mightiestOf_27 : decode cX3_mightiestOf 27 = .ok (.goto 4, 3) := by decide +kernel
theorem dX3_mightiestOf_30 : decode cX3_mightiestOf 30 = .ok (.iconst (-1), 1) := by decide +kernel
theorem dX3_mightiestOf_31 : decode cX3_mightiestOf 31 = .ok (.istore 4, 2) := by decide +kernel
theorem dX3_mightiestOf_33 : decode cX3_mightiestOf 33 = .ok (.iload 4, 2) := by decide +kernel
theorem dX3_mightiestOf_35 : decode cX3_mightiestOf 35 = .ok (.iload_n 2, 1) := by decide +kernel
theorem dX3_mightiestOf_36 : decode cX3_mightiestOf 36 = .ok (.if_icmp .le 8, 3) := by decide +kernel
theorem dX3_mightiestOf_39 : decode cX3_mightiestOf 39 = .ok (.iload 4, 2) := by decide +kernel
theorem dX3_mightiestOf_41 : decode cX3_mightiestOf 41 = .ok (.istore_n 2, 1) := by decide +kernel
theorem dX3_mightiestOf_42 : decode cX3_mightiestOf 42 = .ok (.iload_n 3, 1) := by decide +kernel
theorem dX3_mightiestOf_43 : decode cX3_mightiestOf 43 = .ok (.istore_n 1, 1) := by decide +kernel
theorem dX3_mightiestOf_44 : decode cX3_mightiestOf 44 = .ok (.iinc 3 1, 3) := by decide +kernel
theorem dX3_mightiestOf_47 : decode cX3_mightiestOf 47 = .ok (.goto (-41), 3) := by decide +kernel
theorem dX3_mightiestOf_50 : decode cX3_mightiestOf 50 = .ok (.iload_n 1, 1) := by decide +kernel
theorem dX3_mightiestOf_51 : decode cX3_mightiestOf 51 = .ok (.ireturn, 1) := by decide +kernel
theorem ms_X3_mightiestOf : MS yX3_mightiestOf cX3_mightiestOf 5 (some .int) 1 := ⟨tb_970, tb_969, tb_21, by decide +kernel, by decide +kernel, by decide +kernel⟩
def f_X3_mightiestOf_j31 (fu : Nat) (a_weight : Nat → Int32) (a_count : Int32) (a_living : Int32) (a_quota : Int32) (k6 : Int32 → Int32 → Int32 → Option (Int32)) (x1 : Int32) (x2 : Int32) (x3 : Int32) (s0 : Int32) : Option (Int32) := (if s0 ≤ x2 then bnd (x3 + 1) fun x3_9 => k6 x1 x2 x3_9 else bnd (x3 + 1) fun x3_10 => k6 x3 s0 x3_10)
def f_X3_mightiestOf_b6 (fu : Nat) (a_weight : Nat → Int32) (a_count : Int32) (a_living : Int32) (a_quota : Int32) (k6 : Int32 → Int32 → Int32 → Option (Int32)) (x1 : Int32) (x2 : Int32) (x3 : Int32) : Option (Int32) := (if a_count ≤ x3 then some (x1) else (f_X0_lives fu a_count a_living x3).bind fun z_12 => (if z_12 = 0 then f_X3_mightiestOf_j31 fu a_weight a_count a_living a_quota k6 x1 x2 x3 (-1) else (f_X3_ordersCarriedBy fu a_weight a_count a_living a_quota x3).bind fun z_14 => f_X3_mightiestOf_j31 fu a_weight a_count a_living a_quota k6 x1 x2 x3 z_14))
def f_X3_mightiestOf_l6 (fu : Nat) (a_weight : Nat → Int32) (a_count : Int32) (a_living : Int32) (a_quota : Int32) : Nat → Int32 → Int32 → Int32 → Option (Int32)
  | 0, _, _, _ => none
  | n + 1, x1, x2, x3 => f_X3_mightiestOf_b6 fu a_weight a_count a_living a_quota (f_X3_mightiestOf_l6 fu a_weight a_count a_living a_quota n) x1 x2 x3
def f_X3_mightiestOf (fu : Nat) (a_weight : Nat → Int32) (a_count : Int32) (a_living : Int32) (a_quota : Int32) : Option (Int32) := f_X3_mightiestOf_l6 fu a_weight a_count a_living a_quota fu (-1) (-1) 0
abbrev rm_X3_mightiestOf : Room := { frames := 3, cells := 0, slots := 0, locals := 71 }
set_option maxHeartbeats 4000000 in
set_option maxRecDepth 100000 in
theorem c_X3_mightiestOf (l : Launch) (D : va_G) (cy : Nat → ClassId) (fu : Nat) (tO : Nat) (aK aV : Nat → Nat) (A_a : Nat → Nat) (a_name : Nat → Int64) (a_courage : Nat → Int32) (a_weight : Nat → Int32) (a_medals : Nat → Int32) (a_stood : Nat → Int32) (a_fled : Nat → Int32) (a_liked : Nat → Int32) (a_votes : Nat → Int32) (a_count : Int32) (a_living : Int32) (a_pride : Int32) (a_quota : Int32) (a_melted : Int32) (a_lost : Int32) (res : Int32) (h : f_X3_mightiestOf fu a_weight a_count a_living a_quota = some res) : Met l yX3_mightiestOf (WW yX3_mightiestOf cX3_mightiestOf 5 (some .int)) rm_X3_mightiestOf (RdX D cy tO aK aV [.ref (A_a 0)] [bl_X0 cy A_a a_name a_courage a_weight a_medals a_stood a_fled a_liked a_votes a_count a_living a_pride a_quota a_melted a_lost]) (vp_Si (fun v => v = res)) 0 0 (fun _ => False) := by
  refine Met.ofW (cc := cX3_mightiestOf) (maxL := 5) (ret := (some .int)) (by decide) rfl ?_
  intro p e s m args below meth c s₁ B hml hv
  obtain ⟨hargs, hP, hX, hE⟩ := hv
  have hx := B.exec
  have hb := B.bytes
  have hr := B.returns
  have ht : ∀ w ∈ lw_gd, w.before args s = true := fun w hw => atoms_spec (ws := WW yX3_mightiestOf cX3_mightiestOf 5 (some .int)) B.pre w (List.mem_cons_of_mem _ hw)
  have hown : s.vm.findClass RX3 = some m.cls := findClass_of_methodNamed B.named
  have hlocks := B.notSynchronized
  have hP : PB D [bl_X0 cy A_a a_name a_courage a_weight a_medals a_stood a_fled a_liked a_votes a_count a_living a_pride a_quota a_melted a_lost] s.heap := hP
  have hS : va_S (fun _ => False) s.heap s.heap [] := va_S.rf
  obtain ⟨ls, hl, hent⟩ := ent (m := m) (n := 5) hargs (Nat.le_of_ble_eq_true rfl) (lv := [(0, .ref (A_a 0))]) rfl
  rw [hent]
  clear hent
  have l6 : ∀ (n6 : Nat) (x1 : Int32) (x2 : Int32) (x3 : Int32) (ls : Array Slot), lv_has ls 5 [(0, .ref (A_a 0)), (1, .int x1), (2, .int x2), (3, .int x3)] → f_X3_mightiestOf_l6 fu a_weight a_count a_living a_quota n6 x1 x2 x3 = some res → W p l e (headSpec (WW yX3_mightiestOf cX3_mightiestOf 5 (some .int)) rm_X3_mightiestOf).room s m args below meth c s.heap [] 0 0 (MQ below (vp_Si (fun v => v = res)) args s 0 0 (fun _ => False)) (F0 m 6 ls []) := by
    intro n6
    induction n6 with
    | zero => intro x1 x2 x3 ls hl h; cases h
    | succ n6 ih6 =>
      have j31 : ∀ (x1 : Int32) (x2 : Int32) (x3 : Int32) (s0 : Int32) (ls : Array Slot), lv_has ls 5 [(0, .ref (A_a 0)), (1, .int x1), (2, .int x2), (3, .int x3)] → f_X3_mightiestOf_j31 fu a_weight a_count a_living a_quota (f_X3_mightiestOf_l6 fu a_weight a_count a_living a_quota n6) x1 x2 x3 s0 = some res → W p l e (headSpec (WW yX3_mightiestOf cX3_mightiestOf 5 (some .int)) rm_X3_mightiestOf).room s m args below meth c s.heap [] 0 0 (MQ below (vp_Si (fun v => v = res)) args s 0 0 (fun _ => False)) (F0 m 31 ls [.int s0]) := by
        intro x1 x2 x3 s0 ls hl h
        unfold f_X3_mightiestOf_j31 at h
        refine lv_istore (lv' := [(4, .int s0), (0, .ref (A_a 0)), (1, .int x1), (2, .int x2), (3, .int x3)]) hx hb dX3_mightiestOf_31 hl (by decide) rfl (fun ls hl => ?_)
        refine lv_iload hx hb dX3_mightiestOf_33 (lv_at hl 0 rfl) ?_
        refine lv_iload_n hx hb dX3_mightiestOf_35 rfl (lv_at hl 3 rfl) ?_
        refine lv_icmp_le (tgt := 44) hx hb dX3_mightiestOf_36 (by decide) (fun c_8 => ?_) (fun c_8 => ?_)
        · have h := it c_8 h
          obtain ⟨x3_9, e_x3_9⟩ : ∃ y : Int32, y = x3 + 1 := ⟨_, rfl⟩
          have h := bn e_x3_9 h
          refine lv_iinc (v := x3_9) (lv' := [(3, .int x3_9), (4, .int s0), (0, .ref (A_a 0)), (1, .int x1), (2, .int x2)]) hx hb dX3_mightiestOf_44 hl (k := 4) rfl (by rw [e_x3_9]; rfl) (by decide) rfl (fun ls hl => ?_)
          refine lv_goto (tgt := 6) hx hb dX3_mightiestOf_47 (by decide) ?_
          exact ih6 x1 x2 x3_9 ls (lv_sub hl [2, 3, 4, 0] rfl) h
        · have h := ie c_8 h
          refine lv_iload hx hb dX3_mightiestOf_39 (lv_at hl 0 rfl) ?_
          refine lv_istore_n (lv' := [(2, .int s0), (4, .int s0), (0, .ref (A_a 0)), (1, .int x1), (3, .int x3)]) hx hb dX3_mightiestOf_41 rfl hl (by decide) rfl (fun ls hl => ?_)
          refine lv_iload_n hx hb dX3_mightiestOf_42 rfl (lv_at hl 4 rfl) ?_
          refine lv_istore_n (lv' := [(1, .int x3), (2, .int s0), (4, .int s0), (0, .ref (A_a 0)), (3, .int x3)]) hx hb dX3_mightiestOf_43 rfl hl (by decide) rfl (fun ls hl => ?_)
          obtain ⟨x3_10, e_x3_10⟩ : ∃ y : Int32, y = x3 + 1 := ⟨_, rfl⟩
          have h := bn e_x3_10 h
          refine lv_iinc (v := x3_10) (lv' := [(3, .int x3_10), (1, .int x3), (2, .int s0), (4, .int s0), (0, .ref (A_a 0))]) hx hb dX3_mightiestOf_44 hl (k := 4) rfl (by rw [e_x3_10]; rfl) (by decide) rfl (fun ls hl => ?_)
          refine lv_goto (tgt := 6) hx hb dX3_mightiestOf_47 (by decide) ?_
          exact ih6 x3 s0 x3_10 ls (lv_sub hl [4, 1, 2, 0] rfl) h
      intro x1 x2 x3 ls hl h
      have h : f_X3_mightiestOf_b6 fu a_weight a_count a_living a_quota (f_X3_mightiestOf_l6 fu a_weight a_count a_living a_quota n6) x1 x2 x3 = some res := h
      unfold f_X3_mightiestOf_b6 at h
      refine lv_iload_n hx hb dX3_mightiestOf_6 rfl (lv_at hl 3 rfl) ?_
      refine lv_aload_n hx hb dX3_mightiestOf_7 rfl (lv_at hl 0 rfl) ?_
      refine xget (i := 0) (j := 0) (k := 8) (T := TX0) hx hb ht tb_iX0 hown hX hP rfl rfl rfl (by decide) tb_58 rfl dX3_mightiestOf_8 ?_
      refine lv_icmp_ge (tgt := 50) hx hb dX3_mightiestOf_11 (by decide) (fun c_11 => ?_) (fun c_11 => ?_)
      · have h := it c_11 h
        refine lv_iload_n hx hb dX3_mightiestOf_50 rfl (lv_at hl 1 rfl) ?_
        cases h
        exact W.iret hx hb hr (fun _ ht9 _ => ⟨_, rfl, rfl, ht9⟩) (fun _ hq => by cases hq) dX3_mightiestOf_51
      · have h := ie c_11 h
        refine lv_aload_n hx hb dX3_mightiestOf_14 rfl (lv_at hl 0 rfl) ?_
        refine lv_iload_n hx hb dX3_mightiestOf_15 rfl (lv_at hl 3 rfl) ?_
        obtain ⟨z_12, e_z_12, h⟩ := bi h
        refine roVi (rest := []) ⟨hx, hb, hml, hown, ht⟩ (c_X0_lives l D cy fu A_a a_name a_courage a_weight a_medals a_stood a_fled a_liked a_votes a_count a_living a_pride a_quota a_melted a_lost x3 z_12 e_z_12) (cV ht mv_X0_lives tb_971 rfl rfl ⟨Nat.le_of_ble_eq_true rfl, Nat.le_of_ble_eq_true rfl⟩) (P_sub hP [0] rfl) hX rfl rfl rfl hl.1 rfl (Nat.le_of_ble_eq_true rfl) dX3_mightiestOf_16 ⟨Nat.le_of_ble_eq_true rfl, Nat.le_of_ble_eq_true rfl⟩ ?_
        refine lv_if_eq (tgt := 30) hx hb dX3_mightiestOf_19 (by decide) (fun c_13 => ?_) (fun c_13 => ?_)
        · have h := it c_13 h
          refine lv_iconst (v := (-1)) hx hb dX3_mightiestOf_30 (by decide) ?_
          exact j31 x1 x2 x3 (-1) ls (lv_sub hl [0, 1, 2, 3] rfl) h
        · have h := ie c_13 h
          refine lv_aload_n hx hb dX3_mightiestOf_22 rfl (lv_at hl 0 rfl) ?_
          refine lv_iload_n hx hb dX3_mightiestOf_23 rfl (lv_at hl 3 rfl) ?_
          obtain ⟨z_14, e_z_14, h⟩ := bi h
          refine roSiX (rest := []) ⟨hx, hb, hml, hown, ht⟩ (c_X3_ordersCarriedBy l D cy fu tO aK aV A_a a_name a_courage a_weight a_medals a_stood a_fled a_liked a_votes a_count a_living a_pride a_quota a_melted a_lost x3 z_14 e_z_14) (cS ht ms_X3_ordersCarriedBy tb_972 rfl rfl ⟨Nat.le_of_ble_eq_true rfl, Nat.le_of_ble_eq_true rfl⟩) (P_sub hP [0] rfl) hX hE hS rfl hl.1 rfl (Nat.le_of_ble_eq_true rfl) dX3_mightiestOf_24 ⟨Nat.le_of_ble_eq_true rfl, Nat.le_of_ble_eq_true rfl⟩ ?_
          refine lv_goto (tgt := 31) hx hb dX3_mightiestOf_27 (by decide) ?_
          exact j31 x1 x2 x3 z_14 ls (lv_sub hl [0, 1, 2, 3] rfl) h
  unfold f_X3_mightiestOf at h
  refine lv_iconst (v := (-1)) hx hb dX3_mightiestOf_0 (by decide) ?_
  refine lv_istore_n (lv' := [(1, .int (-1)), (0, .ref (A_a 0))]) hx hb dX3_mightiestOf_1 rfl hl (by decide) rfl (fun ls hl => ?_)
  refine lv_iconst (v := (-1)) hx hb dX3_mightiestOf_2 (by decide) ?_
  refine lv_istore_n (lv' := [(2, .int (-1)), (1, .int (-1)), (0, .ref (A_a 0))]) hx hb dX3_mightiestOf_3 rfl hl (by decide) rfl (fun ls hl => ?_)
  refine lv_iconst (v := 0) hx hb dX3_mightiestOf_4 (by decide) ?_
  refine lv_istore_n (lv' := [(3, .int 0), (2, .int (-1)), (1, .int (-1)), (0, .ref (A_a 0))]) hx hb dX3_mightiestOf_5 rfl hl (by decide) rfl (fun ls hl => ?_)
  exact l6 fu (-1) (-1) 0 ls (lv_sub hl [3, 2, 1, 0] rfl) h
theorem dX12_inWords_0 : decode cX12_inWords 0 = .ok (.aload_n 0, 1) := by decide +kernel
theorem dX12_inWords_1 : decode cX12_inWords 1 = .ok (.getfield 129, 3) := by decide +kernel
theorem dX12_inWords_4 : decode cX12_inWords 4 = .ok (.iconst 2, 1) := by decide +kernel
theorem dX12_inWords_5 : decode cX12_inWords 5 = .ok (.if_icmp .eq 5, 3) := by decide +kernel
theorem dX12_inWords_8 : decode cX12_inWords 8 = .ok (.iconst (-1), 1) := by decide +kernel
theorem dX12_inWords_9 : decode cX12_inWords 9 = .ok (.ireturn, 1) := by decide +kernel
theorem dX12_inWords_10 : decode cX12_inWords 10 = .ok (.iconst 0, 1) := by decide +kernel
theorem dX12_inWords_11 : decode cX12_inWords 11 = .ok (.istore_n 2, 1) := by decide +kernel
theorem dX12_inWords_12 : decode cX12_inWords 12 = .ok (.iconst 1, 1) := by decide +kernel
theorem dX12_inWords_13 : decode cX12_inWords 13 = .ok (.istore_n 3, 1) := by decide +kernel
theorem dX12_inWords_14 : decode cX12_inWords 14 = .ok (.iload_n 3, 1) := by decide +kernel
theorem dX12_inWords_15 : decode cX12_inWords 15 = .ok (.aload_n 1, 1) := by decide +kernel
theorem dX12_inWords_16 : decode cX12_inWords 16 = .ok (.invokevirtual 144, 3) := by decide +kernel
theorem dX12_inWords_19 : decode cX12_inWords 19 = .ok (.if_icmp .ge 114, 3) := by decide +kernel
theorem dX12_inWords_22 : decode cX12_inWords 22 = .ok (.iload_n 3, 1) := by decide +kernel
theorem dX12_inWords_23 : decode cX12_inWords 23 = .ok (.istore 4, 2) := by decide +kernel
theorem dX12_inWords_25 : decode cX12_inWords 25 = .ok (.aload_n 1, 1) := by decide +kernel
theorem dX12_inWords_26 : decode cX12_inWords 26 = .ok (.iload 4, 2) := by decide +kernel
theorem dX12_inWords_28 : decode cX12_inWords 28 = .ok (.invokevirtual 150, 3) := by decide +kernel
theorem dX12_inWords_31 : decode cX12_inWords 31 = .ok (.bipush 32, 2) := by decide +kernel
theorem dX12_inWords_33 : decode cX12_inWords 33 = .ok (.if_icmp .eq 9, 3) := by decide +kernel
theorem dX12_inWords_36 : decode cX12_inWords 36 = .ok (.iinc 4 1, 3) := by decide +kernel
theorem dX12_inWords_39 : decode cX12_inWords 39 = .ok (.goto (-14), 3) := by decide +kernel
theorem dX12_inWords_42 : decode cX12_inWords 42 = .ok (.iload 4, 2) := by decide +kernel
theorem dX12_inWords_44 : decode cX12_inWords 44 = .ok (.iload_n 3, 1) := by decide +kernel
theorem dX12_inWords_45 : decode cX12_inWords 45 = .ok (.isub, 1) := by decide +kernel
theorem dX12_inWords_46 : decode cX12_inWords 46 = .ok (.aload_n 0, 1) := by decide +kernel
theorem dX12_inWords_47 : decode cX12_inWords 47 = .ok (.getfield 117, 3) := by decide +kernel
theorem dX12_inWords_50 : decode cX12_inWords 50 = .ok (.aload_n 0, 1) := by decide +kernel
theorem dX12_inWords_51 : decode cX12_inWords 51 = .ok (.getfield 123, 3) := by decide +kernel
theorem dX12_inWords_54 : decode cX12_inWords 54 = .ok (.isub, 1) := by decide +kernel
theorem dX12_inWords_55 : decode cX12_inWords 55 = .ok (.if_icmp .ne 7, 3) := by decide +kernel
theorem dX12_inWords_58 : decode cX12_inWords 58 = .ok (.iconst 1, 1) := by decide +kernel
theorem dX12_inWords_59 : decode cX12_inWords 59 = .ok (.goto 4, 3) := by decide +kernel
theorem dX12_inWords_62 : decode cX12_inWords 62 = .ok (.iconst 0, 1) := by decide +kernel
theorem dX12_inWords_63 : decode cX12_inWords 63 = .ok (.istore 5, 2) := by decide +kernel
theorem dX12_inWords_65 : decode cX12_inWords 65 = .ok (.iload_n 3, 1) := by decide +kernel
theorem dX12_inWords_66 : decode cX12_inWords 66 = .ok (.istore 6, 2) := by decide +kernel
theorem dX12_inWords_68 : decode cX12_inWords 68 = .ok (.iload 6, 2) := by decide +kernel
theorem dX12_inWords_70 : decode cX12_inWords 70 = .ok (.iload 4, 2) := by decide +kernel
theorem dX12_inWords_72 : decode cX12_inWords 72 = .ok (.if_icmp .ge 43, 3) := by decide +kernel
theorem dX12_inWords_75 : decode cX12_inWords 75 = .ok (.iload 5, 2) := by decide +kernel
theorem dX12_inWords_77 : decode cX12_inWords 77 = .ok (.ifCond .eq 38, 3) := by decide +kernel
theorem dX12_inWords_80 : decode cX12_inWords 80 = .ok (.aload_n 1, 1) := by decide +kernel
theorem dX12_inWords_81 : decode cX12_inWords 81 = .ok (.iload 6, 2) := by decide +kernel
theorem dX12_inWords_83 : decode cX12_inWords 83 = .ok (.invokevirtual 150, 3) := by decide +kernel
theorem dX12_inWords_86 : decode cX12_inWords 86 = .ok (.aload_n 0, 1) := by decide +kernel
theorem dX12_inWords_87 : decode cX12_inWords 87 = .ok (.aload_n 0, 1) := by decide +kernel
theorem dX12_inWords_88 : decode cX12_inWords 88 = .ok (.getfield 123, 3) := by decide +kernel
theorem dX12_inWords_91 : decode cX12_inWords 91 = .ok (.iload 6, 2) := by decide +kernel
theorem dX12_inWords_93 : decode cX12_inWords 93 = .ok (.iadd, 1) := by decide +kernel
theorem dX12_inWords_94 : decode cX12_inWords 94 = .ok (.iload_n 3, 1) := by decide +kernel
theorem dX12_inWords_95 : decode cX12_inWords 95 = .ok (.isub, 1) := by decide +kernel
theorem dX12_inWords_96 : decode cX12_inWords 96 = .ok (.invokevirtual 120, 3) := by decide +kernel
theorem dX12_inWords_99 : decode cX12_inWords 99 = .ok (.if_icmp .ne 7, 3) := by decide +kernel
theorem dX12_inWords_102 : decode cX12_inWords 102 = .ok (.iconst 1, 1) := by decide +kernel
theorem dX12_inWords_103 : decode cX12_inWords 103 = .ok (.goto 4, 3) := by decide +kernel
theorem dX12_inWords_106 : decode cX12_inWords 106 = .ok (.iconst 0, 1) := by decide +kernel
theorem dX12_inWords_107 : decode cX12_inWords 107 = .ok (.istore 5, 2) := by decide +kernel
theorem dX12_inWords_109 : decode cX12_inWords 109 = .ok (.iinc 6 1, 3) := by decide +kernel
theorem dX12_inWords_112 : decode cX12_inWords 112 = .ok (.goto (-44), 3) := by decide +kernel
theorem dX12_inWords_115 : decode cX12_inWords 115 = .ok (.iload 5, 2) := by decide +kernel
theorem dX12_inWords_117 : decode cX12_inWords 117 = .ok (.ifCond .eq 5, 3) := by decide +kernel
theorem dX12_inWords_120 : decode cX12_inWords 120 = .ok (.iload_n 2, 1) := by decide +kernel
theorem dX12_inWords_121 : decode cX12_inWords 121 = .ok (.ireturn, 1) := by decide +kernel
theorem dX12_inWords_122 : decode cX12_inWords 122 = .ok (.iinc 2 1, 3) := by decide +kernel
theorem dX12_inWords_125 : decode cX12_inWords 125 = .ok (.iload 4, 2) := by decide +kernel
theorem dX12_inWords_127 : decode cX12_inWords 127 = .ok (.iconst 1, 1) := by decide +kernel
theorem dX12_inWords_128 : decode cX12_inWords 128 = .ok (.iadd, 1) := by decide +kernel
theorem dX12_inWords_129 : decode cX12_inWords 129 = .ok (.istore_n 3, 1) := by decide +kernel
theorem dX12_inWords_130 : decode cX12_inWords 130 = .ok (.goto (-116), 3) := by decide +kernel
theorem dX12_inWords_133 : decode cX12_inWords 133 = .ok (.iconst (-1), 1) := by decide +kernel
theorem dX12_inWords_134 : decode cX12_inWords 134 = .ok (.ireturn, 1) := by decide +kernel
theorem mv_X12_inWords : MV yX12_inWords RX12 cX12_inWords 7 (some .int) 1 := ⟨tb_1444, tb_1443, ts_48, tb_16, by decide +kernel, by decide +kernel, by decide +kernel⟩
def f_X12_inWords_j115 (fu : Nat) (i1 : Nat) (m_text : Nat → Int32) (m_size : Int32) (m_token : Int32) (m_from : Int32) (m_end : Int32) (k14 : Int32 → Int32 → Option (Int32)) (x2 : Int32) (x4 : Int32) (x5 : Int32) : Option (Int32) := (if x5 = 0 then bnd (x2 + 1) fun x2_19 => bnd (x4 + 1) fun x3_20 => k14 x2_19 x3_20 else some (x2))
def f_X12_inWords_b68 (fu : Nat) (i1 : Nat) (m_text : Nat → Int32) (m_size : Int32) (m_token : Int32) (m_from : Int32) (m_end : Int32) (k14 : Int32 → Int32 → Option (Int32)) (k68 : Int32 → Int32 → Int32 → Int32 → Int32 → Option (Int32)) (x2 : Int32) (x3 : Int32) (x4 : Int32) (x5 : Int32) (x6 : Int32) : Option (Int32) := (if x4 ≤ x6 then f_X12_inWords_j115 fu i1 m_text m_size m_token m_from m_end k14 x2 x4 x5 else (if x5 = 0 then f_X12_inWords_j115 fu i1 m_text m_size m_token m_from m_end k14 x2 x4 x5 else (f_J0_charAt_5068e fu i1 x6).bind fun z_23 => (f_X12_byteAt fu m_text m_size ((m_from + x6) - x3)).bind fun z_24 => (if z_23 = z_24 then bnd (x6 + 1) fun x6_27 => k68 x2 x3 x4 1 x6_27 else bnd (x6 + 1) fun x6_26 => k68 x2 x3 x4 0 x6_26)))
def f_X12_inWords_l68 (fu : Nat) (i1 : Nat) (m_text : Nat → Int32) (m_size : Int32) (m_token : Int32) (m_from : Int32) (m_end : Int32) (k14 : Int32 → Int32 → Option (Int32)) : Nat → Int32 → Int32 → Int32 → Int32 → Int32 → Option (Int32)
  | 0, _, _, _, _, _ => none
  | n + 1, x2, x3, x4, x5, x6 => f_X12_inWords_b68 fu i1 m_text m_size m_token m_from m_end k14 (f_X12_inWords_l68 fu i1 m_text m_size m_token m_from m_end k14 n) x2 x3 x4 x5 x6
def f_X12_inWords_b25 (fu : Nat) (i1 : Nat) (m_text : Nat → Int32) (m_size : Int32) (m_token : Int32) (m_from : Int32) (m_end : Int32) (k14 : Int32 → Int32 → Option (Int32)) (k25 : Int32 → Int32 → Int32 → Option (Int32)) (x2 : Int32) (x3 : Int32) (x4 : Int32) : Option (Int32) := (f_J0_charAt_5068e fu i1 x4).bind fun z_28 => (if z_28 = 32 then (if (x4 - x3) = (m_end - m_from) then f_X12_inWords_l68 fu i1 m_text m_size m_token m_from m_end k14 fu x2 x3 x4 1 x3 else f_X12_inWords_l68 fu i1 m_text m_size m_token m_from m_end k14 fu x2 x3 x4 0 x3) else bnd (x4 + 1) fun x4_31 => k25 x2 x3 x4_31)
def f_X12_inWords_l25 (fu : Nat) (i1 : Nat) (m_text : Nat → Int32) (m_size : Int32) (m_token : Int32) (m_from : Int32) (m_end : Int32) (k14 : Int32 → Int32 → Option (Int32)) : Nat → Int32 → Int32 → Int32 → Option (Int32)
  | 0, _, _, _ => none
  | n + 1, x2, x3, x4 => f_X12_inWords_b25 fu i1 m_text m_size m_token m_from m_end k14 (f_X12_inWords_l25 fu i1 m_text m_size m_token m_from m_end k14 n) x2 x3 x4
def f_X12_inWords_b14 (fu : Nat) (i1 : Nat) (m_text : Nat → Int32) (m_size : Int32) (m_token : Int32) (m_from : Int32) (m_end : Int32) (k14 : Int32 → Int32 → Option (Int32)) (x2 : Int32) (x3 : Int32) : Option (Int32) := (f_J0_length_8abf5 fu i1).bind fun z_32 => (if z_32 ≤ x3 then some ((-1)) else f_X12_inWords_l25 fu i1 m_text m_size m_token m_from m_end k14 fu x2 x3 x3)
def f_X12_inWords_l14 (fu : Nat) (i1 : Nat) (m_text : Nat → Int32) (m_size : Int32) (m_token : Int32) (m_from : Int32) (m_end : Int32) : Nat → Int32 → Int32 → Option (Int32)
  | 0, _, _ => none
  | n + 1, x2, x3 => f_X12_inWords_b14 fu i1 m_text m_size m_token m_from m_end (f_X12_inWords_l14 fu i1 m_text m_size m_token m_from m_end n) x2 x3
def f_X12_inWords (fu : Nat) (i1 : Nat) (m_text : Nat → Int32) (m_size : Int32) (m_token : Int32) (m_from : Int32) (m_end : Int32) : Option (Int32) := (if m_token = 2 then f_X12_inWords_l14 fu i1 m_text m_size m_token m_from m_end fu 0 1 else some ((-1)))
abbrev rm_X12_inWords : Room := { frames := 4, cells := 0, slots := 0, locals := 85 }
set_option maxHeartbeats 4000000 in
set_option maxRecDepth 100000 in
theorem c_X12_inWords (l : Launch) (D : va_G) (cy : Nat → ClassId) (fu : Nat) (tO : Nat) (aK aV : Nat → Nat) (i1 : Nat) (hi1 : i1 < 2) (A_m : Nat → Nat) (m_at : Nat → Int32) (m_names : Nat → Int64) (m_status : Int32) (m_top : Int64) (m_bottom : Int64) (m_sort : Nat → Int32) (m_trayMany : Nat → Int32) (m_trays : Nat → Int64) (m_tape : Nat → Int32) (m_text : Nat → Int32) (m_taped : Int32) (m_size : Int32) (m_token : Int32) (m_from : Int32) (m_end : Int32) (m_value : Int32) (m_faultKind : Int32) (m_faultPlace : Int32) (m_faults : Int32) (m_seen : Int32) (m_toldParts : Int32) (m_opened : Nat → Int32) (m_depth : Int32) (m_counted : Int32) (m_bestOrder : Int32) (m_standers : Nat → Int32) (m_has : Nat → Int32) (m_bestHas : Nat → Int32) (m_standerMany : Int32) (m_bestCouples : Int32) (m_bestFondness : Int32) (m_cameTo : Nat → Int32) (m_doesStandFirst : Int32) (m_stoodBy : Nat → Int64) (m_drawn : Int32) (m_ranSteps : Int32) (m_loops : Nat → Int32) (m_ran : Nat → Int32) (m_told1 : Nat → Int32) (m_isTold : Int32) (m_marks : Int32) (res : Int32) (h : f_X12_inWords fu i1 m_text m_size m_token m_from m_end = some res) : Met l yX12_inWords (WW yX12_inWords cX12_inWords 7 (some .int)) rm_X12_inWords (RdX D cy tO aK aV [.ref (A_m 0), .ref (aK i1)] [bl_X12 cy A_m m_at m_names m_status m_top m_bottom m_sort m_trayMany m_trays m_tape m_text m_taped m_size m_token m_from m_end m_value m_faultKind m_faultPlace m_faults m_seen m_toldParts m_opened m_depth m_counted m_bestOrder m_standers m_has m_bestHas m_standerMany m_bestCouples m_bestFondness m_cameTo m_doesStandFirst m_stoodBy m_drawn m_ranSteps m_loops m_ran m_told1 m_isTold m_marks]) (vp_Si (fun v => v = res)) 0 0 (fun _ => False) := by
  refine Met.ofW (cc := cX12_inWords) (maxL := 7) (ret := (some .int)) (by decide) rfl ?_
  intro p e s m args below meth c s₁ B hml hv
  obtain ⟨hargs, hP, hX, hE⟩ := hv
  have hx := B.exec
  have hb := B.bytes
  have hr := B.returns
  have ht : ∀ w ∈ lw_gd, w.before args s = true := fun w hw => atoms_spec (ws := WW yX12_inWords cX12_inWords 7 (some .int)) B.pre w (List.mem_cons_of_mem _ hw)
  have hown : s.vm.findClass RX12 = some m.cls := findClass_of_methodNamed B.named
  have hlocks := B.notSynchronized
  have hP : PB D [bl_X12 cy A_m m_at m_names m_status m_top m_bottom m_sort m_trayMany m_trays m_tape m_text m_taped m_size m_token m_from m_end m_value m_faultKind m_faultPlace m_faults m_seen m_toldParts m_opened m_depth m_counted m_bestOrder m_standers m_has m_bestHas m_standerMany m_bestCouples m_bestFondness m_cameTo m_doesStandFirst m_stoodBy m_drawn m_ranSteps m_loops m_ran m_told1 m_isTold m_marks] s.heap := hP
  have hS : va_S (fun _ => False) s.heap s.heap [] := va_S.rf
  obtain ⟨ls, hl, hent⟩ := ent (m := m) (n := 7) hargs (Nat.le_of_ble_eq_true rfl) (lv := [(0, .ref (A_m 0)), (1, .ref (aK i1))]) rfl
  rw [hent]
  clear hent
  have l14 : ∀ (n14 : Nat) (x2 : Int32) (x3 : Int32) (ls : Array Slot), lv_has ls 7 [(0, .ref (A_m 0)), (1, .ref (aK i1)), (2, .int x2), (3, .int x3)] → f_X12_inWords_l14 fu i1 m_text m_size m_token m_from m_end n14 x2 x3 = some res → W p l e (headSpec (WW yX12_inWords cX12_inWords 7 (some .int)) rm_X12_inWords).room s m args below meth c s.heap [] 0 0 (MQ below (vp_Si (fun v => v = res)) args s 0 0 (fun _ => False)) (F0 m 14 ls []) := by
    intro n14
    induction n14 with
    | zero => intro x2 x3 ls hl h; cases h
    | succ n14 ih14 =>
      have j115 : ∀ (x2 : Int32) (x4 : Int32) (x5 : Int32) (ls : Array Slot), lv_has ls 7 [(0, .ref (A_m 0)), (1, .ref (aK i1)), (2, .int x2), (4, .int x4), (5, .int x5)] → f_X12_inWords_j115 fu i1 m_text m_size m_token m_from m_end (f_X12_inWords_l14 fu i1 m_text m_size m_token m_from m_end n14) x2 x4 x5 = some res → W p l e (headSpec (WW yX12_inWords cX12_inWords 7 (some .int)) rm_X12_inWords).room s m args below meth c s.heap [] 0 0 (MQ below (vp_Si (fun v => v = res)) args s 0 0 (fun _ => False)) (F0 m 115 ls []) := by
        intro x2 x4 x5 ls hl h
        unfold f_X12_inWords_j115 at h
        refine lv_iload hx hb dX12_inWords_115 (lv_at hl 4 rfl) ?_
        refine lv_if_eq (tgt := 122) hx hb dX12_inWords_117 (by decide) (fun c_18 => ?_) (fun c_18 => ?_)
        · have h := it c_18 h
          obtain ⟨x2_19, e_x2_19⟩ : ∃ y : Int32, y = x2 + 1 := ⟨_, rfl⟩
          have h := bn e_x2_19 h
          refine lv_iinc (v := x2_19) (lv' := [(2, .int x2_19), (0, .ref (A_m 0)), (1, .ref (aK i1)), (4, .int x4), (5, .int x5)]) hx hb dX12_inWords_122 hl (k := 2) rfl (by rw [e_x2_19]; rfl) (by decide) rfl (fun ls hl => ?_)
          refine lv_iload hx hb dX12_inWords_125 (lv_at hl 3 rfl) ?_
          refine lv_iconst (v := 1) hx hb dX12_inWords_127 (by decide) ?_
          refine lv_iadd hx hb dX12_inWords_128 ?_
          refine lv_topi (fun x3_20 e_x3_20 => ?_)
          have h := bn e_x3_20 h
          refine lv_istore_n (lv' := [(3, .int x3_20), (2, .int x2_19), (0, .ref (A_m 0)), (1, .ref (aK i1)), (4, .int x4), (5, .int x5)]) hx hb dX12_inWords_129 rfl hl (by decide) rfl (fun ls hl => ?_)
          refine lv_goto (tgt := 14) hx hb dX12_inWords_130 (by decide) ?_
          exact ih14 x2_19 x3_20 ls (lv_sub hl [2, 3, 1, 0] rfl) h
        · have h := ie c_18 h
          refine lv_iload_n hx hb dX12_inWords_120 rfl (lv_at hl 2 rfl) ?_
          cases h
          exact W.iret hx hb hr (fun _ ht9 _ => ⟨_, rfl, rfl, ht9⟩) (fun _ hq => by cases hq) dX12_inWords_121
      have l68 : ∀ (n68 : Nat) (x2 : Int32) (x3 : Int32) (x4 : Int32) (x5 : Int32) (x6 : Int32) (ls : Array Slot), lv_has ls 7 [(0, .ref (A_m 0)), (1, .ref (aK i1)), (2, .int x2), (3, .int x3), (4, .int x4), (5, .int x5), (6, .int x6)] → f_X12_inWords_l68 fu i1 m_text m_size m_token m_from m_end (f_X12_inWords_l14 fu i1 m_text m_size m_token m_from m_end n14) n68 x2 x3 x4 x5 x6 = some res → W p l e (headSpec (WW yX12_inWords cX12_inWords 7 (some .int)) rm_X12_inWords).room s m args below meth c s.heap [] 0 0 (MQ below (vp_Si (fun v => v = res)) args s 0 0 (fun _ => False)) (F0 m 68 ls []) := by
        intro n68
        induction n68 with
        | zero => intro x2 x3 x4 x5 x6 ls hl h; cases h
        | succ n68 ih68 =>
          intro x2 x3 x4 x5 x6 ls hl h
          have h : f_X12_inWords_b68 fu i1 m_text m_size m_token m_from m_end (f_X12_inWords_l14 fu i1 m_text m_size m_token m_from m_end n14) (f_X12_inWords_l68 fu i1 m_text m_size m_token m_from m_end (f_X12_inWords_l14 fu i1 m_text m_size m_token m_from m_end n14) n68) x2 x3 x4 x5 x6 = some res := h
          unfold f_X12_inWords_b68 at h
          refine lv_iload hx hb dX12_inWords_68 (lv_at hl 6 rfl) ?_
          refine lv_iload hx hb dX12_inWords_70 (lv_at hl 4 rfl) ?_
          refine lv_icmp_ge (tgt := 115) hx hb dX12_inWords_72 (by decide) (fun c_21 => ?_) (fun c_21 => ?_)
          · have h := it c_21 h
            exact j115 x2 x4 x5 ls (lv_sub hl [0, 1, 2, 4, 5] rfl) h
          · have h := ie c_21 h
            refine lv_iload hx hb dX12_inWords_75 (lv_at hl 5 rfl) ?_
            refine lv_if_eq (tgt := 115) hx hb dX12_inWords_77 (by decide) (fun c_22 => ?_) (fun c_22 => ?_)
            · have h := it c_22 h
              exact j115 x2 x4 x5 ls (lv_sub hl [0, 1, 2, 4, 5] rfl) h
            · have h := ie c_22 h
              refine lv_aload_n hx hb dX12_inWords_80 rfl (lv_at hl 1 rfl) ?_
              refine lv_iload hx hb dX12_inWords_81 (lv_at hl 6 rfl) ?_
              obtain ⟨z_23, e_z_23, h⟩ := bi h
              refine roTiX (rest := []) ⟨hx, hb, hml, hown, ht⟩ (c_J0_charAt_5068e l D cy fu tO aK aV i1 hi1  x6 z_23 e_z_23) (cV ht mv_J0_charAt_5068e tb_1446 rfl rfl ⟨Nat.le_of_ble_eq_true rfl, Nat.le_of_ble_eq_true rfl⟩) (P_sub hP [] rfl) hX hE hS hi1 rfl hl.1 rfl (Nat.le_of_ble_eq_true rfl) dX12_inWords_83 ⟨Nat.le_of_ble_eq_true rfl, Nat.le_of_ble_eq_true rfl⟩ ?_
              refine lv_aload_n hx hb dX12_inWords_86 rfl (lv_at hl 0 rfl) ?_
              refine lv_aload_n hx hb dX12_inWords_87 rfl (lv_at hl 0 rfl) ?_
              refine xget (i := 0) (j := 0) (k := 13) (T := TX12) hx hb ht tb_iX12 hown hX hP rfl rfl rfl (by decide) tb_1242 rfl dX12_inWords_88 ?_
              refine lv_iload hx hb dX12_inWords_91 (lv_at hl 6 rfl) ?_
              refine lv_iadd hx hb dX12_inWords_93 ?_
              refine lv_iload_n hx hb dX12_inWords_94 rfl (lv_at hl 3 rfl) ?_
              refine lv_isub hx hb dX12_inWords_95 ?_
              obtain ⟨z_24, e_z_24, h⟩ := bi h
              refine roVi (rest := [.int z_23]) ⟨hx, hb, hml, hown, ht⟩ (c_X12_byteAt l D cy fu A_m m_at m_names m_status m_top m_bottom m_sort m_trayMany m_trays m_tape m_text m_taped m_size m_token m_from m_end m_value m_faultKind m_faultPlace m_faults m_seen m_toldParts m_opened m_depth m_counted m_bestOrder m_standers m_has m_bestHas m_standerMany m_bestCouples m_bestFondness m_cameTo m_doesStandFirst m_stoodBy m_drawn m_ranSteps m_loops m_ran m_told1 m_isTold m_marks ((m_from + x6) - x3) z_24 e_z_24) (cV ht mv_X12_byteAt tb_1420 rfl rfl ⟨Nat.le_of_ble_eq_true rfl, Nat.le_of_ble_eq_true rfl⟩) (P_sub hP [0] rfl) hX rfl rfl rfl hl.1 rfl (Nat.le_of_ble_eq_true rfl) dX12_inWords_96 ⟨Nat.le_of_ble_eq_true rfl, Nat.le_of_ble_eq_true rfl⟩ ?_
              refine lv_icmp_ne (tgt := 106) hx hb dX12_inWords_99 (by decide) (fun c_25 => ?_) (fun c_25 => ?_)
              · have h := ie c_25 h
                refine lv_iconst (v := 0) hx hb dX12_inWords_106 (by decide) ?_
                refine lv_istore (lv' := [(5, .int 0), (0, .ref (A_m 0)), (1, .ref (aK i1)), (2, .int x2), (3, .int x3), (4, .int x4), (6, .int x6)]) hx hb dX12_inWords_107 hl (by decide) rfl (fun ls hl => ?_)
                obtain ⟨x6_26, e_x6_26⟩ : ∃ y : Int32, y = x6 + 1 := ⟨_, rfl⟩
                have h := bn e_x6_26 h
                refine lv_iinc (v := x6_26) (lv' := [(6, .int x6_26), (5, .int 0), (0, .ref (A_m 0)), (1, .ref (aK i1)), (2, .int x2), (3, .int x3), (4, .int x4)]) hx hb dX12_inWords_109 hl (k := 6) rfl (by rw [e_x6_26]; rfl) (by decide) rfl (fun ls hl => ?_)
                refine lv_goto (tgt := 68) hx hb dX12_inWords_112 (by decide) ?_
                exact ih68 x2 x3 x4 0 x6_26 ls (lv_sub hl [2, 3, 4, 5, 6, 1, 0] rfl) h
              · have h := it c_25 h
                refine lv_iconst (v := 1) hx hb dX12_inWords_102 (by decide) ?_
                refine lv_goto (tgt := 107) hx hb dX12_inWords_103 (by decide) ?_
                refine lv_istore (lv' := [(5, .int 1), (0, .ref (A_m 0)), (1, .ref (aK i1)), (2, .int x2), (3, .int x3), (4, .int x4), (6, .int x6)]) hx hb dX12_inWords_107 hl (by decide) rfl (fun ls hl => ?_)
                obtain ⟨x6_27, e_x6_27⟩ : ∃ y : Int32, y = x6 + 1 := ⟨_, rfl⟩
                have h := bn e_x6_27 h
                refine lv_iinc (v := x6_27) (lv' := [(6, .int x6_27), (5, .int 1), (0, .ref (A_m 0)), (1, .ref (aK i1)), (2, .int x2), (3, .int x3), (4, .int x4)]) hx hb dX12_inWords_109 hl (k := 6) rfl (by rw [e_x6_27]; rfl) (by decide) rfl (fun ls hl => ?_)
                refine lv_goto (tgt := 68) hx hb dX12_inWords_112 (by decide) ?_
                exact ih68 x2 x3 x4 1 x6_27 ls (lv_sub hl [2, 3, 4, 5, 6, 1, 0] rfl) h
      have l25 : ∀ (n25 : Nat) (x2 : Int32) (x3 : Int32) (x4 : Int32) (ls : Array Slot), lv_has ls 7 [(0, .ref (A_m 0)), (1, .ref (aK i1)), (2, .int x2), (3, .int x3), (4, .int x4)] → f_X12_inWords_l25 fu i1 m_text m_size m_token m_from m_end (f_X12_inWords_l14 fu i1 m_text m_size m_token m_from m_end n14) n25 x2 x3 x4 = some res → W p l e (headSpec (WW yX12_inWords cX12_inWords 7 (some .int)) rm_X12_inWords).room s m args below meth c s.heap [] 0 0 (MQ below (vp_Si (fun v => v = res)) args s 0 0 (fun _ => False)) (F0 m 25 ls []) := by
        intro n25
        induction n25 with
        | zero => intro x2 x3 x4 ls hl h; cases h
        | succ n25 ih25 =>
          intro x2 x3 x4 ls hl h
          have h : f_X12_inWords_b25 fu i1 m_text m_size m_token m_from m_end (f_X12_inWords_l14 fu i1 m_text m_size m_token m_from m_end n14) (f_X12_inWords_l25 fu i1 m_text m_size m_token m_from m_end (f_X12_inWords_l14 fu i1 m_text m_size m_token m_from m_end n14) n25) x2 x3 x4 = some res := h
          unfold f_X12_inWords_b25 at h
          refine lv_aload_n hx hb dX12_inWords_25 rfl (lv_at hl 1 rfl) ?_
          refine lv_iload hx hb dX12_inWords_26 (lv_at hl 4 rfl) ?_
          obtain ⟨z_28, e_z_28, h⟩ := bi h
          refine roTiX (rest := []) ⟨hx, hb, hml, hown, ht⟩ (c_J0_charAt_5068e l D cy fu tO aK aV i1 hi1  x4 z_28 e_z_28) (cV ht mv_J0_charAt_5068e tb_1446 rfl rfl ⟨Nat.le_of_ble_eq_true rfl, Nat.le_of_ble_eq_true rfl⟩) (P_sub hP [] rfl) hX hE hS hi1 rfl hl.1 rfl (Nat.le_of_ble_eq_true rfl) dX12_inWords_28 ⟨Nat.le_of_ble_eq_true rfl, Nat.le_of_ble_eq_true rfl⟩ ?_
          refine lv_bipush (v := 32) hx hb dX12_inWords_31 (by decide) ?_
          refine lv_icmp_eq (tgt := 42) hx hb dX12_inWords_33 (by decide) (fun c_29 => ?_) (fun c_29 => ?_)
          · have h := it c_29 h
            refine lv_iload hx hb dX12_inWords_42 (lv_at hl 4 rfl) ?_
            refine lv_iload_n hx hb dX12_inWords_44 rfl (lv_at hl 3 rfl) ?_
            refine lv_isub hx hb dX12_inWords_45 ?_
            refine lv_aload_n hx hb dX12_inWords_46 rfl (lv_at hl 0 rfl) ?_
            refine xget (i := 0) (j := 0) (k := 14) (T := TX12) hx hb ht tb_iX12 hown hX hP rfl rfl rfl (by decide) tb_1243 rfl dX12_inWords_47 ?_
            refine lv_aload_n hx hb dX12_inWords_50 rfl (lv_at hl 0 rfl) ?_
            refine xget (i := 0) (j := 0) (k := 13) (T := TX12) hx hb ht tb_iX12 hown hX hP rfl rfl rfl (by decide) tb_1242 rfl dX12_inWords_51 ?_
            refine lv_isub hx hb dX12_inWords_54 ?_
            refine lv_icmp_ne (tgt := 62) hx hb dX12_inWords_55 (by decide) (fun c_30 => ?_) (fun c_30 => ?_)
            · have h := ie c_30 h
              refine lv_iconst (v := 0) hx hb dX12_inWords_62 (by decide) ?_
              refine lv_istore (lv' := [(5, .int 0), (0, .ref (A_m 0)), (1, .ref (aK i1)), (2, .int x2), (3, .int x3), (4, .int x4)]) hx hb dX12_inWords_63 hl (by decide) rfl (fun ls hl => ?_)
              refine lv_iload_n hx hb dX12_inWords_65 rfl (lv_at hl 4 rfl) ?_
              refine lv_istore (lv' := [(6, .int x3), (5, .int 0), (0, .ref (A_m 0)), (1, .ref (aK i1)), (2, .int x2), (3, .int x3), (4, .int x4)]) hx hb dX12_inWords_66 hl (by decide) rfl (fun ls hl => ?_)
              exact l68 fu x2 x3 x4 0 x3 ls (lv_sub hl [2, 3, 4, 5, 6, 1, 0] rfl) h
            · have h := it c_30 h
              refine lv_iconst (v := 1) hx hb dX12_inWords_58 (by decide) ?_
              refine lv_goto (tgt := 63) hx hb dX12_inWords_59 (by decide) ?_
              refine lv_istore (lv' := [(5, .int 1), (0, .ref (A_m 0)), (1, .ref (aK i1)), (2, .int x2), (3, .int x3), (4, .int x4)]) hx hb dX12_inWords_63 hl (by decide) rfl (fun ls hl => ?_)
              refine lv_iload_n hx hb dX12_inWords_65 rfl (lv_at hl 4 rfl) ?_
              refine lv_istore (lv' := [(6, .int x3), (5, .int 1), (0, .ref (A_m 0)), (1, .ref (aK i1)), (2, .int x2), (3, .int x3), (4, .int x4)]) hx hb dX12_inWords_66 hl (by decide) rfl (fun ls hl => ?_)
              exact l68 fu x2 x3 x4 1 x3 ls (lv_sub hl [2, 3, 4, 5, 6, 1, 0] rfl) h
          · have h := ie c_29 h
            obtain ⟨x4_31, e_x4_31⟩ : ∃ y : Int32, y = x4 + 1 := ⟨_, rfl⟩
            have h := bn e_x4_31 h
            refine lv_iinc (v := x4_31) (lv' := [(4, .int x4_31), (0, .ref (A_m 0)), (1, .ref (aK i1)), (2, .int x2), (3, .int x3)]) hx hb dX12_inWords_36 hl (k := 4) rfl (by rw [e_x4_31]; rfl) (by decide) rfl (fun ls hl => ?_)
            refine lv_goto (tgt := 25) hx hb dX12_inWords_39 (by decide) ?_
            exact ih25 x2 x3 x4_31 ls (lv_sub hl [1, 2, 3, 4, 0] rfl) h
      intro x2 x3 ls hl h
      have h : f_X12_inWords_b14 fu i1 m_text m_size m_token m_from m_end (f_X12_inWords_l14 fu i1 m_text m_size m_token m_from m_end n14) x2 x3 = some res := h
      unfold f_X12_inWords_b14 at h
      refine lv_iload_n hx hb dX12_inWords_14 rfl (lv_at hl 3 rfl) ?_
      refine lv_aload_n hx hb dX12_inWords_15 rfl (lv_at hl 1 rfl) ?_
      obtain ⟨z_32, e_z_32, h⟩ := bi h
      refine roTiX (rest := [.int x3]) ⟨hx, hb, hml, hown, ht⟩ (c_J0_length_8abf5 l D cy fu tO aK aV i1 hi1  z_32 e_z_32) (cV ht mv_J0_length_8abf5 tb_1445 rfl rfl ⟨Nat.le_of_ble_eq_true rfl, Nat.le_of_ble_eq_true rfl⟩) (P_sub hP [] rfl) hX hE hS hi1 rfl hl.1 rfl (Nat.le_of_ble_eq_true rfl) dX12_inWords_16 ⟨Nat.le_of_ble_eq_true rfl, Nat.le_of_ble_eq_true rfl⟩ ?_
      refine lv_icmp_ge (tgt := 133) hx hb dX12_inWords_19 (by decide) (fun c_33 => ?_) (fun c_33 => ?_)
      · have h := it c_33 h
        refine lv_iconst (v := (-1)) hx hb dX12_inWords_133 (by decide) ?_
        cases h
        exact W.iret hx hb hr (fun _ ht9 _ => ⟨_, rfl, rfl, ht9⟩) (fun _ hq => by cases hq) dX12_inWords_134
      · have h := ie c_33 h
        refine lv_iload_n hx hb dX12_inWords_22 rfl (lv_at hl 3 rfl) ?_
        refine lv_istore (lv' := [(4, .int x3), (0, .ref (A_m 0)), (1, .ref (aK i1)), (2, .int x2), (3, .int x3)]) hx hb dX12_inWords_23 hl (by decide) rfl (fun ls hl => ?_)
        exact l25 fu x2 x3 x3 ls (lv_sub hl [1, 2, 3, 4, 0] rfl) h
  unfold f_X12_inWords at h
  refine lv_aload_n hx hb dX12_inWords_0 rfl (lv_at hl 0 rfl) ?_
  refine xget (i := 0) (j := 0) (k := 12) (T := TX12) hx hb ht tb_iX12 hown hX hP rfl rfl rfl (by decide) tb_1241 rfl dX12_inWords_1 ?_
  refine lv_iconst (v := 2) hx hb dX12_inWords_4 (by decide) ?_
  refine lv_icmp_eq (tgt := 10) hx hb dX12_inWords_5 (by decide) (fun c_34 => ?_) (fun c_34 => ?_)
  · have h := it c_34 h
    refine lv_iconst (v := 0) hx hb dX12_inWords_10 (by decide) ?_
    refine lv_istore_n (lv' := [(2, .int 0), (0, .ref (A_m 0)), (1, .ref (aK i1))]) hx hb dX12_inWords_11 rfl hl (by decide) rfl (fun ls hl => ?_)
    refine lv_iconst (v := 1) hx hb dX12_inWords_12 (by decide) ?_
    refine lv_istore_n (lv' := [(3, .int 1), (2, .int 0), (0, .ref (A_m 0)), (1, .ref (aK i1))]) hx hb dX12_inWords_13 rfl hl (by decide) rfl (fun ls hl => ?_)
    exact l14 fu 0 1 ls (lv_sub hl [2, 3, 1, 0] rfl) h
  · have h := ie c_34 h
    refine lv_iconst (v := (-1)) hx hb dX12_inWords_8 (by decide) ?_
    cases h
    exact W.iret hx hb hr (fun _ ht9 _ => ⟨_, rfl, rfl, ht9⟩) (fun _ hq => by cases hq) dX12_inWords_9
theorem dX12_wantWord_0 : decode cX12_wantWord 0 = .ok (.aload_n 0, 1) := by decide +kernel
theorem dX12_wantWord_1 : decode cX12_wantWord 1 = .ok (.aload_n 1, 1) := by decide +kernel
theorem dX12_wantWord_2 : decode cX12_wantWord 2 = .ok (.invokevirtual 169, 3) := by decide +kernel
theorem dX12_wantWord_5 : decode cX12_wantWord 5 = .ok (.iload_n 2, 1) := by decide +kernel
theorem dX12_wantWord_6 : decode cX12_wantWord 6 = .ok (.if_icmp .eq 9, 3) := by decide +kernel
theorem dX12_wantWord_9 : decode cX12_wantWord 9 = .ok (.aload_n 0, 1) := by decide +kernel
theorem dX12_wantWord_10 : decode cX12_wantWord 10 = .ok (.iconst 2, 1) := by decide +kernel
theorem dX12_wantWord_11 : decode cX12_wantWord 11 = .ok (.invokevirtual 166, 3) := by decide +kernel
theorem dX12_wantWord_14 : decode cX12_wantWord 14 = .ok (.ireturn, 1) := by decide +kernel
theorem dX12_wantWord_15 : decode cX12_wantWord 15 = .ok (.aload_n 0, 1) := by decide +kernel
theorem dX12_wantWord_16 : decode cX12_wantWord 16 = .ok (.invokevirtual 160, 3) := by decide +kernel
theorem dX12_wantWord_19 : decode cX12_wantWord 19 = .ok (.iconst 1, 1) := by decide +kernel
theorem dX12_wantWord_20 : decode cX12_wantWord 20 = .ok (.ireturn, 1) := by decide +kernel
theorem mv_X12_wantWord : MV yX12_wantWord RX12 cX12_wantWord 3 (some .boolean) 2 := ⟨tb_1474, tb_1473, ts_55, tb_16, by decide +kernel, by decide +kernel, by decide +kernel⟩
def f_X12_wantWord (fu : Nat) (i1 : Nat) (m_text : Nat → Int32) (m_size : Int32) (m_token : Int32) (m_from : Int32) (m_end : Int32) (m_value : Int32) (m_faultPlace : Int32) (m_faults : Int32) (x2 : Int32) : Option (Int32 × Int32 × Int32 × Int32 × Int32 × Int32 × Int32) := (f_X12_inWords fu i1 m_text m_size m_token m_from m_end).bind fun z_6 => (if z_6 = x2 then (f_X12_ahead fu m_text m_size m_token m_from m_end m_value).bind fun z_8 => some (1, z_8.1, z_8.2.1, z_8.2.2.1, z_8.2.2.2, m_faultPlace, m_faults) else (f_X12_fails fu m_token m_from m_faultPlace m_faults 2).bind fun z_9 => (bz z_9.1).bind fun _ => some (z_9.1, m_token, m_from, m_end, m_value, z_9.2.1, z_9.2.2))
abbrev rm_X12_wantWord : Room := { frames := 5, cells := 0, slots := 0, locals := 111 }
set_option maxHeartbeats 4000000 in
set_option maxRecDepth 100000 in
theorem c_X12_wantWord (l : Launch) (D : va_G) (cy : Nat → ClassId) (fu : Nat) (tO : Nat) (aK aV : Nat → Nat) (i1 : Nat) (hi1 : i1 < 2) (A_m : Nat → Nat) (m_at : Nat → Int32) (m_names : Nat → Int64) (m_status : Int32) (m_top : Int64) (m_bottom : Int64) (m_sort : Nat → Int32) (m_trayMany : Nat → Int32) (m_trays : Nat → Int64) (m_tape : Nat → Int32) (m_text : Nat → Int32) (m_taped : Int32) (m_size : Int32) (m_token : Int32) (m_from : Int32) (m_end : Int32) (m_value : Int32) (m_faultKind : Int32) (m_faultPlace : Int32) (m_faults : Int32) (m_seen : Int32) (m_toldParts : Int32) (m_opened : Nat → Int32) (m_depth : Int32) (m_counted : Int32) (m_bestOrder : Int32) (m_standers : Nat → Int32) (m_has : Nat → Int32) (m_bestHas : Nat → Int32) (m_standerMany : Int32) (m_bestCouples : Int32) (m_bestFondness : Int32) (m_cameTo : Nat → Int32) (m_doesStandFirst : Int32) (m_stoodBy : Nat → Int64) (m_drawn : Int32) (m_ranSteps : Int32) (m_loops : Nat → Int32) (m_ran : Nat → Int32) (m_told1 : Nat → Int32) (m_isTold : Int32) (m_marks : Int32) (x2 : Int32) (res : Int32 × Int32 × Int32 × Int32 × Int32 × Int32 × Int32) (h : f_X12_wantWord fu i1 m_text m_size m_token m_from m_end m_value m_faultPlace m_faults x2 = some res) (A : Nat → Prop) (hA : A = adr [bl_X12 cy A_m m_at m_names m_status m_top m_bottom m_sort m_trayMany m_trays m_tape m_text m_taped m_size m_token m_from m_end m_value m_faultKind m_faultPlace m_faults m_seen m_toldParts m_opened m_depth m_counted m_bestOrder m_standers m_has m_bestHas m_standerMany m_bestCouples m_bestFondness m_cameTo m_doesStandFirst m_stoodBy m_drawn m_ranSteps m_loops m_ran m_told1 m_isTold m_marks]) (W1 : List va_W) (hW1 : W1 = [bl_X12 cy A_m m_at m_names m_status m_top m_bottom m_sort m_trayMany m_trays m_tape m_text m_taped m_size res.2.1 res.2.2.1 res.2.2.2.1 res.2.2.2.2.1 m_faultKind res.2.2.2.2.2.1 res.2.2.2.2.2.2 m_seen m_toldParts m_opened m_depth m_counted m_bestOrder m_standers m_has m_bestHas m_standerMany m_bestCouples m_bestFondness m_cameTo m_doesStandFirst m_stoodBy m_drawn m_ranSteps m_loops m_ran m_told1 m_isTold m_marks]) : Met l yX12_wantWord (WW yX12_wantWord cX12_wantWord 3 (some .boolean)) rm_X12_wantWord (EdX D cy tO aK aV A [.ref (A_m 0), .ref (aK i1), .int x2] [bl_X12 cy A_m m_at m_names m_status m_top m_bottom m_sort m_trayMany m_trays m_tape m_text m_taped m_size m_token m_from m_end m_value m_faultKind m_faultPlace m_faults m_seen m_toldParts m_opened m_depth m_counted m_bestOrder m_standers m_has m_bestHas m_standerMany m_bestCouples m_bestFondness m_cameTo m_doesStandFirst m_stoodBy m_drawn m_ranSteps m_loops m_ran m_told1 m_isTold m_marks]) (Qei D res.1 A W1) 0 0 A := by
  refine Met.ofW (cc := cX12_wantWord) (maxL := 3) (ret := (some .boolean)) (by decide) rfl ?_
  intro p e s m args below meth c s₁ B hml hv
  obtain ⟨hargs, hP, hX, hD0, hE⟩ := hv
  have hx := B.exec
  have hb := B.bytes
  have hr := B.returns
  have ht : ∀ w ∈ lw_gd, w.before args s = true := fun w hw => atoms_spec (ws := WW yX12_wantWord cX12_wantWord 3 (some .boolean)) B.pre w (List.mem_cons_of_mem _ hw)
  have hown : s.vm.findClass RX12 = some m.cls := findClass_of_methodNamed B.named
  have hlocks := B.notSynchronized
  have hP : PD D A [bl_X12 cy A_m m_at m_names m_status m_top m_bottom m_sort m_trayMany m_trays m_tape m_text m_taped m_size m_token m_from m_end m_value m_faultKind m_faultPlace m_faults m_seen m_toldParts m_opened m_depth m_counted m_bestOrder m_standers m_has m_bestHas m_standerMany m_bestCouples m_bestFondness m_cameTo m_doesStandFirst m_stoodBy m_drawn m_ranSteps m_loops m_ran m_told1 m_isTold m_marks] s.heap := ⟨hP, by rw [hA]; exact hD0.own⟩
  have hS : va_S A s.heap s.heap [] := va_S.rf
  obtain ⟨ls, hl, hent⟩ := ent (m := m) (n := 3) hargs (Nat.le_of_ble_eq_true rfl) (lv := [(0, .ref (A_m 0)), (1, .ref (aK i1)), (2, .int x2)]) rfl
  rw [hent]
  clear hent
  unfold f_X12_wantWord at h
  refine lv_aload_n hx hb dX12_wantWord_0 rfl (lv_at hl 0 rfl) ?_
  refine lv_aload_n hx hb dX12_wantWord_1 rfl (lv_at hl 1 rfl) ?_
  obtain ⟨z_6, e_z_6, h⟩ := bi h
  refine roViX (rest := []) ⟨hx, hb, hml, hown, ht⟩ (c_X12_inWords l D cy fu tO aK aV i1 hi1 A_m m_at m_names m_status m_top m_bottom m_sort m_trayMany m_trays m_tape m_text m_taped m_size m_token m_from m_end m_value m_faultKind m_faultPlace m_faults m_seen m_toldParts m_opened m_depth m_counted m_bestOrder m_standers m_has m_bestHas m_standerMany m_bestCouples m_bestFondness m_cameTo m_doesStandFirst m_stoodBy m_drawn m_ranSteps m_loops m_ran m_told1 m_isTold m_marks z_6 e_z_6) (cV ht mv_X12_inWords tb_1441 rfl rfl ⟨Nat.le_of_ble_eq_true rfl, Nat.le_of_ble_eq_true rfl⟩) (P_sub hP.1 [0] rfl) hX hE hS rfl rfl rfl hl.1 rfl (Nat.le_of_ble_eq_true rfl) dX12_wantWord_2 ⟨Nat.le_of_ble_eq_true rfl, Nat.le_of_ble_eq_true rfl⟩ ?_
  refine lv_iload_n hx hb dX12_wantWord_5 rfl (lv_at hl 2 rfl) ?_
  refine lv_icmp_eq (tgt := 15) hx hb dX12_wantWord_6 (by decide) (fun c_7 => ?_) (fun c_7 => ?_)
  · have h := it c_7 h
    refine lv_aload_n hx hb dX12_wantWord_15 rfl (lv_at hl 0 rfl) ?_
    obtain ⟨z_8, e_z_8, h⟩ := bi h
    refine efVv (rest := []) ⟨hx, hb, hml, hown, ht⟩ (c_X12_ahead l D cy fu A_m m_at m_names m_status m_top m_bottom m_sort m_trayMany m_trays m_tape m_text m_taped m_size m_token m_from m_end m_value m_faultKind m_faultPlace m_faults m_seen m_toldParts m_opened m_depth m_counted m_bestOrder m_standers m_has m_bestHas m_standerMany m_bestCouples m_bestFondness m_cameTo m_doesStandFirst m_stoodBy m_drawn m_ranSteps m_loops m_ran m_told1 m_isTold m_marks z_8 e_z_8 _ rfl _ rfl) (cV ht mv_X12_ahead tb_1416 rfl rfl ⟨Nat.le_of_ble_eq_true rfl, Nat.le_of_ble_eq_true rfl⟩) hP hS hX [0] rfl rfl rfl rfl rfl rfl hl.1 rfl (Nat.le_of_ble_eq_true rfl) dX12_wantWord_16 ⟨Nat.le_of_ble_eq_true rfl, Nat.le_of_ble_eq_true rfl⟩ (fun H locs hP hS => ?_)
    have hP : PD D A [bl_X12 cy A_m m_at m_names m_status m_top m_bottom m_sort m_trayMany m_trays m_tape m_text m_taped m_size z_8.1 z_8.2.1 z_8.2.2.1 z_8.2.2.2 m_faultKind m_faultPlace m_faults m_seen m_toldParts m_opened m_depth m_counted m_bestOrder m_standers m_has m_bestHas m_standerMany m_bestCouples m_bestFondness m_cameTo m_doesStandFirst m_stoodBy m_drawn m_ranSteps m_loops m_ran m_told1 m_isTold m_marks] H := hP
    refine lv_iconst (v := 1) hx hb dX12_wantWord_19 (by decide) ?_
    cases h
    subst hW1
    exact W.zret hx hb hr rfl (fun _ ht9 _ => ⟨⟨_, (), rfl, rfl, hPt ht9 hP.1⟩, hS.F ht9⟩) hS.2.2 dX12_wantWord_20
  · have h := ie c_7 h
    refine lv_aload_n hx hb dX12_wantWord_9 rfl (lv_at hl 0 rfl) ?_
    refine lv_iconst (v := 2) hx hb dX12_wantWord_10 (by decide) ?_
    obtain ⟨z_9, e_z_9, h⟩ := bi h
    refine efVi (rest := []) ⟨hx, hb, hml, hown, ht⟩ (c_X12_fails l D cy fu A_m m_at m_names m_status m_top m_bottom m_sort m_trayMany m_trays m_tape m_text m_taped m_size m_token m_from m_end m_value m_faultKind m_faultPlace m_faults m_seen m_toldParts m_opened m_depth m_counted m_bestOrder m_standers m_has m_bestHas m_standerMany m_bestCouples m_bestFondness m_cameTo m_doesStandFirst m_stoodBy m_drawn m_ranSteps m_loops m_ran m_told1 m_isTold m_marks 2 z_9 e_z_9 _ rfl _ rfl) (cV ht mv_X12_fails tb_1447 rfl rfl ⟨Nat.le_of_ble_eq_true rfl, Nat.le_of_ble_eq_true rfl⟩) hP hS hX [0] rfl rfl rfl rfl rfl rfl hl.1 rfl (Nat.le_of_ble_eq_true rfl) dX12_wantWord_11 ⟨Nat.le_of_ble_eq_true rfl, Nat.le_of_ble_eq_true rfl⟩ (fun H locs hP hS => ?_)
    have hP : PD D A [bl_X12 cy A_m m_at m_names m_status m_top m_bottom m_sort m_trayMany m_trays m_tape m_text m_taped m_size m_token m_from m_end m_value m_faultKind z_9.2.1 z_9.2.2 m_seen m_toldParts m_opened m_depth m_counted m_bestOrder m_standers m_has m_bestHas m_standerMany m_bestCouples m_bestFondness m_cameTo m_doesStandFirst m_stoodBy m_drawn m_ranSteps m_loops m_ran m_told1 m_isTold m_marks] H := hP
    obtain ⟨b_10, e_b_10, h⟩ := bi h
    obtain ⟨-, n_b_10, -⟩ := bz_ok e_b_10
    cases h
    subst hW1
    exact W.zret hx hb hr n_b_10 (fun _ ht9 _ => ⟨⟨_, (), rfl, rfl, hPt ht9 hP.1⟩, hS.F ht9⟩) hS.2.2 dX12_wantWord_14
theorem dX12_isName_0 : decode cX12_isName 0 = .ok (.aload_n 0, 1) := by decide +kernel
theorem dX12_isName_1 : decode cX12_isName 1 = .ok (.getfield 129, 3) := by decide +kernel
theorem dX12_isName_4 : decode cX12_isName 4 = .ok (.iconst 2, 1) := by decide +kernel
theorem dX12_isName_5 : decode cX12_isName 5 = .ok (.if_icmp .ne 30, 3) := by decide +kernel
theorem dX12_isName_8 : decode cX12_isName 8 = .ok (.aload_n 0, 1) := by decide +kernel
theorem dX12_isName_9 : decode cX12_isName 9 = .ok (.getfield 117, 3) := by decide +kernel
theorem dX12_isName_12 : decode cX12_isName 12 = .ok (.aload_n 0, 1) := by decide +kernel
theorem dX12_isName_13 : decode cX12_isName 13 = .ok (.getfield 123, 3) := by decide +kernel
theorem dX12_isName_16 : decode cX12_isName 16 = .ok (.isub, 1) := by decide +kernel
theorem dX12_isName_17 : decode cX12_isName 17 = .ok (.bipush 8, 2) := by decide +kernel
theorem dX12_isName_19 : decode cX12_isName 19 = .ok (.if_icmp .gt 16, 3) := by decide +kernel
theorem dX12_isName_22 : decode cX12_isName 22 = .ok (.aload_n 0, 1) := by decide +kernel
theorem dX12_isName_23 : decode cX12_isName 23 = .ok (.aload_n 1, 1) := by decide +kernel
theorem dX12_isName_24 : decode cX12_isName 24 = .ok (.invokevirtual 169, 3) := by decide +kernel
theorem dX12_isName_27 : decode cX12_isName 27 = .ok (.iconst (-1), 1) := by decide +kernel
theorem dX12_isName_28 : decode cX12_isName 28 = .ok (.if_icmp .ne 7, 3) := by decide +kernel
theorem dX12_isName_31 : decode cX12_isName 31 = .ok (.iconst 1, 1) := by decide +kernel
theorem dX12_isName_32 : decode cX12_isName 32 = .ok (.goto 4, 3) := by decide +kernel
theorem dX12_isName_35 : decode cX12_isName 35 = .ok (.iconst 0, 1) := by decide +kernel
theorem dX12_isName_36 : decode cX12_isName 36 = .ok (.ireturn, 1) := by decide +kernel
theorem mv_X12_isName : MV yX12_isName RX12 cX12_isName 2 (some .boolean) 1 := ⟨tb_1462, tb_1461, ts_52, tb_16, by decide +kernel, by decide +kernel, by decide +kernel⟩
def f_X12_isName (fu : Nat) (i1 : Nat) (m_text : Nat → Int32) (m_size : Int32) (m_token : Int32) (m_from : Int32) (m_end : Int32) : Option (Int32) := (if m_token = 2 then (if 8 < (m_end - m_from) then some (0) else (f_X12_inWords fu i1 m_text m_size m_token m_from m_end).bind fun z_7 => (if z_7 = (-1) then some (1) else some (0))) else some (0))
abbrev rm_X12_isName : Room := { frames := 5, cells := 0, slots := 0, locals := 111 }
set_option maxHeartbeats 4000000 in
set_option maxRecDepth 100000 in
theorem c_X12_isName (l : Launch) (D : va_G) (cy : Nat → ClassId) (fu : Nat) (tO : Nat) (aK aV : Nat → Nat) (i1 : Nat) (hi1 : i1 < 2) (A_m : Nat → Nat) (m_at : Nat → Int32) (m_names : Nat → Int64) (m_status : Int32) (m_top : Int64) (m_bottom : Int64) (m_sort : Nat → Int32) (m_trayMany : Nat → Int32) (m_trays : Nat → Int64) (m_tape : Nat → Int32) (m_text : Nat → Int32) (m_taped : Int32) (m_size : Int32) (m_token : Int32) (m_from : Int32) (m_end : Int32) (m_value : Int32) (m_faultKind : Int32) (m_faultPlace : Int32) (m_faults : Int32) (m_seen : Int32) (m_toldParts : Int32) (m_opened : Nat → Int32) (m_depth : Int32) (m_counted : Int32) (m_bestOrder : Int32) (m_standers : Nat → Int32) (m_has : Nat → Int32) (m_bestHas : Nat → Int32) (m_standerMany : Int32) (m_bestCouples : Int32) (m_bestFondness : Int32) (m_cameTo : Nat → Int32) (m_doesStandFirst : Int32) (m_stoodBy : Nat → Int64) (m_drawn : Int32) (m_ranSteps : Int32) (m_loops : Nat → Int32) (m_ran : Nat → Int32) (m_told1 : Nat → Int32) (m_isTold : Int32) (m_marks : Int32) (res : Int32) (h : f_X12_isName fu i1 m_text m_size m_token m_from m_end = some res) : Met l yX12_isName (WW yX12_isName cX12_isName 2 (some .boolean)) rm_X12_isName (RdX D cy tO aK aV [.ref (A_m 0), .ref (aK i1)] [bl_X12 cy A_m m_at m_names m_status m_top m_bottom m_sort m_trayMany m_trays m_tape m_text m_taped m_size m_token m_from m_end m_value m_faultKind m_faultPlace m_faults m_seen m_toldParts m_opened m_depth m_counted m_bestOrder m_standers m_has m_bestHas m_standerMany m_bestCouples m_bestFondness m_cameTo m_doesStandFirst m_stoodBy m_drawn m_ranSteps m_loops m_ran m_told1 m_isTold m_marks]) (vp_Si (fun v => v = res)) 0 0 (fun _ => False) := by
  refine Met.ofW (cc := cX12_isName) (maxL := 2) (ret := (some .boolean)) (by decide) rfl ?_
  intro p e s m args below meth c s₁ B hml hv
  obtain ⟨hargs, hP, hX, hE⟩ := hv
  have hx := B.exec
  have hb := B.bytes
  have hr := B.returns
  have ht : ∀ w ∈ lw_gd, w.before args s = true := fun w hw => atoms_spec (ws := WW yX12_isName cX12_isName 2 (some .boolean)) B.pre w (List.mem_cons_of_mem _ hw)
  have hown : s.vm.findClass RX12 = some m.cls := findClass_of_methodNamed B.named
  have hlocks := B.notSynchronized
  have hP : PB D [bl_X12 cy A_m m_at m_names m_status m_top m_bottom m_sort m_trayMany m_trays m_tape m_text m_taped m_size m_token m_from m_end m_value m_faultKind m_faultPlace m_faults m_seen m_toldParts m_opened m_depth m_counted m_bestOrder m_standers m_has m_bestHas m_standerMany m_bestCouples m_bestFondness m_cameTo m_doesStandFirst m_stoodBy m_drawn m_ranSteps m_loops m_ran m_told1 m_isTold m_marks] s.heap := hP
  have hS : va_S (fun _ => False) s.heap s.heap [] := va_S.rf
  obtain ⟨ls, hl, hent⟩ := ent (m := m) (n := 2) hargs (Nat.le_of_ble_eq_true rfl) (lv := [(0, .ref (A_m 0)), (1, .ref (aK i1))]) rfl
  rw [hent]
  clear hent
  unfold f_X12_isName at h
  refine lv_aload_n hx hb dX12_isName_0 rfl (lv_at hl 0 rfl) ?_
  refine xget (i := 0) (j := 0) (k := 12) (T := TX12) hx hb ht tb_iX12 hown hX hP rfl rfl rfl (by decide) tb_1241 rfl dX12_isName_1 ?_
  refine lv_iconst (v := 2) hx hb dX12_isName_4 (by decide) ?_
  refine lv_icmp_ne (tgt := 35) hx hb dX12_isName_5 (by decide) (fun c_5 => ?_) (fun c_5 => ?_)
  · have h := ie c_5 h
    refine lv_iconst (v := 0) hx hb dX12_isName_35 (by decide) ?_
    cases h
    exact W.zret hx hb hr rfl (fun _ ht9 _ => ⟨_, rfl, rfl, ht9⟩) (fun _ hq => by cases hq) dX12_isName_36
  · have h := it c_5 h
    refine lv_aload_n hx hb dX12_isName_8 rfl (lv_at hl 0 rfl) ?_
    refine xget (i := 0) (j := 0) (k := 14) (T := TX12) hx hb ht tb_iX12 hown hX hP rfl rfl rfl (by decide) tb_1243 rfl dX12_isName_9 ?_
    refine lv_aload_n hx hb dX12_isName_12 rfl (lv_at hl 0 rfl) ?_
    refine xget (i := 0) (j := 0) (k := 13) (T := TX12) hx hb ht tb_iX12 hown hX hP rfl rfl rfl (by decide) tb_1242 rfl dX12_isName_13 ?_
    refine lv_isub hx hb dX12_isName_16 ?_
    refine lv_bipush (v := 8) hx hb dX12_isName_17 (by decide) ?_
    refine lv_icmp_gt (tgt := 35) hx hb dX12_isName_19 (by decide) (fun c_6 => ?_) (fun c_6 => ?_)
    · have h := it c_6 h
      refine lv_iconst (v := 0) hx hb dX12_isName_35 (by decide) ?_
      cases h
      exact W.zret hx hb hr rfl (fun _ ht9 _ => ⟨_, rfl, rfl, ht9⟩) (fun _ hq => by cases hq) dX12_isName_36
    · have h := ie c_6 h
      refine lv_aload_n hx hb dX12_isName_22 rfl (lv_at hl 0 rfl) ?_
      refine lv_aload_n hx hb dX12_isName_23 rfl (lv_at hl 1 rfl) ?_
      obtain ⟨z_7, e_z_7, h⟩ := bi h
      refine roViX (rest := []) ⟨hx, hb, hml, hown, ht⟩ (c_X12_inWords l D cy fu tO aK aV i1 hi1 A_m m_at m_names m_status m_top m_bottom m_sort m_trayMany m_trays m_tape m_text m_taped m_size m_token m_from m_end m_value m_faultKind m_faultPlace m_faults m_seen m_toldParts m_opened m_depth m_counted m_bestOrder m_standers m_has m_bestHas m_standerMany m_bestCouples m_bestFondness m_cameTo m_doesStandFirst m_stoodBy m_drawn m_ranSteps m_loops m_ran m_told1 m_isTold m_marks z_7 e_z_7) (cV ht mv_X12_inWords tb_1441 rfl rfl ⟨Nat.le_of_ble_eq_true rfl, Nat.le_of_ble_eq_true rfl⟩) (P_sub hP [0] rfl) hX hE hS rfl rfl rfl hl.1 rfl (Nat.le_of_ble_eq_true rfl) dX12_isName_24 ⟨Nat.le_of_ble_eq_true rfl, Nat.le_of_ble_eq_true rfl⟩ ?_
      refine lv_iconst (v := (-1)) hx hb dX12_isName_27 (by decide) ?_
      refine lv_icmp_ne (tgt := 35) hx hb dX12_isName_28 (by decide) (fun c_8 => ?_) (fun c_8 => ?_)
      · have h := ie c_8 h
        refine lv_iconst (v := 0) hx hb dX12_isName_35 (by decide) ?_
        cases h
        exact W.zret hx hb hr rfl (fun _ ht9 _ => ⟨_, rfl, rfl, ht9⟩) (fun _ hq => by cases hq) dX12_isName_36
      · have h := it c_8 h
        refine lv_iconst (v := 1) hx hb dX12_isName_31 (by decide) ?_
        refine lv_goto (tgt := 36) hx hb dX12_isName_32 (by decide) ?_
        cases h
        exact W.zret hx hb hr rfl (fun _ ht9 _ => ⟨_, rfl, rfl, ht9⟩) (fun _ hq => by cases hq) dX12_isName_36
theorem dX12_isThere_0 : decode cX12_isThere 0 = .ok (.aload_n 0, 1) := by decide +kernel
theorem dX12_isThere_1 : decode cX12_isThere 1 = .ok (.ldc 177, 2) := by decide +kernel
theorem dX12_isThere_3 : decode cX12_isThere 3 = .ok (.invokevirtual 169, 3) := by decide +kernel
theorem dX12_isThere_6 : decode cX12_isThere 6 = .ok (.iload_n 1, 1) := by decide +kernel
theorem dX12_isThere_7 : decode cX12_isThere 7 = .ok (.if_icmp .eq 5, 3) := by decide +kernel
theorem dX12_isThere_10 : decode cX12_isThere 10 = .ok (.iconst 0, 1) := by decide +kernel
theorem dX12_isThere_11 : decode cX12_isThere 11 = .ok (.ireturn, 1) := by decide +kernel
theorem dX12_isThere_12 : decode cX12_isThere 12 = .ok (.aload_n 0, 1) := by decide +kernel
theorem dX12_isThere_13 : decode cX12_isThere 13 = .ok (.invokevirtual 160, 3) := by decide +kernel
theorem dX12_isThere_16 : decode cX12_isThere 16 = .ok (.iconst 1, 1) := by decide +kernel
theorem dX12_isThere_17 : decode cX12_isThere 17 = .ok (.ireturn, 1) := by decide +kernel
theorem mv_X12_isThere : MV yX12_isThere RX12 cX12_isThere 2 (some .boolean) 1 := ⟨tb_1478, tb_1477, ts_56, tb_16, by decide +kernel, by decide +kernel, by decide +kernel⟩
def f_X12_isThere (fu : Nat) (m_text : Nat → Int32) (m_size : Int32) (m_token : Int32) (m_from : Int32) (m_end : Int32) (m_value : Int32) (x1 : Int32) : Option (Int32 × Int32 × Int32 × Int32 × Int32) := (f_X12_inWords fu 1 m_text m_size m_token m_from m_end).bind fun z_4 => (if z_4 = x1 then (f_X12_ahead fu m_text m_size m_token m_from m_end m_value).bind fun z_6 => some (1, z_6.1, z_6.2.1, z_6.2.2.1, z_6.2.2.2) else some (0, m_token, m_from, m_end, m_value))
abbrev rm_X12_isThere : Room := { frames := 5, cells := 0, slots := 0, locals := 111 }
set_option maxHeartbeats 4000000 in
set_option maxRecDepth 100000 in
theorem c_X12_isThere (l : Launch) (D : va_G) (cy : Nat → ClassId) (fu : Nat) (tO : Nat) (aK aV : Nat → Nat) (A_m : Nat → Nat) (m_at : Nat → Int32) (m_names : Nat → Int64) (m_status : Int32) (m_top : Int64) (m_bottom : Int64) (m_sort : Nat → Int32) (m_trayMany : Nat → Int32) (m_trays : Nat → Int64) (m_tape : Nat → Int32) (m_text : Nat → Int32) (m_taped : Int32) (m_size : Int32) (m_token : Int32) (m_from : Int32) (m_end : Int32) (m_value : Int32) (m_faultKind : Int32) (m_faultPlace : Int32) (m_faults : Int32) (m_seen : Int32) (m_toldParts : Int32) (m_opened : Nat → Int32) (m_depth : Int32) (m_counted : Int32) (m_bestOrder : Int32) (m_standers : Nat → Int32) (m_has : Nat → Int32) (m_bestHas : Nat → Int32) (m_standerMany : Int32) (m_bestCouples : Int32) (m_bestFondness : Int32) (m_cameTo : Nat → Int32) (m_doesStandFirst : Int32) (m_stoodBy : Nat → Int64) (m_drawn : Int32) (m_ranSteps : Int32) (m_loops : Nat → Int32) (m_ran : Nat → Int32) (m_told1 : Nat → Int32) (m_isTold : Int32) (m_marks : Int32) (x1 : Int32) (res : Int32 × Int32 × Int32 × Int32 × Int32) (h : f_X12_isThere fu m_text m_size m_token m_from m_end m_value x1 = some res) (A : Nat → Prop) (hA : A = adr [bl_X12 cy A_m m_at m_names m_status m_top m_bottom m_sort m_trayMany m_trays m_tape m_text m_taped m_size m_token m_from m_end m_value m_faultKind m_faultPlace m_faults m_seen m_toldParts m_opened m_depth m_counted m_bestOrder m_standers m_has m_bestHas m_standerMany m_bestCouples m_bestFondness m_cameTo m_doesStandFirst m_stoodBy m_drawn m_ranSteps m_loops m_ran m_told1 m_isTold m_marks]) (W1 : List va_W) (hW1 : W1 = [bl_X12 cy A_m m_at m_names m_status m_top m_bottom m_sort m_trayMany m_trays m_tape m_text m_taped m_size res.2.1 res.2.2.1 res.2.2.2.1 res.2.2.2.2 m_faultKind m_faultPlace m_faults m_seen m_toldParts m_opened m_depth m_counted m_bestOrder m_standers m_has m_bestHas m_standerMany m_bestCouples m_bestFondness m_cameTo m_doesStandFirst m_stoodBy m_drawn m_ranSteps m_loops m_ran m_told1 m_isTold m_marks]) : Met l yX12_isThere (WW yX12_isThere cX12_isThere 2 (some .boolean)) rm_X12_isThere (EdX D cy tO aK aV A [.ref (A_m 0), .int x1] [bl_X12 cy A_m m_at m_names m_status m_top m_bottom m_sort m_trayMany m_trays m_tape m_text m_taped m_size m_token m_from m_end m_value m_faultKind m_faultPlace m_faults m_seen m_toldParts m_opened m_depth m_counted m_bestOrder m_standers m_has m_bestHas m_standerMany m_bestCouples m_bestFondness m_cameTo m_doesStandFirst m_stoodBy m_drawn m_ranSteps m_loops m_ran m_told1 m_isTold m_marks]) (Qei D res.1 A W1) 0 0 A := by
  refine Met.ofW (cc := cX12_isThere) (maxL := 2) (ret := (some .boolean)) (by decide) rfl ?_
  intro p e s m args below meth c s₁ B hml hv
  obtain ⟨hargs, hP, hX, hD0, hE⟩ := hv
  have hx := B.exec
  have hb := B.bytes
  have hr := B.returns
  have ht : ∀ w ∈ lw_gd, w.before args s = true := fun w hw => atoms_spec (ws := WW yX12_isThere cX12_isThere 2 (some .boolean)) B.pre w (List.mem_cons_of_mem _ hw)
  have hown : s.vm.findClass RX12 = some m.cls := findClass_of_methodNamed B.named
  have hlocks := B.notSynchronized
  have hP : PD D A [bl_X12 cy A_m m_at m_names m_status m_top m_bottom m_sort m_trayMany m_trays m_tape m_text m_taped m_size m_token m_from m_end m_value m_faultKind m_faultPlace m_faults m_seen m_toldParts m_opened m_depth m_counted m_bestOrder m_standers m_has m_bestHas m_standerMany m_bestCouples m_bestFondness m_cameTo m_doesStandFirst m_stoodBy m_drawn m_ranSteps m_loops m_ran m_told1 m_isTold m_marks] s.heap := ⟨hP, by rw [hA]; exact hD0.own⟩
  have hS : va_S A s.heap s.heap [] := va_S.rf
  obtain ⟨ls, hl, hent⟩ := ent (m := m) (n := 2) hargs (Nat.le_of_ble_eq_true rfl) (lv := [(0, .ref (A_m 0)), (1, .int x1)]) rfl
  rw [hent]
  clear hent
  unfold f_X12_isThere at h
  refine lv_aload_n hx hb dX12_isThere_0 rfl (lv_at hl 0 rfl) ?_
  refine va_ldcS hx hb hown hE.2.2.2.2.2.2.2 dX12_isThere_1 ?_
  obtain ⟨z_4, e_z_4, h⟩ := bi h
  refine roViX (rest := []) ⟨hx, hb, hml, hown, ht⟩ (c_X12_inWords l D cy fu tO aK aV 1 (by decide) A_m m_at m_names m_status m_top m_bottom m_sort m_trayMany m_trays m_tape m_text m_taped m_size m_token m_from m_end m_value m_faultKind m_faultPlace m_faults m_seen m_toldParts m_opened m_depth m_counted m_bestOrder m_standers m_has m_bestHas m_standerMany m_bestCouples m_bestFondness m_cameTo m_doesStandFirst m_stoodBy m_drawn m_ranSteps m_loops m_ran m_told1 m_isTold m_marks z_4 e_z_4) (cV ht mv_X12_inWords tb_1441 rfl rfl ⟨Nat.le_of_ble_eq_true rfl, Nat.le_of_ble_eq_true rfl⟩) (P_sub hP.1 [0] rfl) hX hE hS rfl rfl rfl hl.1 rfl (Nat.le_of_ble_eq_true rfl) dX12_isThere_3 ⟨Nat.le_of_ble_eq_true rfl, Nat.le_of_ble_eq_true rfl⟩ ?_
  refine lv_iload_n hx hb dX12_isThere_6 rfl (lv_at hl 1 rfl) ?_
  refine lv_icmp_eq (tgt := 12) hx hb dX12_isThere_7 (by decide) (fun c_5 => ?_) (fun c_5 => ?_)
  · have h := it c_5 h
    refine lv_aload_n hx hb dX12_isThere_12 rfl (lv_at hl 0 rfl) ?_
    obtain ⟨z_6, e_z_6, h⟩ := bi h
    refine efVv (rest := []) ⟨hx, hb, hml, hown, ht⟩ (c_X12_ahead l D cy fu A_m m_at m_names m_status m_top m_bottom m_sort m_trayMany m_trays m_tape m_text m_taped m_size m_token m_from m_end m_value m_faultKind m_faultPlace m_faults m_seen m_toldParts m_opened m_depth m_counted m_bestOrder m_standers m_has m_bestHas m_standerMany m_bestCouples m_bestFondness m_cameTo m_doesStandFirst m_stoodBy m_drawn m_ranSteps m_loops m_ran m_told1 m_isTold m_marks z_6 e_z_6 _ rfl _ rfl) (cV ht mv_X12_ahead tb_1416 rfl rfl ⟨Nat.le_of_ble_eq_true rfl, Nat.le_of_ble_eq_true rfl⟩) hP hS hX [0] rfl rfl rfl rfl rfl rfl hl.1 rfl (Nat.le_of_ble_eq_true rfl) dX12_isThere_13 ⟨Nat.le_of_ble_eq_true rfl, Nat.le_of_ble_eq_true rfl⟩ (fun H locs hP hS => ?_)
    have hP : PD D A [bl_X12 cy A_m m_at m_names m_status m_top m_bottom m_sort m_trayMany m_trays m_tape m_text m_taped m_size z_6.1 z_6.2.1 z_6.2.2.1 z_6.2.2.2 m_faultKind m_faultPlace m_faults m_seen m_toldParts m_opened m_depth m_counted m_bestOrder m_standers m_has m_bestHas m_standerMany m_bestCouples m_bestFondness m_cameTo m_doesStandFirst m_stoodBy m_drawn m_ranSteps m_loops m_ran m_told1 m_isTold m_marks] H := hP
    refine lv_iconst (v := 1) hx hb dX12_isThere_16 (by decide) ?_
    cases h
    subst hW1
    exact W.zret hx hb hr rfl (fun _ ht9 _ => ⟨⟨_, (), rfl, rfl, hPt ht9 hP.1⟩, hS.F ht9⟩) hS.2.2 dX12_isThere_17
  · have h := ie c_5 h
    refine lv_iconst (v := 0) hx hb dX12_isThere_10 (by decide) ?_
    cases h
    subst hW1
    exact W.zret hx hb hr rfl (fun _ ht9 _ => ⟨⟨_, (), rfl, rfl, hPt ht9 hP.1⟩, hS.F ht9⟩) hS.2.2 dX12_isThere_11
theorem dX12_oldOne_0 : decode cX12_oldOne 0 = .ok (.aload_n 0, 1) := by decide +kernel
theorem dX12_oldOne_1 : decode cX12_oldOne 1 = .ok (.ldc 177, 2) := by decide +kernel
theorem dX12_oldOne_3 : decode cX12_oldOne 3 = .ok (.invokevirtual 179, 3) := by decide +kernel
theorem dX12_oldOne_6 : decode cX12_oldOne 6 = .ok (.ifCond .ne 9, 3) := by decide +kernel
theorem dX12_oldOne_9 : decode cX12_oldOne 9 = .ok (.aload_n 0, 1) := by decide +kernel
theorem dX12_oldOne_10 : decode cX12_oldOne 10 = .ok (.iconst 2, 1) := by decide +kernel
theorem dX12_oldOne_11 : decode cX12_oldOne 11 = .ok (.invokevirtual 166, 3) := by decide +kernel
theorem dX12_oldOne_14 : decode cX12_oldOne 14 = .ok (.ireturn, 1) := by decide +kernel
theorem dX12_oldOne_15 : decode cX12_oldOne 15 = .ok (.aload_n 0, 1) := by decide +kernel
theorem dX12_oldOne_16 : decode cX12_oldOne 16 = .ok (.getfield 7, 3) := by decide +kernel
theorem dX12_oldOne_19 : decode cX12_oldOne 19 = .ok (.iload_n 3, 1) := by decide +kernel
theorem dX12_oldOne_20 : decode cX12_oldOne 20 = .ok (.aload_n 0, 1) := by decide +kernel
theorem dX12_oldOne_21 : decode cX12_oldOne 21 = .ok (.iload_n 1, 1) := by decide +kernel
theorem dX12_oldOne_22 : decode cX12_oldOne 22 = .ok (.iload_n 2, 1) := by decide +kernel
theorem dX12_oldOne_23 : decode cX12_oldOne 23 = .ok (.invokevirtual 183, 3) := by decide +kernel
theorem dX12_oldOne_26 : decode cX12_oldOne 26 = .ok (.iastore, 1) := by decide +kernel
theorem dX12_oldOne_27 : decode cX12_oldOne 27 = .ok (.aload_n 0, 1) := by decide +kernel
theorem dX12_oldOne_28 : decode cX12_oldOne 28 = .ok (.getfield 7, 3) := by decide +kernel
theorem dX12_oldOne_31 : decode cX12_oldOne 31 = .ok (.iload_n 3, 1) := by decide +kernel
theorem dX12_oldOne_32 : decode cX12_oldOne 32 = .ok (.iaload, 1) := by decide +kernel
theorem dX12_oldOne_33 : decode cX12_oldOne 33 = .ok (.iconst (-1), 1) := by decide +kernel
theorem dX12_oldOne_34 : decode cX12_oldOne 34 = .ok (.if_icmp .ne 9, 3) := by decide +kernel
theorem dX12_oldOne_37 : decode cX12_oldOne 37 = .ok (.aload_n 0, 1) := by decide +kernel
theorem dX12_oldOne_38 : decode cX12_oldOne 38 = .ok (.iconst 3, 1) := by decide +kernel
theorem dX12_oldOne_39 : decode cX12_oldOne 39 = .ok (.invokevirtual 166, 3) := by decide +kernel
theorem dX12_oldOne_42 : decode cX12_oldOne 42 = .ok (.ireturn, 1) := by decide +kernel
theorem dX12_oldOne_43 : decode cX12_oldOne 43 = .ok (.aload_n 0, 1) := by decide +kernel
theorem dX12_oldOne_44 : decode cX12_oldOne 44 = .ok (.invokevirtual 160, 3) := by decide +kernel
theorem dX12_oldOne_47 : decode cX12_oldOne 47 = .ok (.iconst 1, 1) := by decide +kernel
theorem dX12_oldOne_48 : decode cX12_oldOne 48 = .ok (.ireturn, 1) := by decide +kernel
theorem mv_X12_oldOne : MV yX12_oldOne RX12 cX12_oldOne 4 (some .boolean) 3 := ⟨tb_1486, tb_1485, ts_58, tb_16, by decide +kernel, by decide +kernel, by decide +kernel⟩
def f_X12_oldOne (fu : Nat) (m_at : Nat → Int32) (m_names : Nat → Int64) (m_text : Nat → Int32) (m_size : Int32) (m_token : Int32) (m_from : Int32) (m_end : Int32) (m_value : Int32) (m_faultPlace : Int32) (m_faults : Int32) (x1 : Int32) (x2 : Int32) (x3 : Int32) : Option (Int32 × (Nat → Int32) × Int32 × Int32 × Int32 × Int32 × Int32 × Int32) := (f_X12_isName fu 1 m_text m_size m_token m_from m_end).bind fun z_12 => (if z_12 = 0 then (f_X12_fails fu m_token m_from m_faultPlace m_faults 2).bind fun z_21 => (bz z_21.1).bind fun _ => some (z_21.1, m_at, m_token, m_from, m_end, m_value, z_21.2.1, z_21.2.2) else (f_X12_findHere fu m_names m_text m_size m_from m_end x1 x2).bind fun z_14 => (wrI m_at 3648 x3 z_14).bind fun m_at_15 => (rdI m_at_15 3648 x3).bind fun y_16 => (if y_16 = (-1) then (f_X12_fails fu m_token m_from m_faultPlace m_faults 3).bind fun z_19 => (bz z_19.1).bind fun _ => some (z_19.1, m_at_15, m_token, m_from, m_end, m_value, z_19.2.1, z_19.2.2) else (f_X12_ahead fu m_text m_size m_token m_from m_end m_value).bind fun z_18 => some (1, m_at_15, z_18.1, z_18.2.1, z_18.2.2.1, z_18.2.2.2, m_faultPlace, m_faults)))
abbrev rm_X12_oldOne : Room := { frames := 6, cells := 0, slots := 0, locals := 132 }
set_option maxHeartbeats 4000000 in
set_option maxRecDepth 100000 in
theorem c_X12_oldOne (l : Launch) (D : va_G) (cy : Nat → ClassId) (fu : Nat) (tO : Nat) (aK aV : Nat → Nat) (A_m : Nat → Nat) (m_at : Nat → Int32) (m_names : Nat → Int64) (m_status : Int32) (m_top : Int64) (m_bottom : Int64) (m_sort : Nat → Int32) (m_trayMany : Nat → Int32) (m_trays : Nat → Int64) (m_tape : Nat → Int32) (m_text : Nat → Int32) (m_taped : Int32) (m_size : Int32) (m_token : Int32) (m_from : Int32) (m_end : Int32) (m_value : Int32) (m_faultKind : Int32) (m_faultPlace : Int32) (m_faults : Int32) (m_seen : Int32) (m_toldParts : Int32) (m_opened : Nat → Int32) (m_depth : Int32) (m_counted : Int32) (m_bestOrder : Int32) (m_standers : Nat → Int32) (m_has : Nat → Int32) (m_bestHas : Nat → Int32) (m_standerMany : Int32) (m_bestCouples : Int32) (m_bestFondness : Int32) (m_cameTo : Nat → Int32) (m_doesStandFirst : Int32) (m_stoodBy : Nat → Int64) (m_drawn : Int32) (m_ranSteps : Int32) (m_loops : Nat → Int32) (m_ran : Nat → Int32) (m_told1 : Nat → Int32) (m_isTold : Int32) (m_marks : Int32) (x1 : Int32) (x2 : Int32) (x3 : Int32) (res : Int32 × (Nat → Int32) × Int32 × Int32 × Int32 × Int32 × Int32 × Int32) (h : f_X12_oldOne fu m_at m_names m_text m_size m_token m_from m_end m_value m_faultPlace m_faults x1 x2 x3 = some res) (A : Nat → Prop) (hA : A = adr [bl_X12 cy A_m m_at m_names m_status m_top m_bottom m_sort m_trayMany m_trays m_tape m_text m_taped m_size m_token m_from m_end m_value m_faultKind m_faultPlace m_faults m_seen m_toldParts m_opened m_depth m_counted m_bestOrder m_standers m_has m_bestHas m_standerMany m_bestCouples m_bestFondness m_cameTo m_doesStandFirst m_stoodBy m_drawn m_ranSteps m_loops m_ran m_told1 m_isTold m_marks]) (W1 : List va_W) (hW1 : W1 = [bl_X12 cy A_m res.2.1 m_names m_status m_top m_bottom m_sort m_trayMany m_trays m_tape m_text m_taped m_size res.2.2.1 res.2.2.2.1 res.2.2.2.2.1 res.2.2.2.2.2.1 m_faultKind res.2.2.2.2.2.2.1 res.2.2.2.2.2.2.2 m_seen m_toldParts m_opened m_depth m_counted m_bestOrder m_standers m_has m_bestHas m_standerMany m_bestCouples m_bestFondness m_cameTo m_doesStandFirst m_stoodBy m_drawn m_ranSteps m_loops m_ran m_told1 m_isTold m_marks]) : Met l yX12_oldOne (WW yX12_oldOne cX12_oldOne 4 (some .boolean)) rm_X12_oldOne (EdX D cy tO aK aV A [.ref (A_m 0), .int x1, .int x2, .int x3] [bl_X12 cy A_m m_at m_names m_status m_top m_bottom m_sort m_trayMany m_trays m_tape m_text m_taped m_size m_token m_from m_end m_value m_faultKind m_faultPlace m_faults m_seen m_toldParts m_opened m_depth m_counted m_bestOrder m_standers m_has m_bestHas m_standerMany m_bestCouples m_bestFondness m_cameTo m_doesStandFirst m_stoodBy m_drawn m_ranSteps m_loops m_ran m_told1 m_isTold m_marks]) (Qei D res.1 A W1) 0 0 A := by
  refine Met.ofW (cc := cX12_oldOne) (maxL := 4) (ret := (some .boolean)) (by decide) rfl ?_
  intro p e s m args below meth c s₁ B hml hv
  obtain ⟨hargs, hP, hX, hD0, hE⟩ := hv
  have hx := B.exec
  have hb := B.bytes
  have hr := B.returns
  have ht : ∀ w ∈ lw_gd, w.before args s = true := fun w hw => atoms_spec (ws := WW yX12_oldOne cX12_oldOne 4 (some .boolean)) B.pre w (List.mem_cons_of_mem _ hw)
  have hown : s.vm.findClass RX12 = some m.cls := findClass_of_methodNamed B.named
  have hlocks := B.notSynchronized
  have hP : PD D A [bl_X12 cy A_m m_at m_names m_status m_top m_bottom m_sort m_trayMany m_trays m_tape m_text m_taped m_size m_token m_from m_end m_value m_faultKind m_faultPlace m_faults m_seen m_toldParts m_opened m_depth m_counted m_bestOrder m_standers m_has m_bestHas m_standerMany m_bestCouples m_bestFondness m_cameTo m_doesStandFirst m_stoodBy m_drawn m_ranSteps m_loops m_ran m_told1 m_isTold m_marks] s.heap := ⟨hP, by rw [hA]; exact hD0.own⟩
  have hS : va_S A s.heap s.heap [] := va_S.rf
  obtain ⟨ls, hl, hent⟩ := ent (m := m) (n := 4) hargs (Nat.le_of_ble_eq_true rfl) (lv := [(0, .ref (A_m 0)), (1, .int x1), (2, .int x2), (3, .int x3)]) rfl
  rw [hent]
  clear hent
  unfold f_X12_oldOne at h
  refine lv_aload_n hx hb dX12_oldOne_0 rfl (lv_at hl 0 rfl) ?_
  refine va_ldcS hx hb hown hE.2.2.2.2.2.2.2 dX12_oldOne_1 ?_
  obtain ⟨z_12, e_z_12, h⟩ := bi h
  refine roViX (rest := []) ⟨hx, hb, hml, hown, ht⟩ (c_X12_isName l D cy fu tO aK aV 1 (by decide) A_m m_at m_names m_status m_top m_bottom m_sort m_trayMany m_trays m_tape m_text m_taped m_size m_token m_from m_end m_value m_faultKind m_faultPlace m_faults m_seen m_toldParts m_opened m_depth m_counted m_bestOrder m_standers m_has m_bestHas m_standerMany m_bestCouples m_bestFondness m_cameTo m_doesStandFirst m_stoodBy m_drawn m_ranSteps m_loops m_ran m_told1 m_isTold m_marks z_12 e_z_12) (cV ht mv_X12_isName tb_1459 rfl rfl ⟨Nat.le_of_ble_eq_true rfl, Nat.le_of_ble_eq_true rfl⟩) (P_sub hP.1 [0] rfl) hX hE hS rfl rfl rfl hl.1 rfl (Nat.le_of_ble_eq_true rfl) dX12_oldOne_3 ⟨Nat.le_of_ble_eq_true rfl, Nat.le_of_ble_eq_true rfl⟩ ?_
  refine lv_if_ne (tgt := 15) hx hb dX12_oldOne_6 (by decide) (fun c_13 => ?_) (fun c_13 => ?_)
  · have h := ie c_13 h
    refine lv_aload_n hx hb dX12_oldOne_15 rfl (lv_at hl 0 rfl) ?_
    refine xget (i := 0) (j := 0) (k := 0) (T := TX12) hx hb ht tb_iX12 hown hX hP.1 rfl rfl rfl (by decide) tb_1229 rfl dX12_oldOne_16 ?_
    refine lv_iload_n hx hb dX12_oldOne_19 rfl (lv_at hl 3 rfl) ?_
    refine lv_aload_n hx hb dX12_oldOne_20 rfl (lv_at hl 0 rfl) ?_
    refine lv_iload_n hx hb dX12_oldOne_21 rfl (lv_at hl 1 rfl) ?_
    refine lv_iload_n hx hb dX12_oldOne_22 rfl (lv_at hl 2 rfl) ?_
    obtain ⟨z_14, e_z_14, h⟩ := bi h
    refine roVi (rest := [.int x3, .ref (A_m 1)]) ⟨hx, hb, hml, hown, ht⟩ (c_X12_findHere l D cy fu A_m m_at m_names m_status m_top m_bottom m_sort m_trayMany m_trays m_tape m_text m_taped m_size m_token m_from m_end m_value m_faultKind m_faultPlace m_faults m_seen m_toldParts m_opened m_depth m_counted m_bestOrder m_standers m_has m_bestHas m_standerMany m_bestCouples m_bestFondness m_cameTo m_doesStandFirst m_stoodBy m_drawn m_ranSteps m_loops m_ran m_told1 m_isTold m_marks x1 x2 z_14 e_z_14) (cV ht mv_X12_findHere tb_1463 rfl rfl ⟨Nat.le_of_ble_eq_true rfl, Nat.le_of_ble_eq_true rfl⟩) (P_sub hP.1 [0] rfl) hX rfl rfl rfl hl.1 rfl (Nat.le_of_ble_eq_true rfl) dX12_oldOne_23 ⟨Nat.le_of_ble_eq_true rfl, Nat.le_of_ble_eq_true rfl⟩ ?_
    obtain ⟨m_at_15, e_m_at_15, h⟩ := bi h
    refine xiast (i0 := 0) (j0 := 1) hx hb hX hP hS rfl rfl e_m_at_15 dX12_oldOne_26 (fun H locs hP hS => ?_)
    have hP : PD D A [bl_X12 cy A_m m_at_15 m_names m_status m_top m_bottom m_sort m_trayMany m_trays m_tape m_text m_taped m_size m_token m_from m_end m_value m_faultKind m_faultPlace m_faults m_seen m_toldParts m_opened m_depth m_counted m_bestOrder m_standers m_has m_bestHas m_standerMany m_bestCouples m_bestFondness m_cameTo m_doesStandFirst m_stoodBy m_drawn m_ranSteps m_loops m_ran m_told1 m_isTold m_marks] H := hP
    refine lv_aload_n hx hb dX12_oldOne_27 rfl (lv_at hl 0 rfl) ?_
    refine xget (i := 0) (j := 0) (k := 0) (T := TX12) hx hb ht tb_iX12 hown hX hP.1 rfl rfl rfl (by decide) tb_1229 rfl dX12_oldOne_28 ?_
    refine lv_iload_n hx hb dX12_oldOne_31 rfl (lv_at hl 3 rfl) ?_
    obtain ⟨y_16, e_y_16, h⟩ := bi h
    refine xiald (i0 := 0) (j0 := 1) hx hb hX hP.1 rfl rfl e_y_16 dX12_oldOne_32 ?_
    refine lv_iconst (v := (-1)) hx hb dX12_oldOne_33 (by decide) ?_
    refine lv_icmp_ne (tgt := 43) hx hb dX12_oldOne_34 (by decide) (fun c_17 => ?_) (fun c_17 => ?_)
    · have h := ie c_17 h
      refine lv_aload_n hx hb dX12_oldOne_43 rfl (lv_at hl 0 rfl) ?_
      obtain ⟨z_18, e_z_18, h⟩ := bi h
      refine efVv (rest := []) ⟨hx, hb, hml, hown, ht⟩ (c_X12_ahead l D cy fu A_m m_at_15 m_names m_status m_top m_bottom m_sort m_trayMany m_trays m_tape m_text m_taped m_size m_token m_from m_end m_value m_faultKind m_faultPlace m_faults m_seen m_toldParts m_opened m_depth m_counted m_bestOrder m_standers m_has m_bestHas m_standerMany m_bestCouples m_bestFondness m_cameTo m_doesStandFirst m_stoodBy m_drawn m_ranSteps m_loops m_ran m_told1 m_isTold m_marks z_18 e_z_18 _ rfl _ rfl) (cV ht mv_X12_ahead tb_1416 rfl rfl ⟨Nat.le_of_ble_eq_true rfl, Nat.le_of_ble_eq_true rfl⟩) hP hS hX [0] rfl rfl rfl rfl rfl rfl hl.1 rfl (Nat.le_of_ble_eq_true rfl) dX12_oldOne_44 ⟨Nat.le_of_ble_eq_true rfl, Nat.le_of_ble_eq_true rfl⟩ (fun H locs hP hS => ?_)
      have hP : PD D A [bl_X12 cy A_m m_at_15 m_names m_status m_top m_bottom m_sort m_trayMany m_trays m_tape m_text m_taped m_size z_18.1 z_18.2.1 z_18.2.2.1 z_18.2.2.2 m_faultKind m_faultPlace m_faults m_seen m_toldParts m_opened m_depth m_counted m_bestOrder m_standers m_has m_bestHas m_standerMany m_bestCouples m_bestFondness m_cameTo m_doesStandFirst m_stoodBy m_drawn m_ranSteps m_loops m_ran m_told1 m_isTold m_marks] H := hP
      refine lv_iconst (v := 1) hx hb dX12_oldOne_47 (by decide) ?_
      cases h
      subst hW1
      exact W.zret hx hb hr rfl (fun _ ht9 _ => ⟨⟨_, (), rfl, rfl, hPt ht9 hP.1⟩, hS.F ht9⟩) hS.2.2 dX12_oldOne_48
    · have h := it c_17 h
      refine lv_aload_n hx hb dX12_oldOne_37 rfl (lv_at hl 0 rfl) ?_
      refine lv_iconst (v := 3) hx hb dX12_oldOne_38 (by decide) ?_
      obtain ⟨z_19, e_z_19, h⟩ := bi h
      refine efVi (rest := []) ⟨hx, hb, hml, hown, ht⟩ (c_X12_fails l D cy fu A_m m_at_15 m_names m_status m_top m_bottom m_sort m_trayMany m_trays m_tape m_text m_taped m_size m_token m_from m_end m_value m_faultKind m_faultPlace m_faults m_seen m_toldParts m_opened m_depth m_counted m_bestOrder m_standers m_has m_bestHas m_standerMany m_bestCouples m_bestFondness m_cameTo m_doesStandFirst m_stoodBy m_drawn m_ranSteps m_loops m_ran m_told1 m_isTold m_marks 3 z_19 e_z_19 _ rfl _ rfl) (cV ht mv_X12_fails tb_1447 rfl rfl ⟨Nat.le_of_ble_eq_true rfl, Nat.le_of_ble_eq_true rfl⟩) hP hS hX [0] rfl rfl rfl rfl rfl rfl hl.1 rfl (Nat.le_of_ble_eq_true rfl) dX12_oldOne_39 ⟨Nat.le_of_ble_eq_true rfl, Nat.le_of_ble_eq_true rfl⟩ (fun H locs hP hS => ?_)
      have hP : PD D A [bl_X12 cy A_m m_at_15 m_names m_status m_top m_bottom m_sort m_trayMany m_trays m_tape m_text m_taped m_size m_token m_from m_end m_value m_faultKind z_19.2.1 z_19.2.2 m_seen m_toldParts m_opened m_depth m_counted m_bestOrder m_standers m_has m_bestHas m_standerMany m_bestCouples m_bestFondness m_cameTo m_doesStandFirst m_stoodBy m_drawn m_ranSteps m_loops m_ran m_told1 m_isTold m_marks] H := hP
      obtain ⟨b_20, e_b_20, h⟩ := bi h
      obtain ⟨-, n_b_20, -⟩ := bz_ok e_b_20
      cases h
      subst hW1
      exact W.zret hx hb hr n_b_20 (fun _ ht9 _ => ⟨⟨_, (), rfl, rfl, hPt ht9 hP.1⟩, hS.F ht9⟩) hS.2.2 dX12_oldOne_42
  · have h := it c_13 h
    refine lv_aload_n hx hb dX12_oldOne_9 rfl (lv_at hl 0 rfl) ?_
    refine lv_iconst (v := 2) hx hb dX12_oldOne_10 (by decide) ?_
    obtain ⟨z_21, e_z_21, h⟩ := bi h
    refine efVi (rest := []) ⟨hx, hb, hml, hown, ht⟩ (c_X12_fails l D cy fu A_m m_at m_names m_status m_top m_bottom m_sort m_trayMany m_trays m_tape m_text m_taped m_size m_token m_from m_end m_value m_faultKind m_faultPlace m_faults m_seen m_toldParts m_opened m_depth m_counted m_bestOrder m_standers m_has m_bestHas m_standerMany m_bestCouples m_bestFondness m_cameTo m_doesStandFirst m_stoodBy m_drawn m_ranSteps m_loops m_ran m_told1 m_isTold m_marks 2 z_21 e_z_21 _ rfl _ rfl) (cV ht mv_X12_fails tb_1447 rfl rfl ⟨Nat.le_of_ble_eq_true rfl, Nat.le_of_ble_eq_true rfl⟩) hP hS hX [0] rfl rfl rfl rfl rfl rfl hl.1 rfl (Nat.le_of_ble_eq_true rfl) dX12_oldOne_11 ⟨Nat.le_of_ble_eq_true rfl, Nat.le_of_ble_eq_true rfl⟩ (fun H locs hP hS => ?_)
    have hP : PD D A [bl_X12 cy A_m m_at m_names m_status m_top m_bottom m_sort m_trayMany m_trays m_tape m_text m_taped m_size m_token m_from m_end m_value m_faultKind z_21.2.1 z_21.2.2 m_seen m_toldParts m_opened m_depth m_counted m_bestOrder m_standers m_has m_bestHas m_standerMany m_bestCouples m_bestFondness m_cameTo m_doesStandFirst m_stoodBy m_drawn m_ranSteps m_loops m_ran m_told1 m_isTold m_marks] H := hP
    obtain ⟨b_22, e_b_22, h⟩ := bi h
    obtain ⟨-, n_b_22, -⟩ := bz_ok e_b_22
    cases h
    subst hW1
    exact W.zret hx hb hr n_b_22 (fun _ ht9 _ => ⟨⟨_, (), rfl, rfl, hPt ht9 hP.1⟩, hS.F ht9⟩) hS.2.2 dX12_oldOne_14
theorem dX12_aMan_0 : decode cX12_aMan 0 = .ok (.aload_n 0, 1) := by decide +kernel
theorem dX12_aMan_1 : decode cX12_aMan 1 = .ok (.getfield 7, 3) := by decide +kernel
theorem dX12_aMan_4 : decode cX12_aMan 4 = .ok (.sipush 1952, 3) := by decide +kernel
theorem dX12_aMan_7 : decode cX12_aMan 7 = .ok (.iaload, 1) := by decide +kernel
theorem dX12_aMan_8 : decode cX12_aMan 8 = .ok (.bipush 8, 2) := by decide +kernel
theorem dX12_aMan_10 : decode cX12_aMan 10 = .ok (.if_icmp .ne 10, 3) := by decide +kernel
theorem dX12_aMan_13 : decode cX12_aMan 13 = .ok (.aload_n 0, 1) := by decide +kernel
theorem dX12_aMan_14 : decode cX12_aMan 14 = .ok (.bipush 6, 2) := by decide +kernel
theorem dX12_aMan_16 : decode cX12_aMan 16 = .ok (.invokevirtual 166, 3) := by decide +kernel
theorem dX12_aMan_19 : decode cX12_aMan 19 = .ok (.ireturn, 1) := by decide +kernel
theorem dX12_aMan_20 : decode cX12_aMan 20 = .ok (.aload_n 0, 1) := by decide +kernel
theorem dX12_aMan_21 : decode cX12_aMan 21 = .ok (.invokevirtual 160, 3) := by decide +kernel
theorem dX12_aMan_24 : decode cX12_aMan 24 = .ok (.aload_n 0, 1) := by decide +kernel
theorem dX12_aMan_25 : decode cX12_aMan 25 = .ok (.ldc 177, 2) := by decide +kernel
theorem dX12_aMan_27 : decode cX12_aMan 27 = .ok (.invokevirtual 179, 3) := by decide +kernel
theorem dX12_aMan_30 : decode cX12_aMan 30 = .ok (.ifCond .ne 9, 3) := by decide +kernel
theorem dX12_aMan_33 : decode cX12_aMan 33 = .ok (.aload_n 0, 1) := by decide +kernel
theorem dX12_aMan_34 : decode cX12_aMan 34 = .ok (.iconst 2, 1) := by decide +kernel
theorem dX12_aMan_35 : decode cX12_aMan 35 = .ok (.invokevirtual 166, 3) := by decide +kernel
theorem dX12_aMan_38 : decode cX12_aMan 38 = .ok (.ireturn, 1) := by decide +kernel
theorem dX12_aMan_39 : decode cX12_aMan 39 = .ok (.aload_n 0, 1) := by decide +kernel
theorem dX12_aMan_40 : decode cX12_aMan 40 = .ok (.bipush 32, 2) := by decide +kernel
theorem dX12_aMan_42 : decode cX12_aMan 42 = .ok (.aload_n 0, 1) := by decide +kernel
theorem dX12_aMan_43 : decode cX12_aMan 43 = .ok (.getfield 7, 3) := by decide +kernel
theorem dX12_aMan_46 : decode cX12_aMan 46 = .ok (.sipush 1952, 3) := by decide +kernel
theorem dX12_aMan_49 : decode cX12_aMan 49 = .ok (.iaload, 1) := by decide +kernel
theorem dX12_aMan_50 : decode cX12_aMan 50 = .ok (.invokevirtual 183, 3) := by decide +kernel
theorem dX12_aMan_53 : decode cX12_aMan 53 = .ok (.iconst (-1), 1) := by decide +kernel
theorem dX12_aMan_54 : decode cX12_aMan 54 = .ok (.if_icmp .eq 9, 3) := by decide +kernel
theorem dX12_aMan_57 : decode cX12_aMan 57 = .ok (.aload_n 0, 1) := by decide +kernel
theorem dX12_aMan_58 : decode cX12_aMan 58 = .ok (.iconst 3, 1) := by decide +kernel
theorem dX12_aMan_59 : decode cX12_aMan 59 = .ok (.invokevirtual 166, 3) := by decide +kernel
theorem dX12_aMan_62 : decode cX12_aMan 62 = .ok (.ireturn, 1) := by decide +kernel
theorem dX12_aMan_63 : decode cX12_aMan 63 = .ok (.aload_n 0, 1) := by decide +kernel
theorem dX12_aMan_64 : decode cX12_aMan 64 = .ok (.getfield 13, 3) := by decide +kernel
theorem dX12_aMan_67 : decode cX12_aMan 67 = .ok (.bipush 32, 2) := by decide +kernel
theorem dX12_aMan_69 : decode cX12_aMan 69 = .ok (.aload_n 0, 1) := by decide +kernel
theorem dX12_aMan_70 : decode cX12_aMan 70 = .ok (.getfield 7, 3) := by decide +kernel
theorem dX12_aMan_73 : decode cX12_aMan 73 = .ok (.sipush 1952, 3) := by decide +kernel
theorem dX12_aMan_76 : decode cX12_aMan 76 = .ok (.iaload, 1) := by decide +kernel
theorem dX12_aMan_77 : decode cX12_aMan 77 = .ok (.iadd, 1) := by decide +kernel
theorem dX12_aMan_78 : decode cX12_aMan 78 = .ok (.aload_n 0, 1) := by decide +kernel
theorem dX12_aMan_79 : decode cX12_aMan 79 = .ok (.invokevirtual 173, 3) := by decide +kernel
theorem dX12_aMan_82 : decode cX12_aMan 82 = .ok (.lastore, 1) := by decide +kernel
theorem dX12_aMan_83 : decode cX12_aMan 83 = .ok (.aload_n 0, 1) := by decide +kernel
theorem dX12_aMan_84 : decode cX12_aMan 84 = .ok (.invokevirtual 160, 3) := by decide +kernel
theorem dX12_aMan_87 : decode cX12_aMan 87 = .ok (.sipush 1952, 3) := by decide +kernel
theorem dX12_aMan_90 : decode cX12_aMan 90 = .ok (.aload_n 0, 1) := by decide +kernel
theorem dX12_aMan_91 : decode cX12_aMan 91 = .ok (.getfield 7, 3) := by decide +kernel
theorem dX12_aMan_94 : decode cX12_aMan 94 = .ok (.sipush 1952, 3) := by decide +kernel
theorem dX12_aMan_97 : decode cX12_aMan 97 = .ok (.iaload, 1) := by decide +kernel
theorem dX12_aMan_98 : decode cX12_aMan 98 = .ok (.invokestatic 75, 3) := by decide +kernel
theorem dX12_aMan_101 : decode cX12_aMan 101 = .ok (.iadd, 1) := by decide +kernel
theorem dX12_aMan_102 : decode cX12_aMan 102 = .ok (.istore_n 1, 1) := by decide +kernel
theorem dX12_aMan_103 : decode cX12_aMan 103 = .ok (.aload_n 0, 1) := by decide +kernel
theorem dX12_aMan_104 : decode cX12_aMan 104 = .ok (.getfield 7, 3) := by decide +kernel
theorem dX12_aMan_107 : decode cX12_aMan 107 = .ok (.iload_n 1, 1) := by decide +kernel
theorem dX12_aMan_108 : decode cX12_aMan 108 = .ok (.iconst 1, 1) := by decide +kernel
theorem dX12_aMan_109 : decode cX12_aMan 109 = .ok (.iadd, 1) := by decide +kernel
theorem dX12_aMan_110 : decode cX12_aMan 110 = .ok (.iconst 1, 1) := by decide +kernel
theorem dX12_aMan_111 : decode cX12_aMan 111 = .ok (.iastore, 1) := by decide +kernel
theorem dX12_aMan_112 : decode cX12_aMan 112 = .ok (.aload_n 0, 1) := by decide +kernel
theorem dX12_aMan_113 : decode cX12_aMan 113 = .ok (.ldc 177, 2) := by decide +kernel
theorem dX12_aMan_115 : decode cX12_aMan 115 = .ok (.iconst 4, 1) := by decide +kernel
theorem dX12_aMan_116 : decode cX12_aMan 116 = .ok (.invokevirtual 186, 3) := by decide +kernel
theorem dX12_aMan_119 : decode cX12_aMan 119 = .ok (.ifCond .eq 14, 3) := by decide +kernel
theorem dX12_aMan_122 : decode cX12_aMan 122 = .ok (.aload_n 0, 1) := by decide +kernel
theorem dX12_aMan_123 : decode cX12_aMan 123 = .ok (.iload_n 1, 1) := by decide +kernel
theorem dX12_aMan_124 : decode cX12_aMan 124 = .ok (.iconst 0, 1) := by decide +kernel
theorem dX12_aMan_125 : decode cX12_aMan 125 = .ok (.bipush 20, 2) := by decide +kernel
theorem dX12_aMan_127 : decode cX12_aMan 127 = .ok (.invokevirtual 190, 3) := by decide +kernel
theorem dX12_aMan_130 : decode cX12_aMan 130 = .ok (.ifCond .ne 5, 3) := by decide +kernel
theorem dX12_aMan_133 : decode cX12_aMan 133 = .ok (.iconst 0, 1) := by decide +kernel
theorem dX12_aMan_134 : decode cX12_aMan 134 = .ok (.ireturn, 1) := by decide +kernel
theorem dX12_aMan_135 : decode cX12_aMan 135 = .ok (.aload_n 0, 1) := by decide +kernel
theorem dX12_aMan_136 : decode cX12_aMan 136 = .ok (.iconst 5, 1) := by decide +kernel
theorem dX12_aMan_137 : decode cX12_aMan 137 = .ok (.invokevirtual 194, 3) := by decide +kernel
theorem dX12_aMan_140 : decode cX12_aMan 140 = .ok (.ifCond .eq 18, 3) := by decide +kernel
theorem dX12_aMan_143 : decode cX12_aMan 143 = .ok (.aload_n 0, 1) := by decide +kernel
theorem dX12_aMan_144 : decode cX12_aMan 144 = .ok (.iload_n 1, 1) := by decide +kernel
theorem dX12_aMan_145 : decode cX12_aMan 145 = .ok (.iconst 1, 1) := by decide +kernel
theorem dX12_aMan_146 : decode cX12_aMan 146 = .ok (.iadd, 1) := by decide +kernel
theorem dX12_aMan_147 : decode cX12_aMan 147 = .ok (.iconst 0, 1) := by decide +kernel
theorem dX12_aMan_148 : decode cX12_aMan 148 = .ok (.bipush 9, 2) := by decide +kernel
theorem dX12_aMan_150 : decode cX12_aMan 150 = .ok (.invokevirtual 190, 3) := by decide +kernel
theorem dX12_aMan_153 : decode cX12_aMan 153 = .ok (.ifCond .ne 5, 3) := by decide +kernel
theorem dX12_aMan_156 : decode cX12_aMan 156 = .ok (.iconst 0, 1) := by decide +kernel
theorem dX12_aMan_157 : decode cX12_aMan 157 = .ok (.ireturn, 1) := by decide +kernel
theorem dX12_aMan_158 : decode cX12_aMan 158 = .ok (.aload_n 0, 1) := by decide +kernel
theorem dX12_aMan_159 : decode cX12_aMan 159 = .ok (.bipush 6, 2) := by decide +kernel
theorem dX12_aMan_161 : decode cX12_aMan 161 = .ok (.invokevirtual 194, 3) := by decide +kernel
theorem dX12_aMan_164 : decode cX12_aMan 164 = .ok (.ifCond .eq 18, 3) := by decide +kernel
theorem dX12_aMan_167 : decode cX12_aMan 167 = .ok (.aload_n 0, 1) := by decide +kernel
theorem dX12_aMan_168 : decode cX12_aMan 168 = .ok (.iload_n 1, 1) := by decide +kernel
theorem dX12_aMan_169 : decode cX12_aMan 169 = .ok (.iconst 2, 1) := by decide +kernel
theorem dX12_aMan_170 : decode cX12_aMan 170 = .ok (.iadd, 1) := by decide +kernel
theorem dX12_aMan_171 : decode cX12_aMan 171 = .ok (.iconst 0, 1) := by decide +kernel
theorem dX12_aMan_172 : decode cX12_aMan 172 = .ok (.bipush 99, 2) := by decide +kernel
theorem dX12_aMan_174 : decode cX12_aMan 174 = .ok (.invokevirtual 190, 3) := by decide +kernel
theorem dX12_aMan_177 : decode cX12_aMan 177 = .ok (.ifCond .ne 5, 3) := by decide +kernel
theorem dX12_aMan_180 : decode cX12_aMan 180 = .ok (.iconst 0, 1) := by decide +kernel
theorem dX12_aMan_181 : decode cX12_aMan 181 = .ok (.ireturn, 1) := by decide +kernel
theorem dX12_aMan_182 : decode cX12_aMan 182 = .ok (.aload_n 0, 1) := by decide +kernel
theorem dX12_aMan_183 : decode cX12_aMan 183 = .ok (.getfield 7, 3) := by decide +kernel
theorem dX12_aMan_186 : decode cX12_aMan 186 = .ok (.sipush 1952, 3) := by decide +kernel
theorem dX12_aMan_189 : decode cX12_aMan 189 = .ok (.dup2, 1) := by decide +kernel
theorem dX12_aMan_190 : decode cX12_aMan 190 = .ok (.iaload, 1) := by decide +kernel
theorem dX12_aMan_191 : decode cX12_aMan 191 = .ok (.iconst 1, 1) := by decide +kernel
theorem dX12_aMan_192 : decode cX12_aMan 192 = .ok (.iadd, 1) := by decide +kernel
theorem dX12_aMan_193 : decode cX12_aMan 193 = .ok (.iastore, 1) := by decide +kernel
theorem dX12_aMan_194 : decode cX12_aMan 194 = .ok (.iconst 1, 1) := by decide +kernel
theorem dX12_aMan_195 : decode cX12_aMan 195 = .ok (.ireturn, 1) := by decide +kernel
theorem mv_X12_aMan : MV yX12_aMan RX12 cX12_aMan 2 (some .boolean) 0 := ⟨tb_1458, tb_1457, ts_51, tb_16, by decide +kernel, by decide +kernel, by decide +kernel⟩
def f_X12_aMan_j182 (fu : Nat) (m_text : Nat → Int32) (m_size : Int32) (m_at : Nat → Int32) (m_names : Nat → Int64) (m_token : Int32) (m_from : Int32) (m_end : Int32) (m_value : Int32) (m_faultPlace : Int32) (m_faults : Int32) : Option (Int32 × (Nat → Int32) × (Nat → Int64) × Int32 × Int32 × Int32 × Int32 × Int32 × Int32) := (rdI m_at 3648 1952).bind fun y_37 => (wrI m_at 3648 1952 (y_37 + 1)).bind fun m_at_38 => some (1, m_at_38, m_names, m_token, m_from, m_end, m_value, m_faultPlace, m_faults)
def f_X12_aMan_j158 (fu : Nat) (m_text : Nat → Int32) (m_size : Int32) (m_at : Nat → Int32) (m_names : Nat → Int64) (m_token : Int32) (m_from : Int32) (m_end : Int32) (m_value : Int32) (m_faultPlace : Int32) (m_faults : Int32) (x1 : Int32) : Option (Int32 × (Nat → Int32) × (Nat → Int64) × Int32 × Int32 × Int32 × Int32 × Int32 × Int32) := (f_X12_isThere fu m_text m_size m_token m_from m_end m_value 6).bind fun z_39 => (if z_39.1 = 0 then f_X12_aMan_j182 fu m_text m_size m_at m_names z_39.2.1 z_39.2.2.1 z_39.2.2.2.1 z_39.2.2.2.2 m_faultPlace m_faults else (f_X12_number fu m_at m_text m_size z_39.2.1 z_39.2.2.1 z_39.2.2.2.1 z_39.2.2.2.2 m_faultPlace m_faults (x1 + 2) 0 99).bind fun z_41 => (if z_41.1 = 0 then some (0, z_41.2.1, m_names, z_41.2.2.1, z_41.2.2.2.1, z_41.2.2.2.2.1, z_41.2.2.2.2.2.1, z_41.2.2.2.2.2.2.1, z_41.2.2.2.2.2.2.2) else f_X12_aMan_j182 fu m_text m_size z_41.2.1 m_names z_41.2.2.1 z_41.2.2.2.1 z_41.2.2.2.2.1 z_41.2.2.2.2.2.1 z_41.2.2.2.2.2.2.1 z_41.2.2.2.2.2.2.2))
def f_X12_aMan (fu : Nat) (m_at : Nat → Int32) (m_names : Nat → Int64) (m_text : Nat → Int32) (m_size : Int32) (m_token : Int32) (m_from : Int32) (m_end : Int32) (m_value : Int32) (m_faultPlace : Int32) (m_faults : Int32) : Option (Int32 × (Nat → Int32) × (Nat → Int64) × Int32 × Int32 × Int32 × Int32 × Int32 × Int32) := (rdI m_at 3648 1952).bind fun y_43 => (if y_43 = 8 then (f_X12_fails fu m_token m_from m_faultPlace m_faults 6).bind fun z_71 => (bz z_71.1).bind fun _ => some (z_71.1, m_at, m_names, m_token, m_from, m_end, m_value, z_71.2.1, z_71.2.2) else (f_X12_ahead fu m_text m_size m_token m_from m_end m_value).bind fun z_45 => (f_X12_isName fu 1 m_text m_size z_45.1 z_45.2.1 z_45.2.2.1).bind fun z_46 => (if z_46 = 0 then (f_X12_fails fu z_45.1 z_45.2.1 m_faultPlace m_faults 2).bind fun z_69 => (bz z_69.1).bind fun _ => some (z_69.1, m_at, m_names, z_45.1, z_45.2.1, z_45.2.2.1, z_45.2.2.2, z_69.2.1, z_69.2.2) else (rdI m_at 3648 1952).bind fun y_48 => (f_X12_findHere fu m_names m_text m_size z_45.2.1 z_45.2.2.1 32 y_48).bind fun z_49 => (if z_49 = (-1) then (rdI m_at 3648 1952).bind fun y_51 => (f_X12_nameHere fu m_text m_size z_45.2.1 z_45.2.2.1).bind fun z_52 => (wrJ m_names 48 (32 + y_51) z_52).bind fun m_names_53 => (f_X12_ahead fu m_text m_size z_45.1 z_45.2.1 z_45.2.2.1 z_45.2.2.2).bind fun z_54 => (rdI m_at 3648 1952).bind fun y_55 => (f_X12_manRow fu y_55).bind fun z_56 => bnd (1952 + z_56) fun x1_57 => (wrI m_at 3648 (x1_57 + 1) 1).bind fun m_at_58 => (f_X12_wantWord fu 1 m_text m_size z_54.1 z_54.2.1 z_54.2.2.1 z_54.2.2.2 m_faultPlace m_faults 4).bind fun z_59 => (if z_59.1 = 0 then some (0, m_at_58, m_names_53, z_59.2.1, z_59.2.2.1, z_59.2.2.2.1, z_59.2.2.2.2.1, z_59.2.2.2.2.2.1, z_59.2.2.2.2.2.2) else (f_X12_number fu m_at_58 m_text m_size z_59.2.1 z_59.2.2.1 z_59.2.2.2.1 z_59.2.2.2.2.1 z_59.2.2.2.2.2.1 z_59.2.2.2.2.2.2 x1_57 0 20).bind fun z_61 => (if z_61.1 = 0 then some (0, z_61.2.1, m_names_53, z_61.2.2.1, z_61.2.2.2.1, z_61.2.2.2.2.1, z_61.2.2.2.2.2.1, z_61.2.2.2.2.2.2.1, z_61.2.2.2.2.2.2.2) else (f_X12_isThere fu m_text m_size z_61.2.2.1 z_61.2.2.2.1 z_61.2.2.2.2.1 z_61.2.2.2.2.2.1 5).bind fun z_63 => (if z_63.1 = 0 then f_X12_aMan_j158 fu m_text m_size z_61.2.1 m_names_53 z_63.2.1 z_63.2.2.1 z_63.2.2.2.1 z_63.2.2.2.2 z_61.2.2.2.2.2.2.1 z_61.2.2.2.2.2.2.2 x1_57 else (f_X12_number fu z_61.2.1 m_text m_size z_63.2.1 z_63.2.2.1 z_63.2.2.2.1 z_63.2.2.2.2 z_61.2.2.2.2.2.2.1 z_61.2.2.2.2.2.2.2 (x1_57 + 1) 0 9).bind fun z_65 => (if z_65.1 = 0 then some (0, z_65.2.1, m_names_53, z_65.2.2.1, z_65.2.2.2.1, z_65.2.2.2.2.1, z_65.2.2.2.2.2.1, z_65.2.2.2.2.2.2.1, z_65.2.2.2.2.2.2.2) else f_X12_aMan_j158 fu m_text m_size z_65.2.1 m_names_53 z_65.2.2.1 z_65.2.2.2.1 z_65.2.2.2.2.1 z_65.2.2.2.2.2.1 z_65.2.2.2.2.2.2.1 z_65.2.2.2.2.2.2.2 x1_57)))) else (f_X12_fails fu z_45.1 z_45.2.1 m_faultPlace m_faults 3).bind fun z_67 => (bz z_67.1).bind fun _ => some (z_67.1, m_at, m_names, z_45.1, z_45.2.1, z_45.2.2.1, z_45.2.2.2, z_67.2.1, z_67.2.2))))
abbrev rm_X12_aMan : Room := { frames := 6, cells := 0, slots := 0, locals := 133 }
set_option maxHeartbeats 4000000 in
set_option maxRecDepth 100000 in
theorem c_X12_aMan (l : Launch) (D : va_G) (cy : Nat → ClassId) (fu : Nat) (tO : Nat) (aK aV : Nat → Nat) (A_m : Nat → Nat) (m_at : Nat → Int32) (m_names : Nat → Int64) (m_status : Int32) (m_top : Int64) (m_bottom : Int64) (m_sort : Nat → Int32) (m_trayMany : Nat → Int32) (m_trays : Nat → Int64) (m_tape : Nat → Int32) (m_text : Nat → Int32) (m_taped : Int32) (m_size : Int32) (m_token : Int32) (m_from : Int32) (m_end : Int32) (m_value : Int32) (m_faultKind : Int32) (m_faultPlace : Int32) (m_faults : Int32) (m_seen : Int32) (m_toldParts : Int32) (m_opened : Nat → Int32) (m_depth : Int32) (m_counted : Int32) (m_bestOrder : Int32) (m_standers : Nat → Int32) (m_has : Nat → Int32) (m_bestHas : Nat → Int32) (m_standerMany : Int32) (m_bestCouples : Int32) (m_bestFondness : Int32) (m_cameTo : Nat → Int32) (m_doesStandFirst : Int32) (m_stoodBy : Nat → Int64) (m_drawn : Int32) (m_ranSteps : Int32) (m_loops : Nat → Int32) (m_ran : Nat → Int32) (m_told1 : Nat → Int32) (m_isTold : Int32) (m_marks : Int32) (res : Int32 × (Nat → Int32) × (Nat → Int64) × Int32 × Int32 × Int32 × Int32 × Int32 × Int32) (h : f_X12_aMan fu m_at m_names m_text m_size m_token m_from m_end m_value m_faultPlace m_faults = some res) (A : Nat → Prop) (hA : A = adr [bl_X12 cy A_m m_at m_names m_status m_top m_bottom m_sort m_trayMany m_trays m_tape m_text m_taped m_size m_token m_from m_end m_value m_faultKind m_faultPlace m_faults m_seen m_toldParts m_opened m_depth m_counted m_bestOrder m_standers m_has m_bestHas m_standerMany m_bestCouples m_bestFondness m_cameTo m_doesStandFirst m_stoodBy m_drawn m_ranSteps m_loops m_ran m_told1 m_isTold m_marks]) (W1 : List va_W) (hW1 : W1 = [bl_X12 cy A_m res.2.1 res.2.2.1 m_status m_top m_bottom m_sort m_trayMany m_trays m_tape m_text m_taped m_size res.2.2.2.1 res.2.2.2.2.1 res.2.2.2.2.2.1 res.2.2.2.2.2.2.1 m_faultKind res.2.2.2.2.2.2.2.1 res.2.2.2.2.2.2.2.2 m_seen m_toldParts m_opened m_depth m_counted m_bestOrder m_standers m_has m_bestHas m_standerMany m_bestCouples m_bestFondness m_cameTo m_doesStandFirst m_stoodBy m_drawn m_ranSteps m_loops m_ran m_told1 m_isTold m_marks]) : Met l yX12_aMan (WW yX12_aMan cX12_aMan 2 (some .boolean)) rm_X12_aMan (EdX D cy tO aK aV A [.ref (A_m 0)] [bl_X12 cy A_m m_at m_names m_status m_top m_bottom m_sort m_trayMany m_trays m_tape m_text m_taped m_size m_token m_from m_end m_value m_faultKind m_faultPlace m_faults m_seen m_toldParts m_opened m_depth m_counted m_bestOrder m_standers m_has m_bestHas m_standerMany m_bestCouples m_bestFondness m_cameTo m_doesStandFirst m_stoodBy m_drawn m_ranSteps m_loops m_ran m_told1 m_isTold m_marks]) (Qei D res.1 A W1) 0 0 A := by
  refine Met.ofW (cc := cX12_aMan) (maxL := 2) (ret := (some .boolean)) (by decide) rfl ?_
  intro p e s m args below meth c s₁ B hml hv
  obtain ⟨hargs, hP, hX, hD0, hE⟩ := hv
  have hx := B.exec
  have hb := B.bytes
  have hr := B.returns
  have ht : ∀ w ∈ lw_gd, w.before args s = true := fun w hw => atoms_spec (ws := WW yX12_aMan cX12_aMan 2 (some .boolean)) B.pre w (List.mem_cons_of_mem _ hw)
  have hown : s.vm.findClass RX12 = some m.cls := findClass_of_methodNamed B.named
  have hlocks := B.notSynchronized
  have hP : PD D A [bl_X12 cy A_m m_at m_names m_status m_top m_bottom m_sort m_trayMany m_trays m_tape m_text m_taped m_size m_token m_from m_end m_value m_faultKind m_faultPlace m_faults m_seen m_toldParts m_opened m_depth m_counted m_bestOrder m_standers m_has m_bestHas m_standerMany m_bestCouples m_bestFondness m_cameTo m_doesStandFirst m_stoodBy m_drawn m_ranSteps m_loops m_ran m_told1 m_isTold m_marks] s.heap := ⟨hP, by rw [hA]; exact hD0.own⟩
  have hS : va_S A s.heap s.heap [] := va_S.rf
  obtain ⟨ls, hl, hent⟩ := ent (m := m) (n := 2) hargs (Nat.le_of_ble_eq_true rfl) (lv := [(0, .ref (A_m 0))]) rfl
  rw [hent]
  clear hent
  have j182 : ∀ (m_at : Nat → Int32) (m_names : Nat → Int64) (m_token : Int32) (m_from : Int32) (m_end : Int32) (m_value : Int32) (m_faultPlace : Int32) (m_faults : Int32) (H : Heap) (locs : List Loc) (_ : PD D A [bl_X12 cy A_m m_at m_names m_status m_top m_bottom m_sort m_trayMany m_trays m_tape m_text m_taped m_size m_token m_from m_end m_value m_faultKind m_faultPlace m_faults m_seen m_toldParts m_opened m_depth m_counted m_bestOrder m_standers m_has m_bestHas m_standerMany m_bestCouples m_bestFondness m_cameTo m_doesStandFirst m_stoodBy m_drawn m_ranSteps m_loops m_ran m_told1 m_isTold m_marks] H) (_ : va_S A s.heap H locs) (ls : Array Slot), lv_has ls 2 [(0, .ref (A_m 0))] → f_X12_aMan_j182 fu m_text m_size m_at m_names m_token m_from m_end m_value m_faultPlace m_faults = some res → W p l e (headSpec (WW yX12_aMan cX12_aMan 2 (some .boolean)) rm_X12_aMan).room s m args below meth c H locs 0 0 (MQ below (Qei D res.1 A W1) args s 0 0 A) (F0 m 182 ls []) := by
    intro m_at m_names m_token m_from m_end m_value m_faultPlace m_faults H locs hP hS ls hl h
    unfold f_X12_aMan_j182 at h
    refine lv_aload_n hx hb dX12_aMan_182 rfl (lv_at hl 0 rfl) ?_
    refine xget (i := 0) (j := 0) (k := 0) (T := TX12) hx hb ht tb_iX12 hown hX hP.1 rfl rfl rfl (by decide) tb_1229 rfl dX12_aMan_183 ?_
    refine lv_sipush (v := 1952) hx hb dX12_aMan_186 (by decide) ?_
    refine lv_dup2_11 hx hb dX12_aMan_189 rfl rfl ?_
    obtain ⟨y_37, e_y_37, h⟩ := bi h
    refine xiald (i0 := 0) (j0 := 1) hx hb hX hP.1 rfl rfl e_y_37 dX12_aMan_190 ?_
    refine lv_iconst (v := 1) hx hb dX12_aMan_191 (by decide) ?_
    refine lv_iadd hx hb dX12_aMan_192 ?_
    obtain ⟨m_at_38, e_m_at_38, h⟩ := bi h
    refine xiast (i0 := 0) (j0 := 1) hx hb hX hP hS rfl rfl e_m_at_38 dX12_aMan_193 (fun H locs hP hS => ?_)
    have hP : PD D A [bl_X12 cy A_m m_at_38 m_names m_status m_top m_bottom m_sort m_trayMany m_trays m_tape m_text m_taped m_size m_token m_from m_end m_value m_faultKind m_faultPlace m_faults m_seen m_toldParts m_opened m_depth m_counted m_bestOrder m_standers m_has m_bestHas m_standerMany m_bestCouples m_bestFondness m_cameTo m_doesStandFirst m_stoodBy m_drawn m_ranSteps m_loops m_ran m_told1 m_isTold m_marks] H := hP
    refine lv_iconst (v := 1) hx hb dX12_aMan_194 (by decide) ?_
    cases h
    subst hW1
    exact W.zret hx hb hr rfl (fun _ ht9 _ => ⟨⟨_, (), rfl, rfl, hPt ht9 hP.1⟩, hS.F ht9⟩) hS.2.2 dX12_aMan_195
  have j158 : ∀ (m_at : Nat → Int32) (m_names : Nat → Int64) (m_token : Int32) (m_from : Int32) (m_end : Int32) (m_value : Int32) (m_faultPlace : Int32) (m_faults : Int32) (x1 : Int32) (H : Heap) (locs : List Loc) (_ : PD D A [bl_X12 cy A_m m_at m_names m_status m_top m_bottom m_sort m_trayMany m_trays m_tape m_text m_taped m_size m_token m_from m_end m_value m_faultKind m_faultPlace m_faults m_seen m_toldParts m_opened m_depth m_counted m_bestOrder m_standers m_has m_bestHas m_standerMany m_bestCouples m_bestFondness m_cameTo m_doesStandFirst m_stoodBy m_drawn m_ranSteps m_loops m_ran m_told1 m_isTold m_marks] H) (_ : va_S A s.heap H locs) (ls : Array Slot), lv_has ls 2 [(0, .ref (A_m 0)), (1, .int x1)] → f_X12_aMan_j158 fu m_text m_size m_at m_names m_token m_from m_end m_value m_faultPlace m_faults x1 = some res → W p l e (headSpec (WW yX12_aMan cX12_aMan 2 (some .boolean)) rm_X12_aMan).room s m args below meth c H locs 0 0 (MQ below (Qei D res.1 A W1) args s 0 0 A) (F0 m 158 ls []) := by
    intro m_at m_names m_token m_from m_end m_value m_faultPlace m_faults x1 H locs hP hS ls hl h
    unfold f_X12_aMan_j158 at h
    refine lv_aload_n hx hb dX12_aMan_158 rfl (lv_at hl 0 rfl) ?_
    refine lv_bipush (v := 6) hx hb dX12_aMan_159 (by decide) ?_
    obtain ⟨z_39, e_z_39, h⟩ := bi h
    refine efViX (rest := []) ⟨hx, hb, hml, hown, ht⟩ (c_X12_isThere l D cy fu tO aK aV A_m m_at m_names m_status m_top m_bottom m_sort m_trayMany m_trays m_tape m_text m_taped m_size m_token m_from m_end m_value m_faultKind m_faultPlace m_faults m_seen m_toldParts m_opened m_depth m_counted m_bestOrder m_standers m_has m_bestHas m_standerMany m_bestCouples m_bestFondness m_cameTo m_doesStandFirst m_stoodBy m_drawn m_ranSteps m_loops m_ran m_told1 m_isTold m_marks 6 z_39 e_z_39 _ rfl _ rfl) (cV ht mv_X12_isThere tb_1475 rfl rfl ⟨Nat.le_of_ble_eq_true rfl, Nat.le_of_ble_eq_true rfl⟩) hP hS hX hE [0] rfl rfl rfl rfl rfl rfl hl.1 rfl (Nat.le_of_ble_eq_true rfl) dX12_aMan_161 ⟨Nat.le_of_ble_eq_true rfl, Nat.le_of_ble_eq_true rfl⟩ (fun H locs hP hS => ?_)
    have hP : PD D A [bl_X12 cy A_m m_at m_names m_status m_top m_bottom m_sort m_trayMany m_trays m_tape m_text m_taped m_size z_39.2.1 z_39.2.2.1 z_39.2.2.2.1 z_39.2.2.2.2 m_faultKind m_faultPlace m_faults m_seen m_toldParts m_opened m_depth m_counted m_bestOrder m_standers m_has m_bestHas m_standerMany m_bestCouples m_bestFondness m_cameTo m_doesStandFirst m_stoodBy m_drawn m_ranSteps m_loops m_ran m_told1 m_isTold m_marks] H := hP
    refine lv_if_eq (tgt := 182) hx hb dX12_aMan_164 (by decide) (fun c_40 => ?_) (fun c_40 => ?_)
    · have h := it c_40 h
      exact j182 m_at m_names z_39.2.1 z_39.2.2.1 z_39.2.2.2.1 z_39.2.2.2.2 m_faultPlace m_faults _ _ hP hS ls (lv_sub hl [0] rfl) h
    · have h := ie c_40 h
      refine lv_aload_n hx hb dX12_aMan_167 rfl (lv_at hl 0 rfl) ?_
      refine lv_iload_n hx hb dX12_aMan_168 rfl (lv_at hl 1 rfl) ?_
      refine lv_iconst (v := 2) hx hb dX12_aMan_169 (by decide) ?_
      refine lv_iadd hx hb dX12_aMan_170 ?_
      refine lv_iconst (v := 0) hx hb dX12_aMan_171 (by decide) ?_
      refine lv_bipush (v := 99) hx hb dX12_aMan_172 (by decide) ?_
      obtain ⟨z_41, e_z_41, h⟩ := bi h
      refine efVi (rest := []) ⟨hx, hb, hml, hown, ht⟩ (c_X12_number l D cy fu A_m m_at m_names m_status m_top m_bottom m_sort m_trayMany m_trays m_tape m_text m_taped m_size z_39.2.1 z_39.2.2.1 z_39.2.2.2.1 z_39.2.2.2.2 m_faultKind m_faultPlace m_faults m_seen m_toldParts m_opened m_depth m_counted m_bestOrder m_standers m_has m_bestHas m_standerMany m_bestCouples m_bestFondness m_cameTo m_doesStandFirst m_stoodBy m_drawn m_ranSteps m_loops m_ran m_told1 m_isTold m_marks (x1 + 2) 0 99 z_41 e_z_41 _ rfl _ rfl) (cV ht mv_X12_number tb_1451 rfl rfl ⟨Nat.le_of_ble_eq_true rfl, Nat.le_of_ble_eq_true rfl⟩) hP hS hX [0] rfl rfl rfl rfl rfl rfl hl.1 rfl (Nat.le_of_ble_eq_true rfl) dX12_aMan_174 ⟨Nat.le_of_ble_eq_true rfl, Nat.le_of_ble_eq_true rfl⟩ (fun H locs hP hS => ?_)
      have hP : PD D A [bl_X12 cy A_m z_41.2.1 m_names m_status m_top m_bottom m_sort m_trayMany m_trays m_tape m_text m_taped m_size z_41.2.2.1 z_41.2.2.2.1 z_41.2.2.2.2.1 z_41.2.2.2.2.2.1 m_faultKind z_41.2.2.2.2.2.2.1 z_41.2.2.2.2.2.2.2 m_seen m_toldParts m_opened m_depth m_counted m_bestOrder m_standers m_has m_bestHas m_standerMany m_bestCouples m_bestFondness m_cameTo m_doesStandFirst m_stoodBy m_drawn m_ranSteps m_loops m_ran m_told1 m_isTold m_marks] H := hP
      refine lv_if_ne (tgt := 182) hx hb dX12_aMan_177 (by decide) (fun c_42 => ?_) (fun c_42 => ?_)
      · have h := ie c_42 h
        exact j182 z_41.2.1 m_names z_41.2.2.1 z_41.2.2.2.1 z_41.2.2.2.2.1 z_41.2.2.2.2.2.1 z_41.2.2.2.2.2.2.1 z_41.2.2.2.2.2.2.2 _ _ hP hS ls (lv_sub hl [0] rfl) h
      · have h := it c_42 h
        refine lv_iconst (v := 0) hx hb dX12_aMan_180 (by decide) ?_
        cases h
        subst hW1
        exact W.zret hx hb hr rfl (fun _ ht9 _ => ⟨⟨_, (), rfl, rfl, hPt ht9 hP.1⟩, hS.F ht9⟩) hS.2.2 dX12_aMan_181
  unfold f_X12_aMan at h
  refine lv_aload_n hx hb dX12_aMan_0 rfl (lv_at hl 0 rfl) ?_
  refine xget (i := 0) (j := 0) (k := 0) (T := TX12) hx hb ht tb_iX12 hown hX hP.1 rfl rfl rfl (by decide) tb_1229 rfl dX12_aMan_1 ?_
  refine lv_sipush (v := 1952) hx hb dX12_aMan_4 (by decide) ?_
  obtain ⟨y_43, e_y_43, h⟩ := bi h
  refine xiald (i0 := 0) (j0 := 1) hx hb hX hP.1 rfl rfl e_y_43 dX12_aMan_7 ?_
  refine lv_bipush (v := 8) hx hb dX12_aMan_8 (by decide) ?_
  refine lv_icmp_ne (tgt := 20) hx hb dX12_aMan_10 (by decide) (fun c_44 => ?_) (fun c_44 => ?_)
  · have h := ie c_44 h
    refine lv_aload_n hx hb dX12_aMan_20 rfl (lv_at hl 0 rfl) ?_
    obtain ⟨z_45, e_z_45, h⟩ := bi h
    refine efVv (rest := []) ⟨hx, hb, hml, hown, ht⟩ (c_X12_ahead l D cy fu A_m m_at m_names m_status m_top m_bottom m_sort m_trayMany m_trays m_tape m_text m_taped m_size m_token m_from m_end m_value m_faultKind m_faultPlace m_faults m_seen m_toldParts m_opened m_depth m_counted m_bestOrder m_standers m_has m_bestHas m_standerMany m_bestCouples m_bestFondness m_cameTo m_doesStandFirst m_stoodBy m_drawn m_ranSteps m_loops m_ran m_told1 m_isTold m_marks z_45 e_z_45 _ rfl _ rfl) (cV ht mv_X12_ahead tb_1416 rfl rfl ⟨Nat.le_of_ble_eq_true rfl, Nat.le_of_ble_eq_true rfl⟩) hP hS hX [0] rfl rfl rfl rfl rfl rfl hl.1 rfl (Nat.le_of_ble_eq_true rfl) dX12_aMan_21 ⟨Nat.le_of_ble_eq_true rfl, Nat.le_of_ble_eq_true rfl⟩ (fun H locs hP hS => ?_)
    have hP : PD D A [bl_X12 cy A_m m_at m_names m_status m_top m_bottom m_sort m_trayMany m_trays m_tape m_text m_taped m_size z_45.1 z_45.2.1 z_45.2.2.1 z_45.2.2.2 m_faultKind m_faultPlace m_faults m_seen m_toldParts m_opened m_depth m_counted m_bestOrder m_standers m_has m_bestHas m_standerMany m_bestCouples m_bestFondness m_cameTo m_doesStandFirst m_stoodBy m_drawn m_ranSteps m_loops m_ran m_told1 m_isTold m_marks] H := hP
    refine lv_aload_n hx hb dX12_aMan_24 rfl (lv_at hl 0 rfl) ?_
    refine va_ldcS hx hb hown hE.2.2.2.2.2.2.2 dX12_aMan_25 ?_
    obtain ⟨z_46, e_z_46, h⟩ := bi h
    refine roViX (rest := []) ⟨hx, hb, hml, hown, ht⟩ (c_X12_isName l D cy fu tO aK aV 1 (by decide) A_m m_at m_names m_status m_top m_bottom m_sort m_trayMany m_trays m_tape m_text m_taped m_size z_45.1 z_45.2.1 z_45.2.2.1 z_45.2.2.2 m_faultKind m_faultPlace m_faults m_seen m_toldParts m_opened m_depth m_counted m_bestOrder m_standers m_has m_bestHas m_standerMany m_bestCouples m_bestFondness m_cameTo m_doesStandFirst m_stoodBy m_drawn m_ranSteps m_loops m_ran m_told1 m_isTold m_marks z_46 e_z_46) (cV ht mv_X12_isName tb_1459 rfl rfl ⟨Nat.le_of_ble_eq_true rfl, Nat.le_of_ble_eq_true rfl⟩) (P_sub hP.1 [0] rfl) hX hE hS rfl rfl rfl hl.1 rfl (Nat.le_of_ble_eq_true rfl) dX12_aMan_27 ⟨Nat.le_of_ble_eq_true rfl, Nat.le_of_ble_eq_true rfl⟩ ?_
    refine lv_if_ne (tgt := 39) hx hb dX12_aMan_30 (by decide) (fun c_47 => ?_) (fun c_47 => ?_)
    · have h := ie c_47 h
      refine lv_aload_n hx hb dX12_aMan_39 rfl (lv_at hl 0 rfl) ?_
      refine lv_bipush (v := 32) hx hb dX12_aMan_40 (by decide) ?_
      refine lv_aload_n hx hb dX12_aMan_42 rfl (lv_at hl 0 rfl) ?_
      refine xget (i := 0) (j := 0) (k := 0) (T := TX12) hx hb ht tb_iX12 hown hX hP.1 rfl rfl rfl (by decide) tb_1229 rfl dX12_aMan_43 ?_
      refine lv_sipush (v := 1952) hx hb dX12_aMan_46 (by decide) ?_
      obtain ⟨y_48, e_y_48, h⟩ := bi h
      refine xiald (i0 := 0) (j0 := 1) hx hb hX hP.1 rfl rfl e_y_48 dX12_aMan_49 ?_
      obtain ⟨z_49, e_z_49, h⟩ := bi h
      refine roVi (rest := []) ⟨hx, hb, hml, hown, ht⟩ (c_X12_findHere l D cy fu A_m m_at m_names m_status m_top m_bottom m_sort m_trayMany m_trays m_tape m_text m_taped m_size z_45.1 z_45.2.1 z_45.2.2.1 z_45.2.2.2 m_faultKind m_faultPlace m_faults m_seen m_toldParts m_opened m_depth m_counted m_bestOrder m_standers m_has m_bestHas m_standerMany m_bestCouples m_bestFondness m_cameTo m_doesStandFirst m_stoodBy m_drawn m_ranSteps m_loops m_ran m_told1 m_isTold m_marks 32 y_48 z_49 e_z_49) (cV ht mv_X12_findHere tb_1463 rfl rfl ⟨Nat.le_of_ble_eq_true rfl, Nat.le_of_ble_eq_true rfl⟩) (P_sub hP.1 [0] rfl) hX rfl rfl rfl hl.1 rfl (Nat.le_of_ble_eq_true rfl) dX12_aMan_50 ⟨Nat.le_of_ble_eq_true rfl, Nat.le_of_ble_eq_true rfl⟩ ?_
      refine lv_iconst (v := (-1)) hx hb dX12_aMan_53 (by decide) ?_
      refine lv_icmp_eq (tgt := 63) hx hb dX12_aMan_54 (by decide) (fun c_50 => ?_) (fun c_50 => ?_)
      · have h := it c_50 h
        refine lv_aload_n hx hb dX12_aMan_63 rfl (lv_at hl 0 rfl) ?_
        refine xget (i := 0) (j := 0) (k := 1) (T := TX12) hx hb ht tb_iX12 hown hX hP.1 rfl rfl rfl (by decide) tb_1230 rfl dX12_aMan_64 ?_
        refine lv_bipush (v := 32) hx hb dX12_aMan_67 (by decide) ?_
        refine lv_aload_n hx hb dX12_aMan_69 rfl (lv_at hl 0 rfl) ?_
        refine xget (i := 0) (j := 0) (k := 0) (T := TX12) hx hb ht tb_iX12 hown hX hP.1 rfl rfl rfl (by decide) tb_1229 rfl dX12_aMan_70 ?_
        refine lv_sipush (v := 1952) hx hb dX12_aMan_73 (by decide) ?_
        obtain ⟨y_51, e_y_51, h⟩ := bi h
        refine xiald (i0 := 0) (j0 := 1) hx hb hX hP.1 rfl rfl e_y_51 dX12_aMan_76 ?_
        refine lv_iadd hx hb dX12_aMan_77 ?_
        refine lv_aload_n hx hb dX12_aMan_78 rfl (lv_at hl 0 rfl) ?_
        obtain ⟨z_52, e_z_52, h⟩ := bi h
        refine roVl (rest := [.int (32 + y_51), .ref (A_m 2)]) ⟨hx, hb, hml, hown, ht⟩ (c_X12_nameHere l D cy fu A_m m_at m_names m_status m_top m_bottom m_sort m_trayMany m_trays m_tape m_text m_taped m_size z_45.1 z_45.2.1 z_45.2.2.1 z_45.2.2.2 m_faultKind m_faultPlace m_faults m_seen m_toldParts m_opened m_depth m_counted m_bestOrder m_standers m_has m_bestHas m_standerMany m_bestCouples m_bestFondness m_cameTo m_doesStandFirst m_stoodBy m_drawn m_ranSteps m_loops m_ran m_told1 m_isTold m_marks z_52 e_z_52) (cV ht mv_X12_nameHere tb_1467 rfl rfl ⟨Nat.le_of_ble_eq_true rfl, Nat.le_of_ble_eq_true rfl⟩) (P_sub hP.1 [0] rfl) hX rfl rfl rfl hl.1 rfl (Nat.le_of_ble_eq_true rfl) dX12_aMan_79 ⟨Nat.le_of_ble_eq_true rfl, Nat.le_of_ble_eq_true rfl⟩ ?_
        obtain ⟨m_names_53, e_m_names_53, h⟩ := bi h
        refine xlast (i0 := 0) (j0 := 2) hx hb hX hP hS rfl rfl e_m_names_53 dX12_aMan_82 (fun H locs hP hS => ?_)
        have hP : PD D A [bl_X12 cy A_m m_at m_names_53 m_status m_top m_bottom m_sort m_trayMany m_trays m_tape m_text m_taped m_size z_45.1 z_45.2.1 z_45.2.2.1 z_45.2.2.2 m_faultKind m_faultPlace m_faults m_seen m_toldParts m_opened m_depth m_counted m_bestOrder m_standers m_has m_bestHas m_standerMany m_bestCouples m_bestFondness m_cameTo m_doesStandFirst m_stoodBy m_drawn m_ranSteps m_loops m_ran m_told1 m_isTold m_marks] H := hP
        refine lv_aload_n hx hb dX12_aMan_83 rfl (lv_at hl 0 rfl) ?_
        obtain ⟨z_54, e_z_54, h⟩ := bi h
        refine efVv (rest := []) ⟨hx, hb, hml, hown, ht⟩ (c_X12_ahead l D cy fu A_m m_at m_names_53 m_status m_top m_bottom m_sort m_trayMany m_trays m_tape m_text m_taped m_size z_45.1 z_45.2.1 z_45.2.2.1 z_45.2.2.2 m_faultKind m_faultPlace m_faults m_seen m_toldParts m_opened m_depth m_counted m_bestOrder m_standers m_has m_bestHas m_standerMany m_bestCouples m_bestFondness m_cameTo m_doesStandFirst m_stoodBy m_drawn m_ranSteps m_loops m_ran m_told1 m_isTold m_marks z_54 e_z_54 _ rfl _ rfl) (cV ht mv_X12_ahead tb_1416 rfl rfl ⟨Nat.le_of_ble_eq_true rfl, Nat.le_of_ble_eq_true rfl⟩) hP hS hX [0] rfl rfl rfl rfl rfl rfl hl.1 rfl (Nat.le_of_ble_eq_true rfl) dX12_aMan_84 ⟨Nat.le_of_ble_eq_true rfl, Nat.le_of_ble_eq_true rfl⟩ (fun H locs hP hS => ?_)
        have hP : PD D A [bl_X12 cy A_m m_at m_names_53 m_status m_top m_bottom m_sort m_trayMany m_trays m_tape m_text m_taped m_size z_54.1 z_54.2.1 z_54.2.2.1 z_54.2.2.2 m_faultKind m_faultPlace m_faults m_seen m_toldParts m_opened m_depth m_counted m_bestOrder m_standers m_has m_bestHas m_standerMany m_bestCouples m_bestFondness m_cameTo m_doesStandFirst m_stoodBy m_drawn m_ranSteps m_loops m_ran m_told1 m_isTold m_marks] H := hP
        refine lv_sipush (v := 1952) hx hb dX12_aMan_87 (by decide) ?_
        refine lv_aload_n hx hb dX12_aMan_90 rfl (lv_at hl 0 rfl) ?_
        refine xget (i := 0) (j := 0) (k := 0) (T := TX12) hx hb ht tb_iX12 hown hX hP.1 rfl rfl rfl (by decide) tb_1229 rfl dX12_aMan_91 ?_
        refine lv_sipush (v := 1952) hx hb dX12_aMan_94 (by decide) ?_
        obtain ⟨y_55, e_y_55, h⟩ := bi h
        refine xiald (i0 := 0) (j0 := 1) hx hb hX hP.1 rfl rfl e_y_55 dX12_aMan_97 ?_
        obtain ⟨z_56, e_z_56, h⟩ := bi h
        refine roSi (rest := [.int 1952]) ⟨hx, hb, hml, hown, ht⟩ (c_X12_manRow l D cy fu  y_55 z_56 e_z_56) (cS ht ms_X12_manRow tb_1226 rfl rfl ⟨Nat.le_of_ble_eq_true rfl, Nat.le_of_ble_eq_true rfl⟩) (P_sub hP.1 [] rfl) hX rfl hl.1 rfl (Nat.le_of_ble_eq_true rfl) dX12_aMan_98 ⟨Nat.le_of_ble_eq_true rfl, Nat.le_of_ble_eq_true rfl⟩ ?_
        refine lv_iadd hx hb dX12_aMan_101 ?_
        refine lv_topi (fun x1_57 e_x1_57 => ?_)
        have h := bn e_x1_57 h
        refine lv_istore_n (lv' := [(1, .int x1_57), (0, .ref (A_m 0))]) hx hb dX12_aMan_102 rfl hl (by decide) rfl (fun ls hl => ?_)
        refine lv_aload_n hx hb dX12_aMan_103 rfl (lv_at hl 1 rfl) ?_
        refine xget (i := 0) (j := 0) (k := 0) (T := TX12) hx hb ht tb_iX12 hown hX hP.1 rfl rfl rfl (by decide) tb_1229 rfl dX12_aMan_104 ?_
        refine lv_iload_n hx hb dX12_aMan_107 rfl (lv_at hl 0 rfl) ?_
        refine lv_iconst (v := 1) hx hb dX12_aMan_108 (by decide) ?_
        refine lv_iadd hx hb dX12_aMan_109 ?_
        refine lv_iconst (v := 1) hx hb dX12_aMan_110 (by decide) ?_
        obtain ⟨m_at_58, e_m_at_58, h⟩ := bi h
        refine xiast (i0 := 0) (j0 := 1) hx hb hX hP hS rfl rfl e_m_at_58 dX12_aMan_111 (fun H locs hP hS => ?_)
        have hP : PD D A [bl_X12 cy A_m m_at_58 m_names_53 m_status m_top m_bottom m_sort m_trayMany m_trays m_tape m_text m_taped m_size z_54.1 z_54.2.1 z_54.2.2.1 z_54.2.2.2 m_faultKind m_faultPlace m_faults m_seen m_toldParts m_opened m_depth m_counted m_bestOrder m_standers m_has m_bestHas m_standerMany m_bestCouples m_bestFondness m_cameTo m_doesStandFirst m_stoodBy m_drawn m_ranSteps m_loops m_ran m_told1 m_isTold m_marks] H := hP
        refine lv_aload_n hx hb dX12_aMan_112 rfl (lv_at hl 1 rfl) ?_
        refine va_ldcS hx hb hown hE.2.2.2.2.2.2.2 dX12_aMan_113 ?_
        refine lv_iconst (v := 4) hx hb dX12_aMan_115 (by decide) ?_
        obtain ⟨z_59, e_z_59, h⟩ := bi h
        refine efViX (rest := []) ⟨hx, hb, hml, hown, ht⟩ (c_X12_wantWord l D cy fu tO aK aV 1 (by decide) A_m m_at_58 m_names_53 m_status m_top m_bottom m_sort m_trayMany m_trays m_tape m_text m_taped m_size z_54.1 z_54.2.1 z_54.2.2.1 z_54.2.2.2 m_faultKind m_faultPlace m_faults m_seen m_toldParts m_opened m_depth m_counted m_bestOrder m_standers m_has m_bestHas m_standerMany m_bestCouples m_bestFondness m_cameTo m_doesStandFirst m_stoodBy m_drawn m_ranSteps m_loops m_ran m_told1 m_isTold m_marks 4 z_59 e_z_59 _ rfl _ rfl) (cV ht mv_X12_wantWord tb_1471 rfl rfl ⟨Nat.le_of_ble_eq_true rfl, Nat.le_of_ble_eq_true rfl⟩) hP hS hX hE [0] rfl rfl rfl rfl rfl rfl hl.1 rfl (Nat.le_of_ble_eq_true rfl) dX12_aMan_116 ⟨Nat.le_of_ble_eq_true rfl, Nat.le_of_ble_eq_true rfl⟩ (fun H locs hP hS => ?_)
        have hP : PD D A [bl_X12 cy A_m m_at_58 m_names_53 m_status m_top m_bottom m_sort m_trayMany m_trays m_tape m_text m_taped m_size z_59.2.1 z_59.2.2.1 z_59.2.2.2.1 z_59.2.2.2.2.1 m_faultKind z_59.2.2.2.2.2.1 z_59.2.2.2.2.2.2 m_seen m_toldParts m_opened m_depth m_counted m_bestOrder m_standers m_has m_bestHas m_standerMany m_bestCouples m_bestFondness m_cameTo m_doesStandFirst m_stoodBy m_drawn m_ranSteps m_loops m_ran m_told1 m_isTold m_marks] H := hP
        refine lv_if_eq (tgt := 133) hx hb dX12_aMan_119 (by decide) (fun c_60 => ?_) (fun c_60 => ?_)
        · have h := it c_60 h
          refine lv_iconst (v := 0) hx hb dX12_aMan_133 (by decide) ?_
          cases h
          subst hW1
          exact W.zret hx hb hr rfl (fun _ ht9 _ => ⟨⟨_, (), rfl, rfl, hPt ht9 hP.1⟩, hS.F ht9⟩) hS.2.2 dX12_aMan_134
        · have h := ie c_60 h
          refine lv_aload_n hx hb dX12_aMan_122 rfl (lv_at hl 1 rfl) ?_
          refine lv_iload_n hx hb dX12_aMan_123 rfl (lv_at hl 0 rfl) ?_
          refine lv_iconst (v := 0) hx hb dX12_aMan_124 (by decide) ?_
          refine lv_bipush (v := 20) hx hb dX12_aMan_125 (by decide) ?_
          obtain ⟨z_61, e_z_61, h⟩ := bi h
          refine efVi (rest := []) ⟨hx, hb, hml, hown, ht⟩ (c_X12_number l D cy fu A_m m_at_58 m_names_53 m_status m_top m_bottom m_sort m_trayMany m_trays m_tape m_text m_taped m_size z_59.2.1 z_59.2.2.1 z_59.2.2.2.1 z_59.2.2.2.2.1 m_faultKind z_59.2.2.2.2.2.1 z_59.2.2.2.2.2.2 m_seen m_toldParts m_opened m_depth m_counted m_bestOrder m_standers m_has m_bestHas m_standerMany m_bestCouples m_bestFondness m_cameTo m_doesStandFirst m_stoodBy m_drawn m_ranSteps m_loops m_ran m_told1 m_isTold m_marks x1_57 0 20 z_61 e_z_61 _ rfl _ rfl) (cV ht mv_X12_number tb_1451 rfl rfl ⟨Nat.le_of_ble_eq_true rfl, Nat.le_of_ble_eq_true rfl⟩) hP hS hX [0] rfl rfl rfl rfl rfl rfl hl.1 rfl (Nat.le_of_ble_eq_true rfl) dX12_aMan_127 ⟨Nat.le_of_ble_eq_true rfl, Nat.le_of_ble_eq_true rfl⟩ (fun H locs hP hS => ?_)
          have hP : PD D A [bl_X12 cy A_m z_61.2.1 m_names_53 m_status m_top m_bottom m_sort m_trayMany m_trays m_tape m_text m_taped m_size z_61.2.2.1 z_61.2.2.2.1 z_61.2.2.2.2.1 z_61.2.2.2.2.2.1 m_faultKind z_61.2.2.2.2.2.2.1 z_61.2.2.2.2.2.2.2 m_seen m_toldParts m_opened m_depth m_counted m_bestOrder m_standers m_has m_bestHas m_standerMany m_bestCouples m_bestFondness m_cameTo m_doesStandFirst m_stoodBy m_drawn m_ranSteps m_loops m_ran m_told1 m_isTold m_marks] H := hP
          refine lv_if_ne (tgt := 135) hx hb dX12_aMan_130 (by decide) (fun c_62 => ?_) (fun c_62 => ?_)
          · have h := ie c_62 h
            refine lv_aload_n hx hb dX12_aMan_135 rfl (lv_at hl 1 rfl) ?_
            refine lv_iconst (v := 5) hx hb dX12_aMan_136 (by decide) ?_
            obtain ⟨z_63, e_z_63, h⟩ := bi h
            refine efViX (rest := []) ⟨hx, hb, hml, hown, ht⟩ (c_X12_isThere l D cy fu tO aK aV A_m z_61.2.1 m_names_53 m_status m_top m_bottom m_sort m_trayMany m_trays m_tape m_text m_taped m_size z_61.2.2.1 z_61.2.2.2.1 z_61.2.2.2.2.1 z_61.2.2.2.2.2.1 m_faultKind z_61.2.2.2.2.2.2.1 z_61.2.2.2.2.2.2.2 m_seen m_toldParts m_opened m_depth m_counted m_bestOrder m_standers m_has m_bestHas m_standerMany m_bestCouples m_bestFondness m_cameTo m_doesStandFirst m_stoodBy m_drawn m_ranSteps m_loops m_ran m_told1 m_isTold m_marks 5 z_63 e_z_63 _ rfl _ rfl) (cV ht mv_X12_isThere tb_1475 rfl rfl ⟨Nat.le_of_ble_eq_true rfl, Nat.le_of_ble_eq_true rfl⟩) hP hS hX hE [0] rfl rfl rfl rfl rfl rfl hl.1 rfl (Nat.le_of_ble_eq_true rfl) dX12_aMan_137 ⟨Nat.le_of_ble_eq_true rfl, Nat.le_of_ble_eq_true rfl⟩ (fun H locs hP hS => ?_)
            have hP : PD D A [bl_X12 cy A_m z_61.2.1 m_names_53 m_status m_top m_bottom m_sort m_trayMany m_trays m_tape m_text m_taped m_size z_63.2.1 z_63.2.2.1 z_63.2.2.2.1 z_63.2.2.2.2 m_faultKind z_61.2.2.2.2.2.2.1 z_61.2.2.2.2.2.2.2 m_seen m_toldParts m_opened m_depth m_counted m_bestOrder m_standers m_has m_bestHas m_standerMany m_bestCouples m_bestFondness m_cameTo m_doesStandFirst m_stoodBy m_drawn m_ranSteps m_loops m_ran m_told1 m_isTold m_marks] H := hP
            refine lv_if_eq (tgt := 158) hx hb dX12_aMan_140 (by decide) (fun c_64 => ?_) (fun c_64 => ?_)
            · have h := it c_64 h
              exact j158 z_61.2.1 m_names_53 z_63.2.1 z_63.2.2.1 z_63.2.2.2.1 z_63.2.2.2.2 z_61.2.2.2.2.2.2.1 z_61.2.2.2.2.2.2.2 x1_57 _ _ hP hS ls (lv_sub hl [1, 0] rfl) h
            · have h := ie c_64 h
              refine lv_aload_n hx hb dX12_aMan_143 rfl (lv_at hl 1 rfl) ?_
              refine lv_iload_n hx hb dX12_aMan_144 rfl (lv_at hl 0 rfl) ?_
              refine lv_iconst (v := 1) hx hb dX12_aMan_145 (by decide) ?_
              refine lv_iadd hx hb dX12_aMan_146 ?_
              refine lv_iconst (v := 0) hx hb dX12_aMan_147 (by decide) ?_
              refine lv_bipush (v := 9) hx hb dX12_aMan_148 (by decide) ?_
              obtain ⟨z_65, e_z_65, h⟩ := bi h
              refine efVi (rest := []) ⟨hx, hb, hml, hown, ht⟩ (c_X12_number l D cy fu A_m z_61.2.1 m_names_53 m_status m_top m_bottom m_sort m_trayMany m_trays m_tape m_text m_taped m_size z_63.2.1 z_63.2.2.1 z_63.2.2.2.1 z_63.2.2.2.2 m_faultKind z_61.2.2.2.2.2.2.1 z_61.2.2.2.2.2.2.2 m_seen m_toldParts m_opened m_depth m_counted m_bestOrder m_standers m_has m_bestHas m_standerMany m_bestCouples m_bestFondness m_cameTo m_doesStandFirst m_stoodBy m_drawn m_ranSteps m_loops m_ran m_told1 m_isTold m_marks (x1_57 + 1) 0 9 z_65 e_z_65 _ rfl _ rfl) (cV ht mv_X12_number tb_1451 rfl rfl ⟨Nat.le_of_ble_eq_true rfl, Nat.le_of_ble_eq_true rfl⟩) hP hS hX [0] rfl rfl rfl rfl rfl rfl hl.1 rfl (Nat.le_of_ble_eq_true rfl) dX12_aMan_150 ⟨Nat.le_of_ble_eq_true rfl, Nat.le_of_ble_eq_true rfl⟩ (fun H locs hP hS => ?_)
              have hP : PD D A [bl_X12 cy A_m z_65.2.1 m_names_53 m_status m_top m_bottom m_sort m_trayMany m_trays m_tape m_text m_taped m_size z_65.2.2.1 z_65.2.2.2.1 z_65.2.2.2.2.1 z_65.2.2.2.2.2.1 m_faultKind z_65.2.2.2.2.2.2.1 z_65.2.2.2.2.2.2.2 m_seen m_toldParts m_opened m_depth m_counted m_bestOrder m_standers m_has m_bestHas m_standerMany m_bestCouples m_bestFondness m_cameTo m_doesStandFirst m_stoodBy m_drawn m_ranSteps m_loops m_ran m_told1 m_isTold m_marks] H := hP
              refine lv_if_ne (tgt := 158) hx hb dX12_aMan_153 (by decide) (fun c_66 => ?_) (fun c_66 => ?_)
              · have h := ie c_66 h
                exact j158 z_65.2.1 m_names_53 z_65.2.2.1 z_65.2.2.2.1 z_65.2.2.2.2.1 z_65.2.2.2.2.2.1 z_65.2.2.2.2.2.2.1 z_65.2.2.2.2.2.2.2 x1_57 _ _ hP hS ls (lv_sub hl [1, 0] rfl) h
              · have h := it c_66 h
                refine lv_iconst (v := 0) hx hb dX12_aMan_156 (by decide) ?_
                cases h
                subst hW1
                exact W.zret hx hb hr rfl (fun _ ht9 _ => ⟨⟨_, (), rfl, rfl, hPt ht9 hP.1⟩, hS.F ht9⟩) hS.2.2 dX12_aMan_157
          · have h := it c_62 h
            refine lv_iconst (v := 0) hx hb dX12_aMan_133 (by decide) ?_
            cases h
            subst hW1
            exact W.zret hx hb hr rfl (fun _ ht9 _ => ⟨⟨_, (), rfl, rfl, hPt ht9 hP.1⟩, hS.F ht9⟩) hS.2.2 dX12_aMan_134
      · have h := ie c_50 h
        refine lv_aload_n hx hb dX12_aMan_57 rfl (lv_at hl 0 rfl) ?_
        refine lv_iconst (v := 3) hx hb dX12_aMan_58 (by decide) ?_
        obtain ⟨z_67, e_z_67, h⟩ := bi h
        refine efVi (rest := []) ⟨hx, hb, hml, hown, ht⟩ (c_X12_fails l D cy fu A_m m_at m_names m_status m_top m_bottom m_sort m_trayMany m_trays m_tape m_text m_taped m_size z_45.1 z_45.2.1 z_45.2.2.1 z_45.2.2.2 m_faultKind m_faultPlace m_faults m_seen m_toldParts m_opened m_depth m_counted m_bestOrder m_standers m_has m_bestHas m_standerMany m_bestCouples m_bestFondness m_cameTo m_doesStandFirst m_stoodBy m_drawn m_ranSteps m_loops m_ran m_told1 m_isTold m_marks 3 z_67 e_z_67 _ rfl _ rfl) (cV ht mv_X12_fails tb_1447 rfl rfl ⟨Nat.le_of_ble_eq_true rfl, Nat.le_of_ble_eq_true rfl⟩) hP hS hX [0] rfl rfl rfl rfl rfl rfl hl.1 rfl (Nat.le_of_ble_eq_true rfl) dX12_aMan_59 ⟨Nat.le_of_ble_eq_true rfl, Nat.le_of_ble_eq_true rfl⟩ (fun H locs hP hS => ?_)
        have hP : PD D A [bl_X12 cy A_m m_at m_names m_status m_top m_bottom m_sort m_trayMany m_trays m_tape m_text m_taped m_size z_45.1 z_45.2.1 z_45.2.2.1 z_45.2.2.2 m_faultKind z_67.2.1 z_67.2.2 m_seen m_toldParts m_opened m_depth m_counted m_bestOrder m_standers m_has m_bestHas m_standerMany m_bestCouples m_bestFondness m_cameTo m_doesStandFirst m_stoodBy m_drawn m_ranSteps m_loops m_ran m_told1 m_isTold m_marks] H := hP
        obtain ⟨b_68, e_b_68, h⟩ := bi h
        obtain ⟨-, n_b_68, -⟩ := bz_ok e_b_68
        cases h
        subst hW1
        exact W.zret hx hb hr n_b_68 (fun _ ht9 _ => ⟨⟨_, (), rfl, rfl, hPt ht9 hP.1⟩, hS.F ht9⟩) hS.2.2 dX12_aMan_62
    · have h := it c_47 h
      refine lv_aload_n hx hb dX12_aMan_33 rfl (lv_at hl 0 rfl) ?_
      refine lv_iconst (v := 2) hx hb dX12_aMan_34 (by decide) ?_
      obtain ⟨z_69, e_z_69, h⟩ := bi h
      refine efVi (rest := []) ⟨hx, hb, hml, hown, ht⟩ (c_X12_fails l D cy fu A_m m_at m_names m_status m_top m_bottom m_sort m_trayMany m_trays m_tape m_text m_taped m_size z_45.1 z_45.2.1 z_45.2.2.1 z_45.2.2.2 m_faultKind m_faultPlace m_faults m_seen m_toldParts m_opened m_depth m_counted m_bestOrder m_standers m_has m_bestHas m_standerMany m_bestCouples m_bestFondness m_cameTo m_doesStandFirst m_stoodBy m_drawn m_ranSteps m_loops m_ran m_told1 m_isTold m_marks 2 z_69 e_z_69 _ rfl _ rfl) (cV ht mv_X12_fails tb_1447 rfl rfl ⟨Nat.le_of_ble_eq_true rfl, Nat.le_of_ble_eq_true rfl⟩) hP hS hX [0] rfl rfl rfl rfl rfl rfl hl.1 rfl (Nat.le_of_ble_eq_true rfl) dX12_aMan_35 ⟨Nat.le_of_ble_eq_true rfl, Nat.le_of_ble_eq_true rfl⟩ (fun H locs hP hS => ?_)
      have hP : PD D A [bl_X12 cy A_m m_at m_names m_status m_top m_bottom m_sort m_trayMany m_trays m_tape m_text m_taped m_size z_45.1 z_45.2.1 z_45.2.2.1 z_45.2.2.2 m_faultKind z_69.2.1 z_69.2.2 m_seen m_toldParts m_opened m_depth m_counted m_bestOrder m_standers m_has m_bestHas m_standerMany m_bestCouples m_bestFondness m_cameTo m_doesStandFirst m_stoodBy m_drawn m_ranSteps m_loops m_ran m_told1 m_isTold m_marks] H := hP
      obtain ⟨b_70, e_b_70, h⟩ := bi h
      obtain ⟨-, n_b_70, -⟩ := bz_ok e_b_70
      cases h
      subst hW1
      exact W.zret hx hb hr n_b_70 (fun _ ht9 _ => ⟨⟨_, (), rfl, rfl, hPt ht9 hP.1⟩, hS.F ht9⟩) hS.2.2 dX12_aMan_38
  · have h := it c_44 h
    refine lv_aload_n hx hb dX12_aMan_13 rfl (lv_at hl 0 rfl) ?_
    refine lv_bipush (v := 6) hx hb dX12_aMan_14 (by decide) ?_
    obtain ⟨z_71, e_z_71, h⟩ := bi h
    refine efVi (rest := []) ⟨hx, hb, hml, hown, ht⟩ (c_X12_fails l D cy fu A_m m_at m_names m_status m_top m_bottom m_sort m_trayMany m_trays m_tape m_text m_taped m_size m_token m_from m_end m_value m_faultKind m_faultPlace m_faults m_seen m_toldParts m_opened m_depth m_counted m_bestOrder m_standers m_has m_bestHas m_standerMany m_bestCouples m_bestFondness m_cameTo m_doesStandFirst m_stoodBy m_drawn m_ranSteps m_loops m_ran m_told1 m_isTold m_marks 6 z_71 e_z_71 _ rfl _ rfl) (cV ht mv_X12_fails tb_1447 rfl rfl ⟨Nat.le_of_ble_eq_true rfl, Nat.le_of_ble_eq_true rfl⟩) hP hS hX [0] rfl rfl rfl rfl rfl rfl hl.1 rfl (Nat.le_of_ble_eq_true rfl) dX12_aMan_16 ⟨Nat.le_of_ble_eq_true rfl, Nat.le_of_ble_eq_true rfl⟩ (fun H locs hP hS => ?_)
    have hP : PD D A [bl_X12 cy A_m m_at m_names m_status m_top m_bottom m_sort m_trayMany m_trays m_tape m_text m_taped m_size m_token m_from m_end m_value m_faultKind z_71.2.1 z_71.2.2 m_seen m_toldParts m_opened m_depth m_counted m_bestOrder m_standers m_has m_bestHas m_standerMany m_bestCouples m_bestFondness m_cameTo m_doesStandFirst m_stoodBy m_drawn m_ranSteps m_loops m_ran m_told1 m_isTold m_marks] H := hP
    obtain ⟨b_72, e_b_72, h⟩ := bi h
    obtain ⟨-, n_b_72, -⟩ := bz_ok e_b_72
    cases h
    subst hW1
    exact W.zret hx hb hr n_b_72 (fun _ ht9 _ => ⟨⟨_, (), rfl, rfl, hPt ht9 hP.1⟩, hS.F ht9⟩) hS.2.2 dX12_aMan_19
theorem dX12_aLike_0 : decode cX12_aLike 0 = .ok (.sipush 2432, 3) := by decide +kernel
theorem dX12_aLike_3 : decode cX12_aLike 3 = .ok (.istore_n 1, 1) := by decide +kernel
theorem dX12_aLike_4 : decode cX12_aLike 4 = .ok (.aload_n 0, 1) := by decide +kernel
theorem dX12_aLike_5 : decode cX12_aLike 5 = .ok (.invokevirtual 160, 3) := by decide +kernel
theorem dX12_aLike_8 : decode cX12_aLike 8 = .ok (.aload_n 0, 1) := by decide +kernel
theorem dX12_aLike_9 : decode cX12_aLike 9 = .ok (.bipush 32, 2) := by decide +kernel
theorem dX12_aLike_11 : decode cX12_aLike 11 = .ok (.aload_n 0, 1) := by decide +kernel
theorem dX12_aLike_12 : decode cX12_aLike 12 = .ok (.getfield 7, 3) := by decide +kernel
theorem dX12_aLike_15 : decode cX12_aLike 15 = .ok (.sipush 1952, 3) := by decide +kernel
theorem dX12_aLike_18 : decode cX12_aLike 18 = .ok (.iaload, 1) := by decide +kernel
theorem dX12_aLike_19 : decode cX12_aLike 19 = .ok (.iload_n 1, 1) := by decide +kernel
theorem dX12_aLike_20 : decode cX12_aLike 20 = .ok (.invokevirtual 197, 3) := by decide +kernel
theorem dX12_aLike_23 : decode cX12_aLike 23 = .ok (.ifCond .ne 5, 3) := by decide +kernel
theorem dX12_aLike_26 : decode cX12_aLike 26 = .ok (.iconst 0, 1) := by decide +kernel
theorem dX12_aLike_27 : decode cX12_aLike 27 = .ok (.ireturn, 1) := by decide +kernel
theorem dX12_aLike_28 : decode cX12_aLike 28 = .ok (.aload_n 0, 1) := by decide +kernel
theorem dX12_aLike_29 : decode cX12_aLike 29 = .ok (.ldc 177, 2) := by decide +kernel
theorem dX12_aLike_31 : decode cX12_aLike 31 = .ok (.invokevirtual 179, 3) := by decide +kernel
theorem dX12_aLike_34 : decode cX12_aLike 34 = .ok (.ifCond .eq 32, 3) := by decide +kernel
theorem dX12_aLike_37 : decode cX12_aLike 37 = .ok (.aload_n 0, 1) := by decide +kernel
theorem dX12_aLike_38 : decode cX12_aLike 38 = .ok (.bipush 32, 2) := by decide +kernel
theorem dX12_aLike_40 : decode cX12_aLike 40 = .ok (.aload_n 0, 1) := by decide +kernel
theorem dX12_aLike_41 : decode cX12_aLike 41 = .ok (.getfield 7, 3) := by decide +kernel
theorem dX12_aLike_44 : decode cX12_aLike 44 = .ok (.sipush 1952, 3) := by decide +kernel
theorem dX12_aLike_47 : decode cX12_aLike 47 = .ok (.iaload, 1) := by decide +kernel
theorem dX12_aLike_48 : decode cX12_aLike 48 = .ok (.invokevirtual 183, 3) := by decide +kernel
theorem dX12_aLike_51 : decode cX12_aLike 51 = .ok (.aload_n 0, 1) := by decide +kernel
theorem dX12_aLike_52 : decode cX12_aLike 52 = .ok (.getfield 7, 3) := by decide +kernel
theorem dX12_aLike_55 : decode cX12_aLike 55 = .ok (.iload_n 1, 1) := by decide +kernel
theorem dX12_aLike_56 : decode cX12_aLike 56 = .ok (.iaload, 1) := by decide +kernel
theorem dX12_aLike_57 : decode cX12_aLike 57 = .ok (.if_icmp .ne 9, 3) := by decide +kernel
theorem dX12_aLike_60 : decode cX12_aLike 60 = .ok (.aload_n 0, 1) := by decide +kernel
theorem dX12_aLike_61 : decode cX12_aLike 61 = .ok (.iconst 5, 1) := by decide +kernel
theorem dX12_aLike_62 : decode cX12_aLike 62 = .ok (.invokevirtual 166, 3) := by decide +kernel
theorem dX12_aLike_65 : decode cX12_aLike 65 = .ok (.ireturn, 1) := by decide +kernel
theorem dX12_aLike_66 : decode cX12_aLike 66 = .ok (.aload_n 0, 1) := by decide +kernel
theorem dX12_aLike_67 : decode cX12_aLike 67 = .ok (.bipush 32, 2) := by decide +kernel
theorem dX12_aLike_69 : decode cX12_aLike 69 = .ok (.aload_n 0, 1) := by decide +kernel
theorem dX12_aLike_70 : decode cX12_aLike 70 = .ok (.getfield 7, 3) := by decide +kernel
theorem dX12_aLike_73 : decode cX12_aLike 73 = .ok (.sipush 1952, 3) := by decide +kernel
theorem dX12_aLike_76 : decode cX12_aLike 76 = .ok (.iaload, 1) := by decide +kernel
theorem dX12_aLike_77 : decode cX12_aLike 77 = .ok (.iload_n 1, 1) := by decide +kernel
theorem dX12_aLike_78 : decode cX12_aLike 78 = .ok (.iconst 1, 1) := by decide +kernel
theorem dX12_aLike_79 : decode cX12_aLike 79 = .ok (.iadd, 1) := by decide +kernel
theorem dX12_aLike_80 : decode cX12_aLike 80 = .ok (.invokevirtual 197, 3) := by decide +kernel
theorem dX12_aLike_83 : decode cX12_aLike 83 = .ok (.ifCond .eq 42, 3) := by decide +kernel
theorem dX12_aLike_86 : decode cX12_aLike 86 = .ok (.aload_n 0, 1) := by decide +kernel
theorem dX12_aLike_87 : decode cX12_aLike 87 = .ok (.sipush 1952, 3) := by decide +kernel
theorem dX12_aLike_90 : decode cX12_aLike 90 = .ok (.aload_n 0, 1) := by decide +kernel
theorem dX12_aLike_91 : decode cX12_aLike 91 = .ok (.getfield 7, 3) := by decide +kernel
theorem dX12_aLike_94 : decode cX12_aLike 94 = .ok (.iload_n 1, 1) := by decide +kernel
theorem dX12_aLike_95 : decode cX12_aLike 95 = .ok (.iaload, 1) := by decide +kernel
theorem dX12_aLike_96 : decode cX12_aLike 96 = .ok (.invokestatic 75, 3) := by decide +kernel
theorem dX12_aLike_99 : decode cX12_aLike 99 = .ok (.iadd, 1) := by decide +kernel
theorem dX12_aLike_100 : decode cX12_aLike 100 = .ok (.bipush 6, 2) := by decide +kernel
theorem dX12_aLike_102 : decode cX12_aLike 102 = .ok (.iadd, 1) := by decide +kernel
theorem dX12_aLike_103 : decode cX12_aLike 103 = .ok (.aload_n 0, 1) := by decide +kernel
theorem dX12_aLike_104 : decode cX12_aLike 104 = .ok (.getfield 7, 3) := by decide +kernel
theorem dX12_aLike_107 : decode cX12_aLike 107 = .ok (.iload_n 1, 1) := by decide +kernel
theorem dX12_aLike_108 : decode cX12_aLike 108 = .ok (.iconst 1, 1) := by decide +kernel
theorem dX12_aLike_109 : decode cX12_aLike 109 = .ok (.iadd, 1) := by decide +kernel
theorem dX12_aLike_110 : decode cX12_aLike 110 = .ok (.iaload, 1) := by decide +kernel
theorem dX12_aLike_111 : decode cX12_aLike 111 = .ok (.iadd, 1) := by decide +kernel
theorem dX12_aLike_112 : decode cX12_aLike 112 = .ok (.iconst 0, 1) := by decide +kernel
theorem dX12_aLike_113 : decode cX12_aLike 113 = .ok (.bipush 9, 2) := by decide +kernel
theorem dX12_aLike_115 : decode cX12_aLike 115 = .ok (.invokevirtual 190, 3) := by decide +kernel
theorem dX12_aLike_118 : decode cX12_aLike 118 = .ok (.ifCond .eq 7, 3) := by decide +kernel
theorem dX12_aLike_121 : decode cX12_aLike 121 = .ok (.iconst 1, 1) := by decide +kernel
theorem dX12_aLike_122 : decode cX12_aLike 122 = .ok (.goto 4, 3) := by decide +kernel
theorem dX12_aLike_125 : decode cX12_aLike 125 = .ok (.iconst 0, 1) := by decide +kernel
theorem dX12_aLike_126 : decode cX12_aLike 126 = .ok (.ireturn, 1) := by decide +kernel
theorem mv_X12_aLike : MV yX12_aLike RX12 cX12_aLike 2 (some .boolean) 0 := ⟨tb_1482, tb_1481, ts_57, tb_16, by decide +kernel, by decide +kernel, by decide +kernel⟩
def f_X12_aLike_j66 (fu : Nat) (m_names : Nat → Int64) (m_text : Nat → Int32) (m_size : Int32) (m_at : Nat → Int32) (m_token : Int32) (m_from : Int32) (m_end : Int32) (m_value : Int32) (m_faultPlace : Int32) (m_faults : Int32) (x1 : Int32) : Option (Int32 × (Nat → Int32) × Int32 × Int32 × Int32 × Int32 × Int32 × Int32) := (rdI m_at 3648 1952).bind fun y_21 => (f_X12_oldOne fu m_at m_names m_text m_size m_token m_from m_end m_value m_faultPlace m_faults 32 y_21 (x1 + 1)).bind fun z_22 => (if z_22.1 = 0 then some (0, z_22.2.1, z_22.2.2.1, z_22.2.2.2.1, z_22.2.2.2.2.1, z_22.2.2.2.2.2.1, z_22.2.2.2.2.2.2.1, z_22.2.2.2.2.2.2.2) else (rdI z_22.2.1 3648 x1).bind fun y_24 => (f_X12_manRow fu y_24).bind fun z_25 => (rdI z_22.2.1 3648 (x1 + 1)).bind fun y_26 => (f_X12_number fu z_22.2.1 m_text m_size z_22.2.2.1 z_22.2.2.2.1 z_22.2.2.2.2.1 z_22.2.2.2.2.2.1 z_22.2.2.2.2.2.2.1 z_22.2.2.2.2.2.2.2 (((1952 + z_25) + 6) + y_26) 0 9).bind fun z_27 => (if z_27.1 = 0 then some (0, z_27.2.1, z_27.2.2.1, z_27.2.2.2.1, z_27.2.2.2.2.1, z_27.2.2.2.2.2.1, z_27.2.2.2.2.2.2.1, z_27.2.2.2.2.2.2.2) else some (1, z_27.2.1, z_27.2.2.1, z_27.2.2.2.1, z_27.2.2.2.2.1, z_27.2.2.2.2.2.1, z_27.2.2.2.2.2.2.1, z_27.2.2.2.2.2.2.2)))
def f_X12_aLike (fu : Nat) (m_at : Nat → Int32) (m_names : Nat → Int64) (m_text : Nat → Int32) (m_size : Int32) (m_token : Int32) (m_from : Int32) (m_end : Int32) (m_value : Int32) (m_faultPlace : Int32) (m_faults : Int32) : Option (Int32 × (Nat → Int32) × Int32 × Int32 × Int32 × Int32 × Int32 × Int32) := (f_X12_ahead fu m_text m_size m_token m_from m_end m_value).bind fun z_29 => (rdI m_at 3648 1952).bind fun y_30 => (f_X12_oldOne fu m_at m_names m_text m_size z_29.1 z_29.2.1 z_29.2.2.1 z_29.2.2.2 m_faultPlace m_faults 32 y_30 2432).bind fun z_31 => (if z_31.1 = 0 then some (0, z_31.2.1, z_31.2.2.1, z_31.2.2.2.1, z_31.2.2.2.2.1, z_31.2.2.2.2.2.1, z_31.2.2.2.2.2.2.1, z_31.2.2.2.2.2.2.2) else (f_X12_isName fu 1 m_text m_size z_31.2.2.1 z_31.2.2.2.1 z_31.2.2.2.2.1).bind fun z_33 => (if z_33 = 0 then f_X12_aLike_j66 fu m_names m_text m_size z_31.2.1 z_31.2.2.1 z_31.2.2.2.1 z_31.2.2.2.2.1 z_31.2.2.2.2.2.1 z_31.2.2.2.2.2.2.1 z_31.2.2.2.2.2.2.2 2432 else (rdI z_31.2.1 3648 1952).bind fun y_35 => (f_X12_findHere fu m_names m_text m_size z_31.2.2.2.1 z_31.2.2.2.2.1 32 y_35).bind fun z_36 => (rdI z_31.2.1 3648 2432).bind fun y_37 => (if z_36 = y_37 then (f_X12_fails fu z_31.2.2.1 z_31.2.2.2.1 z_31.2.2.2.2.2.2.1 z_31.2.2.2.2.2.2.2 5).bind fun z_39 => (bz z_39.1).bind fun _ => some (z_39.1, z_31.2.1, z_31.2.2.1, z_31.2.2.2.1, z_31.2.2.2.2.1, z_31.2.2.2.2.2.1, z_39.2.1, z_39.2.2) else f_X12_aLike_j66 fu m_names m_text m_size z_31.2.1 z_31.2.2.1 z_31.2.2.2.1 z_31.2.2.2.2.1 z_31.2.2.2.2.2.1 z_31.2.2.2.2.2.2.1 z_31.2.2.2.2.2.2.2 2432)))
abbrev rm_X12_aLike : Room := { frames := 7, cells := 0, slots := 0, locals := 155 }
set_option maxHeartbeats 4000000 in
set_option maxRecDepth 100000 in
theorem c_X12_aLike (l : Launch) (D : va_G) (cy : Nat → ClassId) (fu : Nat) (tO : Nat) (aK aV : Nat → Nat) (A_m : Nat → Nat) (m_at : Nat → Int32) (m_names : Nat → Int64) (m_status : Int32) (m_top : Int64) (m_bottom : Int64) (m_sort : Nat → Int32) (m_trayMany : Nat → Int32) (m_trays : Nat → Int64) (m_tape : Nat → Int32) (m_text : Nat → Int32) (m_taped : Int32) (m_size : Int32) (m_token : Int32) (m_from : Int32) (m_end : Int32) (m_value : Int32) (m_faultKind : Int32) (m_faultPlace : Int32) (m_faults : Int32) (m_seen : Int32) (m_toldParts : Int32) (m_opened : Nat → Int32) (m_depth : Int32) (m_counted : Int32) (m_bestOrder : Int32) (m_standers : Nat → Int32) (m_has : Nat → Int32) (m_bestHas : Nat → Int32) (m_standerMany : Int32) (m_bestCouples : Int32) (m_bestFondness : Int32) (m_cameTo : Nat → Int32) (m_doesStandFirst : Int32) (m_stoodBy : Nat → Int64) (m_drawn : Int32) (m_ranSteps : Int32) (m_loops : Nat → Int32) (m_ran : Nat → Int32) (m_told1 : Nat → Int32) (m_isTold : Int32) (m_marks : Int32) (res : Int32 × (Nat → Int32) × Int32 × Int32 × Int32 × Int32 × Int32 × Int32) (h : f_X12_aLike fu m_at m_names m_text m_size m_token m_from m_end m_value m_faultPlace m_faults = some res) (A : Nat → Prop) (hA : A = adr [bl_X12 cy A_m m_at m_names m_status m_top m_bottom m_sort m_trayMany m_trays m_tape m_text m_taped m_size m_token m_from m_end m_value m_faultKind m_faultPlace m_faults m_seen m_toldParts m_opened m_depth m_counted m_bestOrder m_standers m_has m_bestHas m_standerMany m_bestCouples m_bestFondness m_cameTo m_doesStandFirst m_stoodBy m_drawn m_ranSteps m_loops m_ran m_told1 m_isTold m_marks]) (W1 : List va_W) (hW1 : W1 = [bl_X12 cy A_m res.2.1 m_names m_status m_top m_bottom m_sort m_trayMany m_trays m_tape m_text m_taped m_size res.2.2.1 res.2.2.2.1 res.2.2.2.2.1 res.2.2.2.2.2.1 m_faultKind res.2.2.2.2.2.2.1 res.2.2.2.2.2.2.2 m_seen m_toldParts m_opened m_depth m_counted m_bestOrder m_standers m_has m_bestHas m_standerMany m_bestCouples m_bestFondness m_cameTo m_doesStandFirst m_stoodBy m_drawn m_ranSteps m_loops m_ran m_told1 m_isTold m_marks]) : Met l yX12_aLike (WW yX12_aLike cX12_aLike 2 (some .boolean)) rm_X12_aLike (EdX D cy tO aK aV A [.ref (A_m 0)] [bl_X12 cy A_m m_at m_names m_status m_top m_bottom m_sort m_trayMany m_trays m_tape m_text m_taped m_size m_token m_from m_end m_value m_faultKind m_faultPlace m_faults m_seen m_toldParts m_opened m_depth m_counted m_bestOrder m_standers m_has m_bestHas m_standerMany m_bestCouples m_bestFondness m_cameTo m_doesStandFirst m_stoodBy m_drawn m_ranSteps m_loops m_ran m_told1 m_isTold m_marks]) (Qei D res.1 A W1) 0 0 A := by
  refine Met.ofW (cc := cX12_aLike) (maxL := 2) (ret := (some .boolean)) (by decide) rfl ?_
  intro p e s m args below meth c s₁ B hml hv
  obtain ⟨hargs, hP, hX, hD0, hE⟩ := hv
  have hx := B.exec
  have hb := B.bytes
  have hr := B.returns
  have ht : ∀ w ∈ lw_gd, w.before args s = true := fun w hw => atoms_spec (ws := WW yX12_aLike cX12_aLike 2 (some .boolean)) B.pre w (List.mem_cons_of_mem _ hw)
  have hown : s.vm.findClass RX12 = some m.cls := findClass_of_methodNamed B.named
  have hlocks := B.notSynchronized
  have hP : PD D A [bl_X12 cy A_m m_at m_names m_status m_top m_bottom m_sort m_trayMany m_trays m_tape m_text m_taped m_size m_token m_from m_end m_value m_faultKind m_faultPlace m_faults m_seen m_toldParts m_opened m_depth m_counted m_bestOrder m_standers m_has m_bestHas m_standerMany m_bestCouples m_bestFondness m_cameTo m_doesStandFirst m_stoodBy m_drawn m_ranSteps m_loops m_ran m_told1 m_isTold m_marks] s.heap := ⟨hP, by rw [hA]; exact hD0.own⟩
  have hS : va_S A s.heap s.heap [] := va_S.rf
  obtain ⟨ls, hl, hent⟩ := ent (m := m) (n := 2) hargs (Nat.le_of_ble_eq_true rfl) (lv := [(0, .ref (A_m 0))]) rfl
  rw [hent]
  clear hent
  have j66 : ∀ (m_at : Nat → Int32) (m_token : Int32) (m_from : Int32) (m_end : Int32) (m_value : Int32) (m_faultPlace : Int32) (m_faults : Int32) (x1 : Int32) (H : Heap) (locs : List Loc) (_ : PD D A [bl_X12 cy A_m m_at m_names m_status m_top m_bottom m_sort m_trayMany m_trays m_tape m_text m_taped m_size m_token m_from m_end m_value m_faultKind m_faultPlace m_faults m_seen m_toldParts m_opened m_depth m_counted m_bestOrder m_standers m_has m_bestHas m_standerMany m_bestCouples m_bestFondness m_cameTo m_doesStandFirst m_stoodBy m_drawn m_ranSteps m_loops m_ran m_told1 m_isTold m_marks] H) (_ : va_S A s.heap H locs) (ls : Array Slot), lv_has ls 2 [(0, .ref (A_m 0)), (1, .int x1)] → f_X12_aLike_j66 fu m_names m_text m_size m_at m_token m_from m_end m_value m_faultPlace m_faults x1 = some res → W p l e (headSpec (WW yX12_aLike cX12_aLike 2 (some .boolean)) rm_X12_aLike).room s m args below meth c H locs 0 0 (MQ below (Qei D res.1 A W1) args s 0 0 A) (F0 m 66 ls []) := by
    intro m_at m_token m_from m_end m_value m_faultPlace m_faults x1 H locs hP hS ls hl h
    unfold f_X12_aLike_j66 at h
    refine lv_aload_n hx hb dX12_aLike_66 rfl (lv_at hl 0 rfl) ?_
    refine lv_bipush (v := 32) hx hb dX12_aLike_67 (by decide) ?_
    refine lv_aload_n hx hb dX12_aLike_69 rfl (lv_at hl 0 rfl) ?_
    refine xget (i := 0) (j := 0) (k := 0) (T := TX12) hx hb ht tb_iX12 hown hX hP.1 rfl rfl rfl (by decide) tb_1229 rfl dX12_aLike_70 ?_
    refine lv_sipush (v := 1952) hx hb dX12_aLike_73 (by decide) ?_
    obtain ⟨y_21, e_y_21, h⟩ := bi h
    refine xiald (i0 := 0) (j0 := 1) hx hb hX hP.1 rfl rfl e_y_21 dX12_aLike_76 ?_
    refine lv_iload_n hx hb dX12_aLike_77 rfl (lv_at hl 1 rfl) ?_
    refine lv_iconst (v := 1) hx hb dX12_aLike_78 (by decide) ?_
    refine lv_iadd hx hb dX12_aLike_79 ?_
    obtain ⟨z_22, e_z_22, h⟩ := bi h
    refine efViX (rest := []) ⟨hx, hb, hml, hown, ht⟩ (c_X12_oldOne l D cy fu tO aK aV A_m m_at m_names m_status m_top m_bottom m_sort m_trayMany m_trays m_tape m_text m_taped m_size m_token m_from m_end m_value m_faultKind m_faultPlace m_faults m_seen m_toldParts m_opened m_depth m_counted m_bestOrder m_standers m_has m_bestHas m_standerMany m_bestCouples m_bestFondness m_cameTo m_doesStandFirst m_stoodBy m_drawn m_ranSteps m_loops m_ran m_told1 m_isTold m_marks 32 y_21 (x1 + 1) z_22 e_z_22 _ rfl _ rfl) (cV ht mv_X12_oldOne tb_1483 rfl rfl ⟨Nat.le_of_ble_eq_true rfl, Nat.le_of_ble_eq_true rfl⟩) hP hS hX hE [0] rfl rfl rfl rfl rfl rfl hl.1 rfl (Nat.le_of_ble_eq_true rfl) dX12_aLike_80 ⟨Nat.le_of_ble_eq_true rfl, Nat.le_of_ble_eq_true rfl⟩ (fun H locs hP hS => ?_)
    have hP : PD D A [bl_X12 cy A_m z_22.2.1 m_names m_status m_top m_bottom m_sort m_trayMany m_trays m_tape m_text m_taped m_size z_22.2.2.1 z_22.2.2.2.1 z_22.2.2.2.2.1 z_22.2.2.2.2.2.1 m_faultKind z_22.2.2.2.2.2.2.1 z_22.2.2.2.2.2.2.2 m_seen m_toldParts m_opened m_depth m_counted m_bestOrder m_standers m_has m_bestHas m_standerMany m_bestCouples m_bestFondness m_cameTo m_doesStandFirst m_stoodBy m_drawn m_ranSteps m_loops m_ran m_told1 m_isTold m_marks] H := hP
    refine lv_if_eq (tgt := 125) hx hb dX12_aLike_83 (by decide) (fun c_23 => ?_) (fun c_23 => ?_)
    · have h := it c_23 h
      refine lv_iconst (v := 0) hx hb dX12_aLike_125 (by decide) ?_
      cases h
      subst hW1
      exact W.zret hx hb hr rfl (fun _ ht9 _ => ⟨⟨_, (), rfl, rfl, hPt ht9 hP.1⟩, hS.F ht9⟩) hS.2.2 dX12_aLike_126
    · have h := ie c_23 h
      refine lv_aload_n hx hb dX12_aLike_86 rfl (lv_at hl 0 rfl) ?_
      refine lv_sipush (v := 1952) hx hb dX12_aLike_87 (by decide) ?_
      refine lv_aload_n hx hb dX12_aLike_90 rfl (lv_at hl 0 rfl) ?_
      refine xget (i := 0) (j := 0) (k := 0) (T := TX12) hx hb ht tb_iX12 hown hX hP.1 rfl rfl rfl (by decide) tb_1229 rfl dX12_aLike_91 ?_
      refine lv_iload_n hx hb dX12_aLike_94 rfl (lv_at hl 1 rfl) ?_
      obtain ⟨y_24, e_y_24, h⟩ := bi h
      refine xiald (i0 := 0) (j0 := 1) hx hb hX hP.1 rfl rfl e_y_24 dX12_aLike_95 ?_
      obtain ⟨z_25, e_z_25, h⟩ := bi h
      refine roSi (rest := [.int 1952, .ref (A_m 0)]) ⟨hx, hb, hml, hown, ht⟩ (c_X12_manRow l D cy fu  y_24 z_25 e_z_25) (cS ht ms_X12_manRow tb_1226 rfl rfl ⟨Nat.le_of_ble_eq_true rfl, Nat.le_of_ble_eq_true rfl⟩) (P_sub hP.1 [] rfl) hX rfl hl.1 rfl (Nat.le_of_ble_eq_true rfl) dX12_aLike_96 ⟨Nat.le_of_ble_eq_true rfl, Nat.le_of_ble_eq_true rfl⟩ ?_
      refine lv_iadd hx hb dX12_aLike_99 ?_
      refine lv_bipush (v := 6) hx hb dX12_aLike_100 (by decide) ?_
      refine lv_iadd hx hb dX12_aLike_102 ?_
      refine lv_aload_n hx hb dX12_aLike_103 rfl (lv_at hl 0 rfl) ?_
      refine xget (i := 0) (j := 0) (k := 0) (T := TX12) hx hb ht tb_iX12 hown hX hP.1 rfl rfl rfl (by decide) tb_1229 rfl dX12_aLike_104 ?_
      refine lv_iload_n hx hb dX12_aLike_107 rfl (lv_at hl 1 rfl) ?_
      refine lv_iconst (v := 1) hx hb dX12_aLike_108 (by decide) ?_
      refine lv_iadd hx hb dX12_aLike_109 ?_
      obtain ⟨y_26, e_y_26, h⟩ := bi h
      refine xiald (i0 := 0) (j0 := 1) hx hb hX hP.1 rfl rfl e_y_26 dX12_aLike_110 ?_
      refine lv_iadd hx hb dX12_aLike_111 ?_
      refine lv_iconst (v := 0) hx hb dX12_aLike_112 (by decide) ?_
      refine lv_bipush (v := 9) hx hb dX12_aLike_113 (by decide) ?_
      obtain ⟨z_27, e_z_27, h⟩ := bi h
      refine efVi (rest := []) ⟨hx, hb, hml, hown, ht⟩ (c_X12_number l D cy fu A_m z_22.2.1 m_names m_status m_top m_bottom m_sort m_trayMany m_trays m_tape m_text m_taped m_size z_22.2.2.1 z_22.2.2.2.1 z_22.2.2.2.2.1 z_22.2.2.2.2.2.1 m_faultKind z_22.2.2.2.2.2.2.1 z_22.2.2.2.2.2.2.2 m_seen m_toldParts m_opened m_depth m_counted m_bestOrder m_standers m_has m_bestHas m_standerMany m_bestCouples m_bestFondness m_cameTo m_doesStandFirst m_stoodBy m_drawn m_ranSteps m_loops m_ran m_told1 m_isTold m_marks (((1952 + z_25) + 6) + y_26) 0 9 z_27 e_z_27 _ rfl _ rfl) (cV ht mv_X12_number tb_1451 rfl rfl ⟨Nat.le_of_ble_eq_true rfl, Nat.le_of_ble_eq_true rfl⟩) hP hS hX [0] rfl rfl rfl rfl rfl rfl hl.1 rfl (Nat.le_of_ble_eq_true rfl) dX12_aLike_115 ⟨Nat.le_of_ble_eq_true rfl, Nat.le_of_ble_eq_true rfl⟩ (fun H locs hP hS => ?_)
      have hP : PD D A [bl_X12 cy A_m z_27.2.1 m_names m_status m_top m_bottom m_sort m_trayMany m_trays m_tape m_text m_taped m_size z_27.2.2.1 z_27.2.2.2.1 z_27.2.2.2.2.1 z_27.2.2.2.2.2.1 m_faultKind z_27.2.2.2.2.2.2.1 z_27.2.2.2.2.2.2.2 m_seen m_toldParts m_opened m_depth m_counted m_bestOrder m_standers m_has m_bestHas m_standerMany m_bestCouples m_bestFondness m_cameTo m_doesStandFirst m_stoodBy m_drawn m_ranSteps m_loops m_ran m_told1 m_isTold m_marks] H := hP
      refine lv_if_eq (tgt := 125) hx hb dX12_aLike_118 (by decide) (fun c_28 => ?_) (fun c_28 => ?_)
      · have h := it c_28 h
        refine lv_iconst (v := 0) hx hb dX12_aLike_125 (by decide) ?_
        cases h
        subst hW1
        exact W.zret hx hb hr rfl (fun _ ht9 _ => ⟨⟨_, (), rfl, rfl, hPt ht9 hP.1⟩, hS.F ht9⟩) hS.2.2 dX12_aLike_126
      · have h := ie c_28 h
        refine lv_iconst (v := 1) hx hb dX12_aLike_121 (by decide) ?_
        refine lv_goto (tgt := 126) hx hb dX12_aLike_122 (by decide) ?_
        cases h
        subst hW1
        exact W.zret hx hb hr rfl (fun _ ht9 _ => ⟨⟨_, (), rfl, rfl, hPt ht9 hP.1⟩, hS.F ht9⟩) hS.2.2 dX12_aLike_126
  unfold f_X12_aLike at h
  refine lv_sipush (v := 2432) hx hb dX12_aLike_0 (by decide) ?_
  refine lv_istore_n (lv' := [(1, .int 2432), (0, .ref (A_m 0))]) hx hb dX12_aLike_3 rfl hl (by decide) rfl (fun ls hl => ?_)
  refine lv_aload_n hx hb dX12_aLike_4 rfl (lv_at hl 1 rfl) ?_
  obtain ⟨z_29, e_z_29, h⟩ := bi h
  refine efVv (rest := []) ⟨hx, hb, hml, hown, ht⟩ (c_X12_ahead l D cy fu A_m m_at m_names m_status m_top m_bottom m_sort m_trayMany m_trays m_tape m_text m_taped m_size m_token m_from m_end m_value m_faultKind m_faultPlace m_faults m_seen m_toldParts m_opened m_depth m_counted m_bestOrder m_standers m_has m_bestHas m_standerMany m_bestCouples m_bestFondness m_cameTo m_doesStandFirst m_stoodBy m_drawn m_ranSteps m_loops m_ran m_told1 m_isTold m_marks z_29 e_z_29 _ rfl _ rfl) (cV ht mv_X12_ahead tb_1416 rfl rfl ⟨Nat.le_of_ble_eq_true rfl, Nat.le_of_ble_eq_true rfl⟩) hP hS hX [0] rfl rfl rfl rfl rfl rfl hl.1 rfl (Nat.le_of_ble_eq_true rfl) dX12_aLike_5 ⟨Nat.le_of_ble_eq_true rfl, Nat.le_of_ble_eq_true rfl⟩ (fun H locs hP hS => ?_)
  have hP : PD D A [bl_X12 cy A_m m_at m_names m_status m_top m_bottom m_sort m_trayMany m_trays m_tape m_text m_taped m_size z_29.1 z_29.2.1 z_29.2.2.1 z_29.2.2.2 m_faultKind m_faultPlace m_faults m_seen m_toldParts m_opened m_depth m_counted m_bestOrder m_standers m_has m_bestHas m_standerMany m_bestCouples m_bestFondness m_cameTo m_doesStandFirst m_stoodBy m_drawn m_ranSteps m_loops m_ran m_told1 m_isTold m_marks] H := hP
  refine lv_aload_n hx hb dX12_aLike_8 rfl (lv_at hl 1 rfl) ?_
  refine lv_bipush (v := 32) hx hb dX12_aLike_9 (by decide) ?_
  refine lv_aload_n hx hb dX12_aLike_11 rfl (lv_at hl 1 rfl) ?_
  refine xget (i := 0) (j := 0) (k := 0) (T := TX12) hx hb ht tb_iX12 hown hX hP.1 rfl rfl rfl (by decide) tb_1229 rfl dX12_aLike_12 ?_
  refine lv_sipush (v := 1952) hx hb dX12_aLike_15 (by decide) ?_
  obtain ⟨y_30, e_y_30, h⟩ := bi h
  refine xiald (i0 := 0) (j0 := 1) hx hb hX hP.1 rfl rfl e_y_30 dX12_aLike_18 ?_
  refine lv_iload_n hx hb dX12_aLike_19 rfl (lv_at hl 0 rfl) ?_
  obtain ⟨z_31, e_z_31, h⟩ := bi h
  refine efViX (rest := []) ⟨hx, hb, hml, hown, ht⟩ (c_X12_oldOne l D cy fu tO aK aV A_m m_at m_names m_status m_top m_bottom m_sort m_trayMany m_trays m_tape m_text m_taped m_size z_29.1 z_29.2.1 z_29.2.2.1 z_29.2.2.2 m_faultKind m_faultPlace m_faults m_seen m_toldParts m_opened m_depth m_counted m_bestOrder m_standers m_has m_bestHas m_standerMany m_bestCouples m_bestFondness m_cameTo m_doesStandFirst m_stoodBy m_drawn m_ranSteps m_loops m_ran m_told1 m_isTold m_marks 32 y_30 2432 z_31 e_z_31 _ rfl _ rfl) (cV ht mv_X12_oldOne tb_1483 rfl rfl ⟨Nat.le_of_ble_eq_true rfl, Nat.le_of_ble_eq_true rfl⟩) hP hS hX hE [0] rfl rfl rfl rfl rfl rfl hl.1 rfl (Nat.le_of_ble_eq_true rfl) dX12_aLike_20 ⟨Nat.le_of_ble_eq_true rfl, Nat.le_of_ble_eq_true rfl⟩ (fun H locs hP hS => ?_)
  have hP : PD D A [bl_X12 cy A_m z_31.2.1 m_names m_status m_top m_bottom m_sort m_trayMany m_trays m_tape m_text m_taped m_size z_31.2.2.1 z_31.2.2.2.1 z_31.2.2.2.2.1 z_31.2.2.2.2.2.1 m_faultKind z_31.2.2.2.2.2.2.1 z_31.2.2.2.2.2.2.2 m_seen m_toldParts m_opened m_depth m_counted m_bestOrder m_standers m_has m_bestHas m_standerMany m_bestCouples m_bestFondness m_cameTo m_doesStandFirst m_stoodBy m_drawn m_ranSteps m_loops m_ran m_told1 m_isTold m_marks] H := hP
  refine lv_if_ne (tgt := 28) hx hb dX12_aLike_23 (by decide) (fun c_32 => ?_) (fun c_32 => ?_)
  · have h := ie c_32 h
    refine lv_aload_n hx hb dX12_aLike_28 rfl (lv_at hl 1 rfl) ?_
    refine va_ldcS hx hb hown hE.2.2.2.2.2.2.2 dX12_aLike_29 ?_
    obtain ⟨z_33, e_z_33, h⟩ := bi h
    refine roViX (rest := []) ⟨hx, hb, hml, hown, ht⟩ (c_X12_isName l D cy fu tO aK aV 1 (by decide) A_m z_31.2.1 m_names m_status m_top m_bottom m_sort m_trayMany m_trays m_tape m_text m_taped m_size z_31.2.2.1 z_31.2.2.2.1 z_31.2.2.2.2.1 z_31.2.2.2.2.2.1 m_faultKind z_31.2.2.2.2.2.2.1 z_31.2.2.2.2.2.2.2 m_seen m_toldParts m_opened m_depth m_counted m_bestOrder m_standers m_has m_bestHas m_standerMany m_bestCouples m_bestFondness m_cameTo m_doesStandFirst m_stoodBy m_drawn m_ranSteps m_loops m_ran m_told1 m_isTold m_marks z_33 e_z_33) (cV ht mv_X12_isName tb_1459 rfl rfl ⟨Nat.le_of_ble_eq_true rfl, Nat.le_of_ble_eq_true rfl⟩) (P_sub hP.1 [0] rfl) hX hE hS rfl rfl rfl hl.1 rfl (Nat.le_of_ble_eq_true rfl) dX12_aLike_31 ⟨Nat.le_of_ble_eq_true rfl, Nat.le_of_ble_eq_true rfl⟩ ?_
    refine lv_if_eq (tgt := 66) hx hb dX12_aLike_34 (by decide) (fun c_34 => ?_) (fun c_34 => ?_)
    · have h := it c_34 h
      exact j66 z_31.2.1 z_31.2.2.1 z_31.2.2.2.1 z_31.2.2.2.2.1 z_31.2.2.2.2.2.1 z_31.2.2.2.2.2.2.1 z_31.2.2.2.2.2.2.2 2432 _ _ hP hS ls (lv_sub hl [1, 0] rfl) h
    · have h := ie c_34 h
      refine lv_aload_n hx hb dX12_aLike_37 rfl (lv_at hl 1 rfl) ?_
      refine lv_bipush (v := 32) hx hb dX12_aLike_38 (by decide) ?_
      refine lv_aload_n hx hb dX12_aLike_40 rfl (lv_at hl 1 rfl) ?_
      refine xget (i := 0) (j := 0) (k := 0) (T := TX12) hx hb ht tb_iX12 hown hX hP.1 rfl rfl rfl (by decide) tb_1229 rfl dX12_aLike_41 ?_
      refine lv_sipush (v := 1952) hx hb dX12_aLike_44 (by decide) ?_
      obtain ⟨y_35, e_y_35, h⟩ := bi h
      refine xiald (i0 := 0) (j0 := 1) hx hb hX hP.1 rfl rfl e_y_35 dX12_aLike_47 ?_
      obtain ⟨z_36, e_z_36, h⟩ := bi h
      refine roVi (rest := []) ⟨hx, hb, hml, hown, ht⟩ (c_X12_findHere l D cy fu A_m z_31.2.1 m_names m_status m_top m_bottom m_sort m_trayMany m_trays m_tape m_text m_taped m_size z_31.2.2.1 z_31.2.2.2.1 z_31.2.2.2.2.1 z_31.2.2.2.2.2.1 m_faultKind z_31.2.2.2.2.2.2.1 z_31.2.2.2.2.2.2.2 m_seen m_toldParts m_opened m_depth m_counted m_bestOrder m_standers m_has m_bestHas m_standerMany m_bestCouples m_bestFondness m_cameTo m_doesStandFirst m_stoodBy m_drawn m_ranSteps m_loops m_ran m_told1 m_isTold m_marks 32 y_35 z_36 e_z_36) (cV ht mv_X12_findHere tb_1463 rfl rfl ⟨Nat.le_of_ble_eq_true rfl, Nat.le_of_ble_eq_true rfl⟩) (P_sub hP.1 [0] rfl) hX rfl rfl rfl hl.1 rfl (Nat.le_of_ble_eq_true rfl) dX12_aLike_48 ⟨Nat.le_of_ble_eq_true rfl, Nat.le_of_ble_eq_true rfl⟩ ?_
      refine lv_aload_n hx hb dX12_aLike_51 rfl (lv_at hl 1 rfl) ?_
      refine xget (i := 0) (j := 0) (k := 0) (T := TX12) hx hb ht tb_iX12 hown hX hP.1 rfl rfl rfl (by decide) tb_1229 rfl dX12_aLike_52 ?_
      refine lv_iload_n hx hb dX12_aLike_55 rfl (lv_at hl 0 rfl) ?_
      obtain ⟨y_37, e_y_37, h⟩ := bi h
      refine xiald (i0 := 0) (j0 := 1) hx hb hX hP.1 rfl rfl e_y_37 dX12_aLike_56 ?_
      refine lv_icmp_ne (tgt := 66) hx hb dX12_aLike_57 (by decide) (fun c_38 => ?_) (fun c_38 => ?_)
      · have h := ie c_38 h
        exact j66 z_31.2.1 z_31.2.2.1 z_31.2.2.2.1 z_31.2.2.2.2.1 z_31.2.2.2.2.2.1 z_31.2.2.2.2.2.2.1 z_31.2.2.2.2.2.2.2 2432 _ _ hP hS ls (lv_sub hl [1, 0] rfl) h
      · have h := it c_38 h
        refine lv_aload_n hx hb dX12_aLike_60 rfl (lv_at hl 1 rfl) ?_
        refine lv_iconst (v := 5) hx hb dX12_aLike_61 (by decide) ?_
        obtain ⟨z_39, e_z_39, h⟩ := bi h
        refine efVi (rest := []) ⟨hx, hb, hml, hown, ht⟩ (c_X12_fails l D cy fu A_m z_31.2.1 m_names m_status m_top m_bottom m_sort m_trayMany m_trays m_tape m_text m_taped m_size z_31.2.2.1 z_31.2.2.2.1 z_31.2.2.2.2.1 z_31.2.2.2.2.2.1 m_faultKind z_31.2.2.2.2.2.2.1 z_31.2.2.2.2.2.2.2 m_seen m_toldParts m_opened m_depth m_counted m_bestOrder m_standers m_has m_bestHas m_standerMany m_bestCouples m_bestFondness m_cameTo m_doesStandFirst m_stoodBy m_drawn m_ranSteps m_loops m_ran m_told1 m_isTold m_marks 5 z_39 e_z_39 _ rfl _ rfl) (cV ht mv_X12_fails tb_1447 rfl rfl ⟨Nat.le_of_ble_eq_true rfl, Nat.le_of_ble_eq_true rfl⟩) hP hS hX [0] rfl rfl rfl rfl rfl rfl hl.1 rfl (Nat.le_of_ble_eq_true rfl) dX12_aLike_62 ⟨Nat.le_of_ble_eq_true rfl, Nat.le_of_ble_eq_true rfl⟩ (fun H locs hP hS => ?_)
        have hP : PD D A [bl_X12 cy A_m z_31.2.1 m_names m_status m_top m_bottom m_sort m_trayMany m_trays m_tape m_text m_taped m_size z_31.2.2.1 z_31.2.2.2.1 z_31.2.2.2.2.1 z_31.2.2.2.2.2.1 m_faultKind z_39.2.1 z_39.2.2 m_seen m_toldParts m_opened m_depth m_counted m_bestOrder m_standers m_has m_bestHas m_standerMany m_bestCouples m_bestFondness m_cameTo m_doesStandFirst m_stoodBy m_drawn m_ranSteps m_loops m_ran m_told1 m_isTold m_marks] H := hP
        obtain ⟨b_40, e_b_40, h⟩ := bi h
        obtain ⟨-, n_b_40, -⟩ := bz_ok e_b_40
        cases h
        subst hW1
        exact W.zret hx hb hr n_b_40 (fun _ ht9 _ => ⟨⟨_, (), rfl, rfl, hPt ht9 hP.1⟩, hS.F ht9⟩) hS.2.2 dX12_aLike_65
  · have h := it c_32 h
    refine lv_iconst (v := 0) hx hb dX12_aLike_26 (by decide) ?_
    cases h
    subst hW1
    exact W.zret hx hb hr rfl (fun _ ht9 _ => ⟨⟨_, (), rfl, rfl, hPt ht9 hP.1⟩, hS.F ht9⟩) hS.2.2 dX12_aLike_27
theorem dX12_armyPart_0 : decode cX12_armyPart 0 = .ok (.aload_n 0, 1) := by decide +kernel
theorem dX12_armyPart_1 : decode cX12_armyPart 1 = .ok (.ldc 177, 2) := by decide +kernel
theorem dX12_armyPart_3 : decode cX12_armyPart 3 = .ok (.invokevirtual 169, 3) := by decide +kernel
theorem dX12_armyPart_6 : decode cX12_armyPart 6 = .ok (.istore_n 1, 1) := by decide +kernel
theorem dX12_armyPart_7 : decode cX12_armyPart 7 = .ok (.iload_n 1, 1) := by decide +kernel
theorem dX12_armyPart_8 : decode cX12_armyPart 8 = .ok (.ifCond .lt 8, 3) := by decide +kernel
theorem dX12_armyPart_11 : decode cX12_armyPart 11 = .ok (.iload_n 1, 1) := by decide +kernel
theorem dX12_armyPart_12 : decode cX12_armyPart 12 = .ok (.iconst 3, 1) := by decide +kernel
theorem dX12_armyPart_13 : decode cX12_armyPart 13 = .ok (.if_icmp .le 9, 3) := by decide +kernel
theorem dX12_armyPart_16 : decode cX12_armyPart 16 = .ok (.aload_n 0, 1) := by decide +kernel
theorem dX12_armyPart_17 : decode cX12_armyPart 17 = .ok (.iconst 2, 1) := by decide +kernel
theorem dX12_armyPart_18 : decode cX12_armyPart 18 = .ok (.invokevirtual 166, 3) := by decide +kernel
theorem dX12_armyPart_21 : decode cX12_armyPart 21 = .ok (.ireturn, 1) := by decide +kernel
theorem dX12_armyPart_22 : decode cX12_armyPart 22 = .ok (.iload_n 1, 1) := by decide +kernel
theorem dX12_armyPart_23 : decode cX12_armyPart 23 = .ok (.iconst 1, 1) := by decide +kernel
theorem dX12_armyPart_24 : decode cX12_armyPart 24 = .ok (.if_icmp .gt 21, 3) := by decide +kernel
theorem dX12_armyPart_27 : decode cX12_armyPart 27 = .ok (.aload_n 0, 1) := by decide +kernel
theorem dX12_armyPart_28 : decode cX12_armyPart 28 = .ok (.getfield 200, 3) := by decide +kernel
theorem dX12_armyPart_31 : decode cX12_armyPart 31 = .ok (.iload_n 1, 1) := by decide +kernel
theorem dX12_armyPart_32 : decode cX12_armyPart 32 = .ok (.ishr, 1) := by decide +kernel
theorem dX12_armyPart_33 : decode cX12_armyPart 33 = .ok (.iconst 1, 1) := by decide +kernel
theorem dX12_armyPart_34 : decode cX12_armyPart 34 = .ok (.iand, 1) := by decide +kernel
theorem dX12_armyPart_35 : decode cX12_armyPart 35 = .ok (.iconst 1, 1) := by decide +kernel
theorem dX12_armyPart_36 : decode cX12_armyPart 36 = .ok (.if_icmp .ne 9, 3) := by decide +kernel
theorem dX12_armyPart_39 : decode cX12_armyPart 39 = .ok (.aload_n 0, 1) := by decide +kernel
theorem dX12_armyPart_40 : decode cX12_armyPart 40 = .ok (.iconst 5, 1) := by decide +kernel
theorem dX12_armyPart_41 : decode cX12_armyPart 41 = .ok (.invokevirtual 166, 3) := by decide +kernel
theorem dX12_armyPart_44 : decode cX12_armyPart 44 = .ok (.ireturn, 1) := by decide +kernel
theorem dX12_armyPart_45 : decode cX12_armyPart 45 = .ok (.aload_n 0, 1) := by decide +kernel
theorem dX12_armyPart_46 : decode cX12_armyPart 46 = .ok (.dup, 1) := by decide +kernel
theorem dX12_armyPart_47 : decode cX12_armyPart 47 = .ok (.getfield 200, 3) := by decide +kernel
theorem dX12_armyPart_50 : decode cX12_armyPart 50 = .ok (.iconst 1, 1) := by decide +kernel
theorem dX12_armyPart_51 : decode cX12_armyPart 51 = .ok (.iload_n 1, 1) := by decide +kernel
theorem dX12_armyPart_52 : decode cX12_armyPart 52 = .ok (.ishl, 1) := by decide +kernel
theorem dX12_armyPart_53 : decode cX12_armyPart 53 = .ok (.ior, 1) := by decide +kernel
theorem dX12_armyPart_54 : decode cX12_armyPart 54 = .ok (.putfield 200, 3) := by decide +kernel
theorem dX12_armyPart_57 : decode cX12_armyPart 57 = .ok (.iload_n 1, 1) := by decide +kernel
theorem dX12_armyPart_58 : decode cX12_armyPart 58 = .ok (.iconst 1, 1) := by decide +kernel
theorem dX12_armyPart_59 : decode cX12_armyPart 59 = .ok (.if_icmp .gt 7, 3) := by decide +kernel
theorem dX12_armyPart_62 : decode cX12_armyPart 62 = .ok (.aload_n 0, 1) := by decide +kernel
theorem dX12_armyPart_63 : decode cX12_armyPart 63 = .ok (.invokevirtual 160, 3) := by decide +kernel
theorem dX12_armyPart_66 : decode cX12_armyPart 66 = .ok (.iload_n 1, 1) := by decide +kernel
theorem dX12_armyPart_67 : decode cX12_armyPart 67 = .ok (.tableswitch 61 0 2 #[25, 39, 53], 25) := by decide +kernel
theorem dX12_armyPart_92 : decode cX12_armyPart 92 = .ok (.aload_n 0, 1) := by decide +kernel
theorem dX12_armyPart_93 : decode cX12_armyPart 93 = .ok (.sipush 1953, 3) := by decide +kernel
theorem dX12_armyPart_96 : decode cX12_armyPart 96 = .ok (.iconst 0, 1) := by decide +kernel
theorem dX12_armyPart_97 : decode cX12_armyPart 97 = .ok (.bipush 9, 2) := by decide +kernel
theorem dX12_armyPart_99 : decode cX12_armyPart 99 = .ok (.invokevirtual 190, 3) := by decide +kernel
theorem dX12_armyPart_102 : decode cX12_armyPart 102 = .ok (.istore_n 2, 1) := by decide +kernel
theorem dX12_armyPart_103 : decode cX12_armyPart 103 = .ok (.goto 30, 3) := by decide +kernel
theorem dX12_armyPart_106 : decode cX12_armyPart 106 = .ok (.aload_n 0, 1) := by decide +kernel
theorem dX12_armyPart_107 : decode cX12_armyPart 107 = .ok (.sipush 1954, 3) := by decide +kernel
theorem dX12_armyPart_110 : decode cX12_armyPart 110 = .ok (.iconst 1, 1) := by decide +kernel
theorem dX12_armyPart_111 : decode cX12_armyPart 111 = .ok (.bipush 99, 2) := by decide +kernel
theorem dX12_armyPart_113 : decode cX12_armyPart 113 = .ok (.invokevirtual 190, 3) := by decide +kernel
theorem dX12_armyPart_116 : decode cX12_armyPart 116 = .ok (.istore_n 2, 1) := by decide +kernel
theorem dX12_armyPart_117 : decode cX12_armyPart 117 = .ok (.goto 16, 3) := by decide +kernel
theorem dX12_armyPart_120 : decode cX12_armyPart 120 = .ok (.aload_n 0, 1) := by decide +kernel
theorem dX12_armyPart_121 : decode cX12_armyPart 121 = .ok (.invokevirtual 203, 3) := by decide +kernel
theorem dX12_armyPart_124 : decode cX12_armyPart 124 = .ok (.istore_n 2, 1) := by decide +kernel
theorem dX12_armyPart_125 : decode cX12_armyPart 125 = .ok (.goto 8, 3) := by decide +kernel
theorem dX12_armyPart_128 : decode cX12_armyPart 128 = .ok (.aload_n 0, 1) := by decide +kernel
theorem dX12_armyPart_129 : decode cX12_armyPart 129 = .ok (.invokevirtual 207, 3) := by decide +kernel
theorem dX12_armyPart_132 : decode cX12_armyPart 132 = .ok (.istore_n 2, 1) := by decide +kernel
theorem dX12_armyPart_133 : decode cX12_armyPart 133 = .ok (.iload_n 2, 1) := by decide +kernel
theorem dX12_armyPart_134 : decode cX12_armyPart 134 = .ok (.ifCond .eq 16, 3) := by decide +kernel
theorem dX12_armyPart_137 : decode cX12_armyPart 137 = .ok (.aload_n 0, 1) := by decide +kernel
theorem dX12_armyPart_138 : decode cX12_armyPart 138 = .ok (.bipush 59, 2) := by decide +kernel
theorem dX12_armyPart_140 : decode cX12_armyPart 140 = .ok (.invokevirtual 210, 3) := by decide +kernel
theorem dX12_armyPart_143 : decode cX12_armyPart 143 = .ok (.ifCond .eq 7, 3) := by decide +kernel
theorem dX12_armyPart_146 : decode cX12_armyPart 146 = .ok (.iconst 1, 1) := by decide +kernel
theorem dX12_armyPart_147 : decode cX12_armyPart 147 = .ok (.goto 4, 3) := by decide +kernel
theorem dX12_armyPart_150 : decode cX12_armyPart 150 = .ok (.iconst 0, 1) := by decide +kernel
theorem dX12_armyPart_151 : decode cX12_armyPart 151 = .ok (.ireturn, 1) := by decide +kernel
theorem mv_X12_armyPart : MV yX12_armyPart RX12 cX12_armyPart 3 (some .boolean) 0 := ⟨tb_1439, tb_1438, ts_47, tb_16, by decide +kernel, by decide +kernel, by decide +kernel⟩
def f_X12_armyPart_j133 (fu : Nat) (m_text : Nat → Int32) (m_size : Int32) (m_at : Nat → Int32) (m_names : Nat → Int64) (m_token : Int32) (m_from : Int32) (m_end : Int32) (m_value : Int32) (m_faultPlace : Int32) (m_faults : Int32) (m_toldParts : Int32) (x2 : Int32) : Option (Int32 × (Nat → Int32) × (Nat → Int64) × Int32 × Int32 × Int32 × Int32 × Int32 × Int32 × Int32) := (if x2 = 0 then some (0, m_at, m_names, m_token, m_from, m_end, m_value, m_faultPlace, m_faults, m_toldParts) else (f_X12_wantSign fu m_text m_size m_token m_from m_end m_value m_faultPlace m_faults 59).bind fun z_26 => (if z_26.1 = 0 then some (0, m_at, m_names, z_26.2.1, z_26.2.2.1, z_26.2.2.2.1, z_26.2.2.2.2.1, z_26.2.2.2.2.2.1, z_26.2.2.2.2.2.2, m_toldParts) else some (1, m_at, m_names, z_26.2.1, z_26.2.2.1, z_26.2.2.2.1, z_26.2.2.2.2.1, z_26.2.2.2.2.2.1, z_26.2.2.2.2.2.2, m_toldParts)))
def f_X12_armyPart_j66 (fu : Nat) (m_text : Nat → Int32) (m_size : Int32) (m_at : Nat → Int32) (m_names : Nat → Int64) (m_token : Int32) (m_from : Int32) (m_end : Int32) (m_value : Int32) (m_faultPlace : Int32) (m_faults : Int32) (m_toldParts : Int32) (x1 : Int32) : Option (Int32 × (Nat → Int32) × (Nat → Int64) × Int32 × Int32 × Int32 × Int32 × Int32 × Int32 × Int32) := (if x1 = 0 then (f_X12_number fu m_at m_text m_size m_token m_from m_end m_value m_faultPlace m_faults 1953 0 9).bind fun z_29 => f_X12_armyPart_j133 fu m_text m_size z_29.2.1 m_names z_29.2.2.1 z_29.2.2.2.1 z_29.2.2.2.2.1 z_29.2.2.2.2.2.1 z_29.2.2.2.2.2.2.1 z_29.2.2.2.2.2.2.2 m_toldParts z_29.1 else (if x1 = 1 then (f_X12_number fu m_at m_text m_size m_token m_from m_end m_value m_faultPlace m_faults 1954 1 99).bind fun z_31 => f_X12_armyPart_j133 fu m_text m_size z_31.2.1 m_names z_31.2.2.1 z_31.2.2.2.1 z_31.2.2.2.2.1 z_31.2.2.2.2.2.1 z_31.2.2.2.2.2.2.1 z_31.2.2.2.2.2.2.2 m_toldParts z_31.1 else (if x1 = 2 then (f_X12_aMan fu m_at m_names m_text m_size m_token m_from m_end m_value m_faultPlace m_faults).bind fun z_33 => f_X12_armyPart_j133 fu m_text m_size z_33.2.1 z_33.2.2.1 z_33.2.2.2.1 z_33.2.2.2.2.1 z_33.2.2.2.2.2.1 z_33.2.2.2.2.2.2.1 z_33.2.2.2.2.2.2.2.1 z_33.2.2.2.2.2.2.2.2 m_toldParts z_33.1 else (f_X12_aLike fu m_at m_names m_text m_size m_token m_from m_end m_value m_faultPlace m_faults).bind fun z_34 => f_X12_armyPart_j133 fu m_text m_size z_34.2.1 m_names z_34.2.2.1 z_34.2.2.2.1 z_34.2.2.2.2.1 z_34.2.2.2.2.2.1 z_34.2.2.2.2.2.2.1 z_34.2.2.2.2.2.2.2 m_toldParts z_34.1)))
def f_X12_armyPart_j45 (fu : Nat) (m_text : Nat → Int32) (m_size : Int32) (m_at : Nat → Int32) (m_names : Nat → Int64) (m_token : Int32) (m_from : Int32) (m_end : Int32) (m_value : Int32) (m_faultPlace : Int32) (m_faults : Int32) (m_toldParts : Int32) (x1 : Int32) : Option (Int32 × (Nat → Int32) × (Nat → Int64) × Int32 × Int32 × Int32 × Int32 × Int32 × Int32 × Int32) := bnd (m_toldParts ||| ((1 : Int32) <<< (x1 &&& 31))) fun m_toldParts_35 => (if 1 < x1 then f_X12_armyPart_j66 fu m_text m_size m_at m_names m_token m_from m_end m_value m_faultPlace m_faults m_toldParts_35 x1 else (f_X12_ahead fu m_text m_size m_token m_from m_end m_value).bind fun z_37 => f_X12_armyPart_j66 fu m_text m_size m_at m_names z_37.1 z_37.2.1 z_37.2.2.1 z_37.2.2.2 m_faultPlace m_faults m_toldParts_35 x1)
def f_X12_armyPart (fu : Nat) (m_at : Nat → Int32) (m_names : Nat → Int64) (m_text : Nat → Int32) (m_size : Int32) (m_token : Int32) (m_from : Int32) (m_end : Int32) (m_value : Int32) (m_faultPlace : Int32) (m_faults : Int32) (m_toldParts : Int32) : Option (Int32 × (Nat → Int32) × (Nat → Int64) × Int32 × Int32 × Int32 × Int32 × Int32 × Int32 × Int32) := (f_X12_inWords fu 1 m_text m_size m_token m_from m_end).bind fun z_38 => (if z_38 < 0 then (f_X12_fails fu m_token m_from m_faultPlace m_faults 2).bind fun z_40 => (bz z_40.1).bind fun _ => some (z_40.1, m_at, m_names, m_token, m_from, m_end, m_value, z_40.2.1, z_40.2.2, m_toldParts) else (if z_38 ≤ 3 then (if 1 < z_38 then f_X12_armyPart_j45 fu m_text m_size m_at m_names m_token m_from m_end m_value m_faultPlace m_faults m_toldParts z_38 else (if ((m_toldParts >>> (z_38 &&& 31)) &&& 1) = 1 then (f_X12_fails fu m_token m_from m_faultPlace m_faults 5).bind fun z_45 => (bz z_45.1).bind fun _ => some (z_45.1, m_at, m_names, m_token, m_from, m_end, m_value, z_45.2.1, z_45.2.2, m_toldParts) else f_X12_armyPart_j45 fu m_text m_size m_at m_names m_token m_from m_end m_value m_faultPlace m_faults m_toldParts z_38)) else (f_X12_fails fu m_token m_from m_faultPlace m_faults 2).bind fun z_47 => (bz z_47.1).bind fun _ => some (z_47.1, m_at, m_names, m_token, m_from, m_end, m_value, z_47.2.1, z_47.2.2, m_toldParts)))
abbrev rm_X12_armyPart : Room := { frames := 8, cells := 0, slots := 0, locals := 176 }
set_option maxHeartbeats 4000000 in
set_option maxRecDepth 100000 in
theorem c_X12_armyPart (l : Launch) (D : va_G) (cy : Nat → ClassId) (fu : Nat) (tO : Nat) (aK aV : Nat → Nat) (A_m : Nat → Nat) (m_at : Nat → Int32) (m_names : Nat → Int64) (m_status : Int32) (m_top : Int64) (m_bottom : Int64) (m_sort : Nat → Int32) (m_trayMany : Nat → Int32) (m_trays : Nat → Int64) (m_tape : Nat → Int32) (m_text : Nat → Int32) (m_taped : Int32) (m_size : Int32) (m_token : Int32) (m_from : Int32) (m_end : Int32) (m_value : Int32) (m_faultKind : Int32) (m_faultPlace : Int32) (m_faults : Int32) (m_seen : Int32) (m_toldParts : Int32) (m_opened : Nat → Int32) (m_depth : Int32) (m_counted : Int32) (m_bestOrder : Int32) (m_standers : Nat → Int32) (m_has : Nat → Int32) (m_bestHas : Nat → Int32) (m_standerMany : Int32) (m_bestCouples : Int32) (m_bestFondness : Int32) (m_cameTo : Nat → Int32) (m_doesStandFirst : Int32) (m_stoodBy : Nat → Int64) (m_drawn : Int32) (m_ranSteps : Int32) (m_loops : Nat → Int32) (m_ran : Nat → Int32) (m_told1 : Nat → Int32) (m_isTold : Int32) (m_marks : Int32) (res : Int32 × (Nat → Int32) × (Nat → Int64) × Int32 × Int32 × Int32 × Int32 × Int32 × Int32 × Int32) (h : f_X12_armyPart fu m_at m_names m_text m_size m_token m_from m_end m_value m_faultPlace m_faults m_toldParts = some res) (A : Nat → Prop) (hA : A = adr [bl_X12 cy A_m m_at m_names m_status m_top m_bottom m_sort m_trayMany m_trays m_tape m_text m_taped m_size m_token m_from m_end m_value m_faultKind m_faultPlace m_faults m_seen m_toldParts m_opened m_depth m_counted m_bestOrder m_standers m_has m_bestHas m_standerMany m_bestCouples m_bestFondness m_cameTo m_doesStandFirst m_stoodBy m_drawn m_ranSteps m_loops m_ran m_told1 m_isTold m_marks]) (W1 : List va_W) (hW1 : W1 = [bl_X12 cy A_m res.2.1 res.2.2.1 m_status m_top m_bottom m_sort m_trayMany m_trays m_tape m_text m_taped m_size res.2.2.2.1 res.2.2.2.2.1 res.2.2.2.2.2.1 res.2.2.2.2.2.2.1 m_faultKind res.2.2.2.2.2.2.2.1 res.2.2.2.2.2.2.2.2.1 m_seen res.2.2.2.2.2.2.2.2.2 m_opened m_depth m_counted m_bestOrder m_standers m_has m_bestHas m_standerMany m_bestCouples m_bestFondness m_cameTo m_doesStandFirst m_stoodBy m_drawn m_ranSteps m_loops m_ran m_told1 m_isTold m_marks]) : Met l yX12_armyPart (WW yX12_armyPart cX12_armyPart 3 (some .boolean)) rm_X12_armyPart (EdX D cy tO aK aV A [.ref (A_m 0)] [bl_X12 cy A_m m_at m_names m_status m_top m_bottom m_sort m_trayMany m_trays m_tape m_text m_taped m_size m_token m_from m_end m_value m_faultKind m_faultPlace m_faults m_seen m_toldParts m_opened m_depth m_counted m_bestOrder m_standers m_has m_bestHas m_standerMany m_bestCouples m_bestFondness m_cameTo m_doesStandFirst m_stoodBy m_drawn m_ranSteps m_loops m_ran m_told1 m_isTold m_marks]) (Qei D res.1 A W1) 0 0 A := by
  refine Met.ofW (cc := cX12_armyPart) (maxL := 3) (ret := (some .boolean)) (by decide) rfl ?_
  intro p e s m args below meth c s₁ B hml hv
  obtain ⟨hargs, hP, hX, hD0, hE⟩ := hv
  have hx := B.exec
  have hb := B.bytes
  have hr := B.returns
  have ht : ∀ w ∈ lw_gd, w.before args s = true := fun w hw => atoms_spec (ws := WW yX12_armyPart cX12_armyPart 3 (some .boolean)) B.pre w (List.mem_cons_of_mem _ hw)
  have hown : s.vm.findClass RX12 = some m.cls := findClass_of_methodNamed B.named
  have hlocks := B.notSynchronized
  have hP : PD D A [bl_X12 cy A_m m_at m_names m_status m_top m_bottom m_sort m_trayMany m_trays m_tape m_text m_taped m_size m_token m_from m_end m_value m_faultKind m_faultPlace m_faults m_seen m_toldParts m_opened m_depth m_counted m_bestOrder m_standers m_has m_bestHas m_standerMany m_bestCouples m_bestFondness m_cameTo m_doesStandFirst m_stoodBy m_drawn m_ranSteps m_loops m_ran m_told1 m_isTold m_marks] s.heap := ⟨hP, by rw [hA]; exact hD0.own⟩
  have hS : va_S A s.heap s.heap [] := va_S.rf
  obtain ⟨ls, hl, hent⟩ := ent (m := m) (n := 3) hargs (Nat.le_of_ble_eq_true rfl) (lv := [(0, .ref (A_m 0))]) rfl
  rw [hent]
  clear hent
  have j133 : ∀ (m_at : Nat → Int32) (m_names : Nat → Int64) (m_token : Int32) (m_from : Int32) (m_end : Int32) (m_value : Int32) (m_faultPlace : Int32) (m_faults : Int32) (m_toldParts : Int32) (x2 : Int32) (H : Heap) (locs : List Loc) (_ : PD D A [bl_X12 cy A_m m_at m_names m_status m_top m_bottom m_sort m_trayMany m_trays m_tape m_text m_taped m_size m_token m_from m_end m_value m_faultKind m_faultPlace m_faults m_seen m_toldParts m_opened m_depth m_counted m_bestOrder m_standers m_has m_bestHas m_standerMany m_bestCouples m_bestFondness m_cameTo m_doesStandFirst m_stoodBy m_drawn m_ranSteps m_loops m_ran m_told1 m_isTold m_marks] H) (_ : va_S A s.heap H locs) (ls : Array Slot), lv_has ls 3 [(0, .ref (A_m 0)), (2, .int x2)] → f_X12_armyPart_j133 fu m_text m_size m_at m_names m_token m_from m_end m_value m_faultPlace m_faults m_toldParts x2 = some res → W p l e (headSpec (WW yX12_armyPart cX12_armyPart 3 (some .boolean)) rm_X12_armyPart).room s m args below meth c H locs 0 0 (MQ below (Qei D res.1 A W1) args s 0 0 A) (F0 m 133 ls []) := by
    intro m_at m_names m_token m_from m_end m_value m_faultPlace m_faults m_toldParts x2 H locs hP hS ls hl h
    unfold f_X12_armyPart_j133 at h
    refine lv_iload_n hx hb dX12_armyPart_133 rfl (lv_at hl 1 rfl) ?_
    refine lv_if_eq (tgt := 150) hx hb dX12_armyPart_134 (by decide) (fun c_25 => ?_) (fun c_25 => ?_)
    · have h := it c_25 h
      refine lv_iconst (v := 0) hx hb dX12_armyPart_150 (by decide) ?_
      cases h
      subst hW1
      exact W.zret hx hb hr rfl (fun _ ht9 _ => ⟨⟨_, (), rfl, rfl, hPt ht9 hP.1⟩, hS.F ht9⟩) hS.2.2 dX12_armyPart_151
    · have h := ie c_25 h
      refine lv_aload_n hx hb dX12_armyPart_137 rfl (lv_at hl 0 rfl) ?_
      refine lv_bipush (v := 59) hx hb dX12_armyPart_138 (by decide) ?_
      obtain ⟨z_26, e_z_26, h⟩ := bi h
      refine efVi (rest := []) ⟨hx, hb, hml, hown, ht⟩ (c_X12_wantSign l D cy fu A_m m_at m_names m_status m_top m_bottom m_sort m_trayMany m_trays m_tape m_text m_taped m_size m_token m_from m_end m_value m_faultKind m_faultPlace m_faults m_seen m_toldParts m_opened m_depth m_counted m_bestOrder m_standers m_has m_bestHas m_standerMany m_bestCouples m_bestFondness m_cameTo m_doesStandFirst m_stoodBy m_drawn m_ranSteps m_loops m_ran m_told1 m_isTold m_marks 59 z_26 e_z_26 _ rfl _ rfl) (cV ht mv_X12_wantSign tb_1487 rfl rfl ⟨Nat.le_of_ble_eq_true rfl, Nat.le_of_ble_eq_true rfl⟩) hP hS hX [0] rfl rfl rfl rfl rfl rfl hl.1 rfl (Nat.le_of_ble_eq_true rfl) dX12_armyPart_140 ⟨Nat.le_of_ble_eq_true rfl, Nat.le_of_ble_eq_true rfl⟩ (fun H locs hP hS => ?_)
      have hP : PD D A [bl_X12 cy A_m m_at m_names m_status m_top m_bottom m_sort m_trayMany m_trays m_tape m_text m_taped m_size z_26.2.1 z_26.2.2.1 z_26.2.2.2.1 z_26.2.2.2.2.1 m_faultKind z_26.2.2.2.2.2.1 z_26.2.2.2.2.2.2 m_seen m_toldParts m_opened m_depth m_counted m_bestOrder m_standers m_has m_bestHas m_standerMany m_bestCouples m_bestFondness m_cameTo m_doesStandFirst m_stoodBy m_drawn m_ranSteps m_loops m_ran m_told1 m_isTold m_marks] H := hP
      refine lv_if_eq (tgt := 150) hx hb dX12_armyPart_143 (by decide) (fun c_27 => ?_) (fun c_27 => ?_)
      · have h := it c_27 h
        refine lv_iconst (v := 0) hx hb dX12_armyPart_150 (by decide) ?_
        cases h
        subst hW1
        exact W.zret hx hb hr rfl (fun _ ht9 _ => ⟨⟨_, (), rfl, rfl, hPt ht9 hP.1⟩, hS.F ht9⟩) hS.2.2 dX12_armyPart_151
      · have h := ie c_27 h
        refine lv_iconst (v := 1) hx hb dX12_armyPart_146 (by decide) ?_
        refine lv_goto (tgt := 151) hx hb dX12_armyPart_147 (by decide) ?_
        cases h
        subst hW1
        exact W.zret hx hb hr rfl (fun _ ht9 _ => ⟨⟨_, (), rfl, rfl, hPt ht9 hP.1⟩, hS.F ht9⟩) hS.2.2 dX12_armyPart_151
  have j66 : ∀ (m_at : Nat → Int32) (m_names : Nat → Int64) (m_token : Int32) (m_from : Int32) (m_end : Int32) (m_value : Int32) (m_faultPlace : Int32) (m_faults : Int32) (m_toldParts : Int32) (x1 : Int32) (H : Heap) (locs : List Loc) (_ : PD D A [bl_X12 cy A_m m_at m_names m_status m_top m_bottom m_sort m_trayMany m_trays m_tape m_text m_taped m_size m_token m_from m_end m_value m_faultKind m_faultPlace m_faults m_seen m_toldParts m_opened m_depth m_counted m_bestOrder m_standers m_has m_bestHas m_standerMany m_bestCouples m_bestFondness m_cameTo m_doesStandFirst m_stoodBy m_drawn m_ranSteps m_loops m_ran m_told1 m_isTold m_marks] H) (_ : va_S A s.heap H locs) (ls : Array Slot), lv_has ls 3 [(0, .ref (A_m 0)), (1, .int x1)] → f_X12_armyPart_j66 fu m_text m_size m_at m_names m_token m_from m_end m_value m_faultPlace m_faults m_toldParts x1 = some res → W p l e (headSpec (WW yX12_armyPart cX12_armyPart 3 (some .boolean)) rm_X12_armyPart).room s m args below meth c H locs 0 0 (MQ below (Qei D res.1 A W1) args s 0 0 A) (F0 m 66 ls []) := by
    intro m_at m_names m_token m_from m_end m_value m_faultPlace m_faults m_toldParts x1 H locs hP hS ls hl h
    unfold f_X12_armyPart_j66 at h
    refine lv_iload_n hx hb dX12_armyPart_66 rfl (lv_at hl 1 rfl) ?_
    by_cases c_28 : x1 = 0
    · have h := it c_28 h
      refine lv_tableIn (tgt := 92) hx hb dX12_armyPart_67 (by rw [c_28]; decide) (by rw [c_28]; decide) (by rw [c_28]; rfl) (by decide) ?_
      refine lv_aload_n hx hb dX12_armyPart_92 rfl (lv_at hl 0 rfl) ?_
      refine lv_sipush (v := 1953) hx hb dX12_armyPart_93 (by decide) ?_
      refine lv_iconst (v := 0) hx hb dX12_armyPart_96 (by decide) ?_
      refine lv_bipush (v := 9) hx hb dX12_armyPart_97 (by decide) ?_
      obtain ⟨z_29, e_z_29, h⟩ := bi h
      refine efVi (rest := []) ⟨hx, hb, hml, hown, ht⟩ (c_X12_number l D cy fu A_m m_at m_names m_status m_top m_bottom m_sort m_trayMany m_trays m_tape m_text m_taped m_size m_token m_from m_end m_value m_faultKind m_faultPlace m_faults m_seen m_toldParts m_opened m_depth m_counted m_bestOrder m_standers m_has m_bestHas m_standerMany m_bestCouples m_bestFondness m_cameTo m_doesStandFirst m_stoodBy m_drawn m_ranSteps m_loops m_ran m_told1 m_isTold m_marks 1953 0 9 z_29 e_z_29 _ rfl _ rfl) (cV ht mv_X12_number tb_1451 rfl rfl ⟨Nat.le_of_ble_eq_true rfl, Nat.le_of_ble_eq_true rfl⟩) hP hS hX [0] rfl rfl rfl rfl rfl rfl hl.1 rfl (Nat.le_of_ble_eq_true rfl) dX12_armyPart_99 ⟨Nat.le_of_ble_eq_true rfl, Nat.le_of_ble_eq_true rfl⟩ (fun H locs hP hS => ?_)
      have hP : PD D A [bl_X12 cy A_m z_29.2.1 m_names m_status m_top m_bottom m_sort m_trayMany m_trays m_tape m_text m_taped m_size z_29.2.2.1 z_29.2.2.2.1 z_29.2.2.2.2.1 z_29.2.2.2.2.2.1 m_faultKind z_29.2.2.2.2.2.2.1 z_29.2.2.2.2.2.2.2 m_seen m_toldParts m_opened m_depth m_counted m_bestOrder m_standers m_has m_bestHas m_standerMany m_bestCouples m_bestFondness m_cameTo m_doesStandFirst m_stoodBy m_drawn m_ranSteps m_loops m_ran m_told1 m_isTold m_marks] H := hP
      refine lv_istore_n (lv' := [(2, .int z_29.1), (0, .ref (A_m 0)), (1, .int x1)]) hx hb dX12_armyPart_102 rfl hl (by decide) rfl (fun ls hl => ?_)
      refine lv_goto (tgt := 133) hx hb dX12_armyPart_103 (by decide) ?_
      exact j133 z_29.2.1 m_names z_29.2.2.1 z_29.2.2.2.1 z_29.2.2.2.2.1 z_29.2.2.2.2.2.1 z_29.2.2.2.2.2.2.1 z_29.2.2.2.2.2.2.2 m_toldParts z_29.1 _ _ hP hS ls (lv_sub hl [1, 0] rfl) h
    have h := ie c_28 h
    by_cases c_30 : x1 = 1
    · have h := it c_30 h
      refine lv_tableIn (tgt := 106) hx hb dX12_armyPart_67 (by rw [c_30]; decide) (by rw [c_30]; decide) (by rw [c_30]; rfl) (by decide) ?_
      refine lv_aload_n hx hb dX12_armyPart_106 rfl (lv_at hl 0 rfl) ?_
      refine lv_sipush (v := 1954) hx hb dX12_armyPart_107 (by decide) ?_
      refine lv_iconst (v := 1) hx hb dX12_armyPart_110 (by decide) ?_
      refine lv_bipush (v := 99) hx hb dX12_armyPart_111 (by decide) ?_
      obtain ⟨z_31, e_z_31, h⟩ := bi h
      refine efVi (rest := []) ⟨hx, hb, hml, hown, ht⟩ (c_X12_number l D cy fu A_m m_at m_names m_status m_top m_bottom m_sort m_trayMany m_trays m_tape m_text m_taped m_size m_token m_from m_end m_value m_faultKind m_faultPlace m_faults m_seen m_toldParts m_opened m_depth m_counted m_bestOrder m_standers m_has m_bestHas m_standerMany m_bestCouples m_bestFondness m_cameTo m_doesStandFirst m_stoodBy m_drawn m_ranSteps m_loops m_ran m_told1 m_isTold m_marks 1954 1 99 z_31 e_z_31 _ rfl _ rfl) (cV ht mv_X12_number tb_1451 rfl rfl ⟨Nat.le_of_ble_eq_true rfl, Nat.le_of_ble_eq_true rfl⟩) hP hS hX [0] rfl rfl rfl rfl rfl rfl hl.1 rfl (Nat.le_of_ble_eq_true rfl) dX12_armyPart_113 ⟨Nat.le_of_ble_eq_true rfl, Nat.le_of_ble_eq_true rfl⟩ (fun H locs hP hS => ?_)
      have hP : PD D A [bl_X12 cy A_m z_31.2.1 m_names m_status m_top m_bottom m_sort m_trayMany m_trays m_tape m_text m_taped m_size z_31.2.2.1 z_31.2.2.2.1 z_31.2.2.2.2.1 z_31.2.2.2.2.2.1 m_faultKind z_31.2.2.2.2.2.2.1 z_31.2.2.2.2.2.2.2 m_seen m_toldParts m_opened m_depth m_counted m_bestOrder m_standers m_has m_bestHas m_standerMany m_bestCouples m_bestFondness m_cameTo m_doesStandFirst m_stoodBy m_drawn m_ranSteps m_loops m_ran m_told1 m_isTold m_marks] H := hP
      refine lv_istore_n (lv' := [(2, .int z_31.1), (0, .ref (A_m 0)), (1, .int x1)]) hx hb dX12_armyPart_116 rfl hl (by decide) rfl (fun ls hl => ?_)
      refine lv_goto (tgt := 133) hx hb dX12_armyPart_117 (by decide) ?_
      exact j133 z_31.2.1 m_names z_31.2.2.1 z_31.2.2.2.1 z_31.2.2.2.2.1 z_31.2.2.2.2.2.1 z_31.2.2.2.2.2.2.1 z_31.2.2.2.2.2.2.2 m_toldParts z_31.1 _ _ hP hS ls (lv_sub hl [1, 0] rfl) h
    have h := ie c_30 h
    by_cases c_32 : x1 = 2
    · have h := it c_32 h
      refine lv_tableIn (tgt := 120) hx hb dX12_armyPart_67 (by rw [c_32]; decide) (by rw [c_32]; decide) (by rw [c_32]; rfl) (by decide) ?_
      refine lv_aload_n hx hb dX12_armyPart_120 rfl (lv_at hl 0 rfl) ?_
      obtain ⟨z_33, e_z_33, h⟩ := bi h
      refine efViX (rest := []) ⟨hx, hb, hml, hown, ht⟩ (c_X12_aMan l D cy fu tO aK aV A_m m_at m_names m_status m_top m_bottom m_sort m_trayMany m_trays m_tape m_text m_taped m_size m_token m_from m_end m_value m_faultKind m_faultPlace m_faults m_seen m_toldParts m_opened m_depth m_counted m_bestOrder m_standers m_has m_bestHas m_standerMany m_bestCouples m_bestFondness m_cameTo m_doesStandFirst m_stoodBy m_drawn m_ranSteps m_loops m_ran m_told1 m_isTold m_marks z_33 e_z_33 _ rfl _ rfl) (cV ht mv_X12_aMan tb_1455 rfl rfl ⟨Nat.le_of_ble_eq_true rfl, Nat.le_of_ble_eq_true rfl⟩) hP hS hX hE [0] rfl rfl rfl rfl rfl rfl hl.1 rfl (Nat.le_of_ble_eq_true rfl) dX12_armyPart_121 ⟨Nat.le_of_ble_eq_true rfl, Nat.le_of_ble_eq_true rfl⟩ (fun H locs hP hS => ?_)
      have hP : PD D A [bl_X12 cy A_m z_33.2.1 z_33.2.2.1 m_status m_top m_bottom m_sort m_trayMany m_trays m_tape m_text m_taped m_size z_33.2.2.2.1 z_33.2.2.2.2.1 z_33.2.2.2.2.2.1 z_33.2.2.2.2.2.2.1 m_faultKind z_33.2.2.2.2.2.2.2.1 z_33.2.2.2.2.2.2.2.2 m_seen m_toldParts m_opened m_depth m_counted m_bestOrder m_standers m_has m_bestHas m_standerMany m_bestCouples m_bestFondness m_cameTo m_doesStandFirst m_stoodBy m_drawn m_ranSteps m_loops m_ran m_told1 m_isTold m_marks] H := hP
      refine lv_istore_n (lv' := [(2, .int z_33.1), (0, .ref (A_m 0)), (1, .int x1)]) hx hb dX12_armyPart_124 rfl hl (by decide) rfl (fun ls hl => ?_)
      refine lv_goto (tgt := 133) hx hb dX12_armyPart_125 (by decide) ?_
      exact j133 z_33.2.1 z_33.2.2.1 z_33.2.2.2.1 z_33.2.2.2.2.1 z_33.2.2.2.2.2.1 z_33.2.2.2.2.2.2.1 z_33.2.2.2.2.2.2.2.1 z_33.2.2.2.2.2.2.2.2 m_toldParts z_33.1 _ _ hP hS ls (lv_sub hl [1, 0] rfl) h
    have h := ie c_32 h
    refine lv_tableOut (tgt := 128) hx hb dX12_armyPart_67 (by have n_c_28 := lv_neT (a := 0) c_28 rfl; have n_c_30 := lv_neT (a := 1) c_30 rfl; have n_c_32 := lv_neT (a := 2) c_32 rfl; omega) (by decide) ?_
    refine lv_aload_n hx hb dX12_armyPart_128 rfl (lv_at hl 0 rfl) ?_
    obtain ⟨z_34, e_z_34, h⟩ := bi h
    refine efViX (rest := []) ⟨hx, hb, hml, hown, ht⟩ (c_X12_aLike l D cy fu tO aK aV A_m m_at m_names m_status m_top m_bottom m_sort m_trayMany m_trays m_tape m_text m_taped m_size m_token m_from m_end m_value m_faultKind m_faultPlace m_faults m_seen m_toldParts m_opened m_depth m_counted m_bestOrder m_standers m_has m_bestHas m_standerMany m_bestCouples m_bestFondness m_cameTo m_doesStandFirst m_stoodBy m_drawn m_ranSteps m_loops m_ran m_told1 m_isTold m_marks z_34 e_z_34 _ rfl _ rfl) (cV ht mv_X12_aLike tb_1479 rfl rfl ⟨Nat.le_of_ble_eq_true rfl, Nat.le_of_ble_eq_true rfl⟩) hP hS hX hE [0] rfl rfl rfl rfl rfl rfl hl.1 rfl (Nat.le_of_ble_eq_true rfl) dX12_armyPart_129 ⟨Nat.le_of_ble_eq_true rfl, Nat.le_of_ble_eq_true rfl⟩ (fun H locs hP hS => ?_)
    have hP : PD D A [bl_X12 cy A_m z_34.2.1 m_names m_status m_top m_bottom m_sort m_trayMany m_trays m_tape m_text m_taped m_size z_34.2.2.1 z_34.2.2.2.1 z_34.2.2.2.2.1 z_34.2.2.2.2.2.1 m_faultKind z_34.2.2.2.2.2.2.1 z_34.2.2.2.2.2.2.2 m_seen m_toldParts m_opened m_depth m_counted m_bestOrder m_standers m_has m_bestHas m_standerMany m_bestCouples m_bestFondness m_cameTo m_doesStandFirst m_stoodBy m_drawn m_ranSteps m_loops m_ran m_told1 m_isTold m_marks] H := hP
    refine lv_istore_n (lv' := [(2, .int z_34.1), (0, .ref (A_m 0)), (1, .int x1)]) hx hb dX12_armyPart_132 rfl hl (by decide) rfl (fun ls hl => ?_)
    exact j133 z_34.2.1 m_names z_34.2.2.1 z_34.2.2.2.1 z_34.2.2.2.2.1 z_34.2.2.2.2.2.1 z_34.2.2.2.2.2.2.1 z_34.2.2.2.2.2.2.2 m_toldParts z_34.1 _ _ hP hS ls (lv_sub hl [1, 0] rfl) h
  have j45 : ∀ (m_at : Nat → Int32) (m_names : Nat → Int64) (m_token : Int32) (m_from : Int32) (m_end : Int32) (m_value : Int32) (m_faultPlace : Int32) (m_faults : Int32) (m_toldParts : Int32) (x1 : Int32) (H : Heap) (locs : List Loc) (_ : PD D A [bl_X12 cy A_m m_at m_names m_status m_top m_bottom m_sort m_trayMany m_trays m_tape m_text m_taped m_size m_token m_from m_end m_value m_faultKind m_faultPlace m_faults m_seen m_toldParts m_opened m_depth m_counted m_bestOrder m_standers m_has m_bestHas m_standerMany m_bestCouples m_bestFondness m_cameTo m_doesStandFirst m_stoodBy m_drawn m_ranSteps m_loops m_ran m_told1 m_isTold m_marks] H) (_ : va_S A s.heap H locs) (ls : Array Slot), lv_has ls 3 [(0, .ref (A_m 0)), (1, .int x1)] → f_X12_armyPart_j45 fu m_text m_size m_at m_names m_token m_from m_end m_value m_faultPlace m_faults m_toldParts x1 = some res → W p l e (headSpec (WW yX12_armyPart cX12_armyPart 3 (some .boolean)) rm_X12_armyPart).room s m args below meth c H locs 0 0 (MQ below (Qei D res.1 A W1) args s 0 0 A) (F0 m 45 ls []) := by
    intro m_at m_names m_token m_from m_end m_value m_faultPlace m_faults m_toldParts x1 H locs hP hS ls hl h
    unfold f_X12_armyPart_j45 at h
    refine lv_aload_n hx hb dX12_armyPart_45 rfl (lv_at hl 0 rfl) ?_
    refine lv_dup hx hb dX12_armyPart_46 rfl ?_
    refine xget (i := 0) (j := 0) (k := 20) (T := TX12) hx hb ht tb_iX12 hown hX hP.1 rfl rfl rfl (by decide) tb_1249 rfl dX12_armyPart_47 ?_
    refine lv_iconst (v := 1) hx hb dX12_armyPart_50 (by decide) ?_
    refine lv_iload_n hx hb dX12_armyPart_51 rfl (lv_at hl 1 rfl) ?_
    refine lv_ishl hx hb dX12_armyPart_52 ?_
    refine lv_ior hx hb dX12_armyPart_53 ?_
    refine lv_topi (fun m_toldParts_35 e_m_toldParts_35 => ?_)
    have h := bn e_m_toldParts_35 h
    refine xput (i := 0) (j := 0) (k := 20) (T := TX12) tyX12 tyX12_ok nmX12 hx hb ht tb_iX12 hown hX hP hS rfl rfl rfl (by decide) tb_1249 rfl rfl rfl (Nat.le_of_ble_eq_true rfl) dX12_armyPart_54 (fun H locs hP hS => ?_)
    have hP : PD D A [bl_X12 cy A_m m_at m_names m_status m_top m_bottom m_sort m_trayMany m_trays m_tape m_text m_taped m_size m_token m_from m_end m_value m_faultKind m_faultPlace m_faults m_seen m_toldParts_35 m_opened m_depth m_counted m_bestOrder m_standers m_has m_bestHas m_standerMany m_bestCouples m_bestFondness m_cameTo m_doesStandFirst m_stoodBy m_drawn m_ranSteps m_loops m_ran m_told1 m_isTold m_marks] H := hP
    refine lv_iload_n hx hb dX12_armyPart_57 rfl (lv_at hl 1 rfl) ?_
    refine lv_iconst (v := 1) hx hb dX12_armyPart_58 (by decide) ?_
    refine lv_icmp_gt (tgt := 66) hx hb dX12_armyPart_59 (by decide) (fun c_36 => ?_) (fun c_36 => ?_)
    · have h := it c_36 h
      exact j66 m_at m_names m_token m_from m_end m_value m_faultPlace m_faults m_toldParts_35 x1 _ _ hP hS ls (lv_sub hl [0, 1] rfl) h
    · have h := ie c_36 h
      refine lv_aload_n hx hb dX12_armyPart_62 rfl (lv_at hl 0 rfl) ?_
      obtain ⟨z_37, e_z_37, h⟩ := bi h
      refine efVv (rest := []) ⟨hx, hb, hml, hown, ht⟩ (c_X12_ahead l D cy fu A_m m_at m_names m_status m_top m_bottom m_sort m_trayMany m_trays m_tape m_text m_taped m_size m_token m_from m_end m_value m_faultKind m_faultPlace m_faults m_seen m_toldParts_35 m_opened m_depth m_counted m_bestOrder m_standers m_has m_bestHas m_standerMany m_bestCouples m_bestFondness m_cameTo m_doesStandFirst m_stoodBy m_drawn m_ranSteps m_loops m_ran m_told1 m_isTold m_marks z_37 e_z_37 _ rfl _ rfl) (cV ht mv_X12_ahead tb_1416 rfl rfl ⟨Nat.le_of_ble_eq_true rfl, Nat.le_of_ble_eq_true rfl⟩) hP hS hX [0] rfl rfl rfl rfl rfl rfl hl.1 rfl (Nat.le_of_ble_eq_true rfl) dX12_armyPart_63 ⟨Nat.le_of_ble_eq_true rfl, Nat.le_of_ble_eq_true rfl⟩ (fun H locs hP hS => ?_)
      have hP : PD D A [bl_X12 cy A_m m_at m_names m_status m_top m_bottom m_sort m_trayMany m_trays m_tape m_text m_taped m_size z_37.1 z_37.2.1 z_37.2.2.1 z_37.2.2.2 m_faultKind m_faultPlace m_faults m_seen m_toldParts_35 m_opened m_depth m_counted m_bestOrder m_standers m_has m_bestHas m_standerMany m_bestCouples m_bestFondness m_cameTo m_doesStandFirst m_stoodBy m_drawn m_ranSteps m_loops m_ran m_told1 m_isTold m_marks] H := hP
      exact j66 m_at m_names z_37.1 z_37.2.1 z_37.2.2.1 z_37.2.2.2 m_faultPlace m_faults m_toldParts_35 x1 _ _ hP hS ls (lv_sub hl [0, 1] rfl) h
  unfold f_X12_armyPart at h
  refine lv_aload_n hx hb dX12_armyPart_0 rfl (lv_at hl 0 rfl) ?_
  refine va_ldcS hx hb hown hE.2.2.2.2.2.2.2 dX12_armyPart_1 ?_
  obtain ⟨z_38, e_z_38, h⟩ := bi h
  refine roViX (rest := []) ⟨hx, hb, hml, hown, ht⟩ (c_X12_inWords l D cy fu tO aK aV 1 (by decide) A_m m_at m_names m_status m_top m_bottom m_sort m_trayMany m_trays m_tape m_text m_taped m_size m_token m_from m_end m_value m_faultKind m_faultPlace m_faults m_seen m_toldParts m_opened m_depth m_counted m_bestOrder m_standers m_has m_bestHas m_standerMany m_bestCouples m_bestFondness m_cameTo m_doesStandFirst m_stoodBy m_drawn m_ranSteps m_loops m_ran m_told1 m_isTold m_marks z_38 e_z_38) (cV ht mv_X12_inWords tb_1441 rfl rfl ⟨Nat.le_of_ble_eq_true rfl, Nat.le_of_ble_eq_true rfl⟩) (P_sub hP.1 [0] rfl) hX hE hS rfl rfl rfl hl.1 rfl (Nat.le_of_ble_eq_true rfl) dX12_armyPart_3 ⟨Nat.le_of_ble_eq_true rfl, Nat.le_of_ble_eq_true rfl⟩ ?_
  refine lv_istore_n (lv' := [(1, .int z_38), (0, .ref (A_m 0))]) hx hb dX12_armyPart_6 rfl hl (by decide) rfl (fun ls hl => ?_)
  refine lv_iload_n hx hb dX12_armyPart_7 rfl (lv_at hl 0 rfl) ?_
  refine lv_if_lt (tgt := 16) hx hb dX12_armyPart_8 (by decide) (fun c_39 => ?_) (fun c_39 => ?_)
  · have h := it c_39 h
    refine lv_aload_n hx hb dX12_armyPart_16 rfl (lv_at hl 1 rfl) ?_
    refine lv_iconst (v := 2) hx hb dX12_armyPart_17 (by decide) ?_
    obtain ⟨z_40, e_z_40, h⟩ := bi h
    refine efVi (rest := []) ⟨hx, hb, hml, hown, ht⟩ (c_X12_fails l D cy fu A_m m_at m_names m_status m_top m_bottom m_sort m_trayMany m_trays m_tape m_text m_taped m_size m_token m_from m_end m_value m_faultKind m_faultPlace m_faults m_seen m_toldParts m_opened m_depth m_counted m_bestOrder m_standers m_has m_bestHas m_standerMany m_bestCouples m_bestFondness m_cameTo m_doesStandFirst m_stoodBy m_drawn m_ranSteps m_loops m_ran m_told1 m_isTold m_marks 2 z_40 e_z_40 _ rfl _ rfl) (cV ht mv_X12_fails tb_1447 rfl rfl ⟨Nat.le_of_ble_eq_true rfl, Nat.le_of_ble_eq_true rfl⟩) hP hS hX [0] rfl rfl rfl rfl rfl rfl hl.1 rfl (Nat.le_of_ble_eq_true rfl) dX12_armyPart_18 ⟨Nat.le_of_ble_eq_true rfl, Nat.le_of_ble_eq_true rfl⟩ (fun H locs hP hS => ?_)
    have hP : PD D A [bl_X12 cy A_m m_at m_names m_status m_top m_bottom m_sort m_trayMany m_trays m_tape m_text m_taped m_size m_token m_from m_end m_value m_faultKind z_40.2.1 z_40.2.2 m_seen m_toldParts m_opened m_depth m_counted m_bestOrder m_standers m_has m_bestHas m_standerMany m_bestCouples m_bestFondness m_cameTo m_doesStandFirst m_stoodBy m_drawn m_ranSteps m_loops m_ran m_told1 m_isTold m_marks] H := hP
    obtain ⟨b_41, e_b_41, h⟩ := bi h
    obtain ⟨-, n_b_41, -⟩ := bz_ok e_b_41
    cases h
    subst hW1
    exact W.zret hx hb hr n_b_41 (fun _ ht9 _ => ⟨⟨_, (), rfl, rfl, hPt ht9 hP.1⟩, hS.F ht9⟩) hS.2.2 dX12_armyPart_21
  · have h := ie c_39 h
    refine lv_iload_n hx hb dX12_armyPart_11 rfl (lv_at hl 0 rfl) ?_
    refine lv_iconst (v := 3) hx hb dX12_armyPart_12 (by decide) ?_
    refine lv_icmp_le (tgt := 22) hx hb dX12_armyPart_13 (by decide) (fun c_42 => ?_) (fun c_42 => ?_)
    · have h := it c_42 h
      refine lv_iload_n hx hb dX12_armyPart_22 rfl (lv_at hl 0 rfl) ?_
      refine lv_iconst (v := 1) hx hb dX12_armyPart_23 (by decide) ?_
      refine lv_icmp_gt (tgt := 45) hx hb dX12_armyPart_24 (by decide) (fun c_43 => ?_) (fun c_43 => ?_)
      · have h := it c_43 h
        exact j45 m_at m_names m_token m_from m_end m_value m_faultPlace m_faults m_toldParts z_38 _ _ hP hS ls (lv_sub hl [1, 0] rfl) h
      · have h := ie c_43 h
        refine lv_aload_n hx hb dX12_armyPart_27 rfl (lv_at hl 1 rfl) ?_
        refine xget (i := 0) (j := 0) (k := 20) (T := TX12) hx hb ht tb_iX12 hown hX hP.1 rfl rfl rfl (by decide) tb_1249 rfl dX12_armyPart_28 ?_
        refine lv_iload_n hx hb dX12_armyPart_31 rfl (lv_at hl 0 rfl) ?_
        refine lv_ishr hx hb dX12_armyPart_32 ?_
        refine lv_iconst (v := 1) hx hb dX12_armyPart_33 (by decide) ?_
        refine lv_iand hx hb dX12_armyPart_34 ?_
        refine lv_iconst (v := 1) hx hb dX12_armyPart_35 (by decide) ?_
        refine lv_icmp_ne (tgt := 45) hx hb dX12_armyPart_36 (by decide) (fun c_44 => ?_) (fun c_44 => ?_)
        · have h := ie c_44 h
          exact j45 m_at m_names m_token m_from m_end m_value m_faultPlace m_faults m_toldParts z_38 _ _ hP hS ls (lv_sub hl [1, 0] rfl) h
        · have h := it c_44 h
          refine lv_aload_n hx hb dX12_armyPart_39 rfl (lv_at hl 1 rfl) ?_
          refine lv_iconst (v := 5) hx hb dX12_armyPart_40 (by decide) ?_
          obtain ⟨z_45, e_z_45, h⟩ := bi h
          refine efVi (rest := []) ⟨hx, hb, hml, hown, ht⟩ (c_X12_fails l D cy fu A_m m_at m_names m_status m_top m_bottom m_sort m_trayMany m_trays m_tape m_text m_taped m_size m_token m_from m_end m_value m_faultKind m_faultPlace m_faults m_seen m_toldParts m_opened m_depth m_counted m_bestOrder m_standers m_has m_bestHas m_standerMany m_bestCouples m_bestFondness m_cameTo m_doesStandFirst m_stoodBy m_drawn m_ranSteps m_loops m_ran m_told1 m_isTold m_marks 5 z_45 e_z_45 _ rfl _ rfl) (cV ht mv_X12_fails tb_1447 rfl rfl ⟨Nat.le_of_ble_eq_true rfl, Nat.le_of_ble_eq_true rfl⟩) hP hS hX [0] rfl rfl rfl rfl rfl rfl hl.1 rfl (Nat.le_of_ble_eq_true rfl) dX12_armyPart_41 ⟨Nat.le_of_ble_eq_true rfl, Nat.le_of_ble_eq_true rfl⟩ (fun H locs hP hS => ?_)
          have hP : PD D A [bl_X12 cy A_m m_at m_names m_status m_top m_bottom m_sort m_trayMany m_trays m_tape m_text m_taped m_size m_token m_from m_end m_value m_faultKind z_45.2.1 z_45.2.2 m_seen m_toldParts m_opened m_depth m_counted m_bestOrder m_standers m_has m_bestHas m_standerMany m_bestCouples m_bestFondness m_cameTo m_doesStandFirst m_stoodBy m_drawn m_ranSteps m_loops m_ran m_told1 m_isTold m_marks] H := hP
          obtain ⟨b_46, e_b_46, h⟩ := bi h
          obtain ⟨-, n_b_46, -⟩ := bz_ok e_b_46
          cases h
          subst hW1
          exact W.zret hx hb hr n_b_46 (fun _ ht9 _ => ⟨⟨_, (), rfl, rfl, hPt ht9 hP.1⟩, hS.F ht9⟩) hS.2.2 dX12_armyPart_44
    · have h := ie c_42 h
      refine lv_aload_n hx hb dX12_armyPart_16 rfl (lv_at hl 1 rfl) ?_
      refine lv_iconst (v := 2) hx hb dX12_armyPart_17 (by decide) ?_
      obtain ⟨z_47, e_z_47, h⟩ := bi h
      refine efVi (rest := []) ⟨hx, hb, hml, hown, ht⟩ (c_X12_fails l D cy fu A_m m_at m_names m_status m_top m_bottom m_sort m_trayMany m_trays m_tape m_text m_taped m_size m_token m_from m_end m_value m_faultKind m_faultPlace m_faults m_seen m_toldParts m_opened m_depth m_counted m_bestOrder m_standers m_has m_bestHas m_standerMany m_bestCouples m_bestFondness m_cameTo m_doesStandFirst m_stoodBy m_drawn m_ranSteps m_loops m_ran m_told1 m_isTold m_marks 2 z_47 e_z_47 _ rfl _ rfl) (cV ht mv_X12_fails tb_1447 rfl rfl ⟨Nat.le_of_ble_eq_true rfl, Nat.le_of_ble_eq_true rfl⟩) hP hS hX [0] rfl rfl rfl rfl rfl rfl hl.1 rfl (Nat.le_of_ble_eq_true rfl) dX12_armyPart_18 ⟨Nat.le_of_ble_eq_true rfl, Nat.le_of_ble_eq_true rfl⟩ (fun H locs hP hS => ?_)
      have hP : PD D A [bl_X12 cy A_m m_at m_names m_status m_top m_bottom m_sort m_trayMany m_trays m_tape m_text m_taped m_size m_token m_from m_end m_value m_faultKind z_47.2.1 z_47.2.2 m_seen m_toldParts m_opened m_depth m_counted m_bestOrder m_standers m_has m_bestHas m_standerMany m_bestCouples m_bestFondness m_cameTo m_doesStandFirst m_stoodBy m_drawn m_ranSteps m_loops m_ran m_told1 m_isTold m_marks] H := hP
      obtain ⟨b_48, e_b_48, h⟩ := bi h
      obtain ⟨-, n_b_48, -⟩ := bz_ok e_b_48
      cases h
      subst hW1
      exact W.zret hx hb hr n_b_48 (fun _ ht9 _ => ⟨⟨_, (), rfl, rfl, hPt ht9 hP.1⟩, hS.F ht9⟩) hS.2.2 dX12_armyPart_21
theorem dX12_army_0 : decode cX12_army 0 = .ok (.aload_n 0, 1) := by decide +kernel
theorem dX12_army_1 : decode cX12_army 1 = .ok (.iload_n 1, 1) := by decide +kernel
theorem dX12_army_2 : decode cX12_army 2 = .ok (.sipush 900, 3) := by decide +kernel
theorem dX12_army_5 : decode cX12_army 5 = .ok (.invokevirtual 213, 3) := by decide +kernel
theorem dX12_army_8 : decode cX12_army 8 = .ok (.ifCond .ne 9, 3) := by decide +kernel
theorem dX12_army_11 : decode cX12_army 11 = .ok (.aload_n 0, 1) := by decide +kernel
theorem dX12_army_12 : decode cX12_army 12 = .ok (.iconst 1, 1) := by decide +kernel
theorem dX12_army_13 : decode cX12_army 13 = .ok (.invokevirtual 85, 3) := by decide +kernel
theorem dX12_army_16 : decode cX12_army 16 = .ok (.ireturn, 1) := by decide +kernel
theorem dX12_army_17 : decode cX12_army 17 = .ok (.aload_n 0, 1) := by decide +kernel
theorem dX12_army_18 : decode cX12_army 18 = .ok (.sipush 1952, 3) := by decide +kernel
theorem dX12_army_21 : decode cX12_army 21 = .ok (.invokevirtual 71, 3) := by decide +kernel
theorem dX12_army_24 : decode cX12_army 24 = .ok (.aload_n 0, 1) := by decide +kernel
theorem dX12_army_25 : decode cX12_army 25 = .ok (.iconst 0, 1) := by decide +kernel
theorem dX12_army_26 : decode cX12_army 26 = .ok (.putfield 200, 3) := by decide +kernel
theorem dX12_army_29 : decode cX12_army 29 = .ok (.iconst 1, 1) := by decide +kernel
theorem dX12_army_30 : decode cX12_army 30 = .ok (.istore_n 2, 1) := by decide +kernel
theorem dX12_army_31 : decode cX12_army 31 = .ok (.iload_n 2, 1) := by decide +kernel
theorem dX12_army_32 : decode cX12_army 32 = .ok (.ifCond .eq 18, 3) := by decide +kernel
theorem dX12_army_35 : decode cX12_army 35 = .ok (.aload_n 0, 1) := by decide +kernel
theorem dX12_army_36 : decode cX12_army 36 = .ok (.getfield 129, 3) := by decide +kernel
theorem dX12_army_39 : decode cX12_army 39 = .ok (.ifCond .eq 11, 3) := by decide +kernel
theorem dX12_army_42 : decode cX12_army 42 = .ok (.aload_n 0, 1) := by decide +kernel
theorem dX12_army_43 : decode cX12_army 43 = .ok (.invokevirtual 217, 3) := by decide +kernel
theorem dX12_army_46 : decode cX12_army 46 = .ok (.istore_n 2, 1) := by decide +kernel
theorem dX12_army_47 : decode cX12_army 47 = .ok (.goto (-16), 3) := by decide +kernel
theorem dX12_army_50 : decode cX12_army 50 = .ok (.aload_n 0, 1) := by decide +kernel
theorem dX12_army_51 : decode cX12_army 51 = .ok (.getfield 154, 3) := by decide +kernel
theorem dX12_army_54 : decode cX12_army 54 = .ok (.ifCond .ne 63, 3) := by decide +kernel
theorem dX12_army_57 : decode cX12_army 57 = .ok (.iconst 0, 1) := by decide +kernel
theorem dX12_army_58 : decode cX12_army 58 = .ok (.istore_n 3, 1) := by decide +kernel
theorem dX12_army_59 : decode cX12_army 59 = .ok (.iload_n 3, 1) := by decide +kernel
theorem dX12_army_60 : decode cX12_army 60 = .ok (.sipush 488, 3) := by decide +kernel
theorem dX12_army_63 : decode cX12_army 63 = .ok (.if_icmp .ge 25, 3) := by decide +kernel
theorem dX12_army_66 : decode cX12_army 66 = .ok (.aload_n 0, 1) := by decide +kernel
theorem dX12_army_67 : decode cX12_army 67 = .ok (.getfield 7, 3) := by decide +kernel
theorem dX12_army_70 : decode cX12_army 70 = .ok (.iload_n 3, 1) := by decide +kernel
theorem dX12_army_71 : decode cX12_army 71 = .ok (.aload_n 0, 1) := by decide +kernel
theorem dX12_army_72 : decode cX12_army 72 = .ok (.getfield 7, 3) := by decide +kernel
theorem dX12_army_75 : decode cX12_army 75 = .ok (.sipush 1952, 3) := by decide +kernel
theorem dX12_army_78 : decode cX12_army 78 = .ok (.iload_n 3, 1) := by decide +kernel
theorem dX12_army_79 : decode cX12_army 79 = .ok (.iadd, 1) := by decide +kernel
theorem dX12_army_80 : decode cX12_army 80 = .ok (.iaload, 1) := by decide +kernel
theorem dX12_army_81 : decode cX12_army 81 = .ok (.iastore, 1) := by decide +kernel
theorem dX12_army_82 : decode cX12_army 82 = .ok (.iinc 3 1, 3) := by decide +kernel
theorem dX12_army_85 : decode cX12_army 85 = .ok (.goto (-26), 3) := by decide +kernel
theorem dX12_army_88 : decode cX12_army 88 = .ok (.iconst 0, 1) := by decide +kernel
theorem dX12_army_89 : decode cX12_army 89 = .ok (.istore_n 3, 1) := by decide +kernel
theorem dX12_army_90 : decode cX12_army 90 = .ok (.iload_n 3, 1) := by decide +kernel
theorem dX12_army_91 : decode cX12_army 91 = .ok (.bipush 8, 2) := by decide +kernel
theorem dX12_army_93 : decode cX12_army 93 = .ok (.if_icmp .ge 24, 3) := by decide +kernel
theorem dX12_army_96 : decode cX12_army 96 = .ok (.aload_n 0, 1) := by decide +kernel
theorem dX12_army_97 : decode cX12_army 97 = .ok (.getfield 13, 3) := by decide +kernel
theorem dX12_army_100 : decode cX12_army 100 = .ok (.iload_n 3, 1) := by decide +kernel
theorem dX12_army_101 : decode cX12_army 101 = .ok (.aload_n 0, 1) := by decide +kernel
theorem dX12_army_102 : decode cX12_army 102 = .ok (.getfield 13, 3) := by decide +kernel
theorem dX12_army_105 : decode cX12_army 105 = .ok (.bipush 32, 2) := by decide +kernel
theorem dX12_army_107 : decode cX12_army 107 = .ok (.iload_n 3, 1) := by decide +kernel
theorem dX12_army_108 : decode cX12_army 108 = .ok (.iadd, 1) := by decide +kernel
theorem dX12_army_109 : decode cX12_army 109 = .ok (.laload, 1) := by decide +kernel
theorem dX12_army_110 : decode cX12_army 110 = .ok (.lastore, 1) := by decide +kernel
theorem dX12_army_111 : decode cX12_army 111 = .ok (.iinc 3 1, 3) := by decide +kernel
theorem dX12_army_114 : decode cX12_army 114 = .ok (.goto (-24), 3) := by decide +kernel
theorem dX12_army_117 : decode cX12_army 117 = .ok (.aload_n 0, 1) := by decide +kernel
theorem dX12_army_118 : decode cX12_army 118 = .ok (.aload_n 0, 1) := by decide +kernel
theorem dX12_army_119 : decode cX12_army 119 = .ok (.getfield 7, 3) := by decide +kernel
theorem dX12_army_122 : decode cX12_army 122 = .ok (.iconst 0, 1) := by decide +kernel
theorem dX12_army_123 : decode cX12_army 123 = .ok (.iaload, 1) := by decide +kernel
theorem dX12_army_124 : decode cX12_army 124 = .ok (.invokevirtual 220, 3) := by decide +kernel
theorem dX12_army_127 : decode cX12_army 127 = .ok (.ireturn, 1) := by decide +kernel
theorem mv_X12_army : MV yX12_army RX12 cX12_army 4 (some .int) 1 := ⟨tb_1411, tb_1409, tb_1410, tb_16, by decide +kernel, by decide +kernel, by decide +kernel⟩
def f_X12_army_j117 (fu : Nat) (m_tape : Nat → Int32) (x1 : Int32) (m_at : Nat → Int32) (m_names : Nat → Int64) (m_status : Int32) (m_text : Nat → Int32) (m_taped : Int32) (m_size : Int32) (m_token : Int32) (m_from : Int32) (m_end : Int32) (m_value : Int32) (m_faultKind : Int32) (m_faultPlace : Int32) (m_faults : Int32) (m_seen : Int32) (m_toldParts : Int32) : Option (Int32 × (Nat → Int32) × (Nat → Int64) × Int32 × (Nat → Int32) × Int32 × Int32 × Int32 × Int32 × Int32 × Int32 × Int32 × Int32 × Int32 × Int32 × Int32) := (rdI m_at 3648 0).bind fun y_19 => (f_X12_taken fu m_status m_faultKind m_faults y_19).bind fun z_20 => some (z_20.1, m_at, m_names, z_20.2.1, m_text, m_taped, m_size, m_token, m_from, m_end, m_value, z_20.2.2, m_faultPlace, m_faults, m_seen, m_toldParts)
def f_X12_army_b90 (fu : Nat) (m_tape : Nat → Int32) (x1 : Int32) (k90 : (Nat → Int32) → (Nat → Int64) → Int32 → (Nat → Int32) → Int32 → Int32 → Int32 → Int32 → Int32 → Int32 → Int32 → Int32 → Int32 → Int32 → Int32 → Int32 → (Option (Int32 × (Nat → Int32) × (Nat → Int64) × Int32 × (Nat → Int32) × Int32 × Int32 × Int32 × Int32 × Int32 × Int32 × Int32 × Int32 × Int32 × Int32 × Int32))) (m_at : Nat → Int32) (m_names : Nat → Int64) (m_status : Int32) (m_text : Nat → Int32) (m_taped : Int32) (m_size : Int32) (m_token : Int32) (m_from : Int32) (m_end : Int32) (m_value : Int32) (m_faultKind : Int32) (m_faultPlace : Int32) (m_faults : Int32) (m_seen : Int32) (m_toldParts : Int32) (x3 : Int32) : Option (Int32 × (Nat → Int32) × (Nat → Int64) × Int32 × (Nat → Int32) × Int32 × Int32 × Int32 × Int32 × Int32 × Int32 × Int32 × Int32 × Int32 × Int32 × Int32) := (if 8 ≤ x3 then f_X12_army_j117 fu m_tape x1 m_at m_names m_status m_text m_taped m_size m_token m_from m_end m_value m_faultKind m_faultPlace m_faults m_seen m_toldParts else (rdJ m_names 48 (32 + x3)).bind fun y_22 => (wrJ m_names 48 x3 y_22).bind fun m_names_23 => bnd (x3 + 1) fun x3_24 => k90 m_at m_names_23 m_status m_text m_taped m_size m_token m_from m_end m_value m_faultKind m_faultPlace m_faults m_seen m_toldParts x3_24)
def f_X12_army_l90 (fu : Nat) (m_tape : Nat → Int32) (x1 : Int32) : Nat → (Nat → Int32) → (Nat → Int64) → Int32 → (Nat → Int32) → Int32 → Int32 → Int32 → Int32 → Int32 → Int32 → Int32 → Int32 → Int32 → Int32 → Int32 → Int32 → (Option (Int32 × (Nat → Int32) × (Nat → Int64) × Int32 × (Nat → Int32) × Int32 × Int32 × Int32 × Int32 × Int32 × Int32 × Int32 × Int32 × Int32 × Int32 × Int32))
  | 0, _, _, _, _, _, _, _, _, _, _, _, _, _, _, _, _ => none
  | n + 1, m_at, m_names, m_status, m_text, m_taped, m_size, m_token, m_from, m_end, m_value, m_faultKind, m_faultPlace, m_faults, m_seen, m_toldParts, x3 => f_X12_army_b90 fu m_tape x1 (f_X12_army_l90 fu m_tape x1 n) m_at m_names m_status m_text m_taped m_size m_token m_from m_end m_value m_faultKind m_faultPlace m_faults m_seen m_toldParts x3
def f_X12_army_b59 (fu : Nat) (m_tape : Nat → Int32) (x1 : Int32) (k59 : (Nat → Int32) → (Nat → Int64) → Int32 → (Nat → Int32) → Int32 → Int32 → Int32 → Int32 → Int32 → Int32 → Int32 → Int32 → Int32 → Int32 → Int32 → Int32 → (Option (Int32 × (Nat → Int32) × (Nat → Int64) × Int32 × (Nat → Int32) × Int32 × Int32 × Int32 × Int32 × Int32 × Int32 × Int32 × Int32 × Int32 × Int32 × Int32))) (m_at : Nat → Int32) (m_names : Nat → Int64) (m_status : Int32) (m_text : Nat → Int32) (m_taped : Int32) (m_size : Int32) (m_token : Int32) (m_from : Int32) (m_end : Int32) (m_value : Int32) (m_faultKind : Int32) (m_faultPlace : Int32) (m_faults : Int32) (m_seen : Int32) (m_toldParts : Int32) (x3 : Int32) : Option (Int32 × (Nat → Int32) × (Nat → Int64) × Int32 × (Nat → Int32) × Int32 × Int32 × Int32 × Int32 × Int32 × Int32 × Int32 × Int32 × Int32 × Int32 × Int32) := (if 488 ≤ x3 then f_X12_army_l90 fu m_tape x1 fu m_at m_names m_status m_text m_taped m_size m_token m_from m_end m_value m_faultKind m_faultPlace m_faults m_seen m_toldParts 0 else (rdI m_at 3648 (1952 + x3)).bind fun y_26 => (wrI m_at 3648 x3 y_26).bind fun m_at_27 => bnd (x3 + 1) fun x3_28 => k59 m_at_27 m_names m_status m_text m_taped m_size m_token m_from m_end m_value m_faultKind m_faultPlace m_faults m_seen m_toldParts x3_28)
def f_X12_army_l59 (fu : Nat) (m_tape : Nat → Int32) (x1 : Int32) : Nat → (Nat → Int32) → (Nat → Int64) → Int32 → (Nat → Int32) → Int32 → Int32 → Int32 → Int32 → Int32 → Int32 → Int32 → Int32 → Int32 → Int32 → Int32 → Int32 → (Option (Int32 × (Nat → Int32) × (Nat → Int64) × Int32 × (Nat → Int32) × Int32 × Int32 × Int32 × Int32 × Int32 × Int32 × Int32 × Int32 × Int32 × Int32 × Int32))
  | 0, _, _, _, _, _, _, _, _, _, _, _, _, _, _, _, _ => none
  | n + 1, m_at, m_names, m_status, m_text, m_taped, m_size, m_token, m_from, m_end, m_value, m_faultKind, m_faultPlace, m_faults, m_seen, m_toldParts, x3 => f_X12_army_b59 fu m_tape x1 (f_X12_army_l59 fu m_tape x1 n) m_at m_names m_status m_text m_taped m_size m_token m_from m_end m_value m_faultKind m_faultPlace m_faults m_seen m_toldParts x3
def f_X12_army_j50 (fu : Nat) (m_tape : Nat → Int32) (x1 : Int32) (m_at : Nat → Int32) (m_names : Nat → Int64) (m_status : Int32) (m_text : Nat → Int32) (m_taped : Int32) (m_size : Int32) (m_token : Int32) (m_from : Int32) (m_end : Int32) (m_value : Int32) (m_faultKind : Int32) (m_faultPlace : Int32) (m_faults : Int32) (m_seen : Int32) (m_toldParts : Int32) : Option (Int32 × (Nat → Int32) × (Nat → Int64) × Int32 × (Nat → Int32) × Int32 × Int32 × Int32 × Int32 × Int32 × Int32 × Int32 × Int32 × Int32 × Int32 × Int32) := (if m_faults = 0 then f_X12_army_l59 fu m_tape x1 fu m_at m_names m_status m_text m_taped m_size m_token m_from m_end m_value m_faultKind m_faultPlace m_faults m_seen m_toldParts 0 else f_X12_army_j117 fu m_tape x1 m_at m_names m_status m_text m_taped m_size m_token m_from m_end m_value m_faultKind m_faultPlace m_faults m_seen m_toldParts)
def f_X12_army_b31 (fu : Nat) (m_tape : Nat → Int32) (x1 : Int32) (k31 : (Nat → Int32) → (Nat → Int64) → Int32 → (Nat → Int32) → Int32 → Int32 → Int32 → Int32 → Int32 → Int32 → Int32 → Int32 → Int32 → Int32 → Int32 → Int32 → (Option (Int32 × (Nat → Int32) × (Nat → Int64) × Int32 × (Nat → Int32) × Int32 × Int32 × Int32 × Int32 × Int32 × Int32 × Int32 × Int32 × Int32 × Int32 × Int32))) (m_at : Nat → Int32) (m_names : Nat → Int64) (m_status : Int32) (m_text : Nat → Int32) (m_taped : Int32) (m_size : Int32) (m_token : Int32) (m_from : Int32) (m_end : Int32) (m_value : Int32) (m_faultKind : Int32) (m_faultPlace : Int32) (m_faults : Int32) (m_seen : Int32) (m_toldParts : Int32) (x2 : Int32) : Option (Int32 × (Nat → Int32) × (Nat → Int64) × Int32 × (Nat → Int32) × Int32 × Int32 × Int32 × Int32 × Int32 × Int32 × Int32 × Int32 × Int32 × Int32 × Int32) := (if x2 = 0 then f_X12_army_j50 fu m_tape x1 m_at m_names m_status m_text m_taped m_size m_token m_from m_end m_value m_faultKind m_faultPlace m_faults m_seen m_toldParts else (if m_token = 0 then f_X12_army_j50 fu m_tape x1 m_at m_names m_status m_text m_taped m_size m_token m_from m_end m_value m_faultKind m_faultPlace m_faults m_seen m_toldParts else (f_X12_armyPart fu m_at m_names m_text m_size m_token m_from m_end m_value m_faultPlace m_faults m_toldParts).bind fun z_32 => k31 z_32.2.1 z_32.2.2.1 m_status m_text m_taped m_size z_32.2.2.2.1 z_32.2.2.2.2.1 z_32.2.2.2.2.2.1 z_32.2.2.2.2.2.2.1 m_faultKind z_32.2.2.2.2.2.2.2.1 z_32.2.2.2.2.2.2.2.2.1 m_seen z_32.2.2.2.2.2.2.2.2.2 z_32.1))
def f_X12_army_l31 (fu : Nat) (m_tape : Nat → Int32) (x1 : Int32) : Nat → (Nat → Int32) → (Nat → Int64) → Int32 → (Nat → Int32) → Int32 → Int32 → Int32 → Int32 → Int32 → Int32 → Int32 → Int32 → Int32 → Int32 → Int32 → Int32 → (Option (Int32 × (Nat → Int32) × (Nat → Int64) × Int32 × (Nat → Int32) × Int32 × Int32 × Int32 × Int32 × Int32 × Int32 × Int32 × Int32 × Int32 × Int32 × Int32))
  | 0, _, _, _, _, _, _, _, _, _, _, _, _, _, _, _, _ => none
  | n + 1, m_at, m_names, m_status, m_text, m_taped, m_size, m_token, m_from, m_end, m_value, m_faultKind, m_faultPlace, m_faults, m_seen, m_toldParts, x2 => f_X12_army_b31 fu m_tape x1 (f_X12_army_l31 fu m_tape x1 n) m_at m_names m_status m_text m_taped m_size m_token m_from m_end m_value m_faultKind m_faultPlace m_faults m_seen m_toldParts x2
def f_X12_army (fu : Nat) (m_at : Nat → Int32) (m_names : Nat → Int64) (m_status : Int32) (m_tape : Nat → Int32) (m_text : Nat → Int32) (m_taped : Int32) (m_size : Int32) (m_token : Int32) (m_from : Int32) (m_end : Int32) (m_value : Int32) (m_faultKind : Int32) (m_faultPlace : Int32) (m_faults : Int32) (m_seen : Int32) (m_toldParts : Int32) (x1 : Int32) : Option (Int32 × (Nat → Int32) × (Nat → Int64) × Int32 × (Nat → Int32) × Int32 × Int32 × Int32 × Int32 × Int32 × Int32 × Int32 × Int32 × Int32 × Int32 × Int32) := (f_X12_begins fu m_tape m_text m_taped m_size m_token m_from m_end m_value m_faultPlace m_faults m_seen x1 900).bind fun z_33 => (if z_33.1 = 0 then (f_X12_refuse fu m_status 1).bind fun z_36 => some (z_36.1, m_at, m_names, z_36.2, z_33.2.1, z_33.2.2.1, z_33.2.2.2.1, z_33.2.2.2.2.1, z_33.2.2.2.2.2.1, z_33.2.2.2.2.2.2.1, z_33.2.2.2.2.2.2.2.1, m_faultKind, z_33.2.2.2.2.2.2.2.2.1, z_33.2.2.2.2.2.2.2.2.2.1, z_33.2.2.2.2.2.2.2.2.2.2, m_toldParts) else (f_X12_plain fu m_at 1952).bind fun z_35 => f_X12_army_l31 fu m_tape x1 fu z_35 m_names m_status z_33.2.1 z_33.2.2.1 z_33.2.2.2.1 z_33.2.2.2.2.1 z_33.2.2.2.2.2.1 z_33.2.2.2.2.2.2.1 z_33.2.2.2.2.2.2.2.1 m_faultKind z_33.2.2.2.2.2.2.2.2.1 z_33.2.2.2.2.2.2.2.2.2.1 z_33.2.2.2.2.2.2.2.2.2.2 0 1)
abbrev rm_X12_army : Room := { frames := 9, cells := 0, slots := 0, locals := 198 }
set_option maxHeartbeats 4000000 in
set_option maxRecDepth 100000 in
theorem c_X12_army (l : Launch) (D : va_G) (cy : Nat → ClassId) (fu : Nat) (tO : Nat) (aK aV : Nat → Nat) (A_m : Nat → Nat) (m_at : Nat → Int32) (m_names : Nat → Int64) (m_status : Int32) (m_top : Int64) (m_bottom : Int64) (m_sort : Nat → Int32) (m_trayMany : Nat → Int32) (m_trays : Nat → Int64) (m_tape : Nat → Int32) (m_text : Nat → Int32) (m_taped : Int32) (m_size : Int32) (m_token : Int32) (m_from : Int32) (m_end : Int32) (m_value : Int32) (m_faultKind : Int32) (m_faultPlace : Int32) (m_faults : Int32) (m_seen : Int32) (m_toldParts : Int32) (m_opened : Nat → Int32) (m_depth : Int32) (m_counted : Int32) (m_bestOrder : Int32) (m_standers : Nat → Int32) (m_has : Nat → Int32) (m_bestHas : Nat → Int32) (m_standerMany : Int32) (m_bestCouples : Int32) (m_bestFondness : Int32) (m_cameTo : Nat → Int32) (m_doesStandFirst : Int32) (m_stoodBy : Nat → Int64) (m_drawn : Int32) (m_ranSteps : Int32) (m_loops : Nat → Int32) (m_ran : Nat → Int32) (m_told1 : Nat → Int32) (m_isTold : Int32) (m_marks : Int32) (x1 : Int32) (res : Int32 × (Nat → Int32) × (Nat → Int64) × Int32 × (Nat → Int32) × Int32 × Int32 × Int32 × Int32 × Int32 × Int32 × Int32 × Int32 × Int32 × Int32 × Int32) (h : f_X12_army fu m_at m_names m_status m_tape m_text m_taped m_size m_token m_from m_end m_value m_faultKind m_faultPlace m_faults m_seen m_toldParts x1 = some res) (A : Nat → Prop) (hA : A = adr [bl_X12 cy A_m m_at m_names m_status m_top m_bottom m_sort m_trayMany m_trays m_tape m_text m_taped m_size m_token m_from m_end m_value m_faultKind m_faultPlace m_faults m_seen m_toldParts m_opened m_depth m_counted m_bestOrder m_standers m_has m_bestHas m_standerMany m_bestCouples m_bestFondness m_cameTo m_doesStandFirst m_stoodBy m_drawn m_ranSteps m_loops m_ran m_told1 m_isTold m_marks]) (W1 : List va_W) (hW1 : W1 = [bl_X12 cy A_m res.2.1 res.2.2.1 res.2.2.2.1 m_top m_bottom m_sort m_trayMany m_trays m_tape res.2.2.2.2.1 res.2.2.2.2.2.1 res.2.2.2.2.2.2.1 res.2.2.2.2.2.2.2.1 res.2.2.2.2.2.2.2.2.1 res.2.2.2.2.2.2.2.2.2.1 res.2.2.2.2.2.2.2.2.2.2.1 res.2.2.2.2.2.2.2.2.2.2.2.1 res.2.2.2.2.2.2.2.2.2.2.2.2.1 res.2.2.2.2.2.2.2.2.2.2.2.2.2.1 res.2.2.2.2.2.2.2.2.2.2.2.2.2.2.1 res.2.2.2.2.2.2.2.2.2.2.2.2.2.2.2 m_opened m_depth m_counted m_bestOrder m_standers m_has m_bestHas m_standerMany m_bestCouples m_bestFondness m_cameTo m_doesStandFirst m_stoodBy m_drawn m_ranSteps m_loops m_ran m_told1 m_isTold m_marks]) : Met l yX12_army (WW yX12_army cX12_army 4 (some .int)) rm_X12_army (EdX D cy tO aK aV A [.ref (A_m 0), .int x1] [bl_X12 cy A_m m_at m_names m_status m_top m_bottom m_sort m_trayMany m_trays m_tape m_text m_taped m_size m_token m_from m_end m_value m_faultKind m_faultPlace m_faults m_seen m_toldParts m_opened m_depth m_counted m_bestOrder m_standers m_has m_bestHas m_standerMany m_bestCouples m_bestFondness m_cameTo m_doesStandFirst m_stoodBy m_drawn m_ranSteps m_loops m_ran m_told1 m_isTold m_marks]) (Qei D res.1 A W1) 0 0 A := by
  refine Met.ofW (cc := cX12_army) (maxL := 4) (ret := (some .int)) (by decide) rfl ?_
  intro p e s m args below meth c s₁ B hml hv
  obtain ⟨hargs, hP, hX, hD0, hE⟩ := hv
  have hx := B.exec
  have hb := B.bytes
  have hr := B.returns
  have ht : ∀ w ∈ lw_gd, w.before args s = true := fun w hw => atoms_spec (ws := WW yX12_army cX12_army 4 (some .int)) B.pre w (List.mem_cons_of_mem _ hw)
  have hown : s.vm.findClass RX12 = some m.cls := findClass_of_methodNamed B.named
  have hlocks := B.notSynchronized
  have hP : PD D A [bl_X12 cy A_m m_at m_names m_status m_top m_bottom m_sort m_trayMany m_trays m_tape m_text m_taped m_size m_token m_from m_end m_value m_faultKind m_faultPlace m_faults m_seen m_toldParts m_opened m_depth m_counted m_bestOrder m_standers m_has m_bestHas m_standerMany m_bestCouples m_bestFondness m_cameTo m_doesStandFirst m_stoodBy m_drawn m_ranSteps m_loops m_ran m_told1 m_isTold m_marks] s.heap := ⟨hP, by rw [hA]; exact hD0.own⟩
  have hS : va_S A s.heap s.heap [] := va_S.rf
  obtain ⟨ls, hl, hent⟩ := ent (m := m) (n := 4) hargs (Nat.le_of_ble_eq_true rfl) (lv := [(0, .ref (A_m 0)), (1, .int x1)]) rfl
  rw [hent]
  clear hent
  have j117 : ∀ (m_at : Nat → Int32) (m_names : Nat → Int64) (m_status : Int32) (m_text : Nat → Int32) (m_taped : Int32) (m_size : Int32) (m_token : Int32) (m_from : Int32) (m_end : Int32) (m_value : Int32) (m_faultKind : Int32) (m_faultPlace : Int32) (m_faults : Int32) (m_seen : Int32) (m_toldParts : Int32) (H : Heap) (locs : List Loc) (_ : PD D A [bl_X12 cy A_m m_at m_names m_status m_top m_bottom m_sort m_trayMany m_trays m_tape m_text m_taped m_size m_token m_from m_end m_value m_faultKind m_faultPlace m_faults m_seen m_toldParts m_opened m_depth m_counted m_bestOrder m_standers m_has m_bestHas m_standerMany m_bestCouples m_bestFondness m_cameTo m_doesStandFirst m_stoodBy m_drawn m_ranSteps m_loops m_ran m_told1 m_isTold m_marks] H) (_ : va_S A s.heap H locs) (ls : Array Slot), lv_has ls 4 [(0, .ref (A_m 0))] → f_X12_army_j117 fu m_tape x1 m_at m_names m_status m_text m_taped m_size m_token m_from m_end m_value m_faultKind m_faultPlace m_faults m_seen m_toldParts = some res → W p l e (headSpec (WW yX12_army cX12_army 4 (some .int)) rm_X12_army).room s m args below meth c H locs 0 0 (MQ below (Qei D res.1 A W1) args s 0 0 A) (F0 m 117 ls []) := by
    intro m_at m_names m_status m_text m_taped m_size m_token m_from m_end m_value m_faultKind m_faultPlace m_faults m_seen m_toldParts H locs hP hS ls hl h
    unfold f_X12_army_j117 at h
    refine lv_aload_n hx hb dX12_army_117 rfl (lv_at hl 0 rfl) ?_
    refine lv_aload_n hx hb dX12_army_118 rfl (lv_at hl 0 rfl) ?_
    refine xget (i := 0) (j := 0) (k := 0) (T := TX12) hx hb ht tb_iX12 hown hX hP.1 rfl rfl rfl (by decide) tb_1229 rfl dX12_army_119 ?_
    refine lv_iconst (v := 0) hx hb dX12_army_122 (by decide) ?_
    obtain ⟨y_19, e_y_19, h⟩ := bi h
    refine xiald (i0 := 0) (j0 := 1) hx hb hX hP.1 rfl rfl e_y_19 dX12_army_123 ?_
    obtain ⟨z_20, e_z_20, h⟩ := bi h
    refine efVi (rest := []) ⟨hx, hb, hml, hown, ht⟩ (c_X12_taken l D cy fu A_m m_at m_names m_status m_top m_bottom m_sort m_trayMany m_trays m_tape m_text m_taped m_size m_token m_from m_end m_value m_faultKind m_faultPlace m_faults m_seen m_toldParts m_opened m_depth m_counted m_bestOrder m_standers m_has m_bestHas m_standerMany m_bestCouples m_bestFondness m_cameTo m_doesStandFirst m_stoodBy m_drawn m_ranSteps m_loops m_ran m_told1 m_isTold m_marks y_19 z_20 e_z_20 _ rfl _ rfl) (cV ht mv_X12_taken tb_1495 rfl rfl ⟨Nat.le_of_ble_eq_true rfl, Nat.le_of_ble_eq_true rfl⟩) hP hS hX [0] rfl rfl rfl rfl rfl rfl hl.1 rfl (Nat.le_of_ble_eq_true rfl) dX12_army_124 ⟨Nat.le_of_ble_eq_true rfl, Nat.le_of_ble_eq_true rfl⟩ (fun H locs hP hS => ?_)
    have hP : PD D A [bl_X12 cy A_m m_at m_names z_20.2.1 m_top m_bottom m_sort m_trayMany m_trays m_tape m_text m_taped m_size m_token m_from m_end m_value z_20.2.2 m_faultPlace m_faults m_seen m_toldParts m_opened m_depth m_counted m_bestOrder m_standers m_has m_bestHas m_standerMany m_bestCouples m_bestFondness m_cameTo m_doesStandFirst m_stoodBy m_drawn m_ranSteps m_loops m_ran m_told1 m_isTold m_marks] H := hP
    cases h
    subst hW1
    exact W.iret hx hb hr (fun _ ht9 _ => ⟨⟨_, (), rfl, rfl, hPt ht9 hP.1⟩, hS.F ht9⟩) hS.2.2 dX12_army_127
  have l90 : ∀ (n90 : Nat) (m_at : Nat → Int32) (m_names : Nat → Int64) (m_status : Int32) (m_text : Nat → Int32) (m_taped : Int32) (m_size : Int32) (m_token : Int32) (m_from : Int32) (m_end : Int32) (m_value : Int32) (m_faultKind : Int32) (m_faultPlace : Int32) (m_faults : Int32) (m_seen : Int32) (m_toldParts : Int32) (x3 : Int32) (H : Heap) (locs : List Loc) (_ : PD D A [bl_X12 cy A_m m_at m_names m_status m_top m_bottom m_sort m_trayMany m_trays m_tape m_text m_taped m_size m_token m_from m_end m_value m_faultKind m_faultPlace m_faults m_seen m_toldParts m_opened m_depth m_counted m_bestOrder m_standers m_has m_bestHas m_standerMany m_bestCouples m_bestFondness m_cameTo m_doesStandFirst m_stoodBy m_drawn m_ranSteps m_loops m_ran m_told1 m_isTold m_marks] H) (_ : va_S A s.heap H locs) (ls : Array Slot), lv_has ls 4 [(0, .ref (A_m 0)), (3, .int x3)] → f_X12_army_l90 fu m_tape x1 n90 m_at m_names m_status m_text m_taped m_size m_token m_from m_end m_value m_faultKind m_faultPlace m_faults m_seen m_toldParts x3 = some res → W p l e (headSpec (WW yX12_army cX12_army 4 (some .int)) rm_X12_army).room s m args below meth c H locs 0 0 (MQ below (Qei D res.1 A W1) args s 0 0 A) (F0 m 90 ls []) := by
    intro n90
    induction n90 with
    | zero => intro m_at m_names m_status m_text m_taped m_size m_token m_from m_end m_value m_faultKind m_faultPlace m_faults m_seen m_toldParts x3 H locs hP hS ls hl h; cases h
    | succ n90 ih90 =>
      intro m_at m_names m_status m_text m_taped m_size m_token m_from m_end m_value m_faultKind m_faultPlace m_faults m_seen m_toldParts x3 H locs hP hS ls hl h
      have h : f_X12_army_b90 fu m_tape x1 (f_X12_army_l90 fu m_tape x1 n90) m_at m_names m_status m_text m_taped m_size m_token m_from m_end m_value m_faultKind m_faultPlace m_faults m_seen m_toldParts x3 = some res := h
      unfold f_X12_army_b90 at h
      refine lv_iload_n hx hb dX12_army_90 rfl (lv_at hl 1 rfl) ?_
      refine lv_bipush (v := 8) hx hb dX12_army_91 (by decide) ?_
      refine lv_icmp_ge (tgt := 117) hx hb dX12_army_93 (by decide) (fun c_21 => ?_) (fun c_21 => ?_)
      · have h := it c_21 h
        exact j117 m_at m_names m_status m_text m_taped m_size m_token m_from m_end m_value m_faultKind m_faultPlace m_faults m_seen m_toldParts _ _ hP hS ls (lv_sub hl [0] rfl) h
      · have h := ie c_21 h
        refine lv_aload_n hx hb dX12_army_96 rfl (lv_at hl 0 rfl) ?_
        refine xget (i := 0) (j := 0) (k := 1) (T := TX12) hx hb ht tb_iX12 hown hX hP.1 rfl rfl rfl (by decide) tb_1230 rfl dX12_army_97 ?_
        refine lv_iload_n hx hb dX12_army_100 rfl (lv_at hl 1 rfl) ?_
        refine lv_aload_n hx hb dX12_army_101 rfl (lv_at hl 0 rfl) ?_
        refine xget (i := 0) (j := 0) (k := 1) (T := TX12) hx hb ht tb_iX12 hown hX hP.1 rfl rfl rfl (by decide) tb_1230 rfl dX12_army_102 ?_
        refine lv_bipush (v := 32) hx hb dX12_army_105 (by decide) ?_
        refine lv_iload_n hx hb dX12_army_107 rfl (lv_at hl 1 rfl) ?_
        refine lv_iadd hx hb dX12_army_108 ?_
        obtain ⟨y_22, e_y_22, h⟩ := bi h
        refine xlald (i0 := 0) (j0 := 2) hx hb hX hP.1 rfl rfl e_y_22 dX12_army_109 ?_
        obtain ⟨m_names_23, e_m_names_23, h⟩ := bi h
        refine xlast (i0 := 0) (j0 := 2) hx hb hX hP hS rfl rfl e_m_names_23 dX12_army_110 (fun H locs hP hS => ?_)
        have hP : PD D A [bl_X12 cy A_m m_at m_names_23 m_status m_top m_bottom m_sort m_trayMany m_trays m_tape m_text m_taped m_size m_token m_from m_end m_value m_faultKind m_faultPlace m_faults m_seen m_toldParts m_opened m_depth m_counted m_bestOrder m_standers m_has m_bestHas m_standerMany m_bestCouples m_bestFondness m_cameTo m_doesStandFirst m_stoodBy m_drawn m_ranSteps m_loops m_ran m_told1 m_isTold m_marks] H := hP
        obtain ⟨x3_24, e_x3_24⟩ : ∃ y : Int32, y = x3 + 1 := ⟨_, rfl⟩
        have h := bn e_x3_24 h
        refine lv_iinc (v := x3_24) (lv' := [(3, .int x3_24), (0, .ref (A_m 0))]) hx hb dX12_army_111 hl (k := 1) rfl (by rw [e_x3_24]; rfl) (by decide) rfl (fun ls hl => ?_)
        refine lv_goto (tgt := 90) hx hb dX12_army_114 (by decide) ?_
        exact ih90 m_at m_names_23 m_status m_text m_taped m_size m_token m_from m_end m_value m_faultKind m_faultPlace m_faults m_seen m_toldParts x3_24 _ _ hP hS ls (lv_sub hl [1, 0] rfl) h
  have l59 : ∀ (n59 : Nat) (m_at : Nat → Int32) (m_names : Nat → Int64) (m_status : Int32) (m_text : Nat → Int32) (m_taped : Int32) (m_size : Int32) (m_token : Int32) (m_from : Int32) (m_end : Int32) (m_value : Int32) (m_faultKind : Int32) (m_faultPlace : Int32) (m_faults : Int32) (m_seen : Int32) (m_toldParts : Int32) (x3 : Int32) (H : Heap) (locs : List Loc) (_ : PD D A [bl_X12 cy A_m m_at m_names m_status m_top m_bottom m_sort m_trayMany m_trays m_tape m_text m_taped m_size m_token m_from m_end m_value m_faultKind m_faultPlace m_faults m_seen m_toldParts m_opened m_depth m_counted m_bestOrder m_standers m_has m_bestHas m_standerMany m_bestCouples m_bestFondness m_cameTo m_doesStandFirst m_stoodBy m_drawn m_ranSteps m_loops m_ran m_told1 m_isTold m_marks] H) (_ : va_S A s.heap H locs) (ls : Array Slot), lv_has ls 4 [(0, .ref (A_m 0)), (3, .int x3)] → f_X12_army_l59 fu m_tape x1 n59 m_at m_names m_status m_text m_taped m_size m_token m_from m_end m_value m_faultKind m_faultPlace m_faults m_seen m_toldParts x3 = some res → W p l e (headSpec (WW yX12_army cX12_army 4 (some .int)) rm_X12_army).room s m args below meth c H locs 0 0 (MQ below (Qei D res.1 A W1) args s 0 0 A) (F0 m 59 ls []) := by
    intro n59
    induction n59 with
    | zero => intro m_at m_names m_status m_text m_taped m_size m_token m_from m_end m_value m_faultKind m_faultPlace m_faults m_seen m_toldParts x3 H locs hP hS ls hl h; cases h
    | succ n59 ih59 =>
      intro m_at m_names m_status m_text m_taped m_size m_token m_from m_end m_value m_faultKind m_faultPlace m_faults m_seen m_toldParts x3 H locs hP hS ls hl h
      have h : f_X12_army_b59 fu m_tape x1 (f_X12_army_l59 fu m_tape x1 n59) m_at m_names m_status m_text m_taped m_size m_token m_from m_end m_value m_faultKind m_faultPlace m_faults m_seen m_toldParts x3 = some res := h
      unfold f_X12_army_b59 at h
      refine lv_iload_n hx hb dX12_army_59 rfl (lv_at hl 1 rfl) ?_
      refine lv_sipush (v := 488) hx hb dX12_army_60 (by decide) ?_
      refine lv_icmp_ge (tgt := 88) hx hb dX12_army_63 (by decide) (fun c_25 => ?_) (fun c_25 => ?_)
      · have h := it c_25 h
        refine lv_iconst (v := 0) hx hb dX12_army_88 (by decide) ?_
        refine lv_istore_n (lv' := [(3, .int 0), (0, .ref (A_m 0))]) hx hb dX12_army_89 rfl hl (by decide) rfl (fun ls hl => ?_)
        exact l90 fu m_at m_names m_status m_text m_taped m_size m_token m_from m_end m_value m_faultKind m_faultPlace m_faults m_seen m_toldParts 0 _ _ hP hS ls (lv_sub hl [1, 0] rfl) h
      · have h := ie c_25 h
        refine lv_aload_n hx hb dX12_army_66 rfl (lv_at hl 0 rfl) ?_
        refine xget (i := 0) (j := 0) (k := 0) (T := TX12) hx hb ht tb_iX12 hown hX hP.1 rfl rfl rfl (by decide) tb_1229 rfl dX12_army_67 ?_
        refine lv_iload_n hx hb dX12_army_70 rfl (lv_at hl 1 rfl) ?_
        refine lv_aload_n hx hb dX12_army_71 rfl (lv_at hl 0 rfl) ?_
        refine xget (i := 0) (j := 0) (k := 0) (T := TX12) hx hb ht tb_iX12 hown hX hP.1 rfl rfl rfl (by decide) tb_1229 rfl dX12_army_72 ?_
        refine lv_sipush (v := 1952) hx hb dX12_army_75 (by decide) ?_
        refine lv_iload_n hx hb dX12_army_78 rfl (lv_at hl 1 rfl) ?_
        refine lv_iadd hx hb dX12_army_79 ?_
        obtain ⟨y_26, e_y_26, h⟩ := bi h
        refine xiald (i0 := 0) (j0 := 1) hx hb hX hP.1 rfl rfl e_y_26 dX12_army_80 ?_
        obtain ⟨m_at_27, e_m_at_27, h⟩ := bi h
        refine xiast (i0 := 0) (j0 := 1) hx hb hX hP hS rfl rfl e_m_at_27 dX12_army_81 (fun H locs hP hS => ?_)
        have hP : PD D A [bl_X12 cy A_m m_at_27 m_names m_status m_top m_bottom m_sort m_trayMany m_trays m_tape m_text m_taped m_size m_token m_from m_end m_value m_faultKind m_faultPlace m_faults m_seen m_toldParts m_opened m_depth m_counted m_bestOrder m_standers m_has m_bestHas m_standerMany m_bestCouples m_bestFondness m_cameTo m_doesStandFirst m_stoodBy m_drawn m_ranSteps m_loops m_ran m_told1 m_isTold m_marks] H := hP
        obtain ⟨x3_28, e_x3_28⟩ : ∃ y : Int32, y = x3 + 1 := ⟨_, rfl⟩
        have h := bn e_x3_28 h
        refine lv_iinc (v := x3_28) (lv' := [(3, .int x3_28), (0, .ref (A_m 0))]) hx hb dX12_army_82 hl (k := 1) rfl (by rw [e_x3_28]; rfl) (by decide) rfl (fun ls hl => ?_)
        refine lv_goto (tgt := 59) hx hb dX12_army_85 (by decide) ?_
        exact ih59 m_at_27 m_names m_status m_text m_taped m_size m_token m_from m_end m_value m_faultKind m_faultPlace m_faults m_seen m_toldParts x3_28 _ _ hP hS ls (lv_sub hl [1, 0] rfl) h
  have j50 : ∀ (m_at : Nat → Int32) (m_names : Nat → Int64) (m_status : Int32) (m_text : Nat → Int32) (m_taped : Int32) (m_size : Int32) (m_token : Int32) (m_from : Int32) (m_end : Int32) (m_value : Int32) (m_faultKind : Int32) (m_faultPlace : Int32) (m_faults : Int32) (m_seen : Int32) (m_toldParts : Int32) (H : Heap) (locs : List Loc) (_ : PD D A [bl_X12 cy A_m m_at m_names m_status m_top m_bottom m_sort m_trayMany m_trays m_tape m_text m_taped m_size m_token m_from m_end m_value m_faultKind m_faultPlace m_faults m_seen m_toldParts m_opened m_depth m_counted m_bestOrder m_standers m_has m_bestHas m_standerMany m_bestCouples m_bestFondness m_cameTo m_doesStandFirst m_stoodBy m_drawn m_ranSteps m_loops m_ran m_told1 m_isTold m_marks] H) (_ : va_S A s.heap H locs) (ls : Array Slot), lv_has ls 4 [(0, .ref (A_m 0))] → f_X12_army_j50 fu m_tape x1 m_at m_names m_status m_text m_taped m_size m_token m_from m_end m_value m_faultKind m_faultPlace m_faults m_seen m_toldParts = some res → W p l e (headSpec (WW yX12_army cX12_army 4 (some .int)) rm_X12_army).room s m args below meth c H locs 0 0 (MQ below (Qei D res.1 A W1) args s 0 0 A) (F0 m 50 ls []) := by
    intro m_at m_names m_status m_text m_taped m_size m_token m_from m_end m_value m_faultKind m_faultPlace m_faults m_seen m_toldParts H locs hP hS ls hl h
    unfold f_X12_army_j50 at h
    refine lv_aload_n hx hb dX12_army_50 rfl (lv_at hl 0 rfl) ?_
    refine xget (i := 0) (j := 0) (k := 18) (T := TX12) hx hb ht tb_iX12 hown hX hP.1 rfl rfl rfl (by decide) tb_1247 rfl dX12_army_51 ?_
    refine lv_if_ne (tgt := 117) hx hb dX12_army_54 (by decide) (fun c_29 => ?_) (fun c_29 => ?_)
    · have h := ie c_29 h
      exact j117 m_at m_names m_status m_text m_taped m_size m_token m_from m_end m_value m_faultKind m_faultPlace m_faults m_seen m_toldParts _ _ hP hS ls (lv_sub hl [0] rfl) h
    · have h := it c_29 h
      refine lv_iconst (v := 0) hx hb dX12_army_57 (by decide) ?_
      refine lv_istore_n (lv' := [(3, .int 0), (0, .ref (A_m 0))]) hx hb dX12_army_58 rfl hl (by decide) rfl (fun ls hl => ?_)
      exact l59 fu m_at m_names m_status m_text m_taped m_size m_token m_from m_end m_value m_faultKind m_faultPlace m_faults m_seen m_toldParts 0 _ _ hP hS ls (lv_sub hl [1, 0] rfl) h
  have l31 : ∀ (n31 : Nat) (m_at : Nat → Int32) (m_names : Nat → Int64) (m_status : Int32) (m_text : Nat → Int32) (m_taped : Int32) (m_size : Int32) (m_token : Int32) (m_from : Int32) (m_end : Int32) (m_value : Int32) (m_faultKind : Int32) (m_faultPlace : Int32) (m_faults : Int32) (m_seen : Int32) (m_toldParts : Int32) (x2 : Int32) (H : Heap) (locs : List Loc) (_ : PD D A [bl_X12 cy A_m m_at m_names m_status m_top m_bottom m_sort m_trayMany m_trays m_tape m_text m_taped m_size m_token m_from m_end m_value m_faultKind m_faultPlace m_faults m_seen m_toldParts m_opened m_depth m_counted m_bestOrder m_standers m_has m_bestHas m_standerMany m_bestCouples m_bestFondness m_cameTo m_doesStandFirst m_stoodBy m_drawn m_ranSteps m_loops m_ran m_told1 m_isTold m_marks] H) (_ : va_S A s.heap H locs) (ls : Array Slot), lv_has ls 4 [(0, .ref (A_m 0)), (2, .int x2)] → f_X12_army_l31 fu m_tape x1 n31 m_at m_names m_status m_text m_taped m_size m_token m_from m_end m_value m_faultKind m_faultPlace m_faults m_seen m_toldParts x2 = some res → W p l e (headSpec (WW yX12_army cX12_army 4 (some .int)) rm_X12_army).room s m args below meth c H locs 0 0 (MQ below (Qei D res.1 A W1) args s 0 0 A) (F0 m 31 ls []) := by
    intro n31
    induction n31 with
    | zero => intro m_at m_names m_status m_text m_taped m_size m_token m_from m_end m_value m_faultKind m_faultPlace m_faults m_seen m_toldParts x2 H locs hP hS ls hl h; cases h
    | succ n31 ih31 =>
      intro m_at m_names m_status m_text m_taped m_size m_token m_from m_end m_value m_faultKind m_faultPlace m_faults m_seen m_toldParts x2 H locs hP hS ls hl h
      have h : f_X12_army_b31 fu m_tape x1 (f_X12_army_l31 fu m_tape x1 n31) m_at m_names m_status m_text m_taped m_size m_token m_from m_end m_value m_faultKind m_faultPlace m_faults m_seen m_toldParts x2 = some res := h
      unfold f_X12_army_b31 at h
      refine lv_iload_n hx hb dX12_army_31 rfl (lv_at hl 1 rfl) ?_
      refine lv_if_eq (tgt := 50) hx hb dX12_army_32 (by decide) (fun c_30 => ?_) (fun c_30 => ?_)
      · have h := it c_30 h
        exact j50 m_at m_names m_status m_text m_taped m_size m_token m_from m_end m_value m_faultKind m_faultPlace m_faults m_seen m_toldParts _ _ hP hS ls (lv_sub hl [0] rfl) h
      · have h := ie c_30 h
        refine lv_aload_n hx hb dX12_army_35 rfl (lv_at hl 0 rfl) ?_
        refine xget (i := 0) (j := 0) (k := 12) (T := TX12) hx hb ht tb_iX12 hown hX hP.1 rfl rfl rfl (by decide) tb_1241 rfl dX12_army_36 ?_
        refine lv_if_eq (tgt := 50) hx hb dX12_army_39 (by decide) (fun c_31 => ?_) (fun c_31 => ?_)
        · have h := it c_31 h
          exact j50 m_at m_names m_status m_text m_taped m_size m_token m_from m_end m_value m_faultKind m_faultPlace m_faults m_seen m_toldParts _ _ hP hS ls (lv_sub hl [0] rfl) h
        · have h := ie c_31 h
          refine lv_aload_n hx hb dX12_army_42 rfl (lv_at hl 0 rfl) ?_
          obtain ⟨z_32, e_z_32, h⟩ := bi h
          refine efViX (rest := []) ⟨hx, hb, hml, hown, ht⟩ (c_X12_armyPart l D cy fu tO aK aV A_m m_at m_names m_status m_top m_bottom m_sort m_trayMany m_trays m_tape m_text m_taped m_size m_token m_from m_end m_value m_faultKind m_faultPlace m_faults m_seen m_toldParts m_opened m_depth m_counted m_bestOrder m_standers m_has m_bestHas m_standerMany m_bestCouples m_bestFondness m_cameTo m_doesStandFirst m_stoodBy m_drawn m_ranSteps m_loops m_ran m_told1 m_isTold m_marks z_32 e_z_32 _ rfl _ rfl) (cV ht mv_X12_armyPart tb_1436 rfl rfl ⟨Nat.le_of_ble_eq_true rfl, Nat.le_of_ble_eq_true rfl⟩) hP hS hX hE [0] rfl rfl rfl rfl rfl rfl hl.1 rfl (Nat.le_of_ble_eq_true rfl) dX12_army_43 ⟨Nat.le_of_ble_eq_true rfl, Nat.le_of_ble_eq_true rfl⟩ (fun H locs hP hS => ?_)
          have hP : PD D A [bl_X12 cy A_m z_32.2.1 z_32.2.2.1 m_status m_top m_bottom m_sort m_trayMany m_trays m_tape m_text m_taped m_size z_32.2.2.2.1 z_32.2.2.2.2.1 z_32.2.2.2.2.2.1 z_32.2.2.2.2.2.2.1 m_faultKind z_32.2.2.2.2.2.2.2.1 z_32.2.2.2.2.2.2.2.2.1 m_seen z_32.2.2.2.2.2.2.2.2.2 m_opened m_depth m_counted m_bestOrder m_standers m_has m_bestHas m_standerMany m_bestCouples m_bestFondness m_cameTo m_doesStandFirst m_stoodBy m_drawn m_ranSteps m_loops m_ran m_told1 m_isTold m_marks] H := hP
          refine lv_istore_n (lv' := [(2, .int z_32.1), (0, .ref (A_m 0))]) hx hb dX12_army_46 rfl hl (by decide) rfl (fun ls hl => ?_)
          refine lv_goto (tgt := 31) hx hb dX12_army_47 (by decide) ?_
          exact ih31 z_32.2.1 z_32.2.2.1 m_status m_text m_taped m_size z_32.2.2.2.1 z_32.2.2.2.2.1 z_32.2.2.2.2.2.1 z_32.2.2.2.2.2.2.1 m_faultKind z_32.2.2.2.2.2.2.2.1 z_32.2.2.2.2.2.2.2.2.1 m_seen z_32.2.2.2.2.2.2.2.2.2 z_32.1 _ _ hP hS ls (lv_sub hl [1, 0] rfl) h
  unfold f_X12_army at h
  refine lv_aload_n hx hb dX12_army_0 rfl (lv_at hl 0 rfl) ?_
  refine lv_iload_n hx hb dX12_army_1 rfl (lv_at hl 1 rfl) ?_
  refine lv_sipush (v := 900) hx hb dX12_army_2 (by decide) ?_
  obtain ⟨z_33, e_z_33, h⟩ := bi h
  refine efVi (rest := []) ⟨hx, hb, hml, hown, ht⟩ (c_X12_begins l D cy fu A_m m_at m_names m_status m_top m_bottom m_sort m_trayMany m_trays m_tape m_text m_taped m_size m_token m_from m_end m_value m_faultKind m_faultPlace m_faults m_seen m_toldParts m_opened m_depth m_counted m_bestOrder m_standers m_has m_bestHas m_standerMany m_bestCouples m_bestFondness m_cameTo m_doesStandFirst m_stoodBy m_drawn m_ranSteps m_loops m_ran m_told1 m_isTold m_marks x1 900 z_33 e_z_33 _ rfl _ rfl) (cV ht mv_X12_begins tb_1412 rfl rfl ⟨Nat.le_of_ble_eq_true rfl, Nat.le_of_ble_eq_true rfl⟩) hP hS hX [0] rfl rfl rfl rfl rfl rfl hl.1 rfl (Nat.le_of_ble_eq_true rfl) dX12_army_5 ⟨Nat.le_of_ble_eq_true rfl, Nat.le_of_ble_eq_true rfl⟩ (fun H locs hP hS => ?_)
  have hP : PD D A [bl_X12 cy A_m m_at m_names m_status m_top m_bottom m_sort m_trayMany m_trays m_tape z_33.2.1 z_33.2.2.1 z_33.2.2.2.1 z_33.2.2.2.2.1 z_33.2.2.2.2.2.1 z_33.2.2.2.2.2.2.1 z_33.2.2.2.2.2.2.2.1 m_faultKind z_33.2.2.2.2.2.2.2.2.1 z_33.2.2.2.2.2.2.2.2.2.1 z_33.2.2.2.2.2.2.2.2.2.2 m_toldParts m_opened m_depth m_counted m_bestOrder m_standers m_has m_bestHas m_standerMany m_bestCouples m_bestFondness m_cameTo m_doesStandFirst m_stoodBy m_drawn m_ranSteps m_loops m_ran m_told1 m_isTold m_marks] H := hP
  refine lv_if_ne (tgt := 17) hx hb dX12_army_8 (by decide) (fun c_34 => ?_) (fun c_34 => ?_)
  · have h := ie c_34 h
    refine lv_aload_n hx hb dX12_army_17 rfl (lv_at hl 0 rfl) ?_
    refine lv_sipush (v := 1952) hx hb dX12_army_18 (by decide) ?_
    obtain ⟨z_35, e_z_35, h⟩ := bi h
    refine efVv (rest := []) ⟨hx, hb, hml, hown, ht⟩ (c_X12_plain l D cy fu A_m m_at m_names m_status m_top m_bottom m_sort m_trayMany m_trays m_tape z_33.2.1 z_33.2.2.1 z_33.2.2.2.1 z_33.2.2.2.2.1 z_33.2.2.2.2.2.1 z_33.2.2.2.2.2.2.1 z_33.2.2.2.2.2.2.2.1 m_faultKind z_33.2.2.2.2.2.2.2.2.1 z_33.2.2.2.2.2.2.2.2.2.1 z_33.2.2.2.2.2.2.2.2.2.2 m_toldParts m_opened m_depth m_counted m_bestOrder m_standers m_has m_bestHas m_standerMany m_bestCouples m_bestFondness m_cameTo m_doesStandFirst m_stoodBy m_drawn m_ranSteps m_loops m_ran m_told1 m_isTold m_marks 1952 z_35 e_z_35 _ rfl _ rfl) (cV ht mv_X12_plain tb_1222 rfl rfl ⟨Nat.le_of_ble_eq_true rfl, Nat.le_of_ble_eq_true rfl⟩) hP hS hX [0] rfl rfl rfl rfl rfl rfl hl.1 rfl (Nat.le_of_ble_eq_true rfl) dX12_army_21 ⟨Nat.le_of_ble_eq_true rfl, Nat.le_of_ble_eq_true rfl⟩ (fun H locs hP hS => ?_)
    have hP : PD D A [bl_X12 cy A_m z_35 m_names m_status m_top m_bottom m_sort m_trayMany m_trays m_tape z_33.2.1 z_33.2.2.1 z_33.2.2.2.1 z_33.2.2.2.2.1 z_33.2.2.2.2.2.1 z_33.2.2.2.2.2.2.1 z_33.2.2.2.2.2.2.2.1 m_faultKind z_33.2.2.2.2.2.2.2.2.1 z_33.2.2.2.2.2.2.2.2.2.1 z_33.2.2.2.2.2.2.2.2.2.2 m_toldParts m_opened m_depth m_counted m_bestOrder m_standers m_has m_bestHas m_standerMany m_bestCouples m_bestFondness m_cameTo m_doesStandFirst m_stoodBy m_drawn m_ranSteps m_loops m_ran m_told1 m_isTold m_marks] H := hP
    refine lv_aload_n hx hb dX12_army_24 rfl (lv_at hl 0 rfl) ?_
    refine lv_iconst (v := 0) hx hb dX12_army_25 (by decide) ?_
    refine xput (i := 0) (j := 0) (k := 20) (T := TX12) tyX12 tyX12_ok nmX12 hx hb ht tb_iX12 hown hX hP hS rfl rfl rfl (by decide) tb_1249 rfl rfl rfl (Nat.le_of_ble_eq_true rfl) dX12_army_26 (fun H locs hP hS => ?_)
    have hP : PD D A [bl_X12 cy A_m z_35 m_names m_status m_top m_bottom m_sort m_trayMany m_trays m_tape z_33.2.1 z_33.2.2.1 z_33.2.2.2.1 z_33.2.2.2.2.1 z_33.2.2.2.2.2.1 z_33.2.2.2.2.2.2.1 z_33.2.2.2.2.2.2.2.1 m_faultKind z_33.2.2.2.2.2.2.2.2.1 z_33.2.2.2.2.2.2.2.2.2.1 z_33.2.2.2.2.2.2.2.2.2.2 0 m_opened m_depth m_counted m_bestOrder m_standers m_has m_bestHas m_standerMany m_bestCouples m_bestFondness m_cameTo m_doesStandFirst m_stoodBy m_drawn m_ranSteps m_loops m_ran m_told1 m_isTold m_marks] H := hP
    refine lv_iconst (v := 1) hx hb dX12_army_29 (by decide) ?_
    refine lv_istore_n (lv' := [(2, .int 1), (0, .ref (A_m 0)), (1, .int x1)]) hx hb dX12_army_30 rfl hl (by decide) rfl (fun ls hl => ?_)
    exact l31 fu z_35 m_names m_status z_33.2.1 z_33.2.2.1 z_33.2.2.2.1 z_33.2.2.2.2.1 z_33.2.2.2.2.2.1 z_33.2.2.2.2.2.2.1 z_33.2.2.2.2.2.2.2.1 m_faultKind z_33.2.2.2.2.2.2.2.2.1 z_33.2.2.2.2.2.2.2.2.2.1 z_33.2.2.2.2.2.2.2.2.2.2 0 1 _ _ hP hS ls (lv_sub hl [1, 0] rfl) h
  · have h := it c_34 h
    refine lv_aload_n hx hb dX12_army_11 rfl (lv_at hl 0 rfl) ?_
    refine lv_iconst (v := 1) hx hb dX12_army_12 (by decide) ?_
    obtain ⟨z_36, e_z_36, h⟩ := bi h
    refine efVi (rest := []) ⟨hx, hb, hml, hown, ht⟩ (c_X12_refuse l D cy fu A_m m_at m_names m_status m_top m_bottom m_sort m_trayMany m_trays m_tape z_33.2.1 z_33.2.2.1 z_33.2.2.2.1 z_33.2.2.2.2.1 z_33.2.2.2.2.2.1 z_33.2.2.2.2.2.2.1 z_33.2.2.2.2.2.2.2.1 m_faultKind z_33.2.2.2.2.2.2.2.2.1 z_33.2.2.2.2.2.2.2.2.2.1 z_33.2.2.2.2.2.2.2.2.2.2 m_toldParts m_opened m_depth m_counted m_bestOrder m_standers m_has m_bestHas m_standerMany m_bestCouples m_bestFondness m_cameTo m_doesStandFirst m_stoodBy m_drawn m_ranSteps m_loops m_ran m_told1 m_isTold m_marks 1 z_36 e_z_36 _ rfl _ rfl) (cV ht mv_X12_refuse tb_1432 rfl rfl ⟨Nat.le_of_ble_eq_true rfl, Nat.le_of_ble_eq_true rfl⟩) hP hS hX [0] rfl rfl rfl rfl rfl rfl hl.1 rfl (Nat.le_of_ble_eq_true rfl) dX12_army_13 ⟨Nat.le_of_ble_eq_true rfl, Nat.le_of_ble_eq_true rfl⟩ (fun H locs hP hS => ?_)
    have hP : PD D A [bl_X12 cy A_m m_at m_names z_36.2 m_top m_bottom m_sort m_trayMany m_trays m_tape z_33.2.1 z_33.2.2.1 z_33.2.2.2.1 z_33.2.2.2.2.1 z_33.2.2.2.2.2.1 z_33.2.2.2.2.2.2.1 z_33.2.2.2.2.2.2.2.1 m_faultKind z_33.2.2.2.2.2.2.2.2.1 z_33.2.2.2.2.2.2.2.2.2.1 z_33.2.2.2.2.2.2.2.2.2.2 m_toldParts m_opened m_depth m_counted m_bestOrder m_standers m_has m_bestHas m_standerMany m_bestCouples m_bestFondness m_cameTo m_doesStandFirst m_stoodBy m_drawn m_ranSteps m_loops m_ran m_told1 m_isTold m_marks] H := hP
    cases h
    subst hW1
    exact W.iret hx hb hr (fun _ ht9 _ => ⟨⟨_, (), rfl, rfl, hPt ht9 hP.1⟩, hS.F ht9⟩) hS.2.2 dX12_army_16
theorem dX12_manTo_0 : decode cX12_manTo 0 = .ok (.aload_n 0, 1) := by decide +kernel
theorem dX12_manTo_1 : decode cX12_manTo 1 = .ok (.iconst 0, 1) := by decide +kernel
theorem dX12_manTo_2 : decode cX12_manTo 2 = .ok (.aload_n 0, 1) := by decide +kernel
theorem dX12_manTo_3 : decode cX12_manTo 3 = .ok (.getfield 7, 3) := by decide +kernel
theorem dX12_manTo_6 : decode cX12_manTo 6 = .ok (.iconst 0, 1) := by decide +kernel
theorem dX12_manTo_7 : decode cX12_manTo 7 = .ok (.iaload, 1) := by decide +kernel
theorem dX12_manTo_8 : decode cX12_manTo 8 = .ok (.iload_n 1, 1) := by decide +kernel
theorem dX12_manTo_9 : decode cX12_manTo 9 = .ok (.invokevirtual 197, 3) := by decide +kernel
theorem dX12_manTo_12 : decode cX12_manTo 12 = .ok (.ireturn, 1) := by decide +kernel
theorem mv_X12_manTo : MV yX12_manTo RX12 cX12_manTo 2 (some .boolean) 1 := ⟨tb_1518, tb_1517, ts_65, tb_16, by decide +kernel, by decide +kernel, by decide +kernel⟩
def f_X12_manTo (fu : Nat) (m_at : Nat → Int32) (m_names : Nat → Int64) (m_text : Nat → Int32) (m_size : Int32) (m_token : Int32) (m_from : Int32) (m_end : Int32) (m_value : Int32) (m_faultPlace : Int32) (m_faults : Int32) (x1 : Int32) : Option (Int32 × (Nat → Int32) × Int32 × Int32 × Int32 × Int32 × Int32 × Int32) := (rdI m_at 3648 0).bind fun y_4 => (f_X12_oldOne fu m_at m_names m_text m_size m_token m_from m_end m_value m_faultPlace m_faults 0 y_4 x1).bind fun z_5 => (bz z_5.1).bind fun _ => some (z_5.1, z_5.2.1, z_5.2.2.1, z_5.2.2.2.1, z_5.2.2.2.2.1, z_5.2.2.2.2.2.1, z_5.2.2.2.2.2.2.1, z_5.2.2.2.2.2.2.2)
abbrev rm_X12_manTo : Room := { frames := 7, cells := 0, slots := 0, locals := 155 }
set_option maxHeartbeats 4000000 in
set_option maxRecDepth 100000 in
theorem c_X12_manTo (l : Launch) (D : va_G) (cy : Nat → ClassId) (fu : Nat) (tO : Nat) (aK aV : Nat → Nat) (A_m : Nat → Nat) (m_at : Nat → Int32) (m_names : Nat → Int64) (m_status : Int32) (m_top : Int64) (m_bottom : Int64) (m_sort : Nat → Int32) (m_trayMany : Nat → Int32) (m_trays : Nat → Int64) (m_tape : Nat → Int32) (m_text : Nat → Int32) (m_taped : Int32) (m_size : Int32) (m_token : Int32) (m_from : Int32) (m_end : Int32) (m_value : Int32) (m_faultKind : Int32) (m_faultPlace : Int32) (m_faults : Int32) (m_seen : Int32) (m_toldParts : Int32) (m_opened : Nat → Int32) (m_depth : Int32) (m_counted : Int32) (m_bestOrder : Int32) (m_standers : Nat → Int32) (m_has : Nat → Int32) (m_bestHas : Nat → Int32) (m_standerMany : Int32) (m_bestCouples : Int32) (m_bestFondness : Int32) (m_cameTo : Nat → Int32) (m_doesStandFirst : Int32) (m_stoodBy : Nat → Int64) (m_drawn : Int32) (m_ranSteps : Int32) (m_loops : Nat → Int32) (m_ran : Nat → Int32) (m_told1 : Nat → Int32) (m_isTold : Int32) (m_marks : Int32) (x1 : Int32) (res : Int32 × (Nat → Int32) × Int32 × Int32 × Int32 × Int32 × Int32 × Int32) (h : f_X12_manTo fu m_at m_names m_text m_size m_token m_from m_end m_value m_faultPlace m_faults x1 = some res) (A : Nat → Prop) (hA : A = adr [bl_X12 cy A_m m_at m_names m_status m_top m_bottom m_sort m_trayMany m_trays m_tape m_text m_taped m_size m_token m_from m_end m_value m_faultKind m_faultPlace m_faults m_seen m_toldParts m_opened m_depth m_counted m_bestOrder m_standers m_has m_bestHas m_standerMany m_bestCouples m_bestFondness m_cameTo m_doesStandFirst m_stoodBy m_drawn m_ranSteps m_loops m_ran m_told1 m_isTold m_marks]) (W1 : List va_W) (hW1 : W1 = [bl_X12 cy A_m res.2.1 m_names m_status m_top m_bottom m_sort m_trayMany m_trays m_tape m_text m_taped m_size res.2.2.1 res.2.2.2.1 res.2.2.2.2.1 res.2.2.2.2.2.1 m_faultKind res.2.2.2.2.2.2.1 res.2.2.2.2.2.2.2 m_seen m_toldParts m_opened m_depth m_counted m_bestOrder m_standers m_has m_bestHas m_standerMany m_bestCouples m_bestFondness m_cameTo m_doesStandFirst m_stoodBy m_drawn m_ranSteps m_loops m_ran m_told1 m_isTold m_marks]) : Met l yX12_manTo (WW yX12_manTo cX12_manTo 2 (some .boolean)) rm_X12_manTo (EdX D cy tO aK aV A [.ref (A_m 0), .int x1] [bl_X12 cy A_m m_at m_names m_status m_top m_bottom m_sort m_trayMany m_trays m_tape m_text m_taped m_size m_token m_from m_end m_value m_faultKind m_faultPlace m_faults m_seen m_toldParts m_opened m_depth m_counted m_bestOrder m_standers m_has m_bestHas m_standerMany m_bestCouples m_bestFondness m_cameTo m_doesStandFirst m_stoodBy m_drawn m_ranSteps m_loops m_ran m_told1 m_isTold m_marks]) (Qei D res.1 A W1) 0 0 A := by
  refine Met.ofW (cc := cX12_manTo) (maxL := 2) (ret := (some .boolean)) (by decide) rfl ?_
  intro p e s m args below meth c s₁ B hml hv
  obtain ⟨hargs, hP, hX, hD0, hE⟩ := hv
  have hx := B.exec
  have hb := B.bytes
  have hr := B.returns
  have ht : ∀ w ∈ lw_gd, w.before args s = true := fun w hw => atoms_spec (ws := WW yX12_manTo cX12_manTo 2 (some .boolean)) B.pre w (List.mem_cons_of_mem _ hw)
  have hown : s.vm.findClass RX12 = some m.cls := findClass_of_methodNamed B.named
  have hlocks := B.notSynchronized
  have hP : PD D A [bl_X12 cy A_m m_at m_names m_status m_top m_bottom m_sort m_trayMany m_trays m_tape m_text m_taped m_size m_token m_from m_end m_value m_faultKind m_faultPlace m_faults m_seen m_toldParts m_opened m_depth m_counted m_bestOrder m_standers m_has m_bestHas m_standerMany m_bestCouples m_bestFondness m_cameTo m_doesStandFirst m_stoodBy m_drawn m_ranSteps m_loops m_ran m_told1 m_isTold m_marks] s.heap := ⟨hP, by rw [hA]; exact hD0.own⟩
  have hS : va_S A s.heap s.heap [] := va_S.rf
  obtain ⟨ls, hl, hent⟩ := ent (m := m) (n := 2) hargs (Nat.le_of_ble_eq_true rfl) (lv := [(0, .ref (A_m 0)), (1, .int x1)]) rfl
  rw [hent]
  clear hent
  unfold f_X12_manTo at h
  refine lv_aload_n hx hb dX12_manTo_0 rfl (lv_at hl 0 rfl) ?_
  refine lv_iconst (v := 0) hx hb dX12_manTo_1 (by decide) ?_
  refine lv_aload_n hx hb dX12_manTo_2 rfl (lv_at hl 0 rfl) ?_
  refine xget (i := 0) (j := 0) (k := 0) (T := TX12) hx hb ht tb_iX12 hown hX hP.1 rfl rfl rfl (by decide) tb_1229 rfl dX12_manTo_3 ?_
  refine lv_iconst (v := 0) hx hb dX12_manTo_6 (by decide) ?_
  obtain ⟨y_4, e_y_4, h⟩ := bi h
  refine xiald (i0 := 0) (j0 := 1) hx hb hX hP.1 rfl rfl e_y_4 dX12_manTo_7 ?_
  refine lv_iload_n hx hb dX12_manTo_8 rfl (lv_at hl 1 rfl) ?_
  obtain ⟨z_5, e_z_5, h⟩ := bi h
  refine efViX (rest := []) ⟨hx, hb, hml, hown, ht⟩ (c_X12_oldOne l D cy fu tO aK aV A_m m_at m_names m_status m_top m_bottom m_sort m_trayMany m_trays m_tape m_text m_taped m_size m_token m_from m_end m_value m_faultKind m_faultPlace m_faults m_seen m_toldParts m_opened m_depth m_counted m_bestOrder m_standers m_has m_bestHas m_standerMany m_bestCouples m_bestFondness m_cameTo m_doesStandFirst m_stoodBy m_drawn m_ranSteps m_loops m_ran m_told1 m_isTold m_marks 0 y_4 x1 z_5 e_z_5 _ rfl _ rfl) (cV ht mv_X12_oldOne tb_1483 rfl rfl ⟨Nat.le_of_ble_eq_true rfl, Nat.le_of_ble_eq_true rfl⟩) hP hS hX hE [0] rfl rfl rfl rfl rfl rfl hl.1 rfl (Nat.le_of_ble_eq_true rfl) dX12_manTo_9 ⟨Nat.le_of_ble_eq_true rfl, Nat.le_of_ble_eq_true rfl⟩ (fun H locs hP hS => ?_)
  have hP : PD D A [bl_X12 cy A_m z_5.2.1 m_names m_status m_top m_bottom m_sort m_trayMany m_trays m_tape m_text m_taped m_size z_5.2.2.1 z_5.2.2.2.1 z_5.2.2.2.2.1 z_5.2.2.2.2.2.1 m_faultKind z_5.2.2.2.2.2.2.1 z_5.2.2.2.2.2.2.2 m_seen m_toldParts m_opened m_depth m_counted m_bestOrder m_standers m_has m_bestHas m_standerMany m_bestCouples m_bestFondness m_cameTo m_doesStandFirst m_stoodBy m_drawn m_ranSteps m_loops m_ran m_told1 m_isTold m_marks] H := hP
  obtain ⟨b_6, e_b_6, h⟩ := bi h
  obtain ⟨-, n_b_6, -⟩ := bz_ok e_b_6
  cases h
  subst hW1
  exact W.zret hx hb hr n_b_6 (fun _ ht9 _ => ⟨⟨_, (), rfl, rfl, hPt ht9 hP.1⟩, hS.F ht9⟩) hS.2.2 dX12_manTo_12

theorem dX7_appendFour_0 : decode cX7_appendFour 0 = .ok (.bipush 24, 2) := by decide +kernel
theorem dX7_appendFour_2 : decode cX7_appendFour 2 = .ok (.istore_n 2, 1) := by decide +kernel
theorem dX7_appendFour_3 : decode cX7_appendFour 3 = .ok (.iload_n 2, 1) := by decide +kernel
theorem dX7_appendFour_4 : decode cX7_appendFour 4 = .ok (.ifCond .lt 42, 3) := by decide +kernel
theorem dX7_appendFour_7 : decode cX7_appendFour 7 = .ok (.aload_n 0, 1) := by decide +kernel
theorem dX7_appendFour_8 : decode cX7_appendFour 8 = .ok (.getfield 19, 3) := by decide +kernel
theorem dX7_appendFour_11 : decode cX7_appendFour 11 = .ok (.sipush 900, 3) := by decide +kernel
theorem dX7_appendFour_14 : decode cX7_appendFour 14 = .ok (.if_icmp .ge 32, 3) := by decide +kernel
theorem dX7_appendFour_17 : decode cX7_appendFour 17 = .ok (.aload_n 0, 1) := by decide +kernel
theorem dX7_appendFour_18 : decode cX7_appendFour 18 = .ok (.getfield 9, 3) := by decide +kernel
theorem dX7_appendFour_21 : decode cX7_appendFour 21 = .ok (.aload_n 0, 1) := by decide +kernel
theorem dX7_appendFour_22 : decode cX7_appendFour 22 = .ok (.getfield 19, 3) := by decide +kernel
theorem dX7_appendFour_25 : decode cX7_appendFour 25 = .ok (.iload_n 1, 1) := by decide +kernel
theorem dX7_appendFour_26 : decode cX7_appendFour 26 = .ok (.iload_n 2, 1) := by decide +kernel
theorem dX7_appendFour_27 : decode cX7_appendFour 27 = .ok (.ishr, 1) := by decide +kernel
theorem dX7_appendFour_28 : decode cX7_appendFour 28 = .ok (.i2b, 1) := by decide +kernel
theorem dX7_appendFour_29 : decode cX7_appendFour 29 = .ok (.bastore, 1) := by decide +kernel
theorem dX7_appendFour_30 : decode cX7_appendFour 30 = .ok (.aload_n 0, 1) := by decide +kernel
theorem dX7_appendFour_31 : decode cX7_appendFour 31 = .ok (.dup, 1) := by decide +kernel
theorem dX7_appendFour_32 : decode cX7_appendFour 32 = .ok (.getfield 19, 3) := by decide +kernel
theorem dX7_appendFour_35 : decode cX7_appendFour 35 = .ok (.iconst 1, 1) := by decide +kernel
theorem dX7_appendFour_36 : decode cX7_appendFour 36 = .ok (.iadd, 1) := by decide +kernel
theorem dX7_appendFour_37 : decode cX7_appendFour 37 = .ok (.putfield 19, 3) := by decide +kernel
theorem dX7_appendFour_40 : decode cX7_appendFour 40 = .ok (.iinc 2 (-8), 3) := by decide +kernel
theorem dX7_appendFour_43 : decode cX7_appendFour 43 = .ok (.goto (-40), 3) := by decide +kernel
theorem dX7_appendFour_46 : decode cX7_appendFour 46 = .ok (.return_, 1) := by decide +kernel
theorem mv_X7_appendFour : MV yX7_appendFour RX7 cX7_appendFour 3 none 1 := ⟨tb_569, tb_568, ts_5, tb_5, by decide +kernel, by decide +kernel, by decide +kernel⟩
def f_X7_appendFour_b3 (fu : Nat) (x1 : Int32) (k3 : (Nat → Int32) → Int32 → Int32 → (Option ((Nat → Int32) × Int32))) (t_bytes : Nat → Int32) (t_length : Int32) (x2 : Int32) : Option ((Nat → Int32) × Int32) := (if x2 < 0 then some (t_bytes, t_length) else (if 900 ≤ t_length then some (t_bytes, t_length) else (wrI t_bytes 900 t_length (vp_nar .byte ((Int32.toInt8 (x1 >>> (x2 &&& 31))).toInt32))).bind fun t_bytes_8 => bnd (t_length + 1) fun t_length_9 => bnd (x2 + (-8)) fun x2_10 => k3 t_bytes_8 t_length_9 x2_10))
def f_X7_appendFour_l3 (fu : Nat) (x1 : Int32) : Nat → (Nat → Int32) → Int32 → Int32 → (Option ((Nat → Int32) × Int32))
  | 0, _, _, _ => none
  | n + 1, t_bytes, t_length, x2 => f_X7_appendFour_b3 fu x1 (f_X7_appendFour_l3 fu x1 n) t_bytes t_length x2
def f_X7_appendFour (fu : Nat) (t_bytes : Nat → Int32) (t_length : Int32) (x1 : Int32) : Option ((Nat → Int32) × Int32) := f_X7_appendFour_l3 fu x1 fu t_bytes t_length 24
abbrev rm_X7_appendFour : Room := { frames := 0, cells := 0, slots := 0, locals := 0 }
set_option maxHeartbeats 4000000 in
set_option maxRecDepth 100000 in
theorem c_X7_appendFour (l : Launch) (D : va_G) (cy : Nat → ClassId) (fu : Nat) (A_t : Nat → Nat) (t_bytes : Nat → Int32) (t_wordCodes : Nat → Int64) (t_length : Int32) (t_kind : Int32) (t_start : Int32) (t_value : Int32) (t_word : Int32) (t_name : Int64) (t_end : Int32) (t_at : Int32) (x1 : Int32) (res : (Nat → Int32) × Int32) (h : f_X7_appendFour fu t_bytes t_length x1 = some res) (A : Nat → Prop) (hA : A = adr [bl_X7 cy A_t t_bytes t_wordCodes t_length t_kind t_start t_value t_word t_name t_end t_at]) (W1 : List va_W) (hW1 : W1 = [bl_X7 cy A_t res.1 t_wordCodes res.2 t_kind t_start t_value t_word t_name t_end t_at]) : Met l yX7_appendFour (WW yX7_appendFour cX7_appendFour 3 none) rm_X7_appendFour (Ed D cy [.ref (A_t 0), .int x1] [bl_X7 cy A_t t_bytes t_wordCodes t_length t_kind t_start t_value t_word t_name t_end t_at]) (Qev D A W1) 0 0 A := by
  refine Met.ofW (cc := cX7_appendFour) (maxL := 3) (ret := none) (by decide) rfl ?_
  intro p e s m args below meth c s₁ B hml hv
  obtain ⟨hargs, hP, hX, hD0⟩ := hv
  have hx := B.exec
  have hb := B.bytes
  have hr := B.returns
  have ht : ∀ w ∈ lw_gd, w.before args s = true := fun w hw => atoms_spec (ws := WW yX7_appendFour cX7_appendFour 3 none) B.pre w (List.mem_cons_of_mem _ hw)
  have hown : s.vm.findClass RX7 = some m.cls := findClass_of_methodNamed B.named
  have hlocks := B.notSynchronized
  have hP : PD D A [bl_X7 cy A_t t_bytes t_wordCodes t_length t_kind t_start t_value t_word t_name t_end t_at] s.heap := ⟨hP, by rw [hA]; exact hD0.own⟩
  have hS : va_S A s.heap s.heap [] := va_S.rf
  obtain ⟨ls, hl, hent⟩ := ent (m := m) (n := 3) hargs (Nat.le_of_ble_eq_true rfl) (lv := [(0, .ref (A_t 0)), (1, .int x1)]) rfl
  rw [hent]
  clear hent
  have l3 : ∀ (n3 : Nat) (t_bytes : Nat → Int32) (t_length : Int32) (x2 : Int32) (H : Heap) (locs : List Loc) (_ : PD D A [bl_X7 cy A_t t_bytes t_wordCodes t_length t_kind t_start t_value t_word t_name t_end t_at] H) (_ : va_S A s.heap H locs) (ls : Array Slot), lv_has ls 3 [(0, .ref (A_t 0)), (1, .int x1), (2, .int x2)] → f_X7_appendFour_l3 fu x1 n3 t_bytes t_length x2 = some res → W p l e (headSpec (WW yX7_appendFour cX7_appendFour 3 none) rm_X7_appendFour).room s m args below meth c H locs 0 0 (MQ below (Qev D A W1) args s 0 0 A) (F0 m 3 ls []) := by
    intro n3
    induction n3 with
    | zero => intro t_bytes t_length x2 H locs hP hS ls hl h; cases h
    | succ n3 ih3 =>
      intro t_bytes t_length x2 H locs hP hS ls hl h
      have h : f_X7_appendFour_b3 fu x1 (f_X7_appendFour_l3 fu x1 n3) t_bytes t_length x2 = some res := h
      unfold f_X7_appendFour_b3 at h
      refine lv_iload_n hx hb dX7_appendFour_3 rfl (lv_at hl 2 rfl) ?_
      refine lv_if_lt (tgt := 46) hx hb dX7_appendFour_4 (by decide) (fun c_6 => ?_) (fun c_6 => ?_)
      · have h := it c_6 h
        cases h
        subst hW1
        exact W.vret hx hb hr (fun _ ht9 _ => ⟨⟨(), rfl, trivial, hPt ht9 hP.1⟩, hS.F ht9⟩) hS.2.2 dX7_appendFour_46
      · have h := ie c_6 h
        refine lv_aload_n hx hb dX7_appendFour_7 rfl (lv_at hl 0 rfl) ?_
        refine xget (i := 0) (j := 0) (k := 2) (T := TX7) hx hb ht tb_iX7 hown hX hP.1 rfl rfl rfl (by decide) tb_220 rfl dX7_appendFour_8 ?_
        refine lv_sipush (v := 900) hx hb dX7_appendFour_11 (by decide) ?_
        refine lv_icmp_ge (tgt := 46) hx hb dX7_appendFour_14 (by decide) (fun c_7 => ?_) (fun c_7 => ?_)
        · have h := it c_7 h
          cases h
          subst hW1
          exact W.vret hx hb hr (fun _ ht9 _ => ⟨⟨(), rfl, trivial, hPt ht9 hP.1⟩, hS.F ht9⟩) hS.2.2 dX7_appendFour_46
        · have h := ie c_7 h
          refine lv_aload_n hx hb dX7_appendFour_17 rfl (lv_at hl 0 rfl) ?_
          refine xget (i := 0) (j := 0) (k := 0) (T := TX7) hx hb ht tb_iX7 hown hX hP.1 rfl rfl rfl (by decide) tb_218 rfl dX7_appendFour_18 ?_
          refine lv_aload_n hx hb dX7_appendFour_21 rfl (lv_at hl 0 rfl) ?_
          refine xget (i := 0) (j := 0) (k := 2) (T := TX7) hx hb ht tb_iX7 hown hX hP.1 rfl rfl rfl (by decide) tb_220 rfl dX7_appendFour_22 ?_
          refine lv_iload_n hx hb dX7_appendFour_25 rfl (lv_at hl 1 rfl) ?_
          refine lv_iload_n hx hb dX7_appendFour_26 rfl (lv_at hl 2 rfl) ?_
          refine lv_ishr hx hb dX7_appendFour_27 ?_
          refine lv_i2b (v := (Int32.toInt8 (x1 >>> (x2 &&& 31))).toInt32) hx hb dX7_appendFour_28 rfl ?_
          obtain ⟨t_bytes_8, e_t_bytes_8, h⟩ := bi h
          refine xbast (i0 := 0) (j0 := 1) hx hb hX hP hS rfl rfl e_t_bytes_8 dX7_appendFour_29 (fun H locs hP hS => ?_)
          have hP : PD D A [bl_X7 cy A_t t_bytes_8 t_wordCodes t_length t_kind t_start t_value t_word t_name t_end t_at] H := hP
          refine lv_aload_n hx hb dX7_appendFour_30 rfl (lv_at hl 0 rfl) ?_
          refine lv_dup hx hb dX7_appendFour_31 rfl ?_
          refine xget (i := 0) (j := 0) (k := 2) (T := TX7) hx hb ht tb_iX7 hown hX hP.1 rfl rfl rfl (by decide) tb_220 rfl dX7_appendFour_32 ?_
          refine lv_iconst (v := 1) hx hb dX7_appendFour_35 (by decide) ?_
          refine lv_iadd hx hb dX7_appendFour_36 ?_
          refine lv_topi (fun t_length_9 e_t_length_9 => ?_)
          have h := bn e_t_length_9 h
          refine xput (i := 0) (j := 0) (k := 2) (T := TX7) tyX7 tyX7_ok nmX7 hx hb ht tb_iX7 hown hX hP hS rfl rfl rfl (by decide) tb_220 rfl rfl rfl (Nat.le_of_ble_eq_true rfl) dX7_appendFour_37 (fun H locs hP hS => ?_)
          have hP : PD D A [bl_X7 cy A_t t_bytes_8 t_wordCodes t_length_9 t_kind t_start t_value t_word t_name t_end t_at] H := hP
          obtain ⟨x2_10, e_x2_10⟩ : ∃ y : Int32, y = x2 + (-8) := ⟨_, rfl⟩
          have h := bn e_x2_10 h
          refine lv_iinc (v := x2_10) (lv' := [(2, .int x2_10), (0, .ref (A_t 0)), (1, .int x1)]) hx hb dX7_appendFour_40 hl (k := 2) rfl (by rw [e_x2_10]; rfl) (by decide) rfl (fun ls hl => ?_)
          refine lv_goto (tgt := 3) hx hb dX7_appendFour_43 (by decide) ?_
          exact ih3 t_bytes_8 t_length_9 x2_10 _ _ hP hS ls (lv_sub hl [1, 2, 0] rfl) h
  unfold f_X7_appendFour at h
  refine lv_bipush (v := 24) hx hb dX7_appendFour_0 (by decide) ?_
  refine lv_istore_n (lv' := [(2, .int 24), (0, .ref (A_t 0)), (1, .int x1)]) hx hb dX7_appendFour_2 rfl hl (by decide) rfl (fun ls hl => ?_)
  exact l3 fu t_bytes t_length 24 _ _ hP hS ls (lv_sub hl [1, 2, 0] rfl) h
theorem dX7_append_0 : decode cX7_append 0 = .ok (.aload_n 0, 1) := by decide +kernel
theorem dX7_append_1 : decode cX7_append 1 = .ok (.getfield 19, 3) := by decide +kernel
theorem dX7_append_4 : decode cX7_append 4 = .ok (.sipush 880, 3) := by decide +kernel
theorem dX7_append_7 : decode cX7_append 7 = .ok (.if_icmp .le 5, 3) := by decide +kernel
theorem dX7_append_10 : decode cX7_append 10 = .ok (.iconst (-1), 1) := by decide +kernel
theorem dX7_append_11 : decode cX7_append 11 = .ok (.ireturn, 1) := by decide +kernel
theorem dX7_append_12 : decode cX7_append 12 = .ok (.aload_n 0, 1) := by decide +kernel
theorem dX7_append_13 : decode cX7_append 13 = .ok (.iload_n 1, 1) := by decide +kernel
theorem dX7_append_14 : decode cX7_append 14 = .ok (.invokevirtual 58, 3) := by decide +kernel
theorem dX7_append_17 : decode cX7_append 17 = .ok (.aload_n 0, 1) := by decide +kernel
theorem dX7_append_18 : decode cX7_append 18 = .ok (.iload_n 2, 1) := by decide +kernel
theorem dX7_append_19 : decode cX7_append 19 = .ok (.invokevirtual 58, 3) := by decide +kernel
theorem dX7_append_22 : decode cX7_append 22 = .ok (.aload_n 0, 1) := by decide +kernel
theorem dX7_append_23 : decode cX7_append 23 = .ok (.iload_n 3, 1) := by decide +kernel
theorem dX7_append_24 : decode cX7_append 24 = .ok (.invokevirtual 58, 3) := by decide +kernel
theorem dX7_append_27 : decode cX7_append 27 = .ok (.aload_n 0, 1) := by decide +kernel
theorem dX7_append_28 : decode cX7_append 28 = .ok (.iload 4, 2) := by decide +kernel
theorem dX7_append_30 : decode cX7_append 30 = .ok (.invokevirtual 58, 3) := by decide +kernel
theorem dX7_append_33 : decode cX7_append 33 = .ok (.aload_n 0, 1) := by decide +kernel
theorem dX7_append_34 : decode cX7_append 34 = .ok (.iload 5, 2) := by decide +kernel
theorem dX7_append_36 : decode cX7_append 36 = .ok (.invokevirtual 58, 3) := by decide +kernel
theorem dX7_append_39 : decode cX7_append 39 = .ok (.aload_n 0, 1) := by decide +kernel
theorem dX7_append_40 : decode cX7_append 40 = .ok (.getfield 19, 3) := by decide +kernel
theorem dX7_append_43 : decode cX7_append 43 = .ok (.ireturn, 1) := by decide +kernel
theorem mv_X7_append : MV yX7_append RX7 cX7_append 6 (some .int) 5 := ⟨tb_565, tb_563, tb_564, tb_5, by decide +kernel, by decide +kernel, by decide +kernel⟩
def f_X7_append (fu : Nat) (t_bytes : Nat → Int32) (t_length : Int32) (x1 : Int32) (x2 : Int32) (x3 : Int32) (x4 : Int32) (x5 : Int32) : Option (Int32 × (Nat → Int32) × Int32) := (if t_length ≤ 880 then (f_X7_appendFour fu t_bytes t_length x1).bind fun z_8 => (f_X7_appendFour fu z_8.1 z_8.2 x2).bind fun z_9 => (f_X7_appendFour fu z_9.1 z_9.2 x3).bind fun z_10 => (f_X7_appendFour fu z_10.1 z_10.2 x4).bind fun z_11 => (f_X7_appendFour fu z_11.1 z_11.2 x5).bind fun z_12 => some (z_12.2, z_12.1, z_12.2) else some ((-1), t_bytes, t_length))
abbrev rm_X7_append : Room := { frames := 1, cells := 0, slots := 0, locals := 22 }
set_option maxHeartbeats 4000000 in
set_option maxRecDepth 100000 in
theorem c_X7_append (l : Launch) (D : va_G) (cy : Nat → ClassId) (fu : Nat) (A_t : Nat → Nat) (t_bytes : Nat → Int32) (t_wordCodes : Nat → Int64) (t_length : Int32) (t_kind : Int32) (t_start : Int32) (t_value : Int32) (t_word : Int32) (t_name : Int64) (t_end : Int32) (t_at : Int32) (x1 : Int32) (x2 : Int32) (x3 : Int32) (x4 : Int32) (x5 : Int32) (res : Int32 × (Nat → Int32) × Int32) (h : f_X7_append fu t_bytes t_length x1 x2 x3 x4 x5 = some res) (A : Nat → Prop) (hA : A = adr [bl_X7 cy A_t t_bytes t_wordCodes t_length t_kind t_start t_value t_word t_name t_end t_at]) (W1 : List va_W) (hW1 : W1 = [bl_X7 cy A_t res.2.1 t_wordCodes res.2.2 t_kind t_start t_value t_word t_name t_end t_at]) : Met l yX7_append (WW yX7_append cX7_append 6 (some .int)) rm_X7_append (Ed D cy [.ref (A_t 0), .int x1, .int x2, .int x3, .int x4, .int x5] [bl_X7 cy A_t t_bytes t_wordCodes t_length t_kind t_start t_value t_word t_name t_end t_at]) (Qei D res.1 A W1) 0 0 A := by
  refine Met.ofW (cc := cX7_append) (maxL := 6) (ret := (some .int)) (by decide) rfl ?_
  intro p e s m args below meth c s₁ B hml hv
  obtain ⟨hargs, hP, hX, hD0⟩ := hv
  have hx := B.exec
  have hb := B.bytes
  have hr := B.returns
  have ht : ∀ w ∈ lw_gd, w.before args s = true := fun w hw => atoms_spec (ws := WW yX7_append cX7_append 6 (some .int)) B.pre w (List.mem_cons_of_mem _ hw)
  have hown : s.vm.findClass RX7 = some m.cls := findClass_of_methodNamed B.named
  have hlocks := B.notSynchronized
  have hP : PD D A [bl_X7 cy A_t t_bytes t_wordCodes t_length t_kind t_start t_value t_word t_name t_end t_at] s.heap := ⟨hP, by rw [hA]; exact hD0.own⟩
  have hS : va_S A s.heap s.heap [] := va_S.rf
  obtain ⟨ls, hl, hent⟩ := ent (m := m) (n := 6) hargs (Nat.le_of_ble_eq_true rfl) (lv := [(0, .ref (A_t 0)), (1, .int x1), (2, .int x2), (3, .int x3), (4, .int x4), (5, .int x5)]) rfl
  rw [hent]
  clear hent
  unfold f_X7_append at h
  refine lv_aload_n hx hb dX7_append_0 rfl (lv_at hl 0 rfl) ?_
  refine xget (i := 0) (j := 0) (k := 2) (T := TX7) hx hb ht tb_iX7 hown hX hP.1 rfl rfl rfl (by decide) tb_220 rfl dX7_append_1 ?_
  refine lv_sipush (v := 880) hx hb dX7_append_4 (by decide) ?_
  refine lv_icmp_le (tgt := 12) hx hb dX7_append_7 (by decide) (fun c_7 => ?_) (fun c_7 => ?_)
  · have h := it c_7 h
    refine lv_aload_n hx hb dX7_append_12 rfl (lv_at hl 0 rfl) ?_
    refine lv_iload_n hx hb dX7_append_13 rfl (lv_at hl 1 rfl) ?_
    obtain ⟨z_8, e_z_8, h⟩ := bi h
    refine efVv (rest := []) ⟨hx, hb, hml, hown, ht⟩ (c_X7_appendFour l D cy fu A_t t_bytes t_wordCodes t_length t_kind t_start t_value t_word t_name t_end t_at x1 z_8 e_z_8 _ rfl _ rfl) (cV ht mv_X7_appendFour tb_566 rfl rfl ⟨Nat.le_of_ble_eq_true rfl, Nat.le_of_ble_eq_true rfl⟩) hP hS hX [0] rfl rfl rfl rfl rfl rfl hl.1 rfl (Nat.le_of_ble_eq_true rfl) dX7_append_14 ⟨Nat.le_of_ble_eq_true rfl, Nat.le_of_ble_eq_true rfl⟩ (fun H locs hP hS => ?_)
    have hP : PD D A [bl_X7 cy A_t z_8.1 t_wordCodes z_8.2 t_kind t_start t_value t_word t_name t_end t_at] H := hP
    refine lv_aload_n hx hb dX7_append_17 rfl (lv_at hl 0 rfl) ?_
    refine lv_iload_n hx hb dX7_append_18 rfl (lv_at hl 2 rfl) ?_
    obtain ⟨z_9, e_z_9, h⟩ := bi h
    refine efVv (rest := []) ⟨hx, hb, hml, hown, ht⟩ (c_X7_appendFour l D cy fu A_t z_8.1 t_wordCodes z_8.2 t_kind t_start t_value t_word t_name t_end t_at x2 z_9 e_z_9 _ rfl _ rfl) (cV ht mv_X7_appendFour tb_566 rfl rfl ⟨Nat.le_of_ble_eq_true rfl, Nat.le_of_ble_eq_true rfl⟩) hP hS hX [0] rfl rfl rfl rfl rfl rfl hl.1 rfl (Nat.le_of_ble_eq_true rfl) dX7_append_19 ⟨Nat.le_of_ble_eq_true rfl, Nat.le_of_ble_eq_true rfl⟩ (fun H locs hP hS => ?_)
    have hP : PD D A [bl_X7 cy A_t z_9.1 t_wordCodes z_9.2 t_kind t_start t_value t_word t_name t_end t_at] H := hP
    refine lv_aload_n hx hb dX7_append_22 rfl (lv_at hl 0 rfl) ?_
    refine lv_iload_n hx hb dX7_append_23 rfl (lv_at hl 3 rfl) ?_
    obtain ⟨z_10, e_z_10, h⟩ := bi h
    refine efVv (rest := []) ⟨hx, hb, hml, hown, ht⟩ (c_X7_appendFour l D cy fu A_t z_9.1 t_wordCodes z_9.2 t_kind t_start t_value t_word t_name t_end t_at x3 z_10 e_z_10 _ rfl _ rfl) (cV ht mv_X7_appendFour tb_566 rfl rfl ⟨Nat.le_of_ble_eq_true rfl, Nat.le_of_ble_eq_true rfl⟩) hP hS hX [0] rfl rfl rfl rfl rfl rfl hl.1 rfl (Nat.le_of_ble_eq_true rfl) dX7_append_24 ⟨Nat.le_of_ble_eq_true rfl, Nat.le_of_ble_eq_true rfl⟩ (fun H locs hP hS => ?_)
    have hP : PD D A [bl_X7 cy A_t z_10.1 t_wordCodes z_10.2 t_kind t_start t_value t_word t_name t_end t_at] H := hP
    refine lv_aload_n hx hb dX7_append_27 rfl (lv_at hl 0 rfl) ?_
    refine lv_iload hx hb dX7_append_28 (lv_at hl 4 rfl) ?_
    obtain ⟨z_11, e_z_11, h⟩ := bi h
    refine efVv (rest := []) ⟨hx, hb, hml, hown, ht⟩ (c_X7_appendFour l D cy fu A_t z_10.1 t_wordCodes z_10.2 t_kind t_start t_value t_word t_name t_end t_at x4 z_11 e_z_11 _ rfl _ rfl) (cV ht mv_X7_appendFour tb_566 rfl rfl ⟨Nat.le_of_ble_eq_true rfl, Nat.le_of_ble_eq_true rfl⟩) hP hS hX [0] rfl rfl rfl rfl rfl rfl hl.1 rfl (Nat.le_of_ble_eq_true rfl) dX7_append_30 ⟨Nat.le_of_ble_eq_true rfl, Nat.le_of_ble_eq_true rfl⟩ (fun H locs hP hS => ?_)
    have hP : PD D A [bl_X7 cy A_t z_11.1 t_wordCodes z_11.2 t_kind t_start t_value t_word t_name t_end t_at] H := hP
    refine lv_aload_n hx hb dX7_append_33 rfl (lv_at hl 0 rfl) ?_
    refine lv_iload hx hb dX7_append_34 (lv_at hl 5 rfl) ?_
    obtain ⟨z_12, e_z_12, h⟩ := bi h
    refine efVv (rest := []) ⟨hx, hb, hml, hown, ht⟩ (c_X7_appendFour l D cy fu A_t z_11.1 t_wordCodes z_11.2 t_kind t_start t_value t_word t_name t_end t_at x5 z_12 e_z_12 _ rfl _ rfl) (cV ht mv_X7_appendFour tb_566 rfl rfl ⟨Nat.le_of_ble_eq_true rfl, Nat.le_of_ble_eq_true rfl⟩) hP hS hX [0] rfl rfl rfl rfl rfl rfl hl.1 rfl (Nat.le_of_ble_eq_true rfl) dX7_append_36 ⟨Nat.le_of_ble_eq_true rfl, Nat.le_of_ble_eq_true rfl⟩ (fun H locs hP hS => ?_)
    have hP : PD D A [bl_X7 cy A_t z_12.1 t_wordCodes z_12.2 t_kind t_start t_value t_word t_name t_end t_at] H := hP
    refine lv_aload_n hx hb dX7_append_39 rfl (lv_at hl 0 rfl) ?_
    refine xget (i := 0) (j := 0) (k := 2) (T := TX7) hx hb ht tb_iX7 hown hX hP.1 rfl rfl rfl (by decide) tb_220 rfl dX7_append_40 ?_
    cases h
    subst hW1
    exact W.iret hx hb hr (fun _ ht9 _ => ⟨⟨_, (), rfl, rfl, hPt ht9 hP.1⟩, hS.F ht9⟩) hS.2.2 dX7_append_43
  · have h := ie c_7 h
    refine lv_iconst (v := (-1)) hx hb dX7_append_10 (by decide) ?_
    cases h
    subst hW1
    exact W.iret hx hb hr (fun _ ht9 _ => ⟨⟨_, (), rfl, rfl, hPt ht9 hP.1⟩, hS.F ht9⟩) hS.2.2 dX7_append_11
theorem dX7_rewind_0 : decode cX7_rewind 0 = .ok (.aload_n 0, 1) := by decide +kernel
theorem dX7_rewind_1 : decode cX7_rewind 1 = .ok (.iconst 0, 1) := by decide +kernel
theorem dX7_rewind_2 : decode cX7_rewind 2 = .ok (.iload_n 1, 1) := by decide +kernel
theorem dX7_rewind_3 : decode cX7_rewind 3 = .ok (.sipush 900, 3) := by decide +kernel
theorem dX7_rewind_6 : decode cX7_rewind 6 = .ok (.invokestatic 62, 3) := by decide +kernel
theorem dX7_rewind_9 : decode cX7_rewind 9 = .ok (.invokestatic 68, 3) := by decide +kernel
theorem dX7_rewind_12 : decode cX7_rewind 12 = .ok (.putfield 39, 3) := by decide +kernel
theorem dX7_rewind_15 : decode cX7_rewind 15 = .ok (.aload_n 0, 1) := by decide +kernel
theorem dX7_rewind_16 : decode cX7_rewind 16 = .ok (.iconst 0, 1) := by decide +kernel
theorem dX7_rewind_17 : decode cX7_rewind 17 = .ok (.putfield 42, 3) := by decide +kernel
theorem dX7_rewind_20 : decode cX7_rewind 20 = .ok (.return_, 1) := by decide +kernel
theorem mv_X7_rewind : MV yX7_rewind RX7 cX7_rewind 2 none 1 := ⟨tb_581, tb_579, tb_580, tb_5, by decide +kernel, by decide +kernel, by decide +kernel⟩
def f_X7_rewind (fu : Nat) (t_end : Int32) (t_at : Int32) (x1 : Int32) : Option (Int32 × Int32) := bnd (if 0 < (if 900 < x1 then 900 else x1) then (if 900 < x1 then 900 else x1) else 0) fun t_end_2 => some (t_end_2, 0)
abbrev rm_X7_rewind : Room := { frames := 1, cells := 0, slots := 0, locals := 40 }
set_option maxHeartbeats 4000000 in
set_option maxRecDepth 100000 in
theorem c_X7_rewind (l : Launch) (D : va_G) (cy : Nat → ClassId) (fu : Nat) (A_t : Nat → Nat) (t_bytes : Nat → Int32) (t_wordCodes : Nat → Int64) (t_length : Int32) (t_kind : Int32) (t_start : Int32) (t_value : Int32) (t_word : Int32) (t_name : Int64) (t_end : Int32) (t_at : Int32) (x1 : Int32) (res : Int32 × Int32) (h : f_X7_rewind fu t_end t_at x1 = some res) (A : Nat → Prop) (hA : A = adr [bl_X7 cy A_t t_bytes t_wordCodes t_length t_kind t_start t_value t_word t_name t_end t_at]) (W1 : List va_W) (hW1 : W1 = [bl_X7 cy A_t t_bytes t_wordCodes t_length t_kind t_start t_value t_word t_name res.1 res.2]) : Met l yX7_rewind (WW yX7_rewind cX7_rewind 2 none) rm_X7_rewind (Ed D cy [.ref (A_t 0), .int x1] [bl_X7 cy A_t t_bytes t_wordCodes t_length t_kind t_start t_value t_word t_name t_end t_at]) (Qev D A W1) 0 0 A := by
  refine Met.ofW (cc := cX7_rewind) (maxL := 2) (ret := none) (by decide) rfl ?_
  intro p e s m args below meth c s₁ B hml hv
  obtain ⟨hargs, hP, hX, hD0⟩ := hv
  have hx := B.exec
  have hb := B.bytes
  have hr := B.returns
  have ht : ∀ w ∈ lw_gd, w.before args s = true := fun w hw => atoms_spec (ws := WW yX7_rewind cX7_rewind 2 none) B.pre w (List.mem_cons_of_mem _ hw)
  have hown : s.vm.findClass RX7 = some m.cls := findClass_of_methodNamed B.named
  have hlocks := B.notSynchronized
  have hP : PD D A [bl_X7 cy A_t t_bytes t_wordCodes t_length t_kind t_start t_value t_word t_name t_end t_at] s.heap := ⟨hP, by rw [hA]; exact hD0.own⟩
  have hS : va_S A s.heap s.heap [] := va_S.rf
  obtain ⟨ls, hl, hent⟩ := ent (m := m) (n := 2) hargs (Nat.le_of_ble_eq_true rfl) (lv := [(0, .ref (A_t 0)), (1, .int x1)]) rfl
  rw [hent]
  clear hent
  unfold f_X7_rewind at h
  refine lv_aload_n hx hb dX7_rewind_0 rfl (lv_at hl 0 rfl) ?_
  refine lv_iconst (v := 0) hx hb dX7_rewind_1 (by decide) ?_
  refine lv_iload_n hx hb dX7_rewind_2 rfl (lv_at hl 1 rfl) ?_
  refine lv_sipush (v := 900) hx hb dX7_rewind_3 (by decide) ?_
  refine va_mmin hx hb (hml.trans hl.1.symm) hown (ht _ tb_582) (ht _ tb_583) (ht _ tb_19) (ht _ tb_584) (Nat.le_of_ble_eq_true rfl) (Nat.le_of_ble_eq_true rfl) (Nat.le_of_ble_eq_true rfl) (Nat.le_of_ble_eq_true rfl) dX7_rewind_6 ?_
  refine va_mmax hx hb (hml.trans hl.1.symm) hown (ht _ tb_585) (ht _ tb_586) (ht _ tb_19) (ht _ tb_587) (Nat.le_of_ble_eq_true rfl) (Nat.le_of_ble_eq_true rfl) (Nat.le_of_ble_eq_true rfl) (Nat.le_of_ble_eq_true rfl) dX7_rewind_9 ?_
  refine lv_topi (fun t_end_2 e_t_end_2 => ?_)
  have h := bn e_t_end_2 h
  refine xput (i := 0) (j := 0) (k := 8) (T := TX7) tyX7 tyX7_ok nmX7 hx hb ht tb_iX7 hown hX hP hS rfl rfl rfl (by decide) tb_236 rfl rfl rfl (Nat.le_of_ble_eq_true rfl) dX7_rewind_12 (fun H locs hP hS => ?_)
  have hP : PD D A [bl_X7 cy A_t t_bytes t_wordCodes t_length t_kind t_start t_value t_word t_name t_end_2 t_at] H := hP
  refine lv_aload_n hx hb dX7_rewind_15 rfl (lv_at hl 0 rfl) ?_
  refine lv_iconst (v := 0) hx hb dX7_rewind_16 (by decide) ?_
  refine xput (i := 0) (j := 0) (k := 9) (T := TX7) tyX7 tyX7_ok nmX7 hx hb ht tb_iX7 hown hX hP hS rfl rfl rfl (by decide) tb_237 rfl rfl rfl (Nat.le_of_ble_eq_true rfl) dX7_rewind_17 (fun H locs hP hS => ?_)
  have hP : PD D A [bl_X7 cy A_t t_bytes t_wordCodes t_length t_kind t_start t_value t_word t_name t_end_2 0] H := hP
  cases h
  subst hW1
  exact W.vret hx hb hr (fun _ ht9 _ => ⟨⟨(), rfl, trivial, hPt ht9 hP.1⟩, hS.F ht9⟩) hS.2.2 dX7_rewind_20
theorem dX7_isLetter_0 : decode cX7_isLetter 0 = .ok (.iload_n 0, 1) := by decide +kernel
theorem dX7_isLetter_1 : decode cX7_isLetter 1 = .ok (.bipush 97, 2) := by decide +kernel
theorem dX7_isLetter_3 : decode cX7_isLetter 3 = .ok (.if_icmp .lt 13, 3) := by decide +kernel
theorem dX7_isLetter_6 : decode cX7_isLetter 6 = .ok (.iload_n 0, 1) := by decide +kernel
theorem dX7_isLetter_7 : decode cX7_isLetter 7 = .ok (.bipush 122, 2) := by decide +kernel
theorem dX7_isLetter_9 : decode cX7_isLetter 9 = .ok (.if_icmp .gt 7, 3) := by decide +kernel
theorem dX7_isLetter_12 : decode cX7_isLetter 12 = .ok (.iconst 1, 1) := by decide +kernel
theorem dX7_isLetter_13 : decode cX7_isLetter 13 = .ok (.goto 4, 3) := by decide +kernel
theorem dX7_isLetter_16 : decode cX7_isLetter 16 = .ok (.iconst 0, 1) := by decide +kernel
theorem dX7_isLetter_17 : decode cX7_isLetter 17 = .ok (.ireturn, 1) := by decide +kernel
theorem ms_X7_isLetter : MS yX7_isLetter cX7_isLetter 1 (some .boolean) 1 := ⟨tb_594, tb_593, tb_5, by decide +kernel, by decide +kernel, by decide +kernel⟩
def f_X7_isLetter (fu : Nat) (x0 : Int32) : Option (Int32) := (if x0 < 97 then some (0) else (if 122 < x0 then some (0) else some (1)))
abbrev rm_X7_isLetter : Room := { frames := 0, cells := 0, slots := 0, locals := 0 }
set_option maxHeartbeats 4000000 in
set_option maxRecDepth 100000 in
theorem c_X7_isLetter (l : Launch) (D : va_G) (cy : Nat → ClassId) (fu : Nat) (x0 : Int32) (res : Int32) (h : f_X7_isLetter fu x0 = some res) : Met l yX7_isLetter (WW yX7_isLetter cX7_isLetter 1 (some .boolean)) rm_X7_isLetter (Rd D cy [.int x0] []) (vp_Si (fun v => v = res)) 0 0 (fun _ => False) := by
  refine Met.ofW (cc := cX7_isLetter) (maxL := 1) (ret := (some .boolean)) (by decide) rfl ?_
  intro p e s m args below meth c s₁ B hml hv
  obtain ⟨hargs, hP, hX⟩ := hv
  have hx := B.exec
  have hb := B.bytes
  have hr := B.returns
  have ht : ∀ w ∈ lw_gd, w.before args s = true := fun w hw => atoms_spec (ws := WW yX7_isLetter cX7_isLetter 1 (some .boolean)) B.pre w (List.mem_cons_of_mem _ hw)
  have hown : s.vm.findClass RX7 = some m.cls := findClass_of_methodNamed B.named
  have hlocks := B.notSynchronized
  have hP : PB D [] s.heap := hP
  obtain ⟨ls, hl, hent⟩ := ent (m := m) (n := 1) hargs (Nat.le_of_ble_eq_true rfl) (lv := [(0, .int x0)]) rfl
  rw [hent]
  clear hent
  unfold f_X7_isLetter at h
  refine lv_iload_n hx hb dX7_isLetter_0 rfl (lv_at hl 0 rfl) ?_
  refine lv_bipush (v := 97) hx hb dX7_isLetter_1 (by decide) ?_
  refine lv_icmp_lt (tgt := 16) hx hb dX7_isLetter_3 (by decide) (fun c_3 => ?_) (fun c_3 => ?_)
  · have h := it c_3 h
    refine lv_iconst (v := 0) hx hb dX7_isLetter_16 (by decide) ?_
    cases h
    exact W.zret hx hb hr rfl (fun _ ht9 _ => ⟨_, rfl, rfl, ht9⟩) (fun _ hq => by cases hq) dX7_isLetter_17
  · have h := ie c_3 h
    refine lv_iload_n hx hb dX7_isLetter_6 rfl (lv_at hl 0 rfl) ?_
    refine lv_bipush (v := 122) hx hb dX7_isLetter_7 (by decide) ?_
    refine lv_icmp_gt (tgt := 16) hx hb dX7_isLetter_9 (by decide) (fun c_4 => ?_) (fun c_4 => ?_)
    · have h := it c_4 h
      refine lv_iconst (v := 0) hx hb dX7_isLetter_16 (by decide) ?_
      cases h
      exact W.zret hx hb hr rfl (fun _ ht9 _ => ⟨_, rfl, rfl, ht9⟩) (fun _ hq => by cases hq) dX7_isLetter_17
    · have h := ie c_4 h
      refine lv_iconst (v := 1) hx hb dX7_isLetter_12 (by decide) ?_
      refine lv_goto (tgt := 17) hx hb dX7_isLetter_13 (by decide) ?_
      cases h
      exact W.zret hx hb hr rfl (fun _ ht9 _ => ⟨_, rfl, rfl, ht9⟩) (fun _ hq => by cases hq) dX7_isLetter_17
theorem dX7_takeLetters_0 : decode cX7_takeLetters 0 = .ok (.lconst 0, 1) := by decide +kernel
theorem dX7_takeLetters_1 : decode cX7_takeLetters 1 = .ok (.lstore_n 1, 1) := by decide +kernel
theorem dX7_takeLetters_2 : decode cX7_takeLetters 2 = .ok (.aload_n 0, 1) := by decide +kernel
theorem dX7_takeLetters_3 : decode cX7_takeLetters 3 = .ok (.getfield 42, 3) := by decide +kernel
theorem dX7_takeLetters_6 : decode cX7_takeLetters 6 = .ok (.aload_n 0, 1) := by decide +kernel
theorem dX7_takeLetters_7 : decode cX7_takeLetters 7 = .ok (.getfield 39, 3) := by decide +kernel
theorem dX7_takeLetters_10 : decode cX7_takeLetters 10 = .ok (.if_icmp .ge 66, 3) := by decide +kernel
theorem dX7_takeLetters_13 : decode cX7_takeLetters 13 = .ok (.aload_n 0, 1) := by decide +kernel
theorem dX7_takeLetters_14 : decode cX7_takeLetters 14 = .ok (.getfield 9, 3) := by decide +kernel
theorem dX7_takeLetters_17 : decode cX7_takeLetters 17 = .ok (.aload_n 0, 1) := by decide +kernel
theorem dX7_takeLetters_18 : decode cX7_takeLetters 18 = .ok (.getfield 42, 3) := by decide +kernel
theorem dX7_takeLetters_21 : decode cX7_takeLetters 21 = .ok (.baload, 1) := by decide +kernel
theorem dX7_takeLetters_22 : decode cX7_takeLetters 22 = .ok (.bipush 97, 2) := by decide +kernel
theorem dX7_takeLetters_24 : decode cX7_takeLetters 24 = .ok (.if_icmp .lt 52, 3) := by decide +kernel
theorem dX7_takeLetters_27 : decode cX7_takeLetters 27 = .ok (.aload_n 0, 1) := by decide +kernel
theorem dX7_takeLetters_28 : decode cX7_takeLetters 28 = .ok (.getfield 9, 3) := by decide +kernel
theorem dX7_takeLetters_31 : decode cX7_takeLetters 31 = .ok (.aload_n 0, 1) := by decide +kernel
theorem dX7_takeLetters_32 : decode cX7_takeLetters 32 = .ok (.getfield 42, 3) := by decide +kernel
theorem dX7_takeLetters_35 : decode cX7_takeLetters 35 = .ok (.baload, 1) := by decide +kernel
theorem dX7_takeLetters_36 : decode cX7_takeLetters 36 = .ok (.bipush 122, 2) := by decide +kernel
theorem dX7_takeLetters_38 : decode cX7_takeLetters 38 = .ok (.if_icmp .gt 38, 3) := by decide +kernel
theorem dX7_takeLetters_41 : decode cX7_takeLetters 41 = .ok (.lload_n 1, 1) := by decide +kernel
theorem dX7_takeLetters_42 : decode cX7_takeLetters 42 = .ok (.ldc2_w 56, 3) := by decide +kernel
theorem dX7_takeLetters_45 : decode cX7_takeLetters 45 = .ok (.lmul, 1) := by decide +kernel
theorem dX7_takeLetters_46 : decode cX7_takeLetters 46 = .ok (.aload_n 0, 1) := by decide +kernel
theorem dX7_takeLetters_47 : decode cX7_takeLetters 47 = .ok (.getfield 9, 3) := by decide +kernel
theorem dX7_takeLetters_50 : decode cX7_takeLetters 50 = .ok (.aload_n 0, 1) := by decide +kernel
theorem dX7_takeLetters_51 : decode cX7_takeLetters 51 = .ok (.getfield 42, 3) := by decide +kernel
theorem dX7_takeLetters_54 : decode cX7_takeLetters 54 = .ok (.baload, 1) := by decide +kernel
theorem dX7_takeLetters_55 : decode cX7_takeLetters 55 = .ok (.bipush 97, 2) := by decide +kernel
theorem dX7_takeLetters_57 : decode cX7_takeLetters 57 = .ok (.isub, 1) := by decide +kernel
theorem dX7_takeLetters_58 : decode cX7_takeLetters 58 = .ok (.iconst 1, 1) := by decide +kernel
theorem dX7_takeLetters_59 : decode cX7_takeLetters 59 = .ok (.iadd, 1) := by decide +kernel
theorem dX7_takeLetters_60 : decode cX7_takeLetters 60 = .ok (.i2l, 1) := by decide +kernel
theorem dX7_takeLetters_61 : decode cX7_takeLetters 61 = .ok (.ladd, 1) := by decide +kernel
theorem dX7_takeLetters_62 : decode cX7_takeLetters 62 = .ok (.lstore_n 1, 1) := by decide +kernel
theorem dX7_takeLetters_63 : decode cX7_takeLetters 63 = .ok (.aload_n 0, 1) := by decide +kernel
theorem dX7_takeLetters_64 : decode cX7_takeLetters 64 = .ok (.dup, 1) := by decide +kernel
theorem dX7_takeLetters_65 : decode cX7_takeLetters 65 = .ok (.getfield 42, 3) := by decide +kernel
theorem dX7_takeLetters_68 : decode cX7_takeLetters 68 = .ok (.iconst 1, 1) := by decide +kernel
theorem dX7_takeLetters_69 : decode cX7_takeLetters 69 = .ok (.iadd, 1) := by decide +kernel
theorem dX7_takeLetters_70 : decode cX7_takeLetters 70 = .ok (.putfield 42, 3) := by decide +kernel
theorem dX7_takeLetters_73 : decode cX7_takeLetters 73 = .ok (.goto (-71), 3) := by decide +kernel
theorem dX7_takeLetters_76 : decode cX7_takeLetters 76 = .ok (.aload_n 0, 1) := by decide +kernel
theorem dX7_takeLetters_77 : decode cX7_takeLetters 77 = .ok (.iconst 2, 1) := by decide +kernel
theorem dX7_takeLetters_78 : decode cX7_takeLetters 78 = .ok (.putfield 23, 3) := by decide +kernel
theorem dX7_takeLetters_81 : decode cX7_takeLetters 81 = .ok (.aload_n 0, 1) := by decide +kernel
theorem dX7_takeLetters_82 : decode cX7_takeLetters 82 = .ok (.getfield 42, 3) := by decide +kernel
theorem dX7_takeLetters_85 : decode cX7_takeLetters 85 = .ok (.aload_n 0, 1) := by decide +kernel
theorem dX7_takeLetters_86 : decode cX7_takeLetters 86 = .ok (.getfield 26, 3) := by decide +kernel
theorem dX7_takeLetters_89 : decode cX7_takeLetters 89 = .ok (.isub, 1) := by decide +kernel
theorem dX7_takeLetters_90 : decode cX7_takeLetters 90 = .ok (.bipush 8, 2) := by decide +kernel
theorem dX7_takeLetters_92 : decode cX7_takeLetters 92 = .ok (.if_icmp .gt 50, 3) := by decide +kernel
theorem dX7_takeLetters_95 : decode cX7_takeLetters 95 = .ok (.iconst 0, 1) := by decide +kernel
theorem dX7_takeLetters_96 : decode cX7_takeLetters 96 = .ok (.istore_n 3, 1) := by decide +kernel
theorem dX7_takeLetters_97 : decode cX7_takeLetters 97 = .ok (.iload_n 3, 1) := by decide +kernel
theorem dX7_takeLetters_98 : decode cX7_takeLetters 98 = .ok (.bipush 19, 2) := by decide +kernel
theorem dX7_takeLetters_100 : decode cX7_takeLetters 100 = .ok (.if_icmp .ge 25, 3) := by decide +kernel
theorem dX7_takeLetters_103 : decode cX7_takeLetters 103 = .ok (.aload_n 0, 1) := by decide +kernel
theorem dX7_takeLetters_104 : decode cX7_takeLetters 104 = .ok (.getfield 15, 3) := by decide +kernel
theorem dX7_takeLetters_107 : decode cX7_takeLetters 107 = .ok (.iload_n 3, 1) := by decide +kernel
theorem dX7_takeLetters_108 : decode cX7_takeLetters 108 = .ok (.laload, 1) := by decide +kernel
theorem dX7_takeLetters_109 : decode cX7_takeLetters 109 = .ok (.lload_n 1, 1) := by decide +kernel
theorem dX7_takeLetters_110 : decode cX7_takeLetters 110 = .ok (.lcmp, 1) := by decide +kernel
theorem dX7_takeLetters_111 : decode cX7_takeLetters 111 = .ok (.ifCond .ne 8, 3) := by decide +kernel
theorem dX7_takeLetters_114 : decode cX7_takeLetters 114 = .ok (.aload_n 0, 1) := by decide +kernel
theorem dX7_takeLetters_115 : decode cX7_takeLetters 115 = .ok (.iload_n 3, 1) := by decide +kernel
theorem dX7_takeLetters_116 : decode cX7_takeLetters 116 = .ok (.putfield 32, 3) := by decide +kernel
theorem dX7_takeLetters_119 : decode cX7_takeLetters 119 = .ok (.iinc 3 1, 3) := by decide +kernel
theorem dX7_takeLetters_122 : decode cX7_takeLetters 122 = .ok (.goto (-25), 3) := by decide +kernel
theorem dX7_takeLetters_125 : decode cX7_takeLetters 125 = .ok (.aload_n 0, 1) := by decide +kernel
theorem dX7_takeLetters_126 : decode cX7_takeLetters 126 = .ok (.aload_n 0, 1) := by decide +kernel
theorem dX7_takeLetters_127 : decode cX7_takeLetters 127 = .ok (.getfield 32, 3) := by decide +kernel
theorem dX7_takeLetters_130 : decode cX7_takeLetters 130 = .ok (.iconst (-1), 1) := by decide +kernel
theorem dX7_takeLetters_131 : decode cX7_takeLetters 131 = .ok (.if_icmp .ne 7, 3) := by decide +kernel
theorem dX7_takeLetters_134 : decode cX7_takeLetters 134 = .ok (.lload_n 1, 1) := by decide +kernel
theorem dX7_takeLetters_135 : decode cX7_takeLetters 135 = .ok (.goto 4, 3) := by decide +kernel
theorem dX7_takeLetters_138 : decode cX7_takeLetters 138 = .ok (.lconst 0, 1) := by decide +kernel
theorem dX7_takeLetters_139 : decode cX7_takeLetters 139 = .ok (.putfield 35, 3) := by decide +kernel
theorem dX7_takeLetters_142 : decode cX7_takeLetters 142 = .ok (.return_, 1) := by decide +kernel
theorem mv_X7_takeLetters : MV yX7_takeLetters RX7 cX7_takeLetters 4 none 0 := ⟨tb_598, tb_597, ts_6, tb_5, by decide +kernel, by decide +kernel, by decide +kernel⟩
def f_X7_takeLetters_b97 (fu : Nat) (t_bytes : Nat → Int32) (t_wordCodes : Nat → Int64) (t_start : Int32) (t_end : Int32) (k97 : Int32 → Int32 → Int64 → Int32 → Int64 → Int32 → Option (Int32 × Int32 × Int64 × Int32)) (t_kind : Int32) (t_word : Int32) (t_name : Int64) (t_at : Int32) (x1 : Int64) (x3 : Int32) : Option (Int32 × Int32 × Int64 × Int32) := (if 19 ≤ x3 then (if t_word = (-1) then some (t_kind, t_word, x1, t_at) else some (t_kind, t_word, 0, t_at)) else (rdJ t_wordCodes 19 x3).bind fun y_18 => (if (lg_cmp y_18 x1) = 0 then bnd (x3 + 1) fun x3_21 => k97 t_kind x3 t_name t_at x1 x3_21 else bnd (x3 + 1) fun x3_20 => k97 t_kind t_word t_name t_at x1 x3_20))
def f_X7_takeLetters_l97 (fu : Nat) (t_bytes : Nat → Int32) (t_wordCodes : Nat → Int64) (t_start : Int32) (t_end : Int32) : Nat → Int32 → Int32 → Int64 → Int32 → Int64 → Int32 → Option (Int32 × Int32 × Int64 × Int32)
  | 0, _, _, _, _, _, _ => none
  | n + 1, t_kind, t_word, t_name, t_at, x1, x3 => f_X7_takeLetters_b97 fu t_bytes t_wordCodes t_start t_end (f_X7_takeLetters_l97 fu t_bytes t_wordCodes t_start t_end n) t_kind t_word t_name t_at x1 x3
def f_X7_takeLetters_j76 (fu : Nat) (t_bytes : Nat → Int32) (t_wordCodes : Nat → Int64) (t_start : Int32) (t_end : Int32) (t_kind : Int32) (t_word : Int32) (t_name : Int64) (t_at : Int32) (x1 : Int64) : Option (Int32 × Int32 × Int64 × Int32) := (if 8 < (t_at - t_start) then some (2, t_word, t_name, t_at) else f_X7_takeLetters_l97 fu t_bytes t_wordCodes t_start t_end fu 2 t_word t_name t_at x1 0)
def f_X7_takeLetters_b2 (fu : Nat) (t_bytes : Nat → Int32) (t_wordCodes : Nat → Int64) (t_start : Int32) (t_end : Int32) (k2 : Int32 → Int32 → Int64 → Int32 → Int64 → Option (Int32 × Int32 × Int64 × Int32)) (t_kind : Int32) (t_word : Int32) (t_name : Int64) (t_at : Int32) (x1 : Int64) : Option (Int32 × Int32 × Int64 × Int32) := (if t_end ≤ t_at then f_X7_takeLetters_j76 fu t_bytes t_wordCodes t_start t_end t_kind t_word t_name t_at x1 else (rdI t_bytes 900 t_at).bind fun y_24 => (if y_24 < 97 then f_X7_takeLetters_j76 fu t_bytes t_wordCodes t_start t_end t_kind t_word t_name t_at x1 else (rdI t_bytes 900 t_at).bind fun y_26 => (if 122 < y_26 then f_X7_takeLetters_j76 fu t_bytes t_wordCodes t_start t_end t_kind t_word t_name t_at x1 else (rdI t_bytes 900 t_at).bind fun y_28 => bnd ((x1 * 32) + (Int32.toInt64 ((y_28 - 97) + 1))) fun x1_29 => bnd (t_at + 1) fun t_at_30 => k2 t_kind t_word t_name t_at_30 x1_29)))
def f_X7_takeLetters_l2 (fu : Nat) (t_bytes : Nat → Int32) (t_wordCodes : Nat → Int64) (t_start : Int32) (t_end : Int32) : Nat → Int32 → Int32 → Int64 → Int32 → Int64 → Option (Int32 × Int32 × Int64 × Int32)
  | 0, _, _, _, _, _ => none
  | n + 1, t_kind, t_word, t_name, t_at, x1 => f_X7_takeLetters_b2 fu t_bytes t_wordCodes t_start t_end (f_X7_takeLetters_l2 fu t_bytes t_wordCodes t_start t_end n) t_kind t_word t_name t_at x1
def f_X7_takeLetters (fu : Nat) (t_bytes : Nat → Int32) (t_wordCodes : Nat → Int64) (t_kind : Int32) (t_start : Int32) (t_word : Int32) (t_name : Int64) (t_end : Int32) (t_at : Int32) : Option (Int32 × Int32 × Int64 × Int32) := f_X7_takeLetters_l2 fu t_bytes t_wordCodes t_start t_end fu t_kind t_word t_name t_at 0
abbrev rm_X7_takeLetters : Room := { frames := 0, cells := 0, slots := 0, locals := 0 }
set_option maxHeartbeats 4000000 in
set_option maxRecDepth 100000 in
theorem c_X7_takeLetters (l : Launch) (D : va_G) (cy : Nat → ClassId) (fu : Nat) (A_t : Nat → Nat) (t_bytes : Nat → Int32) (t_wordCodes : Nat → Int64) (t_length : Int32) (t_kind : Int32) (t_start : Int32) (t_value : Int32) (t_word : Int32) (t_name : Int64) (t_end : Int32) (t_at : Int32) (res : Int32 × Int32 × Int64 × Int32) (h : f_X7_takeLetters fu t_bytes t_wordCodes t_kind t_start t_word t_name t_end t_at = some res) (A : Nat → Prop) (hA : A = adr [bl_X7 cy A_t t_bytes t_wordCodes t_length t_kind t_start t_value t_word t_name t_end t_at]) (W1 : List va_W) (hW1 : W1 = [bl_X7 cy A_t t_bytes t_wordCodes t_length res.1 t_start t_value res.2.1 res.2.2.1 t_end res.2.2.2]) : Met l yX7_takeLetters (WW yX7_takeLetters cX7_takeLetters 4 none) rm_X7_takeLetters (Ed D cy [.ref (A_t 0)] [bl_X7 cy A_t t_bytes t_wordCodes t_length t_kind t_start t_value t_word t_name t_end t_at]) (Qev D A W1) 0 0 A := by
  refine Met.ofW (cc := cX7_takeLetters) (maxL := 4) (ret := none) (by decide) rfl ?_
  intro p e s m args below meth c s₁ B hml hv
  obtain ⟨hargs, hP, hX, hD0⟩ := hv
  have hx := B.exec
  have hb := B.bytes
  have hr := B.returns
  have ht : ∀ w ∈ lw_gd, w.before args s = true := fun w hw => atoms_spec (ws := WW yX7_takeLetters cX7_takeLetters 4 none) B.pre w (List.mem_cons_of_mem _ hw)
  have hown : s.vm.findClass RX7 = some m.cls := findClass_of_methodNamed B.named
  have hlocks := B.notSynchronized
  have hP : PD D A [bl_X7 cy A_t t_bytes t_wordCodes t_length t_kind t_start t_value t_word t_name t_end t_at] s.heap := ⟨hP, by rw [hA]; exact hD0.own⟩
  have hS : va_S A s.heap s.heap [] := va_S.rf
  obtain ⟨ls, hl, hent⟩ := ent (m := m) (n := 4) hargs (Nat.le_of_ble_eq_true rfl) (lv := [(0, .ref (A_t 0))]) rfl
  rw [hent]
  clear hent
  have l97 : ∀ (n97 : Nat) (t_kind : Int32) (t_word : Int32) (t_name : Int64) (t_at : Int32) (x1 : Int64) (x3 : Int32) (H : Heap) (locs : List Loc) (_ : PD D A [bl_X7 cy A_t t_bytes t_wordCodes t_length t_kind t_start t_value t_word t_name t_end t_at] H) (_ : va_S A s.heap H locs) (ls : Array Slot), lv_has ls 4 [(0, .ref (A_t 0)), (1, .long x1), (3, .int x3)] → f_X7_takeLetters_l97 fu t_bytes t_wordCodes t_start t_end n97 t_kind t_word t_name t_at x1 x3 = some res → W p l e (headSpec (WW yX7_takeLetters cX7_takeLetters 4 none) rm_X7_takeLetters).room s m args below meth c H locs 0 0 (MQ below (Qev D A W1) args s 0 0 A) (F0 m 97 ls []) := by
    intro n97
    induction n97 with
    | zero => intro t_kind t_word t_name t_at x1 x3 H locs hP hS ls hl h; cases h
    | succ n97 ih97 =>
      intro t_kind t_word t_name t_at x1 x3 H locs hP hS ls hl h
      have h : f_X7_takeLetters_b97 fu t_bytes t_wordCodes t_start t_end (f_X7_takeLetters_l97 fu t_bytes t_wordCodes t_start t_end n97) t_kind t_word t_name t_at x1 x3 = some res := h
      unfold f_X7_takeLetters_b97 at h
      refine lv_iload_n hx hb dX7_takeLetters_97 rfl (lv_at hl 2 rfl) ?_
      refine lv_bipush (v := 19) hx hb dX7_takeLetters_98 (by decide) ?_
      refine lv_icmp_ge (tgt := 125) hx hb dX7_takeLetters_100 (by decide) (fun c_16 => ?_) (fun c_16 => ?_)
      · have h := it c_16 h
        refine lv_aload_n hx hb dX7_takeLetters_125 rfl (lv_at hl 0 rfl) ?_
        refine lv_aload_n hx hb dX7_takeLetters_126 rfl (lv_at hl 0 rfl) ?_
        refine xget (i := 0) (j := 0) (k := 6) (T := TX7) hx hb ht tb_iX7 hown hX hP.1 rfl rfl rfl (by decide) tb_229 rfl dX7_takeLetters_127 ?_
        refine lv_iconst (v := (-1)) hx hb dX7_takeLetters_130 (by decide) ?_
        refine lv_icmp_ne (tgt := 138) hx hb dX7_takeLetters_131 (by decide) (fun c_17 => ?_) (fun c_17 => ?_)
        · have h := ie c_17 h
          refine lv_lconst (v := 0) hx hb dX7_takeLetters_138 (by decide) ?_
          refine xput (i := 0) (j := 0) (k := 7) (T := TX7) tyX7 tyX7_ok nmX7 hx hb ht tb_iX7 hown hX hP hS rfl rfl rfl (by decide) tb_233 rfl rfl rfl (Nat.le_of_ble_eq_true rfl) dX7_takeLetters_139 (fun H locs hP hS => ?_)
          have hP : PD D A [bl_X7 cy A_t t_bytes t_wordCodes t_length t_kind t_start t_value t_word 0 t_end t_at] H := hP
          cases h
          subst hW1
          exact W.vret hx hb hr (fun _ ht9 _ => ⟨⟨(), rfl, trivial, hPt ht9 hP.1⟩, hS.F ht9⟩) hS.2.2 dX7_takeLetters_142
        · have h := it c_17 h
          refine lv_lload_n hx hb dX7_takeLetters_134 rfl (lv_at hl 1 rfl) ?_
          refine lv_goto (tgt := 139) hx hb dX7_takeLetters_135 (by decide) ?_
          refine xput (i := 0) (j := 0) (k := 7) (T := TX7) tyX7 tyX7_ok nmX7 hx hb ht tb_iX7 hown hX hP hS rfl rfl rfl (by decide) tb_233 rfl rfl rfl (Nat.le_of_ble_eq_true rfl) dX7_takeLetters_139 (fun H locs hP hS => ?_)
          have hP : PD D A [bl_X7 cy A_t t_bytes t_wordCodes t_length t_kind t_start t_value t_word x1 t_end t_at] H := hP
          cases h
          subst hW1
          exact W.vret hx hb hr (fun _ ht9 _ => ⟨⟨(), rfl, trivial, hPt ht9 hP.1⟩, hS.F ht9⟩) hS.2.2 dX7_takeLetters_142
      · have h := ie c_16 h
        refine lv_aload_n hx hb dX7_takeLetters_103 rfl (lv_at hl 0 rfl) ?_
        refine xget (i := 0) (j := 0) (k := 1) (T := TX7) hx hb ht tb_iX7 hown hX hP.1 rfl rfl rfl (by decide) tb_219 rfl dX7_takeLetters_104 ?_
        refine lv_iload_n hx hb dX7_takeLetters_107 rfl (lv_at hl 2 rfl) ?_
        obtain ⟨y_18, e_y_18, h⟩ := bi h
        refine xlald (i0 := 0) (j0 := 2) hx hb hX hP.1 rfl rfl e_y_18 dX7_takeLetters_108 ?_
        refine lv_lload_n hx hb dX7_takeLetters_109 rfl (lv_at hl 1 rfl) ?_
        refine W.lcmp hx hb dX7_takeLetters_110 ?_
        refine lv_if_ne (tgt := 119) hx hb dX7_takeLetters_111 (by decide) (fun c_19 => ?_) (fun c_19 => ?_)
        · have h := ie c_19 h
          obtain ⟨x3_20, e_x3_20⟩ : ∃ y : Int32, y = x3 + 1 := ⟨_, rfl⟩
          have h := bn e_x3_20 h
          refine lv_iinc (v := x3_20) (lv' := [(3, .int x3_20), (0, .ref (A_t 0)), (1, .long x1)]) hx hb dX7_takeLetters_119 hl (k := 2) rfl (by rw [e_x3_20]; rfl) (by decide) rfl (fun ls hl => ?_)
          refine lv_goto (tgt := 97) hx hb dX7_takeLetters_122 (by decide) ?_
          exact ih97 t_kind t_word t_name t_at x1 x3_20 _ _ hP hS ls (lv_sub hl [1, 2, 0] rfl) h
        · have h := it c_19 h
          refine lv_aload_n hx hb dX7_takeLetters_114 rfl (lv_at hl 0 rfl) ?_
          refine lv_iload_n hx hb dX7_takeLetters_115 rfl (lv_at hl 2 rfl) ?_
          refine xput (i := 0) (j := 0) (k := 6) (T := TX7) tyX7 tyX7_ok nmX7 hx hb ht tb_iX7 hown hX hP hS rfl rfl rfl (by decide) tb_229 rfl rfl rfl (Nat.le_of_ble_eq_true rfl) dX7_takeLetters_116 (fun H locs hP hS => ?_)
          have hP : PD D A [bl_X7 cy A_t t_bytes t_wordCodes t_length t_kind t_start t_value x3 t_name t_end t_at] H := hP
          obtain ⟨x3_21, e_x3_21⟩ : ∃ y : Int32, y = x3 + 1 := ⟨_, rfl⟩
          have h := bn e_x3_21 h
          refine lv_iinc (v := x3_21) (lv' := [(3, .int x3_21), (0, .ref (A_t 0)), (1, .long x1)]) hx hb dX7_takeLetters_119 hl (k := 2) rfl (by rw [e_x3_21]; rfl) (by decide) rfl (fun ls hl => ?_)
          refine lv_goto (tgt := 97) hx hb dX7_takeLetters_122 (by decide) ?_
          exact ih97 t_kind x3 t_name t_at x1 x3_21 _ _ hP hS ls (lv_sub hl [1, 2, 0] rfl) h
  have j76 : ∀ (t_kind : Int32) (t_word : Int32) (t_name : Int64) (t_at : Int32) (x1 : Int64) (H : Heap) (locs : List Loc) (_ : PD D A [bl_X7 cy A_t t_bytes t_wordCodes t_length t_kind t_start t_value t_word t_name t_end t_at] H) (_ : va_S A s.heap H locs) (ls : Array Slot), lv_has ls 4 [(0, .ref (A_t 0)), (1, .long x1)] → f_X7_takeLetters_j76 fu t_bytes t_wordCodes t_start t_end t_kind t_word t_name t_at x1 = some res → W p l e (headSpec (WW yX7_takeLetters cX7_takeLetters 4 none) rm_X7_takeLetters).room s m args below meth c H locs 0 0 (MQ below (Qev D A W1) args s 0 0 A) (F0 m 76 ls []) := by
    intro t_kind t_word t_name t_at x1 H locs hP hS ls hl h
    unfold f_X7_takeLetters_j76 at h
    refine lv_aload_n hx hb dX7_takeLetters_76 rfl (lv_at hl 0 rfl) ?_
    refine lv_iconst (v := 2) hx hb dX7_takeLetters_77 (by decide) ?_
    refine xput (i := 0) (j := 0) (k := 3) (T := TX7) tyX7 tyX7_ok nmX7 hx hb ht tb_iX7 hown hX hP hS rfl rfl rfl (by decide) tb_222 rfl rfl rfl (Nat.le_of_ble_eq_true rfl) dX7_takeLetters_78 (fun H locs hP hS => ?_)
    have hP : PD D A [bl_X7 cy A_t t_bytes t_wordCodes t_length 2 t_start t_value t_word t_name t_end t_at] H := hP
    refine lv_aload_n hx hb dX7_takeLetters_81 rfl (lv_at hl 0 rfl) ?_
    refine xget (i := 0) (j := 0) (k := 9) (T := TX7) hx hb ht tb_iX7 hown hX hP.1 rfl rfl rfl (by decide) tb_237 rfl dX7_takeLetters_82 ?_
    refine lv_aload_n hx hb dX7_takeLetters_85 rfl (lv_at hl 0 rfl) ?_
    refine xget (i := 0) (j := 0) (k := 4) (T := TX7) hx hb ht tb_iX7 hown hX hP.1 rfl rfl rfl (by decide) tb_224 rfl dX7_takeLetters_86 ?_
    refine lv_isub hx hb dX7_takeLetters_89 ?_
    refine lv_bipush (v := 8) hx hb dX7_takeLetters_90 (by decide) ?_
    refine lv_icmp_gt (tgt := 142) hx hb dX7_takeLetters_92 (by decide) (fun c_22 => ?_) (fun c_22 => ?_)
    · have h := it c_22 h
      cases h
      subst hW1
      exact W.vret hx hb hr (fun _ ht9 _ => ⟨⟨(), rfl, trivial, hPt ht9 hP.1⟩, hS.F ht9⟩) hS.2.2 dX7_takeLetters_142
    · have h := ie c_22 h
      refine lv_iconst (v := 0) hx hb dX7_takeLetters_95 (by decide) ?_
      refine lv_istore_n (lv' := [(3, .int 0), (0, .ref (A_t 0)), (1, .long x1)]) hx hb dX7_takeLetters_96 rfl hl (by decide) rfl (fun ls hl => ?_)
      exact l97 fu 2 t_word t_name t_at x1 0 _ _ hP hS ls (lv_sub hl [1, 2, 0] rfl) h
  have l2 : ∀ (n2 : Nat) (t_kind : Int32) (t_word : Int32) (t_name : Int64) (t_at : Int32) (x1 : Int64) (H : Heap) (locs : List Loc) (_ : PD D A [bl_X7 cy A_t t_bytes t_wordCodes t_length t_kind t_start t_value t_word t_name t_end t_at] H) (_ : va_S A s.heap H locs) (ls : Array Slot), lv_has ls 4 [(0, .ref (A_t 0)), (1, .long x1)] → f_X7_takeLetters_l2 fu t_bytes t_wordCodes t_start t_end n2 t_kind t_word t_name t_at x1 = some res → W p l e (headSpec (WW yX7_takeLetters cX7_takeLetters 4 none) rm_X7_takeLetters).room s m args below meth c H locs 0 0 (MQ below (Qev D A W1) args s 0 0 A) (F0 m 2 ls []) := by
    intro n2
    induction n2 with
    | zero => intro t_kind t_word t_name t_at x1 H locs hP hS ls hl h; cases h
    | succ n2 ih2 =>
      intro t_kind t_word t_name t_at x1 H locs hP hS ls hl h
      have h : f_X7_takeLetters_b2 fu t_bytes t_wordCodes t_start t_end (f_X7_takeLetters_l2 fu t_bytes t_wordCodes t_start t_end n2) t_kind t_word t_name t_at x1 = some res := h
      unfold f_X7_takeLetters_b2 at h
      refine lv_aload_n hx hb dX7_takeLetters_2 rfl (lv_at hl 0 rfl) ?_
      refine xget (i := 0) (j := 0) (k := 9) (T := TX7) hx hb ht tb_iX7 hown hX hP.1 rfl rfl rfl (by decide) tb_237 rfl dX7_takeLetters_3 ?_
      refine lv_aload_n hx hb dX7_takeLetters_6 rfl (lv_at hl 0 rfl) ?_
      refine xget (i := 0) (j := 0) (k := 8) (T := TX7) hx hb ht tb_iX7 hown hX hP.1 rfl rfl rfl (by decide) tb_236 rfl dX7_takeLetters_7 ?_
      refine lv_icmp_ge (tgt := 76) hx hb dX7_takeLetters_10 (by decide) (fun c_23 => ?_) (fun c_23 => ?_)
      · have h := it c_23 h
        exact j76 t_kind t_word t_name t_at x1 _ _ hP hS ls (lv_sub hl [0, 1] rfl) h
      · have h := ie c_23 h
        refine lv_aload_n hx hb dX7_takeLetters_13 rfl (lv_at hl 0 rfl) ?_
        refine xget (i := 0) (j := 0) (k := 0) (T := TX7) hx hb ht tb_iX7 hown hX hP.1 rfl rfl rfl (by decide) tb_218 rfl dX7_takeLetters_14 ?_
        refine lv_aload_n hx hb dX7_takeLetters_17 rfl (lv_at hl 0 rfl) ?_
        refine xget (i := 0) (j := 0) (k := 9) (T := TX7) hx hb ht tb_iX7 hown hX hP.1 rfl rfl rfl (by decide) tb_237 rfl dX7_takeLetters_18 ?_
        obtain ⟨y_24, e_y_24, h⟩ := bi h
        refine xbald (i0 := 0) (j0 := 1) hx hb hX hP.1 rfl rfl e_y_24 dX7_takeLetters_21 ?_
        refine lv_bipush (v := 97) hx hb dX7_takeLetters_22 (by decide) ?_
        refine lv_icmp_lt (tgt := 76) hx hb dX7_takeLetters_24 (by decide) (fun c_25 => ?_) (fun c_25 => ?_)
        · have h := it c_25 h
          exact j76 t_kind t_word t_name t_at x1 _ _ hP hS ls (lv_sub hl [0, 1] rfl) h
        · have h := ie c_25 h
          refine lv_aload_n hx hb dX7_takeLetters_27 rfl (lv_at hl 0 rfl) ?_
          refine xget (i := 0) (j := 0) (k := 0) (T := TX7) hx hb ht tb_iX7 hown hX hP.1 rfl rfl rfl (by decide) tb_218 rfl dX7_takeLetters_28 ?_
          refine lv_aload_n hx hb dX7_takeLetters_31 rfl (lv_at hl 0 rfl) ?_
          refine xget (i := 0) (j := 0) (k := 9) (T := TX7) hx hb ht tb_iX7 hown hX hP.1 rfl rfl rfl (by decide) tb_237 rfl dX7_takeLetters_32 ?_
          obtain ⟨y_26, e_y_26, h⟩ := bi h
          refine xbald (i0 := 0) (j0 := 1) hx hb hX hP.1 rfl rfl e_y_26 dX7_takeLetters_35 ?_
          refine lv_bipush (v := 122) hx hb dX7_takeLetters_36 (by decide) ?_
          refine lv_icmp_gt (tgt := 76) hx hb dX7_takeLetters_38 (by decide) (fun c_27 => ?_) (fun c_27 => ?_)
          · have h := it c_27 h
            exact j76 t_kind t_word t_name t_at x1 _ _ hP hS ls (lv_sub hl [0, 1] rfl) h
          · have h := ie c_27 h
            refine lv_lload_n hx hb dX7_takeLetters_41 rfl (lv_at hl 1 rfl) ?_
            refine lv_ldc2 (v := 32) hx hb hown (ht _ tb_217) dX7_takeLetters_42 ?_
            refine lv_lmul hx hb dX7_takeLetters_45 ?_
            refine lv_aload_n hx hb dX7_takeLetters_46 rfl (lv_at hl 0 rfl) ?_
            refine xget (i := 0) (j := 0) (k := 0) (T := TX7) hx hb ht tb_iX7 hown hX hP.1 rfl rfl rfl (by decide) tb_218 rfl dX7_takeLetters_47 ?_
            refine lv_aload_n hx hb dX7_takeLetters_50 rfl (lv_at hl 0 rfl) ?_
            refine xget (i := 0) (j := 0) (k := 9) (T := TX7) hx hb ht tb_iX7 hown hX hP.1 rfl rfl rfl (by decide) tb_237 rfl dX7_takeLetters_51 ?_
            obtain ⟨y_28, e_y_28, h⟩ := bi h
            refine xbald (i0 := 0) (j0 := 1) hx hb hX hP.1 rfl rfl e_y_28 dX7_takeLetters_54 ?_
            refine lv_bipush (v := 97) hx hb dX7_takeLetters_55 (by decide) ?_
            refine lv_isub hx hb dX7_takeLetters_57 ?_
            refine lv_iconst (v := 1) hx hb dX7_takeLetters_58 (by decide) ?_
            refine lv_iadd hx hb dX7_takeLetters_59 ?_
            refine lv_i2l (v := Int32.toInt64 ((y_28 - 97) + 1)) hx hb dX7_takeLetters_60 rfl ?_
            refine lv_ladd hx hb dX7_takeLetters_61 ?_
            refine lv_topl (fun x1_29 e_x1_29 => ?_)
            have h := bn e_x1_29 h
            refine lv_lstore_n (lv' := [(1, .long x1_29), (0, .ref (A_t 0))]) hx hb dX7_takeLetters_62 rfl hl (by decide) rfl (fun ls hl => ?_)
            refine lv_aload_n hx hb dX7_takeLetters_63 rfl (lv_at hl 1 rfl) ?_
            refine lv_dup hx hb dX7_takeLetters_64 rfl ?_
            refine xget (i := 0) (j := 0) (k := 9) (T := TX7) hx hb ht tb_iX7 hown hX hP.1 rfl rfl rfl (by decide) tb_237 rfl dX7_takeLetters_65 ?_
            refine lv_iconst (v := 1) hx hb dX7_takeLetters_68 (by decide) ?_
            refine lv_iadd hx hb dX7_takeLetters_69 ?_
            refine lv_topi (fun t_at_30 e_t_at_30 => ?_)
            have h := bn e_t_at_30 h
            refine xput (i := 0) (j := 0) (k := 9) (T := TX7) tyX7 tyX7_ok nmX7 hx hb ht tb_iX7 hown hX hP hS rfl rfl rfl (by decide) tb_237 rfl rfl rfl (Nat.le_of_ble_eq_true rfl) dX7_takeLetters_70 (fun H locs hP hS => ?_)
            have hP : PD D A [bl_X7 cy A_t t_bytes t_wordCodes t_length t_kind t_start t_value t_word t_name t_end t_at_30] H := hP
            refine lv_goto (tgt := 2) hx hb dX7_takeLetters_73 (by decide) ?_
            exact ih2 t_kind t_word t_name t_at_30 x1_29 _ _ hP hS ls (lv_sub hl [1, 0] rfl) h
  unfold f_X7_takeLetters at h
  refine lv_lconst (v := 0) hx hb dX7_takeLetters_0 (by decide) ?_
  refine lv_lstore_n (lv' := [(1, .long 0), (0, .ref (A_t 0))]) hx hb dX7_takeLetters_1 rfl hl (by decide) rfl (fun ls hl => ?_)
  exact l2 fu t_kind t_word t_name t_at 0 _ _ hP hS ls (lv_sub hl [1, 0] rfl) h
theorem dX7_isDigit_0 : decode cX7_isDigit 0 = .ok (.iload_n 0, 1) := by decide +kernel
theorem dX7_isDigit_1 : decode cX7_isDigit 1 = .ok (.bipush 48, 2) := by decide +kernel
theorem dX7_isDigit_3 : decode cX7_isDigit 3 = .ok (.if_icmp .lt 13, 3) := by decide +kernel
theorem dX7_isDigit_6 : decode cX7_isDigit 6 = .ok (.iload_n 0, 1) := by decide +kernel
theorem dX7_isDigit_7 : decode cX7_isDigit 7 = .ok (.bipush 57, 2) := by decide +kernel
theorem dX7_isDigit_9 : decode cX7_isDigit 9 = .ok (.if_icmp .gt 7, 3) := by decide +kernel
theorem dX7_isDigit_12 : decode cX7_isDigit 12 = .ok (.iconst 1, 1) := by decide +kernel
theorem dX7_isDigit_13 : decode cX7_isDigit 13 = .ok (.goto 4, 3) := by decide +kernel
theorem dX7_isDigit_16 : decode cX7_isDigit 16 = .ok (.iconst 0, 1) := by decide +kernel
theorem dX7_isDigit_17 : decode cX7_isDigit 17 = .ok (.ireturn, 1) := by decide +kernel
theorem ms_X7_isDigit : MS yX7_isDigit cX7_isDigit 1 (some .boolean) 1 := ⟨tb_601, tb_600, tb_5, by decide +kernel, by decide +kernel, by decide +kernel⟩
def f_X7_isDigit (fu : Nat) (x0 : Int32) : Option (Int32) := (if x0 < 48 then some (0) else (if 57 < x0 then some (0) else some (1)))
abbrev rm_X7_isDigit : Room := { frames := 0, cells := 0, slots := 0, locals := 0 }
set_option maxHeartbeats 4000000 in
set_option maxRecDepth 100000 in
theorem c_X7_isDigit (l : Launch) (D : va_G) (cy : Nat → ClassId) (fu : Nat) (x0 : Int32) (res : Int32) (h : f_X7_isDigit fu x0 = some res) : Met l yX7_isDigit (WW yX7_isDigit cX7_isDigit 1 (some .boolean)) rm_X7_isDigit (Rd D cy [.int x0] []) (vp_Si (fun v => v = res)) 0 0 (fun _ => False) := by
  refine Met.ofW (cc := cX7_isDigit) (maxL := 1) (ret := (some .boolean)) (by decide) rfl ?_
  intro p e s m args below meth c s₁ B hml hv
  obtain ⟨hargs, hP, hX⟩ := hv
  have hx := B.exec
  have hb := B.bytes
  have hr := B.returns
  have ht : ∀ w ∈ lw_gd, w.before args s = true := fun w hw => atoms_spec (ws := WW yX7_isDigit cX7_isDigit 1 (some .boolean)) B.pre w (List.mem_cons_of_mem _ hw)
  have hown : s.vm.findClass RX7 = some m.cls := findClass_of_methodNamed B.named
  have hlocks := B.notSynchronized
  have hP : PB D [] s.heap := hP
  obtain ⟨ls, hl, hent⟩ := ent (m := m) (n := 1) hargs (Nat.le_of_ble_eq_true rfl) (lv := [(0, .int x0)]) rfl
  rw [hent]
  clear hent
  unfold f_X7_isDigit at h
  refine lv_iload_n hx hb dX7_isDigit_0 rfl (lv_at hl 0 rfl) ?_
  refine lv_bipush (v := 48) hx hb dX7_isDigit_1 (by decide) ?_
  refine lv_icmp_lt (tgt := 16) hx hb dX7_isDigit_3 (by decide) (fun c_3 => ?_) (fun c_3 => ?_)
  · have h := it c_3 h
    refine lv_iconst (v := 0) hx hb dX7_isDigit_16 (by decide) ?_
    cases h
    exact W.zret hx hb hr rfl (fun _ ht9 _ => ⟨_, rfl, rfl, ht9⟩) (fun _ hq => by cases hq) dX7_isDigit_17
  · have h := ie c_3 h
    refine lv_iload_n hx hb dX7_isDigit_6 rfl (lv_at hl 0 rfl) ?_
    refine lv_bipush (v := 57) hx hb dX7_isDigit_7 (by decide) ?_
    refine lv_icmp_gt (tgt := 16) hx hb dX7_isDigit_9 (by decide) (fun c_4 => ?_) (fun c_4 => ?_)
    · have h := it c_4 h
      refine lv_iconst (v := 0) hx hb dX7_isDigit_16 (by decide) ?_
      cases h
      exact W.zret hx hb hr rfl (fun _ ht9 _ => ⟨_, rfl, rfl, ht9⟩) (fun _ hq => by cases hq) dX7_isDigit_17
    · have h := ie c_4 h
      refine lv_iconst (v := 1) hx hb dX7_isDigit_12 (by decide) ?_
      refine lv_goto (tgt := 17) hx hb dX7_isDigit_13 (by decide) ?_
      cases h
      exact W.zret hx hb hr rfl (fun _ ht9 _ => ⟨_, rfl, rfl, ht9⟩) (fun _ hq => by cases hq) dX7_isDigit_17
theorem dX7_takeDigits_0 : decode cX7_takeDigits 0 = .ok (.aload_n 0, 1) := by decide +kernel
theorem dX7_takeDigits_1 : decode cX7_takeDigits 1 = .ok (.getfield 42, 3) := by decide +kernel
theorem dX7_takeDigits_4 : decode cX7_takeDigits 4 = .ok (.aload_n 0, 1) := by decide +kernel
theorem dX7_takeDigits_5 : decode cX7_takeDigits 5 = .ok (.getfield 39, 3) := by decide +kernel
theorem dX7_takeDigits_8 : decode cX7_takeDigits 8 = .ok (.if_icmp .ge 68, 3) := by decide +kernel
theorem dX7_takeDigits_11 : decode cX7_takeDigits 11 = .ok (.aload_n 0, 1) := by decide +kernel
theorem dX7_takeDigits_12 : decode cX7_takeDigits 12 = .ok (.getfield 9, 3) := by decide +kernel
theorem dX7_takeDigits_15 : decode cX7_takeDigits 15 = .ok (.aload_n 0, 1) := by decide +kernel
theorem dX7_takeDigits_16 : decode cX7_takeDigits 16 = .ok (.getfield 42, 3) := by decide +kernel
theorem dX7_takeDigits_19 : decode cX7_takeDigits 19 = .ok (.baload, 1) := by decide +kernel
theorem dX7_takeDigits_20 : decode cX7_takeDigits 20 = .ok (.bipush 48, 2) := by decide +kernel
theorem dX7_takeDigits_22 : decode cX7_takeDigits 22 = .ok (.if_icmp .lt 54, 3) := by decide +kernel
theorem dX7_takeDigits_25 : decode cX7_takeDigits 25 = .ok (.aload_n 0, 1) := by decide +kernel
theorem dX7_takeDigits_26 : decode cX7_takeDigits 26 = .ok (.getfield 9, 3) := by decide +kernel
theorem dX7_takeDigits_29 : decode cX7_takeDigits 29 = .ok (.aload_n 0, 1) := by decide +kernel
theorem dX7_takeDigits_30 : decode cX7_takeDigits 30 = .ok (.getfield 42, 3) := by decide +kernel
theorem dX7_takeDigits_33 : decode cX7_takeDigits 33 = .ok (.baload, 1) := by decide +kernel
theorem dX7_takeDigits_34 : decode cX7_takeDigits 34 = .ok (.bipush 57, 2) := by decide +kernel
theorem dX7_takeDigits_36 : decode cX7_takeDigits 36 = .ok (.if_icmp .gt 40, 3) := by decide +kernel
theorem dX7_takeDigits_39 : decode cX7_takeDigits 39 = .ok (.aload_n 0, 1) := by decide +kernel
theorem dX7_takeDigits_40 : decode cX7_takeDigits 40 = .ok (.aload_n 0, 1) := by decide +kernel
theorem dX7_takeDigits_41 : decode cX7_takeDigits 41 = .ok (.getfield 29, 3) := by decide +kernel
theorem dX7_takeDigits_44 : decode cX7_takeDigits 44 = .ok (.bipush 10, 2) := by decide +kernel
theorem dX7_takeDigits_46 : decode cX7_takeDigits 46 = .ok (.imul, 1) := by decide +kernel
theorem dX7_takeDigits_47 : decode cX7_takeDigits 47 = .ok (.aload_n 0, 1) := by decide +kernel
theorem dX7_takeDigits_48 : decode cX7_takeDigits 48 = .ok (.getfield 9, 3) := by decide +kernel
theorem dX7_takeDigits_51 : decode cX7_takeDigits 51 = .ok (.aload_n 0, 1) := by decide +kernel
theorem dX7_takeDigits_52 : decode cX7_takeDigits 52 = .ok (.getfield 42, 3) := by decide +kernel
theorem dX7_takeDigits_55 : decode cX7_takeDigits 55 = .ok (.baload, 1) := by decide +kernel
theorem dX7_takeDigits_56 : decode cX7_takeDigits 56 = .ok (.bipush 48, 2) := by decide +kernel
theorem dX7_takeDigits_58 : decode cX7_takeDigits 58 = .ok (.isub, 1) := by decide +kernel
theorem dX7_takeDigits_59 : decode cX7_takeDigits 59 = .ok (.iadd, 1) := by decide +kernel
theorem dX7_takeDigits_60 : decode cX7_takeDigits 60 = .ok (.putfield 29, 3) := by decide +kernel
theorem dX7_takeDigits_63 : decode cX7_takeDigits 63 = .ok (.aload_n 0, 1) := by decide +kernel
theorem dX7_takeDigits_64 : decode cX7_takeDigits 64 = .ok (.dup, 1) := by decide +kernel
theorem dX7_takeDigits_65 : decode cX7_takeDigits 65 = .ok (.getfield 42, 3) := by decide +kernel
theorem dX7_takeDigits_68 : decode cX7_takeDigits 68 = .ok (.iconst 1, 1) := by decide +kernel
theorem dX7_takeDigits_69 : decode cX7_takeDigits 69 = .ok (.iadd, 1) := by decide +kernel
theorem dX7_takeDigits_70 : decode cX7_takeDigits 70 = .ok (.putfield 42, 3) := by decide +kernel
theorem dX7_takeDigits_73 : decode cX7_takeDigits 73 = .ok (.goto (-73), 3) := by decide +kernel
theorem dX7_takeDigits_76 : decode cX7_takeDigits 76 = .ok (.aload_n 0, 1) := by decide +kernel
theorem dX7_takeDigits_77 : decode cX7_takeDigits 77 = .ok (.aload_n 0, 1) := by decide +kernel
theorem dX7_takeDigits_78 : decode cX7_takeDigits 78 = .ok (.getfield 42, 3) := by decide +kernel
theorem dX7_takeDigits_81 : decode cX7_takeDigits 81 = .ok (.aload_n 0, 1) := by decide +kernel
theorem dX7_takeDigits_82 : decode cX7_takeDigits 82 = .ok (.getfield 26, 3) := by decide +kernel
theorem dX7_takeDigits_85 : decode cX7_takeDigits 85 = .ok (.isub, 1) := by decide +kernel
theorem dX7_takeDigits_86 : decode cX7_takeDigits 86 = .ok (.iconst 4, 1) := by decide +kernel
theorem dX7_takeDigits_87 : decode cX7_takeDigits 87 = .ok (.if_icmp .le 7, 3) := by decide +kernel
theorem dX7_takeDigits_90 : decode cX7_takeDigits 90 = .ok (.iconst 1, 1) := by decide +kernel
theorem dX7_takeDigits_91 : decode cX7_takeDigits 91 = .ok (.goto 4, 3) := by decide +kernel
theorem dX7_takeDigits_94 : decode cX7_takeDigits 94 = .ok (.iconst 3, 1) := by decide +kernel
theorem dX7_takeDigits_95 : decode cX7_takeDigits 95 = .ok (.putfield 23, 3) := by decide +kernel
theorem dX7_takeDigits_98 : decode cX7_takeDigits 98 = .ok (.return_, 1) := by decide +kernel
theorem mv_X7_takeDigits : MV yX7_takeDigits RX7 cX7_takeDigits 1 none 0 := ⟨tb_605, tb_604, ts_7, tb_5, by decide +kernel, by decide +kernel, by decide +kernel⟩
def f_X7_takeDigits_j76 (fu : Nat) (t_bytes : Nat → Int32) (t_start : Int32) (t_end : Int32) (t_kind : Int32) (t_value : Int32) (t_at : Int32) : Option (Int32 × Int32 × Int32) := (if (t_at - t_start) ≤ 4 then some (3, t_value, t_at) else some (1, t_value, t_at))
def f_X7_takeDigits_b0 (fu : Nat) (t_bytes : Nat → Int32) (t_start : Int32) (t_end : Int32) (k0 : Int32 → Int32 → Int32 → Option (Int32 × Int32 × Int32)) (t_kind : Int32) (t_value : Int32) (t_at : Int32) : Option (Int32 × Int32 × Int32) := (if t_end ≤ t_at then f_X7_takeDigits_j76 fu t_bytes t_start t_end t_kind t_value t_at else (rdI t_bytes 900 t_at).bind fun y_20 => (if y_20 < 48 then f_X7_takeDigits_j76 fu t_bytes t_start t_end t_kind t_value t_at else (rdI t_bytes 900 t_at).bind fun y_22 => (if 57 < y_22 then f_X7_takeDigits_j76 fu t_bytes t_start t_end t_kind t_value t_at else (rdI t_bytes 900 t_at).bind fun y_24 => bnd ((t_value * 10) + (y_24 - 48)) fun t_value_25 => bnd (t_at + 1) fun t_at_26 => k0 t_kind t_value_25 t_at_26)))
def f_X7_takeDigits_l0 (fu : Nat) (t_bytes : Nat → Int32) (t_start : Int32) (t_end : Int32) : Nat → Int32 → Int32 → Int32 → Option (Int32 × Int32 × Int32)
  | 0, _, _, _ => none
  | n + 1, t_kind, t_value, t_at => f_X7_takeDigits_b0 fu t_bytes t_start t_end (f_X7_takeDigits_l0 fu t_bytes t_start t_end n) t_kind t_value t_at
def f_X7_takeDigits (fu : Nat) (t_bytes : Nat → Int32) (t_kind : Int32) (t_start : Int32) (t_value : Int32) (t_end : Int32) (t_at : Int32) : Option (Int32 × Int32 × Int32) := f_X7_takeDigits_l0 fu t_bytes t_start t_end fu t_kind t_value t_at
abbrev rm_X7_takeDigits : Room := { frames := 0, cells := 0, slots := 0, locals := 0 }
set_option maxHeartbeats 4000000 in
set_option maxRecDepth 100000 in
theorem c_X7_takeDigits (l : Launch) (D : va_G) (cy : Nat → ClassId) (fu : Nat) (A_t : Nat → Nat) (t_bytes : Nat → Int32) (t_wordCodes : Nat → Int64) (t_length : Int32) (t_kind : Int32) (t_start : Int32) (t_value : Int32) (t_word : Int32) (t_name : Int64) (t_end : Int32) (t_at : Int32) (res : Int32 × Int32 × Int32) (h : f_X7_takeDigits fu t_bytes t_kind t_start t_value t_end t_at = some res) (A : Nat → Prop) (hA : A = adr [bl_X7 cy A_t t_bytes t_wordCodes t_length t_kind t_start t_value t_word t_name t_end t_at]) (W1 : List va_W) (hW1 : W1 = [bl_X7 cy A_t t_bytes t_wordCodes t_length res.1 t_start res.2.1 t_word t_name t_end res.2.2]) : Met l yX7_takeDigits (WW yX7_takeDigits cX7_takeDigits 1 none) rm_X7_takeDigits (Ed D cy [.ref (A_t 0)] [bl_X7 cy A_t t_bytes t_wordCodes t_length t_kind t_start t_value t_word t_name t_end t_at]) (Qev D A W1) 0 0 A := by
  refine Met.ofW (cc := cX7_takeDigits) (maxL := 1) (ret := none) (by decide) rfl ?_
  intro p e s m args below meth c s₁ B hml hv
  obtain ⟨hargs, hP, hX, hD0⟩ := hv
  have hx := B.exec
  have hb := B.bytes
  have hr := B.returns
  have ht : ∀ w ∈ lw_gd, w.before args s = true := fun w hw => atoms_spec (ws := WW yX7_takeDigits cX7_takeDigits 1 none) B.pre w (List.mem_cons_of_mem _ hw)
  have hown : s.vm.findClass RX7 = some m.cls := findClass_of_methodNamed B.named
  have hlocks := B.notSynchronized
  have hP : PD D A [bl_X7 cy A_t t_bytes t_wordCodes t_length t_kind t_start t_value t_word t_name t_end t_at] s.heap := ⟨hP, by rw [hA]; exact hD0.own⟩
  have hS : va_S A s.heap s.heap [] := va_S.rf
  obtain ⟨ls, hl, hent⟩ := ent (m := m) (n := 1) hargs (Nat.le_of_ble_eq_true rfl) (lv := [(0, .ref (A_t 0))]) rfl
  rw [hent]
  clear hent
  have j76 : ∀ (t_kind : Int32) (t_value : Int32) (t_at : Int32) (H : Heap) (locs : List Loc) (_ : PD D A [bl_X7 cy A_t t_bytes t_wordCodes t_length t_kind t_start t_value t_word t_name t_end t_at] H) (_ : va_S A s.heap H locs) (ls : Array Slot), lv_has ls 1 [(0, .ref (A_t 0))] → f_X7_takeDigits_j76 fu t_bytes t_start t_end t_kind t_value t_at = some res → W p l e (headSpec (WW yX7_takeDigits cX7_takeDigits 1 none) rm_X7_takeDigits).room s m args below meth c H locs 0 0 (MQ below (Qev D A W1) args s 0 0 A) (F0 m 76 ls []) := by
    intro t_kind t_value t_at H locs hP hS ls hl h
    unfold f_X7_takeDigits_j76 at h
    refine lv_aload_n hx hb dX7_takeDigits_76 rfl (lv_at hl 0 rfl) ?_
    refine lv_aload_n hx hb dX7_takeDigits_77 rfl (lv_at hl 0 rfl) ?_
    refine xget (i := 0) (j := 0) (k := 9) (T := TX7) hx hb ht tb_iX7 hown hX hP.1 rfl rfl rfl (by decide) tb_237 rfl dX7_takeDigits_78 ?_
    refine lv_aload_n hx hb dX7_takeDigits_81 rfl (lv_at hl 0 rfl) ?_
    refine xget (i := 0) (j := 0) (k := 4) (T := TX7) hx hb ht tb_iX7 hown hX hP.1 rfl rfl rfl (by decide) tb_224 rfl dX7_takeDigits_82 ?_
    refine lv_isub hx hb dX7_takeDigits_85 ?_
    refine lv_iconst (v := 4) hx hb dX7_takeDigits_86 (by decide) ?_
    refine lv_icmp_le (tgt := 94) hx hb dX7_takeDigits_87 (by decide) (fun c_18 => ?_) (fun c_18 => ?_)
    · have h := it c_18 h
      refine lv_iconst (v := 3) hx hb dX7_takeDigits_94 (by decide) ?_
      refine xput (i := 0) (j := 0) (k := 3) (T := TX7) tyX7 tyX7_ok nmX7 hx hb ht tb_iX7 hown hX hP hS rfl rfl rfl (by decide) tb_222 rfl rfl rfl (Nat.le_of_ble_eq_true rfl) dX7_takeDigits_95 (fun H locs hP hS => ?_)
      have hP : PD D A [bl_X7 cy A_t t_bytes t_wordCodes t_length 3 t_start t_value t_word t_name t_end t_at] H := hP
      cases h
      subst hW1
      exact W.vret hx hb hr (fun _ ht9 _ => ⟨⟨(), rfl, trivial, hPt ht9 hP.1⟩, hS.F ht9⟩) hS.2.2 dX7_takeDigits_98
    · have h := ie c_18 h
      refine lv_iconst (v := 1) hx hb dX7_takeDigits_90 (by decide) ?_
      refine lv_goto (tgt := 95) hx hb dX7_takeDigits_91 (by decide) ?_
      refine xput (i := 0) (j := 0) (k := 3) (T := TX7) tyX7 tyX7_ok nmX7 hx hb ht tb_iX7 hown hX hP hS rfl rfl rfl (by decide) tb_222 rfl rfl rfl (Nat.le_of_ble_eq_true rfl) dX7_takeDigits_95 (fun H locs hP hS => ?_)
      have hP : PD D A [bl_X7 cy A_t t_bytes t_wordCodes t_length 1 t_start t_value t_word t_name t_end t_at] H := hP
      cases h
      subst hW1
      exact W.vret hx hb hr (fun _ ht9 _ => ⟨⟨(), rfl, trivial, hPt ht9 hP.1⟩, hS.F ht9⟩) hS.2.2 dX7_takeDigits_98
  have l0 : ∀ (n0 : Nat) (t_kind : Int32) (t_value : Int32) (t_at : Int32) (H : Heap) (locs : List Loc) (_ : PD D A [bl_X7 cy A_t t_bytes t_wordCodes t_length t_kind t_start t_value t_word t_name t_end t_at] H) (_ : va_S A s.heap H locs) (ls : Array Slot), lv_has ls 1 [(0, .ref (A_t 0))] → f_X7_takeDigits_l0 fu t_bytes t_start t_end n0 t_kind t_value t_at = some res → W p l e (headSpec (WW yX7_takeDigits cX7_takeDigits 1 none) rm_X7_takeDigits).room s m args below meth c H locs 0 0 (MQ below (Qev D A W1) args s 0 0 A) (F0 m 0 ls []) := by
    intro n0
    induction n0 with
    | zero => intro t_kind t_value t_at H locs hP hS ls hl h; cases h
    | succ n0 ih0 =>
      intro t_kind t_value t_at H locs hP hS ls hl h
      have h : f_X7_takeDigits_b0 fu t_bytes t_start t_end (f_X7_takeDigits_l0 fu t_bytes t_start t_end n0) t_kind t_value t_at = some res := h
      unfold f_X7_takeDigits_b0 at h
      refine lv_aload_n hx hb dX7_takeDigits_0 rfl (lv_at hl 0 rfl) ?_
      refine xget (i := 0) (j := 0) (k := 9) (T := TX7) hx hb ht tb_iX7 hown hX hP.1 rfl rfl rfl (by decide) tb_237 rfl dX7_takeDigits_1 ?_
      refine lv_aload_n hx hb dX7_takeDigits_4 rfl (lv_at hl 0 rfl) ?_
      refine xget (i := 0) (j := 0) (k := 8) (T := TX7) hx hb ht tb_iX7 hown hX hP.1 rfl rfl rfl (by decide) tb_236 rfl dX7_takeDigits_5 ?_
      refine lv_icmp_ge (tgt := 76) hx hb dX7_takeDigits_8 (by decide) (fun c_19 => ?_) (fun c_19 => ?_)
      · have h := it c_19 h
        exact j76 t_kind t_value t_at _ _ hP hS ls (lv_sub hl [0] rfl) h
      · have h := ie c_19 h
        refine lv_aload_n hx hb dX7_takeDigits_11 rfl (lv_at hl 0 rfl) ?_
        refine xget (i := 0) (j := 0) (k := 0) (T := TX7) hx hb ht tb_iX7 hown hX hP.1 rfl rfl rfl (by decide) tb_218 rfl dX7_takeDigits_12 ?_
        refine lv_aload_n hx hb dX7_takeDigits_15 rfl (lv_at hl 0 rfl) ?_
        refine xget (i := 0) (j := 0) (k := 9) (T := TX7) hx hb ht tb_iX7 hown hX hP.1 rfl rfl rfl (by decide) tb_237 rfl dX7_takeDigits_16 ?_
        obtain ⟨y_20, e_y_20, h⟩ := bi h
        refine xbald (i0 := 0) (j0 := 1) hx hb hX hP.1 rfl rfl e_y_20 dX7_takeDigits_19 ?_
        refine lv_bipush (v := 48) hx hb dX7_takeDigits_20 (by decide) ?_
        refine lv_icmp_lt (tgt := 76) hx hb dX7_takeDigits_22 (by decide) (fun c_21 => ?_) (fun c_21 => ?_)
        · have h := it c_21 h
          exact j76 t_kind t_value t_at _ _ hP hS ls (lv_sub hl [0] rfl) h
        · have h := ie c_21 h
          refine lv_aload_n hx hb dX7_takeDigits_25 rfl (lv_at hl 0 rfl) ?_
          refine xget (i := 0) (j := 0) (k := 0) (T := TX7) hx hb ht tb_iX7 hown hX hP.1 rfl rfl rfl (by decide) tb_218 rfl dX7_takeDigits_26 ?_
          refine lv_aload_n hx hb dX7_takeDigits_29 rfl (lv_at hl 0 rfl) ?_
          refine xget (i := 0) (j := 0) (k := 9) (T := TX7) hx hb ht tb_iX7 hown hX hP.1 rfl rfl rfl (by decide) tb_237 rfl dX7_takeDigits_30 ?_
          obtain ⟨y_22, e_y_22, h⟩ := bi h
          refine xbald (i0 := 0) (j0 := 1) hx hb hX hP.1 rfl rfl e_y_22 dX7_takeDigits_33 ?_
          refine lv_bipush (v := 57) hx hb dX7_takeDigits_34 (by decide) ?_
          refine lv_icmp_gt (tgt := 76) hx hb dX7_takeDigits_36 (by decide) (fun c_23 => ?_) (fun c_23 => ?_)
          · have h := it c_23 h
            exact j76 t_kind t_value t_at _ _ hP hS ls (lv_sub hl [0] rfl) h
          · have h := ie c_23 h
            refine lv_aload_n hx hb dX7_takeDigits_39 rfl (lv_at hl 0 rfl) ?_
            refine lv_aload_n hx hb dX7_takeDigits_40 rfl (lv_at hl 0 rfl) ?_
            refine xget (i := 0) (j := 0) (k := 5) (T := TX7) hx hb ht tb_iX7 hown hX hP.1 rfl rfl rfl (by decide) tb_226 rfl dX7_takeDigits_41 ?_
            refine lv_bipush (v := 10) hx hb dX7_takeDigits_44 (by decide) ?_
            refine lv_imul hx hb dX7_takeDigits_46 ?_
            refine lv_aload_n hx hb dX7_takeDigits_47 rfl (lv_at hl 0 rfl) ?_
            refine xget (i := 0) (j := 0) (k := 0) (T := TX7) hx hb ht tb_iX7 hown hX hP.1 rfl rfl rfl (by decide) tb_218 rfl dX7_takeDigits_48 ?_
            refine lv_aload_n hx hb dX7_takeDigits_51 rfl (lv_at hl 0 rfl) ?_
            refine xget (i := 0) (j := 0) (k := 9) (T := TX7) hx hb ht tb_iX7 hown hX hP.1 rfl rfl rfl (by decide) tb_237 rfl dX7_takeDigits_52 ?_
            obtain ⟨y_24, e_y_24, h⟩ := bi h
            refine xbald (i0 := 0) (j0 := 1) hx hb hX hP.1 rfl rfl e_y_24 dX7_takeDigits_55 ?_
            refine lv_bipush (v := 48) hx hb dX7_takeDigits_56 (by decide) ?_
            refine lv_isub hx hb dX7_takeDigits_58 ?_
            refine lv_iadd hx hb dX7_takeDigits_59 ?_
            refine lv_topi (fun t_value_25 e_t_value_25 => ?_)
            have h := bn e_t_value_25 h
            refine xput (i := 0) (j := 0) (k := 5) (T := TX7) tyX7 tyX7_ok nmX7 hx hb ht tb_iX7 hown hX hP hS rfl rfl rfl (by decide) tb_226 rfl rfl rfl (Nat.le_of_ble_eq_true rfl) dX7_takeDigits_60 (fun H locs hP hS => ?_)
            have hP : PD D A [bl_X7 cy A_t t_bytes t_wordCodes t_length t_kind t_start t_value_25 t_word t_name t_end t_at] H := hP
            refine lv_aload_n hx hb dX7_takeDigits_63 rfl (lv_at hl 0 rfl) ?_
            refine lv_dup hx hb dX7_takeDigits_64 rfl ?_
            refine xget (i := 0) (j := 0) (k := 9) (T := TX7) hx hb ht tb_iX7 hown hX hP.1 rfl rfl rfl (by decide) tb_237 rfl dX7_takeDigits_65 ?_
            refine lv_iconst (v := 1) hx hb dX7_takeDigits_68 (by decide) ?_
            refine lv_iadd hx hb dX7_takeDigits_69 ?_
            refine lv_topi (fun t_at_26 e_t_at_26 => ?_)
            have h := bn e_t_at_26 h
            refine xput (i := 0) (j := 0) (k := 9) (T := TX7) tyX7 tyX7_ok nmX7 hx hb ht tb_iX7 hown hX hP hS rfl rfl rfl (by decide) tb_237 rfl rfl rfl (Nat.le_of_ble_eq_true rfl) dX7_takeDigits_70 (fun H locs hP hS => ?_)
            have hP : PD D A [bl_X7 cy A_t t_bytes t_wordCodes t_length t_kind t_start t_value_25 t_word t_name t_end t_at_26] H := hP
            refine lv_goto (tgt := 0) hx hb dX7_takeDigits_73 (by decide) ?_
            exact ih0 t_kind t_value_25 t_at_26 _ _ hP hS ls (lv_sub hl [0] rfl) h
  unfold f_X7_takeDigits at h
  exact l0 fu t_kind t_value t_at _ _ hP hS ls (lv_sub hl [0] rfl) h
theorem dX7_next_0 : decode cX7_next 0 = .ok (.aload_n 0, 1) := by decide +kernel
theorem dX7_next_1 : decode cX7_next 1 = .ok (.getfield 42, 3) := by decide +kernel
theorem dX7_next_4 : decode cX7_next 4 = .ok (.aload_n 0, 1) := by decide +kernel
theorem dX7_next_5 : decode cX7_next 5 = .ok (.getfield 39, 3) := by decide +kernel
theorem dX7_next_8 : decode cX7_next 8 = .ok (.if_icmp .ge 44, 3) := by decide +kernel
theorem dX7_next_11 : decode cX7_next 11 = .ok (.aload_n 0, 1) := by decide +kernel
theorem dX7_next_12 : decode cX7_next 12 = .ok (.getfield 9, 3) := by decide +kernel
theorem dX7_next_15 : decode cX7_next 15 = .ok (.aload_n 0, 1) := by decide +kernel
theorem dX7_next_16 : decode cX7_next 16 = .ok (.getfield 42, 3) := by decide +kernel
theorem dX7_next_19 : decode cX7_next 19 = .ok (.baload, 1) := by decide +kernel
theorem dX7_next_20 : decode cX7_next 20 = .ok (.bipush 10, 2) := by decide +kernel
theorem dX7_next_22 : decode cX7_next 22 = .ok (.if_icmp .eq 17, 3) := by decide +kernel
theorem dX7_next_25 : decode cX7_next 25 = .ok (.aload_n 0, 1) := by decide +kernel
theorem dX7_next_26 : decode cX7_next 26 = .ok (.getfield 9, 3) := by decide +kernel
theorem dX7_next_29 : decode cX7_next 29 = .ok (.aload_n 0, 1) := by decide +kernel
theorem dX7_next_30 : decode cX7_next 30 = .ok (.getfield 42, 3) := by decide +kernel
theorem dX7_next_33 : decode cX7_next 33 = .ok (.baload, 1) := by decide +kernel
theorem dX7_next_34 : decode cX7_next 34 = .ok (.bipush 32, 2) := by decide +kernel
theorem dX7_next_36 : decode cX7_next 36 = .ok (.if_icmp .ne 16, 3) := by decide +kernel
theorem dX7_next_39 : decode cX7_next 39 = .ok (.aload_n 0, 1) := by decide +kernel
theorem dX7_next_40 : decode cX7_next 40 = .ok (.dup, 1) := by decide +kernel
theorem dX7_next_41 : decode cX7_next 41 = .ok (.getfield 42, 3) := by decide +kernel
theorem dX7_next_44 : decode cX7_next 44 = .ok (.iconst 1, 1) := by decide +kernel
theorem dX7_next_45 : decode cX7_next 45 = .ok (.iadd, 1) := by decide +kernel
theorem dX7_next_46 : decode cX7_next 46 = .ok (.putfield 42, 3) := by decide +kernel
theorem dX7_next_49 : decode cX7_next 49 = .ok (.goto (-49), 3) := by decide +kernel
theorem dX7_next_52 : decode cX7_next 52 = .ok (.aload_n 0, 1) := by decide +kernel
theorem dX7_next_53 : decode cX7_next 53 = .ok (.aload_n 0, 1) := by decide +kernel
theorem dX7_next_54 : decode cX7_next 54 = .ok (.getfield 42, 3) := by decide +kernel
theorem dX7_next_57 : decode cX7_next 57 = .ok (.putfield 26, 3) := by decide +kernel
theorem dX7_next_60 : decode cX7_next 60 = .ok (.aload_n 0, 1) := by decide +kernel
theorem dX7_next_61 : decode cX7_next 61 = .ok (.iconst (-1), 1) := by decide +kernel
theorem dX7_next_62 : decode cX7_next 62 = .ok (.putfield 32, 3) := by decide +kernel
theorem dX7_next_65 : decode cX7_next 65 = .ok (.aload_n 0, 1) := by decide +kernel
theorem dX7_next_66 : decode cX7_next 66 = .ok (.lconst 0, 1) := by decide +kernel
theorem dX7_next_67 : decode cX7_next 67 = .ok (.putfield 35, 3) := by decide +kernel
theorem dX7_next_70 : decode cX7_next 70 = .ok (.aload_n 0, 1) := by decide +kernel
theorem dX7_next_71 : decode cX7_next 71 = .ok (.iconst 0, 1) := by decide +kernel
theorem dX7_next_72 : decode cX7_next 72 = .ok (.putfield 29, 3) := by decide +kernel
theorem dX7_next_75 : decode cX7_next 75 = .ok (.aload_n 0, 1) := by decide +kernel
theorem dX7_next_76 : decode cX7_next 76 = .ok (.getfield 42, 3) := by decide +kernel
theorem dX7_next_79 : decode cX7_next 79 = .ok (.aload_n 0, 1) := by decide +kernel
theorem dX7_next_80 : decode cX7_next 80 = .ok (.getfield 39, 3) := by decide +kernel
theorem dX7_next_83 : decode cX7_next 83 = .ok (.if_icmp .lt 11, 3) := by decide +kernel
theorem dX7_next_86 : decode cX7_next 86 = .ok (.aload_n 0, 1) := by decide +kernel
theorem dX7_next_87 : decode cX7_next 87 = .ok (.iconst 0, 1) := by decide +kernel
theorem dX7_next_88 : decode cX7_next 88 = .ok (.putfield 23, 3) := by decide +kernel
theorem dX7_next_91 : decode cX7_next 91 = .ok (.goto 115, 3) := by decide +kernel
theorem dX7_next_94 : decode cX7_next 94 = .ok (.aload_n 0, 1) := by decide +kernel
theorem dX7_next_95 : decode cX7_next 95 = .ok (.getfield 9, 3) := by decide +kernel
theorem dX7_next_98 : decode cX7_next 98 = .ok (.aload_n 0, 1) := by decide +kernel
theorem dX7_next_99 : decode cX7_next 99 = .ok (.getfield 42, 3) := by decide +kernel
theorem dX7_next_102 : decode cX7_next 102 = .ok (.baload, 1) := by decide +kernel
theorem dX7_next_103 : decode cX7_next 103 = .ok (.invokestatic 71, 3) := by decide +kernel
theorem dX7_next_106 : decode cX7_next 106 = .ok (.ifCond .eq 10, 3) := by decide +kernel
theorem dX7_next_109 : decode cX7_next 109 = .ok (.aload_n 0, 1) := by decide +kernel
theorem dX7_next_110 : decode cX7_next 110 = .ok (.invokevirtual 75, 3) := by decide +kernel
theorem dX7_next_113 : decode cX7_next 113 = .ok (.goto 93, 3) := by decide +kernel
theorem dX7_next_116 : decode cX7_next 116 = .ok (.aload_n 0, 1) := by decide +kernel
theorem dX7_next_117 : decode cX7_next 117 = .ok (.getfield 9, 3) := by decide +kernel
theorem dX7_next_120 : decode cX7_next 120 = .ok (.aload_n 0, 1) := by decide +kernel
theorem dX7_next_121 : decode cX7_next 121 = .ok (.getfield 42, 3) := by decide +kernel
theorem dX7_next_124 : decode cX7_next 124 = .ok (.baload, 1) := by decide +kernel
theorem dX7_next_125 : decode cX7_next 125 = .ok (.invokestatic 78, 3) := by decide +kernel
theorem dX7_next_128 : decode cX7_next 128 = .ok (.ifCond .eq 10, 3) := by decide +kernel
theorem dX7_next_131 : decode cX7_next 131 = .ok (.aload_n 0, 1) := by decide +kernel
theorem dX7_next_132 : decode cX7_next 132 = .ok (.invokevirtual 81, 3) := by decide +kernel
theorem dX7_next_135 : decode cX7_next 135 = .ok (.goto 71, 3) := by decide +kernel
theorem dX7_next_138 : decode cX7_next 138 = .ok (.aload_n 0, 1) := by decide +kernel
theorem dX7_next_139 : decode cX7_next 139 = .ok (.aload_n 0, 1) := by decide +kernel
theorem dX7_next_140 : decode cX7_next 140 = .ok (.getfield 9, 3) := by decide +kernel
theorem dX7_next_143 : decode cX7_next 143 = .ok (.aload_n 0, 1) := by decide +kernel
theorem dX7_next_144 : decode cX7_next 144 = .ok (.getfield 42, 3) := by decide +kernel
theorem dX7_next_147 : decode cX7_next 147 = .ok (.baload, 1) := by decide +kernel
theorem dX7_next_148 : decode cX7_next 148 = .ok (.putfield 29, 3) := by decide +kernel
theorem dX7_next_151 : decode cX7_next 151 = .ok (.aload_n 0, 1) := by decide +kernel
theorem dX7_next_152 : decode cX7_next 152 = .ok (.aload_n 0, 1) := by decide +kernel
theorem dX7_next_153 : decode cX7_next 153 = .ok (.getfield 29, 3) := by decide +kernel
theorem dX7_next_156 : decode cX7_next 156 = .ok (.bipush 59, 2) := by decide +kernel
theorem dX7_next_158 : decode cX7_next 158 = .ok (.if_icmp .eq 30, 3) := by decide +kernel
theorem dX7_next_161 : decode cX7_next 161 = .ok (.aload_n 0, 1) := by decide +kernel
theorem dX7_next_162 : decode cX7_next 162 = .ok (.getfield 29, 3) := by decide +kernel
theorem dX7_next_165 : decode cX7_next 165 = .ok (.bipush 60, 2) := by decide +kernel
theorem dX7_next_167 : decode cX7_next 167 = .ok (.if_icmp .eq 21, 3) := by decide +kernel
theorem dX7_next_170 : decode cX7_next 170 = .ok (.aload_n 0, 1) := by decide +kernel
theorem dX7_next_171 : decode cX7_next 171 = .ok (.getfield 29, 3) := by decide +kernel
theorem dX7_next_174 : decode cX7_next 174 = .ok (.bipush 62, 2) := by decide +kernel
theorem dX7_next_176 : decode cX7_next 176 = .ok (.if_icmp .eq 12, 3) := by decide +kernel
theorem dX7_next_179 : decode cX7_next 179 = .ok (.aload_n 0, 1) := by decide +kernel
theorem dX7_next_180 : decode cX7_next 180 = .ok (.getfield 29, 3) := by decide +kernel
theorem dX7_next_183 : decode cX7_next 183 = .ok (.bipush 61, 2) := by decide +kernel
theorem dX7_next_185 : decode cX7_next 185 = .ok (.if_icmp .ne 7, 3) := by decide +kernel
theorem dX7_next_188 : decode cX7_next 188 = .ok (.iconst 4, 1) := by decide +kernel
theorem dX7_next_189 : decode cX7_next 189 = .ok (.goto 4, 3) := by decide +kernel
theorem dX7_next_192 : decode cX7_next 192 = .ok (.iconst 1, 1) := by decide +kernel
theorem dX7_next_193 : decode cX7_next 193 = .ok (.putfield 23, 3) := by decide +kernel
theorem dX7_next_196 : decode cX7_next 196 = .ok (.aload_n 0, 1) := by decide +kernel
theorem dX7_next_197 : decode cX7_next 197 = .ok (.dup, 1) := by decide +kernel
theorem dX7_next_198 : decode cX7_next 198 = .ok (.getfield 42, 3) := by decide +kernel
theorem dX7_next_201 : decode cX7_next 201 = .ok (.iconst 1, 1) := by decide +kernel
theorem dX7_next_202 : decode cX7_next 202 = .ok (.iadd, 1) := by decide +kernel
theorem dX7_next_203 : decode cX7_next 203 = .ok (.putfield 42, 3) := by decide +kernel
theorem dX7_next_206 : decode cX7_next 206 = .ok (.return_, 1) := by decide +kernel
theorem mv_X7_next : MV yX7_next RX7 cX7_next 1 none 0 := ⟨tb_591, tb_589, tb_590, tb_5, by decide +kernel, by decide +kernel, by decide +kernel⟩
def f_X7_next_j52 (fu : Nat) (t_bytes : Nat → Int32) (t_wordCodes : Nat → Int64) (t_end : Int32) (t_kind : Int32) (t_start : Int32) (t_value : Int32) (t_word : Int32) (t_name : Int64) (t_at : Int32) : Option (Int32 × Int32 × Int32 × Int32 × Int64 × Int32) := (if t_at < t_end then (rdI t_bytes 900 t_at).bind fun y_35 => (f_X7_isLetter fu y_35).bind fun z_36 => (if z_36 = 0 then (rdI t_bytes 900 t_at).bind fun y_38 => (f_X7_isDigit fu y_38).bind fun z_39 => (if z_39 = 0 then (rdI t_bytes 900 t_at).bind fun y_41 => (if y_41 = 59 then bnd (t_at + 1) fun t_at_43 => some (4, t_at, y_41, (-1), 0, t_at_43) else (if y_41 = 60 then bnd (t_at + 1) fun t_at_45 => some (4, t_at, y_41, (-1), 0, t_at_45) else (if y_41 = 62 then bnd (t_at + 1) fun t_at_47 => some (4, t_at, y_41, (-1), 0, t_at_47) else (if y_41 = 61 then bnd (t_at + 1) fun t_at_50 => some (4, t_at, y_41, (-1), 0, t_at_50) else bnd (t_at + 1) fun t_at_49 => some (1, t_at, y_41, (-1), 0, t_at_49))))) else (f_X7_takeDigits fu t_bytes t_kind t_at 0 t_end t_at).bind fun z_51 => some (z_51.1, t_at, z_51.2.1, (-1), 0, z_51.2.2)) else (f_X7_takeLetters fu t_bytes t_wordCodes t_kind t_at (-1) 0 t_end t_at).bind fun z_52 => some (z_52.1, t_at, 0, z_52.2.1, z_52.2.2.1, z_52.2.2.2)) else some (0, t_at, 0, (-1), 0, t_at))
def f_X7_next_b0 (fu : Nat) (t_bytes : Nat → Int32) (t_wordCodes : Nat → Int64) (t_end : Int32) (k0 : Int32 → Int32 → Int32 → Int32 → Int64 → Int32 → Option (Int32 × Int32 × Int32 × Int32 × Int64 × Int32)) (t_kind : Int32) (t_start : Int32) (t_value : Int32) (t_word : Int32) (t_name : Int64) (t_at : Int32) : Option (Int32 × Int32 × Int32 × Int32 × Int64 × Int32) := (if t_end ≤ t_at then f_X7_next_j52 fu t_bytes t_wordCodes t_end t_kind t_start t_value t_word t_name t_at else (rdI t_bytes 900 t_at).bind fun y_54 => (if y_54 = 10 then bnd (t_at + 1) fun t_at_56 => k0 t_kind t_start t_value t_word t_name t_at_56 else (rdI t_bytes 900 t_at).bind fun y_57 => (if y_57 = 32 then bnd (t_at + 1) fun t_at_59 => k0 t_kind t_start t_value t_word t_name t_at_59 else f_X7_next_j52 fu t_bytes t_wordCodes t_end t_kind t_start t_value t_word t_name t_at)))
def f_X7_next_l0 (fu : Nat) (t_bytes : Nat → Int32) (t_wordCodes : Nat → Int64) (t_end : Int32) : Nat → Int32 → Int32 → Int32 → Int32 → Int64 → Int32 → Option (Int32 × Int32 × Int32 × Int32 × Int64 × Int32)
  | 0, _, _, _, _, _, _ => none
  | n + 1, t_kind, t_start, t_value, t_word, t_name, t_at => f_X7_next_b0 fu t_bytes t_wordCodes t_end (f_X7_next_l0 fu t_bytes t_wordCodes t_end n) t_kind t_start t_value t_word t_name t_at
def f_X7_next (fu : Nat) (t_bytes : Nat → Int32) (t_wordCodes : Nat → Int64) (t_kind : Int32) (t_start : Int32) (t_value : Int32) (t_word : Int32) (t_name : Int64) (t_end : Int32) (t_at : Int32) : Option (Int32 × Int32 × Int32 × Int32 × Int64 × Int32) := f_X7_next_l0 fu t_bytes t_wordCodes t_end fu t_kind t_start t_value t_word t_name t_at
abbrev rm_X7_next : Room := { frames := 1, cells := 0, slots := 0, locals := 23 }
set_option maxHeartbeats 4000000 in
set_option maxRecDepth 100000 in
theorem c_X7_next (l : Launch) (D : va_G) (cy : Nat → ClassId) (fu : Nat) (A_t : Nat → Nat) (t_bytes : Nat → Int32) (t_wordCodes : Nat → Int64) (t_length : Int32) (t_kind : Int32) (t_start : Int32) (t_value : Int32) (t_word : Int32) (t_name : Int64) (t_end : Int32) (t_at : Int32) (res : Int32 × Int32 × Int32 × Int32 × Int64 × Int32) (h : f_X7_next fu t_bytes t_wordCodes t_kind t_start t_value t_word t_name t_end t_at = some res) (A : Nat → Prop) (hA : A = adr [bl_X7 cy A_t t_bytes t_wordCodes t_length t_kind t_start t_value t_word t_name t_end t_at]) (W1 : List va_W) (hW1 : W1 = [bl_X7 cy A_t t_bytes t_wordCodes t_length res.1 res.2.1 res.2.2.1 res.2.2.2.1 res.2.2.2.2.1 t_end res.2.2.2.2.2]) : Met l yX7_next (WW yX7_next cX7_next 1 none) rm_X7_next (Ed D cy [.ref (A_t 0)] [bl_X7 cy A_t t_bytes t_wordCodes t_length t_kind t_start t_value t_word t_name t_end t_at]) (Qev D A W1) 0 0 A := by
  refine Met.ofW (cc := cX7_next) (maxL := 1) (ret := none) (by decide) rfl ?_
  intro p e s m args below meth c s₁ B hml hv
  obtain ⟨hargs, hP, hX, hD0⟩ := hv
  have hx := B.exec
  have hb := B.bytes
  have hr := B.returns
  have ht : ∀ w ∈ lw_gd, w.before args s = true := fun w hw => atoms_spec (ws := WW yX7_next cX7_next 1 none) B.pre w (List.mem_cons_of_mem _ hw)
  have hown : s.vm.findClass RX7 = some m.cls := findClass_of_methodNamed B.named
  have hlocks := B.notSynchronized
  have hP : PD D A [bl_X7 cy A_t t_bytes t_wordCodes t_length t_kind t_start t_value t_word t_name t_end t_at] s.heap := ⟨hP, by rw [hA]; exact hD0.own⟩
  have hS : va_S A s.heap s.heap [] := va_S.rf
  obtain ⟨ls, hl, hent⟩ := ent (m := m) (n := 1) hargs (Nat.le_of_ble_eq_true rfl) (lv := [(0, .ref (A_t 0))]) rfl
  rw [hent]
  clear hent
  have j52 : ∀ (t_kind : Int32) (t_start : Int32) (t_value : Int32) (t_word : Int32) (t_name : Int64) (t_at : Int32) (H : Heap) (locs : List Loc) (_ : PD D A [bl_X7 cy A_t t_bytes t_wordCodes t_length t_kind t_start t_value t_word t_name t_end t_at] H) (_ : va_S A s.heap H locs) (ls : Array Slot), lv_has ls 1 [(0, .ref (A_t 0))] → f_X7_next_j52 fu t_bytes t_wordCodes t_end t_kind t_start t_value t_word t_name t_at = some res → W p l e (headSpec (WW yX7_next cX7_next 1 none) rm_X7_next).room s m args below meth c H locs 0 0 (MQ below (Qev D A W1) args s 0 0 A) (F0 m 52 ls []) := by
    intro t_kind t_start t_value t_word t_name t_at H locs hP hS ls hl h
    unfold f_X7_next_j52 at h
    refine lv_aload_n hx hb dX7_next_52 rfl (lv_at hl 0 rfl) ?_
    refine lv_aload_n hx hb dX7_next_53 rfl (lv_at hl 0 rfl) ?_
    refine xget (i := 0) (j := 0) (k := 9) (T := TX7) hx hb ht tb_iX7 hown hX hP.1 rfl rfl rfl (by decide) tb_237 rfl dX7_next_54 ?_
    refine xput (i := 0) (j := 0) (k := 4) (T := TX7) tyX7 tyX7_ok nmX7 hx hb ht tb_iX7 hown hX hP hS rfl rfl rfl (by decide) tb_224 rfl rfl rfl (Nat.le_of_ble_eq_true rfl) dX7_next_57 (fun H locs hP hS => ?_)
    have hP : PD D A [bl_X7 cy A_t t_bytes t_wordCodes t_length t_kind t_at t_value t_word t_name t_end t_at] H := hP
    refine lv_aload_n hx hb dX7_next_60 rfl (lv_at hl 0 rfl) ?_
    refine lv_iconst (v := (-1)) hx hb dX7_next_61 (by decide) ?_
    refine xput (i := 0) (j := 0) (k := 6) (T := TX7) tyX7 tyX7_ok nmX7 hx hb ht tb_iX7 hown hX hP hS rfl rfl rfl (by decide) tb_229 rfl rfl rfl (Nat.le_of_ble_eq_true rfl) dX7_next_62 (fun H locs hP hS => ?_)
    have hP : PD D A [bl_X7 cy A_t t_bytes t_wordCodes t_length t_kind t_at t_value (-1) t_name t_end t_at] H := hP
    refine lv_aload_n hx hb dX7_next_65 rfl (lv_at hl 0 rfl) ?_
    refine lv_lconst (v := 0) hx hb dX7_next_66 (by decide) ?_
    refine xput (i := 0) (j := 0) (k := 7) (T := TX7) tyX7 tyX7_ok nmX7 hx hb ht tb_iX7 hown hX hP hS rfl rfl rfl (by decide) tb_233 rfl rfl rfl (Nat.le_of_ble_eq_true rfl) dX7_next_67 (fun H locs hP hS => ?_)
    have hP : PD D A [bl_X7 cy A_t t_bytes t_wordCodes t_length t_kind t_at t_value (-1) 0 t_end t_at] H := hP
    refine lv_aload_n hx hb dX7_next_70 rfl (lv_at hl 0 rfl) ?_
    refine lv_iconst (v := 0) hx hb dX7_next_71 (by decide) ?_
    refine xput (i := 0) (j := 0) (k := 5) (T := TX7) tyX7 tyX7_ok nmX7 hx hb ht tb_iX7 hown hX hP hS rfl rfl rfl (by decide) tb_226 rfl rfl rfl (Nat.le_of_ble_eq_true rfl) dX7_next_72 (fun H locs hP hS => ?_)
    have hP : PD D A [bl_X7 cy A_t t_bytes t_wordCodes t_length t_kind t_at 0 (-1) 0 t_end t_at] H := hP
    refine lv_aload_n hx hb dX7_next_75 rfl (lv_at hl 0 rfl) ?_
    refine xget (i := 0) (j := 0) (k := 9) (T := TX7) hx hb ht tb_iX7 hown hX hP.1 rfl rfl rfl (by decide) tb_237 rfl dX7_next_76 ?_
    refine lv_aload_n hx hb dX7_next_79 rfl (lv_at hl 0 rfl) ?_
    refine xget (i := 0) (j := 0) (k := 8) (T := TX7) hx hb ht tb_iX7 hown hX hP.1 rfl rfl rfl (by decide) tb_236 rfl dX7_next_80 ?_
    refine lv_icmp_lt (tgt := 94) hx hb dX7_next_83 (by decide) (fun c_34 => ?_) (fun c_34 => ?_)
    · have h := it c_34 h
      refine lv_aload_n hx hb dX7_next_94 rfl (lv_at hl 0 rfl) ?_
      refine xget (i := 0) (j := 0) (k := 0) (T := TX7) hx hb ht tb_iX7 hown hX hP.1 rfl rfl rfl (by decide) tb_218 rfl dX7_next_95 ?_
      refine lv_aload_n hx hb dX7_next_98 rfl (lv_at hl 0 rfl) ?_
      refine xget (i := 0) (j := 0) (k := 9) (T := TX7) hx hb ht tb_iX7 hown hX hP.1 rfl rfl rfl (by decide) tb_237 rfl dX7_next_99 ?_
      obtain ⟨y_35, e_y_35, h⟩ := bi h
      refine xbald (i0 := 0) (j0 := 1) hx hb hX hP.1 rfl rfl e_y_35 dX7_next_102 ?_
      obtain ⟨z_36, e_z_36, h⟩ := bi h
      refine roSi (rest := []) ⟨hx, hb, hml, hown, ht⟩ (c_X7_isLetter l D cy fu  y_35 z_36 e_z_36) (cS ht ms_X7_isLetter tb_592 rfl rfl ⟨Nat.le_of_ble_eq_true rfl, Nat.le_of_ble_eq_true rfl⟩) (P_sub hP.1 [] rfl) hX rfl hl.1 rfl (Nat.le_of_ble_eq_true rfl) dX7_next_103 ⟨Nat.le_of_ble_eq_true rfl, Nat.le_of_ble_eq_true rfl⟩ ?_
      refine lv_if_eq (tgt := 116) hx hb dX7_next_106 (by decide) (fun c_37 => ?_) (fun c_37 => ?_)
      · have h := it c_37 h
        refine lv_aload_n hx hb dX7_next_116 rfl (lv_at hl 0 rfl) ?_
        refine xget (i := 0) (j := 0) (k := 0) (T := TX7) hx hb ht tb_iX7 hown hX hP.1 rfl rfl rfl (by decide) tb_218 rfl dX7_next_117 ?_
        refine lv_aload_n hx hb dX7_next_120 rfl (lv_at hl 0 rfl) ?_
        refine xget (i := 0) (j := 0) (k := 9) (T := TX7) hx hb ht tb_iX7 hown hX hP.1 rfl rfl rfl (by decide) tb_237 rfl dX7_next_121 ?_
        obtain ⟨y_38, e_y_38, h⟩ := bi h
        refine xbald (i0 := 0) (j0 := 1) hx hb hX hP.1 rfl rfl e_y_38 dX7_next_124 ?_
        obtain ⟨z_39, e_z_39, h⟩ := bi h
        refine roSi (rest := []) ⟨hx, hb, hml, hown, ht⟩ (c_X7_isDigit l D cy fu  y_38 z_39 e_z_39) (cS ht ms_X7_isDigit tb_599 rfl rfl ⟨Nat.le_of_ble_eq_true rfl, Nat.le_of_ble_eq_true rfl⟩) (P_sub hP.1 [] rfl) hX rfl hl.1 rfl (Nat.le_of_ble_eq_true rfl) dX7_next_125 ⟨Nat.le_of_ble_eq_true rfl, Nat.le_of_ble_eq_true rfl⟩ ?_
        refine lv_if_eq (tgt := 138) hx hb dX7_next_128 (by decide) (fun c_40 => ?_) (fun c_40 => ?_)
        · have h := it c_40 h
          refine lv_aload_n hx hb dX7_next_138 rfl (lv_at hl 0 rfl) ?_
          refine lv_aload_n hx hb dX7_next_139 rfl (lv_at hl 0 rfl) ?_
          refine xget (i := 0) (j := 0) (k := 0) (T := TX7) hx hb ht tb_iX7 hown hX hP.1 rfl rfl rfl (by decide) tb_218 rfl dX7_next_140 ?_
          refine lv_aload_n hx hb dX7_next_143 rfl (lv_at hl 0 rfl) ?_
          refine xget (i := 0) (j := 0) (k := 9) (T := TX7) hx hb ht tb_iX7 hown hX hP.1 rfl rfl rfl (by decide) tb_237 rfl dX7_next_144 ?_
          obtain ⟨y_41, e_y_41, h⟩ := bi h
          refine xbald (i0 := 0) (j0 := 1) hx hb hX hP.1 rfl rfl e_y_41 dX7_next_147 ?_
          refine xput (i := 0) (j := 0) (k := 5) (T := TX7) tyX7 tyX7_ok nmX7 hx hb ht tb_iX7 hown hX hP hS rfl rfl rfl (by decide) tb_226 rfl rfl rfl (Nat.le_of_ble_eq_true rfl) dX7_next_148 (fun H locs hP hS => ?_)
          have hP : PD D A [bl_X7 cy A_t t_bytes t_wordCodes t_length t_kind t_at y_41 (-1) 0 t_end t_at] H := hP
          refine lv_aload_n hx hb dX7_next_151 rfl (lv_at hl 0 rfl) ?_
          refine lv_aload_n hx hb dX7_next_152 rfl (lv_at hl 0 rfl) ?_
          refine xget (i := 0) (j := 0) (k := 5) (T := TX7) hx hb ht tb_iX7 hown hX hP.1 rfl rfl rfl (by decide) tb_226 rfl dX7_next_153 ?_
          refine lv_bipush (v := 59) hx hb dX7_next_156 (by decide) ?_
          refine lv_icmp_eq (tgt := 188) hx hb dX7_next_158 (by decide) (fun c_42 => ?_) (fun c_42 => ?_)
          · have h := it c_42 h
            refine lv_iconst (v := 4) hx hb dX7_next_188 (by decide) ?_
            refine lv_goto (tgt := 193) hx hb dX7_next_189 (by decide) ?_
            refine xput (i := 0) (j := 0) (k := 3) (T := TX7) tyX7 tyX7_ok nmX7 hx hb ht tb_iX7 hown hX hP hS rfl rfl rfl (by decide) tb_222 rfl rfl rfl (Nat.le_of_ble_eq_true rfl) dX7_next_193 (fun H locs hP hS => ?_)
            have hP : PD D A [bl_X7 cy A_t t_bytes t_wordCodes t_length 4 t_at y_41 (-1) 0 t_end t_at] H := hP
            refine lv_aload_n hx hb dX7_next_196 rfl (lv_at hl 0 rfl) ?_
            refine lv_dup hx hb dX7_next_197 rfl ?_
            refine xget (i := 0) (j := 0) (k := 9) (T := TX7) hx hb ht tb_iX7 hown hX hP.1 rfl rfl rfl (by decide) tb_237 rfl dX7_next_198 ?_
            refine lv_iconst (v := 1) hx hb dX7_next_201 (by decide) ?_
            refine lv_iadd hx hb dX7_next_202 ?_
            refine lv_topi (fun t_at_43 e_t_at_43 => ?_)
            have h := bn e_t_at_43 h
            refine xput (i := 0) (j := 0) (k := 9) (T := TX7) tyX7 tyX7_ok nmX7 hx hb ht tb_iX7 hown hX hP hS rfl rfl rfl (by decide) tb_237 rfl rfl rfl (Nat.le_of_ble_eq_true rfl) dX7_next_203 (fun H locs hP hS => ?_)
            have hP : PD D A [bl_X7 cy A_t t_bytes t_wordCodes t_length 4 t_at y_41 (-1) 0 t_end t_at_43] H := hP
            cases h
            subst hW1
            exact W.vret hx hb hr (fun _ ht9 _ => ⟨⟨(), rfl, trivial, hPt ht9 hP.1⟩, hS.F ht9⟩) hS.2.2 dX7_next_206
          · have h := ie c_42 h
            refine lv_aload_n hx hb dX7_next_161 rfl (lv_at hl 0 rfl) ?_
            refine xget (i := 0) (j := 0) (k := 5) (T := TX7) hx hb ht tb_iX7 hown hX hP.1 rfl rfl rfl (by decide) tb_226 rfl dX7_next_162 ?_
            refine lv_bipush (v := 60) hx hb dX7_next_165 (by decide) ?_
            refine lv_icmp_eq (tgt := 188) hx hb dX7_next_167 (by decide) (fun c_44 => ?_) (fun c_44 => ?_)
            · have h := it c_44 h
              refine lv_iconst (v := 4) hx hb dX7_next_188 (by decide) ?_
              refine lv_goto (tgt := 193) hx hb dX7_next_189 (by decide) ?_
              refine xput (i := 0) (j := 0) (k := 3) (T := TX7) tyX7 tyX7_ok nmX7 hx hb ht tb_iX7 hown hX hP hS rfl rfl rfl (by decide) tb_222 rfl rfl rfl (Nat.le_of_ble_eq_true rfl) dX7_next_193 (fun H locs hP hS => ?_)
              have hP : PD D A [bl_X7 cy A_t t_bytes t_wordCodes t_length 4 t_at y_41 (-1) 0 t_end t_at] H := hP
              refine lv_aload_n hx hb dX7_next_196 rfl (lv_at hl 0 rfl) ?_
              refine lv_dup hx hb dX7_next_197 rfl ?_
              refine xget (i := 0) (j := 0) (k := 9) (T := TX7) hx hb ht tb_iX7 hown hX hP.1 rfl rfl rfl (by decide) tb_237 rfl dX7_next_198 ?_
              refine lv_iconst (v := 1) hx hb dX7_next_201 (by decide) ?_
              refine lv_iadd hx hb dX7_next_202 ?_
              refine lv_topi (fun t_at_45 e_t_at_45 => ?_)
              have h := bn e_t_at_45 h
              refine xput (i := 0) (j := 0) (k := 9) (T := TX7) tyX7 tyX7_ok nmX7 hx hb ht tb_iX7 hown hX hP hS rfl rfl rfl (by decide) tb_237 rfl rfl rfl (Nat.le_of_ble_eq_true rfl) dX7_next_203 (fun H locs hP hS => ?_)
              have hP : PD D A [bl_X7 cy A_t t_bytes t_wordCodes t_length 4 t_at y_41 (-1) 0 t_end t_at_45] H := hP
              cases h
              subst hW1
              exact W.vret hx hb hr (fun _ ht9 _ => ⟨⟨(), rfl, trivial, hPt ht9 hP.1⟩, hS.F ht9⟩) hS.2.2 dX7_next_206
            · have h := ie c_44 h
              refine lv_aload_n hx hb dX7_next_170 rfl (lv_at hl 0 rfl) ?_
              refine xget (i := 0) (j := 0) (k := 5) (T := TX7) hx hb ht tb_iX7 hown hX hP.1 rfl rfl rfl (by decide) tb_226 rfl dX7_next_171 ?_
              refine lv_bipush (v := 62) hx hb dX7_next_174 (by decide) ?_
              refine lv_icmp_eq (tgt := 188) hx hb dX7_next_176 (by decide) (fun c_46 => ?_) (fun c_46 => ?_)
              · have h := it c_46 h
                refine lv_iconst (v := 4) hx hb dX7_next_188 (by decide) ?_
                refine lv_goto (tgt := 193) hx hb dX7_next_189 (by decide) ?_
                refine xput (i := 0) (j := 0) (k := 3) (T := TX7) tyX7 tyX7_ok nmX7 hx hb ht tb_iX7 hown hX hP hS rfl rfl rfl (by decide) tb_222 rfl rfl rfl (Nat.le_of_ble_eq_true rfl) dX7_next_193 (fun H locs hP hS => ?_)
                have hP : PD D A [bl_X7 cy A_t t_bytes t_wordCodes t_length 4 t_at y_41 (-1) 0 t_end t_at] H := hP
                refine lv_aload_n hx hb dX7_next_196 rfl (lv_at hl 0 rfl) ?_
                refine lv_dup hx hb dX7_next_197 rfl ?_
                refine xget (i := 0) (j := 0) (k := 9) (T := TX7) hx hb ht tb_iX7 hown hX hP.1 rfl rfl rfl (by decide) tb_237 rfl dX7_next_198 ?_
                refine lv_iconst (v := 1) hx hb dX7_next_201 (by decide) ?_
                refine lv_iadd hx hb dX7_next_202 ?_
                refine lv_topi (fun t_at_47 e_t_at_47 => ?_)
                have h := bn e_t_at_47 h
                refine xput (i := 0) (j := 0) (k := 9) (T := TX7) tyX7 tyX7_ok nmX7 hx hb ht tb_iX7 hown hX hP hS rfl rfl rfl (by decide) tb_237 rfl rfl rfl (Nat.le_of_ble_eq_true rfl) dX7_next_203 (fun H locs hP hS => ?_)
                have hP : PD D A [bl_X7 cy A_t t_bytes t_wordCodes t_length 4 t_at y_41 (-1) 0 t_end t_at_47] H := hP
                cases h
                subst hW1
                exact W.vret hx hb hr (fun _ ht9 _ => ⟨⟨(), rfl, trivial, hPt ht9 hP.1⟩, hS.F ht9⟩) hS.2.2 dX7_next_206
              · have h := ie c_46 h
                refine lv_aload_n hx hb dX7_next_179 rfl (lv_at hl 0 rfl) ?_
                refine xget (i := 0) (j := 0) (k := 5) (T := TX7) hx hb ht tb_iX7 hown hX hP.1 rfl rfl rfl (by decide) tb_226 rfl dX7_next_180 ?_
                refine lv_bipush (v := 61) hx hb dX7_next_183 (by decide) ?_
                refine lv_icmp_ne (tgt := 192) hx hb dX7_next_185 (by decide) (fun c_48 => ?_) (fun c_48 => ?_)
                · have h := ie c_48 h
                  refine lv_iconst (v := 1) hx hb dX7_next_192 (by decide) ?_
                  refine xput (i := 0) (j := 0) (k := 3) (T := TX7) tyX7 tyX7_ok nmX7 hx hb ht tb_iX7 hown hX hP hS rfl rfl rfl (by decide) tb_222 rfl rfl rfl (Nat.le_of_ble_eq_true rfl) dX7_next_193 (fun H locs hP hS => ?_)
                  have hP : PD D A [bl_X7 cy A_t t_bytes t_wordCodes t_length 1 t_at y_41 (-1) 0 t_end t_at] H := hP
                  refine lv_aload_n hx hb dX7_next_196 rfl (lv_at hl 0 rfl) ?_
                  refine lv_dup hx hb dX7_next_197 rfl ?_
                  refine xget (i := 0) (j := 0) (k := 9) (T := TX7) hx hb ht tb_iX7 hown hX hP.1 rfl rfl rfl (by decide) tb_237 rfl dX7_next_198 ?_
                  refine lv_iconst (v := 1) hx hb dX7_next_201 (by decide) ?_
                  refine lv_iadd hx hb dX7_next_202 ?_
                  refine lv_topi (fun t_at_49 e_t_at_49 => ?_)
                  have h := bn e_t_at_49 h
                  refine xput (i := 0) (j := 0) (k := 9) (T := TX7) tyX7 tyX7_ok nmX7 hx hb ht tb_iX7 hown hX hP hS rfl rfl rfl (by decide) tb_237 rfl rfl rfl (Nat.le_of_ble_eq_true rfl) dX7_next_203 (fun H locs hP hS => ?_)
                  have hP : PD D A [bl_X7 cy A_t t_bytes t_wordCodes t_length 1 t_at y_41 (-1) 0 t_end t_at_49] H := hP
                  cases h
                  subst hW1
                  exact W.vret hx hb hr (fun _ ht9 _ => ⟨⟨(), rfl, trivial, hPt ht9 hP.1⟩, hS.F ht9⟩) hS.2.2 dX7_next_206
                · have h := it c_48 h
                  refine lv_iconst (v := 4) hx hb dX7_next_188 (by decide) ?_
                  refine lv_goto (tgt := 193) hx hb dX7_next_189 (by decide) ?_
                  refine xput (i := 0) (j := 0) (k := 3) (T := TX7) tyX7 tyX7_ok nmX7 hx hb ht tb_iX7 hown hX hP hS rfl rfl rfl (by decide) tb_222 rfl rfl rfl (Nat.le_of_ble_eq_true rfl) dX7_next_193 (fun H locs hP hS => ?_)
                  have hP : PD D A [bl_X7 cy A_t t_bytes t_wordCodes t_length 4 t_at y_41 (-1) 0 t_end t_at] H := hP
                  refine lv_aload_n hx hb dX7_next_196 rfl (lv_at hl 0 rfl) ?_
                  refine lv_dup hx hb dX7_next_197 rfl ?_
                  refine xget (i := 0) (j := 0) (k := 9) (T := TX7) hx hb ht tb_iX7 hown hX hP.1 rfl rfl rfl (by decide) tb_237 rfl dX7_next_198 ?_
                  refine lv_iconst (v := 1) hx hb dX7_next_201 (by decide) ?_
                  refine lv_iadd hx hb dX7_next_202 ?_
                  refine lv_topi (fun t_at_50 e_t_at_50 => ?_)
                  have h := bn e_t_at_50 h
                  refine xput (i := 0) (j := 0) (k := 9) (T := TX7) tyX7 tyX7_ok nmX7 hx hb ht tb_iX7 hown hX hP hS rfl rfl rfl (by decide) tb_237 rfl rfl rfl (Nat.le_of_ble_eq_true rfl) dX7_next_203 (fun H locs hP hS => ?_)
                  have hP : PD D A [bl_X7 cy A_t t_bytes t_wordCodes t_length 4 t_at y_41 (-1) 0 t_end t_at_50] H := hP
                  cases h
                  subst hW1
                  exact W.vret hx hb hr (fun _ ht9 _ => ⟨⟨(), rfl, trivial, hPt ht9 hP.1⟩, hS.F ht9⟩) hS.2.2 dX7_next_206
        · have h := ie c_40 h
          refine lv_aload_n hx hb dX7_next_131 rfl (lv_at hl 0 rfl) ?_
          obtain ⟨z_51, e_z_51, h⟩ := bi h
          refine efVv (rest := []) ⟨hx, hb, hml, hown, ht⟩ (c_X7_takeDigits l D cy fu A_t t_bytes t_wordCodes t_length t_kind t_at 0 (-1) 0 t_end t_at z_51 e_z_51 _ rfl _ rfl) (cV ht mv_X7_takeDigits tb_602 rfl rfl ⟨Nat.le_of_ble_eq_true rfl, Nat.le_of_ble_eq_true rfl⟩) hP hS hX [0] rfl rfl rfl rfl rfl rfl hl.1 rfl (Nat.le_of_ble_eq_true rfl) dX7_next_132 ⟨Nat.le_of_ble_eq_true rfl, Nat.le_of_ble_eq_true rfl⟩ (fun H locs hP hS => ?_)
          have hP : PD D A [bl_X7 cy A_t t_bytes t_wordCodes t_length z_51.1 t_at z_51.2.1 (-1) 0 t_end z_51.2.2] H := hP
          refine lv_goto (tgt := 206) hx hb dX7_next_135 (by decide) ?_
          cases h
          subst hW1
          exact W.vret hx hb hr (fun _ ht9 _ => ⟨⟨(), rfl, trivial, hPt ht9 hP.1⟩, hS.F ht9⟩) hS.2.2 dX7_next_206
      · have h := ie c_37 h
        refine lv_aload_n hx hb dX7_next_109 rfl (lv_at hl 0 rfl) ?_
        obtain ⟨z_52, e_z_52, h⟩ := bi h
        refine efVv (rest := []) ⟨hx, hb, hml, hown, ht⟩ (c_X7_takeLetters l D cy fu A_t t_bytes t_wordCodes t_length t_kind t_at 0 (-1) 0 t_end t_at z_52 e_z_52 _ rfl _ rfl) (cV ht mv_X7_takeLetters tb_595 rfl rfl ⟨Nat.le_of_ble_eq_true rfl, Nat.le_of_ble_eq_true rfl⟩) hP hS hX [0] rfl rfl rfl rfl rfl rfl hl.1 rfl (Nat.le_of_ble_eq_true rfl) dX7_next_110 ⟨Nat.le_of_ble_eq_true rfl, Nat.le_of_ble_eq_true rfl⟩ (fun H locs hP hS => ?_)
        have hP : PD D A [bl_X7 cy A_t t_bytes t_wordCodes t_length z_52.1 t_at 0 z_52.2.1 z_52.2.2.1 t_end z_52.2.2.2] H := hP
        refine lv_goto (tgt := 206) hx hb dX7_next_113 (by decide) ?_
        cases h
        subst hW1
        exact W.vret hx hb hr (fun _ ht9 _ => ⟨⟨(), rfl, trivial, hPt ht9 hP.1⟩, hS.F ht9⟩) hS.2.2 dX7_next_206
    · have h := ie c_34 h
      refine lv_aload_n hx hb dX7_next_86 rfl (lv_at hl 0 rfl) ?_
      refine lv_iconst (v := 0) hx hb dX7_next_87 (by decide) ?_
      refine xput (i := 0) (j := 0) (k := 3) (T := TX7) tyX7 tyX7_ok nmX7 hx hb ht tb_iX7 hown hX hP hS rfl rfl rfl (by decide) tb_222 rfl rfl rfl (Nat.le_of_ble_eq_true rfl) dX7_next_88 (fun H locs hP hS => ?_)
      have hP : PD D A [bl_X7 cy A_t t_bytes t_wordCodes t_length 0 t_at 0 (-1) 0 t_end t_at] H := hP
      refine lv_goto (tgt := 206) hx hb dX7_next_91 (by decide) ?_
      cases h
      subst hW1
      exact W.vret hx hb hr (fun _ ht9 _ => ⟨⟨(), rfl, trivial, hPt ht9 hP.1⟩, hS.F ht9⟩) hS.2.2 dX7_next_206
  have l0 : ∀ (n0 : Nat) (t_kind : Int32) (t_start : Int32) (t_value : Int32) (t_word : Int32) (t_name : Int64) (t_at : Int32) (H : Heap) (locs : List Loc) (_ : PD D A [bl_X7 cy A_t t_bytes t_wordCodes t_length t_kind t_start t_value t_word t_name t_end t_at] H) (_ : va_S A s.heap H locs) (ls : Array Slot), lv_has ls 1 [(0, .ref (A_t 0))] → f_X7_next_l0 fu t_bytes t_wordCodes t_end n0 t_kind t_start t_value t_word t_name t_at = some res → W p l e (headSpec (WW yX7_next cX7_next 1 none) rm_X7_next).room s m args below meth c H locs 0 0 (MQ below (Qev D A W1) args s 0 0 A) (F0 m 0 ls []) := by
    intro n0
    induction n0 with
    | zero => intro t_kind t_start t_value t_word t_name t_at H locs hP hS ls hl h; cases h
    | succ n0 ih0 =>
      intro t_kind t_start t_value t_word t_name t_at H locs hP hS ls hl h
      have h : f_X7_next_b0 fu t_bytes t_wordCodes t_end (f_X7_next_l0 fu t_bytes t_wordCodes t_end n0) t_kind t_start t_value t_word t_name t_at = some res := h
      unfold f_X7_next_b0 at h
      refine lv_aload_n hx hb dX7_next_0 rfl (lv_at hl 0 rfl) ?_
      refine xget (i := 0) (j := 0) (k := 9) (T := TX7) hx hb ht tb_iX7 hown hX hP.1 rfl rfl rfl (by decide) tb_237 rfl dX7_next_1 ?_
      refine lv_aload_n hx hb dX7_next_4 rfl (lv_at hl 0 rfl) ?_
      refine xget (i := 0) (j := 0) (k := 8) (T := TX7) hx hb ht tb_iX7 hown hX hP.1 rfl rfl rfl (by decide) tb_236 rfl dX7_next_5 ?_
      refine lv_icmp_ge (tgt := 52) hx hb dX7_next_8 (by decide) (fun c_53 => ?_) (fun c_53 => ?_)
      · have h := it c_53 h
        exact j52 t_kind t_start t_value t_word t_name t_at _ _ hP hS ls (lv_sub hl [0] rfl) h
      · have h := ie c_53 h
        refine lv_aload_n hx hb dX7_next_11 rfl (lv_at hl 0 rfl) ?_
        refine xget (i := 0) (j := 0) (k := 0) (T := TX7) hx hb ht tb_iX7 hown hX hP.1 rfl rfl rfl (by decide) tb_218 rfl dX7_next_12 ?_
        refine lv_aload_n hx hb dX7_next_15 rfl (lv_at hl 0 rfl) ?_
        refine xget (i := 0) (j := 0) (k := 9) (T := TX7) hx hb ht tb_iX7 hown hX hP.1 rfl rfl rfl (by decide) tb_237 rfl dX7_next_16 ?_
        obtain ⟨y_54, e_y_54, h⟩ := bi h
        refine xbald (i0 := 0) (j0 := 1) hx hb hX hP.1 rfl rfl e_y_54 dX7_next_19 ?_
        refine lv_bipush (v := 10) hx hb dX7_next_20 (by decide) ?_
        refine lv_icmp_eq (tgt := 39) hx hb dX7_next_22 (by decide) (fun c_55 => ?_) (fun c_55 => ?_)
        · have h := it c_55 h
          refine lv_aload_n hx hb dX7_next_39 rfl (lv_at hl 0 rfl) ?_
          refine lv_dup hx hb dX7_next_40 rfl ?_
          refine xget (i := 0) (j := 0) (k := 9) (T := TX7) hx hb ht tb_iX7 hown hX hP.1 rfl rfl rfl (by decide) tb_237 rfl dX7_next_41 ?_
          refine lv_iconst (v := 1) hx hb dX7_next_44 (by decide) ?_
          refine lv_iadd hx hb dX7_next_45 ?_
          refine lv_topi (fun t_at_56 e_t_at_56 => ?_)
          have h := bn e_t_at_56 h
          refine xput (i := 0) (j := 0) (k := 9) (T := TX7) tyX7 tyX7_ok nmX7 hx hb ht tb_iX7 hown hX hP hS rfl rfl rfl (by decide) tb_237 rfl rfl rfl (Nat.le_of_ble_eq_true rfl) dX7_next_46 (fun H locs hP hS => ?_)
          have hP : PD D A [bl_X7 cy A_t t_bytes t_wordCodes t_length t_kind t_start t_value t_word t_name t_end t_at_56] H := hP
          refine lv_goto (tgt := 0) hx hb dX7_next_49 (by decide) ?_
          exact ih0 t_kind t_start t_value t_word t_name t_at_56 _ _ hP hS ls (lv_sub hl [0] rfl) h
        · have h := ie c_55 h
          refine lv_aload_n hx hb dX7_next_25 rfl (lv_at hl 0 rfl) ?_
          refine xget (i := 0) (j := 0) (k := 0) (T := TX7) hx hb ht tb_iX7 hown hX hP.1 rfl rfl rfl (by decide) tb_218 rfl dX7_next_26 ?_
          refine lv_aload_n hx hb dX7_next_29 rfl (lv_at hl 0 rfl) ?_
          refine xget (i := 0) (j := 0) (k := 9) (T := TX7) hx hb ht tb_iX7 hown hX hP.1 rfl rfl rfl (by decide) tb_237 rfl dX7_next_30 ?_
          obtain ⟨y_57, e_y_57, h⟩ := bi h
          refine xbald (i0 := 0) (j0 := 1) hx hb hX hP.1 rfl rfl e_y_57 dX7_next_33 ?_
          refine lv_bipush (v := 32) hx hb dX7_next_34 (by decide) ?_
          refine lv_icmp_ne (tgt := 52) hx hb dX7_next_36 (by decide) (fun c_58 => ?_) (fun c_58 => ?_)
          · have h := ie c_58 h
            exact j52 t_kind t_start t_value t_word t_name t_at _ _ hP hS ls (lv_sub hl [0] rfl) h
          · have h := it c_58 h
            refine lv_aload_n hx hb dX7_next_39 rfl (lv_at hl 0 rfl) ?_
            refine lv_dup hx hb dX7_next_40 rfl ?_
            refine xget (i := 0) (j := 0) (k := 9) (T := TX7) hx hb ht tb_iX7 hown hX hP.1 rfl rfl rfl (by decide) tb_237 rfl dX7_next_41 ?_
            refine lv_iconst (v := 1) hx hb dX7_next_44 (by decide) ?_
            refine lv_iadd hx hb dX7_next_45 ?_
            refine lv_topi (fun t_at_59 e_t_at_59 => ?_)
            have h := bn e_t_at_59 h
            refine xput (i := 0) (j := 0) (k := 9) (T := TX7) tyX7 tyX7_ok nmX7 hx hb ht tb_iX7 hown hX hP hS rfl rfl rfl (by decide) tb_237 rfl rfl rfl (Nat.le_of_ble_eq_true rfl) dX7_next_46 (fun H locs hP hS => ?_)
            have hP : PD D A [bl_X7 cy A_t t_bytes t_wordCodes t_length t_kind t_start t_value t_word t_name t_end t_at_59] H := hP
            refine lv_goto (tgt := 0) hx hb dX7_next_49 (by decide) ?_
            exact ih0 t_kind t_start t_value t_word t_name t_at_59 _ _ hP hS ls (lv_sub hl [0] rfl) h
  unfold f_X7_next at h
  exact l0 fu t_kind t_start t_value t_word t_name t_at _ _ hP hS ls (lv_sub hl [0] rfl) h
theorem dX8_lay_0 : decode cX8_lay 0 = .ok (.aload_n 0, 1) := by decide +kernel
theorem dX8_lay_1 : decode cX8_lay 1 = .ok (.iconst 0, 1) := by decide +kernel
theorem dX8_lay_2 : decode cX8_lay 2 = .ok (.putfield 15, 3) := by decide +kernel
theorem dX8_lay_5 : decode cX8_lay 5 = .ok (.aload_n 0, 1) := by decide +kernel
theorem dX8_lay_6 : decode cX8_lay 6 = .ok (.iload_n 1, 1) := by decide +kernel
theorem dX8_lay_7 : decode cX8_lay 7 = .ok (.putfield 19, 3) := by decide +kernel
theorem dX8_lay_10 : decode cX8_lay 10 = .ok (.aload_n 0, 1) := by decide +kernel
theorem dX8_lay_11 : decode cX8_lay 11 = .ok (.iload_n 2, 1) := by decide +kernel
theorem dX8_lay_12 : decode cX8_lay 12 = .ok (.putfield 23, 3) := by decide +kernel
theorem dX8_lay_15 : decode cX8_lay 15 = .ok (.aload_n 0, 1) := by decide +kernel
theorem dX8_lay_16 : decode cX8_lay 16 = .ok (.getfield 9, 3) := by decide +kernel
theorem dX8_lay_19 : decode cX8_lay 19 = .ok (.lconst 0, 1) := by decide +kernel
theorem dX8_lay_20 : decode cX8_lay 20 = .ok (.invokestatic 26, 3) := by decide +kernel
theorem dX8_lay_23 : decode cX8_lay 23 = .ok (.return_, 1) := by decide +kernel
theorem mv_X8_lay : MV yX8_lay RX8 cX8_lay 3 none 2 := ⟨tb_514, tb_512, tb_513, tb_15, by decide +kernel, by decide +kernel, by decide +kernel⟩
def f_X8_lay (fu : Nat) (y_row : Nat → Int64) (y_missing : Int32) (y_sort : Int32) (y_many : Int32) (x1 : Int32) (x2 : Int32) : Option ((Nat → Int64) × Int32 × Int32 × Int32) := (f_J7_fill_d0a16 fu 60 y_row 0).bind fun z_2 => some (z_2, 0, x1, x2)
abbrev rm_X8_lay : Room := { frames := 1, cells := 0, slots := 0, locals := 24 }
set_option maxHeartbeats 4000000 in
set_option maxRecDepth 100000 in
theorem c_X8_lay (l : Launch) (D : va_G) (cy : Nat → ClassId) (fu : Nat) (A_y : Nat → Nat) (y_row : Nat → Int64) (y_missing : Int32) (y_sort : Int32) (y_many : Int32) (x1 : Int32) (x2 : Int32) (res : (Nat → Int64) × Int32 × Int32 × Int32) (h : f_X8_lay fu y_row y_missing y_sort y_many x1 x2 = some res) (A : Nat → Prop) (hA : A = adr [bl_X8 cy A_y y_row y_missing y_sort y_many]) (W1 : List va_W) (hW1 : W1 = [bl_X8 cy A_y res.1 res.2.1 res.2.2.1 res.2.2.2]) : Met l yX8_lay (WW yX8_lay cX8_lay 3 none) rm_X8_lay (Ed D cy [.ref (A_y 0), .int x1, .int x2] [bl_X8 cy A_y y_row y_missing y_sort y_many]) (Qev D A W1) 0 0 A := by
  refine Met.ofW (cc := cX8_lay) (maxL := 3) (ret := none) (by decide) rfl ?_
  intro p e s m args below meth c s₁ B hml hv
  obtain ⟨hargs, hP, hX, hD0⟩ := hv
  have hx := B.exec
  have hb := B.bytes
  have hr := B.returns
  have ht : ∀ w ∈ lw_gd, w.before args s = true := fun w hw => atoms_spec (ws := WW yX8_lay cX8_lay 3 none) B.pre w (List.mem_cons_of_mem _ hw)
  have hown : s.vm.findClass RX8 = some m.cls := findClass_of_methodNamed B.named
  have hlocks := B.notSynchronized
  have hP : PD D A [bl_X8 cy A_y y_row y_missing y_sort y_many] s.heap := ⟨hP, by rw [hA]; exact hD0.own⟩
  have hS : va_S A s.heap s.heap [] := va_S.rf
  obtain ⟨ls, hl, hent⟩ := ent (m := m) (n := 3) hargs (Nat.le_of_ble_eq_true rfl) (lv := [(0, .ref (A_y 0)), (1, .int x1), (2, .int x2)]) rfl
  rw [hent]
  clear hent
  unfold f_X8_lay at h
  refine lv_aload_n hx hb dX8_lay_0 rfl (lv_at hl 0 rfl) ?_
  refine lv_iconst (v := 0) hx hb dX8_lay_1 (by decide) ?_
  refine xput (i := 0) (j := 0) (k := 1) (T := TX8) tyX8 tyX8_ok nmX8 hx hb ht tb_iX8 hown hX hP hS rfl rfl rfl (by decide) tb_415 rfl rfl rfl (Nat.le_of_ble_eq_true rfl) dX8_lay_2 (fun H locs hP hS => ?_)
  have hP : PD D A [bl_X8 cy A_y y_row 0 y_sort y_many] H := hP
  refine lv_aload_n hx hb dX8_lay_5 rfl (lv_at hl 0 rfl) ?_
  refine lv_iload_n hx hb dX8_lay_6 rfl (lv_at hl 1 rfl) ?_
  refine xput (i := 0) (j := 0) (k := 2) (T := TX8) tyX8 tyX8_ok nmX8 hx hb ht tb_iX8 hown hX hP hS rfl rfl rfl (by decide) tb_417 rfl rfl rfl (Nat.le_of_ble_eq_true rfl) dX8_lay_7 (fun H locs hP hS => ?_)
  have hP : PD D A [bl_X8 cy A_y y_row 0 x1 y_many] H := hP
  refine lv_aload_n hx hb dX8_lay_10 rfl (lv_at hl 0 rfl) ?_
  refine lv_iload_n hx hb dX8_lay_11 rfl (lv_at hl 2 rfl) ?_
  refine xput (i := 0) (j := 0) (k := 3) (T := TX8) tyX8 tyX8_ok nmX8 hx hb ht tb_iX8 hown hX hP hS rfl rfl rfl (by decide) tb_419 rfl rfl rfl (Nat.le_of_ble_eq_true rfl) dX8_lay_12 (fun H locs hP hS => ?_)
  have hP : PD D A [bl_X8 cy A_y y_row 0 x1 x2] H := hP
  refine lv_aload_n hx hb dX8_lay_15 rfl (lv_at hl 0 rfl) ?_
  refine xget (i := 0) (j := 0) (k := 0) (T := TX8) hx hb ht tb_iX8 hown hX hP.1 rfl rfl rfl (by decide) tb_413 rfl dX8_lay_16 ?_
  refine lv_lconst (v := 0) hx hb dX8_lay_19 (by decide) ?_
  obtain ⟨z_2, e_z_2, h⟩ := bi h
  refine efAv (i := 0) (j := 1) (rest := []) ⟨hx, hb, hml, hown, ht⟩ (c_J7_fill_d0a16 l D cy fu (A_y 1) 60 y_row 0 z_2 e_z_2 _ rfl _ rfl) (cS ht ms_J7_fill_d0a16 tb_515 rfl rfl ⟨Nat.le_of_ble_eq_true rfl, Nat.le_of_ble_eq_true rfl⟩) hP hS hX rfl rfl rfl rfl hl.1 rfl (Nat.le_of_ble_eq_true rfl) dX8_lay_20 ⟨Nat.le_of_ble_eq_true rfl, Nat.le_of_ble_eq_true rfl⟩ (fun H locs hP hS => ?_)
  have hP : PD D A [bl_X8 cy A_y z_2 0 x1 x2] H := hP
  cases h
  subst hW1
  exact W.vret hx hb hr (fun _ ht9 _ => ⟨⟨(), rfl, trivial, hPt ht9 hP.1⟩, hS.F ht9⟩) hS.2.2 dX8_lay_23
theorem dX8_hasPlaces_0 : decode cX8_hasPlaces 0 = .ok (.iload_n 1, 1) := by decide +kernel
theorem dX8_hasPlaces_1 : decode cX8_hasPlaces 1 = .ok (.ifCond .lt 29, 3) := by decide +kernel
theorem dX8_hasPlaces_4 : decode cX8_hasPlaces 4 = .ok (.iload_n 2, 1) := by decide +kernel
theorem dX8_hasPlaces_5 : decode cX8_hasPlaces 5 = .ok (.ifCond .lt 25, 3) := by decide +kernel
theorem dX8_hasPlaces_8 : decode cX8_hasPlaces 8 = .ok (.iload_n 2, 1) := by decide +kernel
theorem dX8_hasPlaces_9 : decode cX8_hasPlaces 9 = .ok (.aload_n 0, 1) := by decide +kernel
theorem dX8_hasPlaces_10 : decode cX8_hasPlaces 10 = .ok (.getfield 23, 3) := by decide +kernel
theorem dX8_hasPlaces_13 : decode cX8_hasPlaces 13 = .ok (.if_icmp .gt 17, 3) := by decide +kernel
theorem dX8_hasPlaces_16 : decode cX8_hasPlaces 16 = .ok (.iload_n 1, 1) := by decide +kernel
theorem dX8_hasPlaces_17 : decode cX8_hasPlaces 17 = .ok (.aload_n 0, 1) := by decide +kernel
theorem dX8_hasPlaces_18 : decode cX8_hasPlaces 18 = .ok (.getfield 23, 3) := by decide +kernel
theorem dX8_hasPlaces_21 : decode cX8_hasPlaces 21 = .ok (.iload_n 2, 1) := by decide +kernel
theorem dX8_hasPlaces_22 : decode cX8_hasPlaces 22 = .ok (.isub, 1) := by decide +kernel
theorem dX8_hasPlaces_23 : decode cX8_hasPlaces 23 = .ok (.if_icmp .gt 7, 3) := by decide +kernel
theorem dX8_hasPlaces_26 : decode cX8_hasPlaces 26 = .ok (.iconst 1, 1) := by decide +kernel
theorem dX8_hasPlaces_27 : decode cX8_hasPlaces 27 = .ok (.goto 4, 3) := by decide +kernel
theorem dX8_hasPlaces_30 : decode cX8_hasPlaces 30 = .ok (.iconst 0, 1) := by decide +kernel
theorem dX8_hasPlaces_31 : decode cX8_hasPlaces 31 = .ok (.ireturn, 1) := by decide +kernel
theorem mv_X8_hasPlaces : MV yX8_hasPlaces RX8 cX8_hasPlaces 3 (some .boolean) 2 := ⟨tb_529, tb_527, tb_528, tb_15, by decide +kernel, by decide +kernel, by decide +kernel⟩
def f_X8_hasPlaces (fu : Nat) (y_many : Int32) (x1 : Int32) (x2 : Int32) : Option (Int32) := (if x1 < 0 then some (0) else (if x2 < 0 then some (0) else (if y_many < x2 then some (0) else (if (y_many - x2) < x1 then some (0) else some (1)))))
abbrev rm_X8_hasPlaces : Room := { frames := 0, cells := 0, slots := 0, locals := 0 }
set_option maxHeartbeats 4000000 in
set_option maxRecDepth 100000 in
theorem c_X8_hasPlaces (l : Launch) (D : va_G) (cy : Nat → ClassId) (fu : Nat) (A_y : Nat → Nat) (y_row : Nat → Int64) (y_missing : Int32) (y_sort : Int32) (y_many : Int32) (x1 : Int32) (x2 : Int32) (res : Int32) (h : f_X8_hasPlaces fu y_many x1 x2 = some res) : Met l yX8_hasPlaces (WW yX8_hasPlaces cX8_hasPlaces 3 (some .boolean)) rm_X8_hasPlaces (Rd D cy [.ref (A_y 0), .int x1, .int x2] [bl_X8 cy A_y y_row y_missing y_sort y_many]) (vp_Si (fun v => v = res)) 0 0 (fun _ => False) := by
  refine Met.ofW (cc := cX8_hasPlaces) (maxL := 3) (ret := (some .boolean)) (by decide) rfl ?_
  intro p e s m args below meth c s₁ B hml hv
  obtain ⟨hargs, hP, hX⟩ := hv
  have hx := B.exec
  have hb := B.bytes
  have hr := B.returns
  have ht : ∀ w ∈ lw_gd, w.before args s = true := fun w hw => atoms_spec (ws := WW yX8_hasPlaces cX8_hasPlaces 3 (some .boolean)) B.pre w (List.mem_cons_of_mem _ hw)
  have hown : s.vm.findClass RX8 = some m.cls := findClass_of_methodNamed B.named
  have hlocks := B.notSynchronized
  have hP : PB D [bl_X8 cy A_y y_row y_missing y_sort y_many] s.heap := hP
  obtain ⟨ls, hl, hent⟩ := ent (m := m) (n := 3) hargs (Nat.le_of_ble_eq_true rfl) (lv := [(0, .ref (A_y 0)), (1, .int x1), (2, .int x2)]) rfl
  rw [hent]
  clear hent
  unfold f_X8_hasPlaces at h
  refine lv_iload_n hx hb dX8_hasPlaces_0 rfl (lv_at hl 1 rfl) ?_
  refine lv_if_lt (tgt := 30) hx hb dX8_hasPlaces_1 (by decide) (fun c_5 => ?_) (fun c_5 => ?_)
  · have h := it c_5 h
    refine lv_iconst (v := 0) hx hb dX8_hasPlaces_30 (by decide) ?_
    cases h
    exact W.zret hx hb hr rfl (fun _ ht9 _ => ⟨_, rfl, rfl, ht9⟩) (fun _ hq => by cases hq) dX8_hasPlaces_31
  · have h := ie c_5 h
    refine lv_iload_n hx hb dX8_hasPlaces_4 rfl (lv_at hl 2 rfl) ?_
    refine lv_if_lt (tgt := 30) hx hb dX8_hasPlaces_5 (by decide) (fun c_6 => ?_) (fun c_6 => ?_)
    · have h := it c_6 h
      refine lv_iconst (v := 0) hx hb dX8_hasPlaces_30 (by decide) ?_
      cases h
      exact W.zret hx hb hr rfl (fun _ ht9 _ => ⟨_, rfl, rfl, ht9⟩) (fun _ hq => by cases hq) dX8_hasPlaces_31
    · have h := ie c_6 h
      refine lv_iload_n hx hb dX8_hasPlaces_8 rfl (lv_at hl 2 rfl) ?_
      refine lv_aload_n hx hb dX8_hasPlaces_9 rfl (lv_at hl 0 rfl) ?_
      refine xget (i := 0) (j := 0) (k := 3) (T := TX8) hx hb ht tb_iX8 hown hX hP rfl rfl rfl (by decide) tb_419 rfl dX8_hasPlaces_10 ?_
      refine lv_icmp_gt (tgt := 30) hx hb dX8_hasPlaces_13 (by decide) (fun c_7 => ?_) (fun c_7 => ?_)
      · have h := it c_7 h
        refine lv_iconst (v := 0) hx hb dX8_hasPlaces_30 (by decide) ?_
        cases h
        exact W.zret hx hb hr rfl (fun _ ht9 _ => ⟨_, rfl, rfl, ht9⟩) (fun _ hq => by cases hq) dX8_hasPlaces_31
      · have h := ie c_7 h
        refine lv_iload_n hx hb dX8_hasPlaces_16 rfl (lv_at hl 1 rfl) ?_
        refine lv_aload_n hx hb dX8_hasPlaces_17 rfl (lv_at hl 0 rfl) ?_
        refine xget (i := 0) (j := 0) (k := 3) (T := TX8) hx hb ht tb_iX8 hown hX hP rfl rfl rfl (by decide) tb_419 rfl dX8_hasPlaces_18 ?_
        refine lv_iload_n hx hb dX8_hasPlaces_21 rfl (lv_at hl 2 rfl) ?_
        refine lv_isub hx hb dX8_hasPlaces_22 ?_
        refine lv_icmp_gt (tgt := 30) hx hb dX8_hasPlaces_23 (by decide) (fun c_8 => ?_) (fun c_8 => ?_)
        · have h := it c_8 h
          refine lv_iconst (v := 0) hx hb dX8_hasPlaces_30 (by decide) ?_
          cases h
          exact W.zret hx hb hr rfl (fun _ ht9 _ => ⟨_, rfl, rfl, ht9⟩) (fun _ hq => by cases hq) dX8_hasPlaces_31
        · have h := ie c_8 h
          refine lv_iconst (v := 1) hx hb dX8_hasPlaces_26 (by decide) ?_
          refine lv_goto (tgt := 31) hx hb dX8_hasPlaces_27 (by decide) ?_
          cases h
          exact W.zret hx hb hr rfl (fun _ ht9 _ => ⟨_, rfl, rfl, ht9⟩) (fun _ hq => by cases hq) dX8_hasPlaces_31
theorem dX8_cut_0 : decode cX8_cut 0 = .ok (.aload_n 0, 1) := by decide +kernel
theorem dX8_cut_1 : decode cX8_cut 1 = .ok (.getfield 19, 3) := by decide +kernel
theorem dX8_cut_4 : decode cX8_cut 4 = .ok (.tableswitch 42 0 2 #[28, 33, 38], 28) := by decide +kernel
theorem dX8_cut_32 : decode cX8_cut 32 = .ok (.lload_n 1, 1) := by decide +kernel
theorem dX8_cut_33 : decode cX8_cut 33 = .ok (.l2i, 1) := by decide +kernel
theorem dX8_cut_34 : decode cX8_cut 34 = .ok (.i2b, 1) := by decide +kernel
theorem dX8_cut_35 : decode cX8_cut 35 = .ok (.i2l, 1) := by decide +kernel
theorem dX8_cut_36 : decode cX8_cut 36 = .ok (.lreturn, 1) := by decide +kernel
theorem dX8_cut_37 : decode cX8_cut 37 = .ok (.lload_n 1, 1) := by decide +kernel
theorem dX8_cut_38 : decode cX8_cut 38 = .ok (.l2i, 1) := by decide +kernel
theorem dX8_cut_39 : decode cX8_cut 39 = .ok (.i2s, 1) := by decide +kernel
theorem dX8_cut_40 : decode cX8_cut 40 = .ok (.i2l, 1) := by decide +kernel
theorem dX8_cut_41 : decode cX8_cut 41 = .ok (.lreturn, 1) := by decide +kernel
theorem dX8_cut_42 : decode cX8_cut 42 = .ok (.lload_n 1, 1) := by decide +kernel
theorem dX8_cut_43 : decode cX8_cut 43 = .ok (.l2i, 1) := by decide +kernel
theorem dX8_cut_44 : decode cX8_cut 44 = .ok (.i2l, 1) := by decide +kernel
theorem dX8_cut_45 : decode cX8_cut 45 = .ok (.lreturn, 1) := by decide +kernel
theorem dX8_cut_46 : decode cX8_cut 46 = .ok (.lload_n 1, 1) := by decide +kernel
theorem dX8_cut_47 : decode cX8_cut 47 = .ok (.lreturn, 1) := by decide +kernel
theorem mv_X8_cut : MV yX8_cut RX8 cX8_cut 3 (some .long) 1 := ⟨tb_538, tb_537, ts_3, tb_15, by decide +kernel, by decide +kernel, by decide +kernel⟩
def f_X8_cut (fu : Nat) (y_sort : Int32) (x1 : Int64) : Option (Int64) := (if y_sort = 0 then some (Int32.toInt64 ((Int32.toInt8 (Int64.toInt32 x1)).toInt32)) else (if y_sort = 1 then some (Int32.toInt64 ((Int32.toInt16 (Int64.toInt32 x1)).toInt32)) else (if y_sort = 2 then some (Int32.toInt64 (Int64.toInt32 x1)) else some (x1))))
abbrev rm_X8_cut : Room := { frames := 0, cells := 0, slots := 0, locals := 0 }
set_option maxHeartbeats 4000000 in
set_option maxRecDepth 100000 in
theorem c_X8_cut (l : Launch) (D : va_G) (cy : Nat → ClassId) (fu : Nat) (A_y : Nat → Nat) (y_row : Nat → Int64) (y_missing : Int32) (y_sort : Int32) (y_many : Int32) (x1 : Int64) (res : Int64) (h : f_X8_cut fu y_sort x1 = some res) : Met l yX8_cut (WW yX8_cut cX8_cut 3 (some .long)) rm_X8_cut (Rd D cy [.ref (A_y 0), .long x1] [bl_X8 cy A_y y_row y_missing y_sort y_many]) (vp_Sl (fun v => v = res)) 0 0 (fun _ => False) := by
  refine Met.ofW (cc := cX8_cut) (maxL := 3) (ret := (some .long)) (by decide) rfl ?_
  intro p e s m args below meth c s₁ B hml hv
  obtain ⟨hargs, hP, hX⟩ := hv
  have hx := B.exec
  have hb := B.bytes
  have hr := B.returns
  have ht : ∀ w ∈ lw_gd, w.before args s = true := fun w hw => atoms_spec (ws := WW yX8_cut cX8_cut 3 (some .long)) B.pre w (List.mem_cons_of_mem _ hw)
  have hown : s.vm.findClass RX8 = some m.cls := findClass_of_methodNamed B.named
  have hlocks := B.notSynchronized
  have hP : PB D [bl_X8 cy A_y y_row y_missing y_sort y_many] s.heap := hP
  obtain ⟨ls, hl, hent⟩ := ent (m := m) (n := 3) hargs (Nat.le_of_ble_eq_true rfl) (lv := [(0, .ref (A_y 0)), (1, .long x1)]) rfl
  rw [hent]
  clear hent
  unfold f_X8_cut at h
  refine lv_aload_n hx hb dX8_cut_0 rfl (lv_at hl 0 rfl) ?_
  refine xget (i := 0) (j := 0) (k := 2) (T := TX8) hx hb ht tb_iX8 hown hX hP rfl rfl rfl (by decide) tb_417 rfl dX8_cut_1 ?_
  by_cases c_4 : y_sort = 0
  · have h := it c_4 h
    refine lv_tableIn (tgt := 32) hx hb dX8_cut_4 (by rw [c_4]; decide) (by rw [c_4]; decide) (by rw [c_4]; rfl) (by decide) ?_
    refine lv_lload_n hx hb dX8_cut_32 rfl (lv_at hl 1 rfl) ?_
    refine lv_l2i (v := Int64.toInt32 x1) hx hb dX8_cut_33 rfl ?_
    refine lv_i2b (v := (Int32.toInt8 (Int64.toInt32 x1)).toInt32) hx hb dX8_cut_34 rfl ?_
    refine lv_i2l (v := Int32.toInt64 ((Int32.toInt8 (Int64.toInt32 x1)).toInt32)) hx hb dX8_cut_35 rfl ?_
    cases h
    exact W.lret hx hb hr (fun _ ht9 _ => ⟨_, rfl, rfl, ht9⟩) (fun _ hq => by cases hq) dX8_cut_36
  have h := ie c_4 h
  by_cases c_5 : y_sort = 1
  · have h := it c_5 h
    refine lv_tableIn (tgt := 37) hx hb dX8_cut_4 (by rw [c_5]; decide) (by rw [c_5]; decide) (by rw [c_5]; rfl) (by decide) ?_
    refine lv_lload_n hx hb dX8_cut_37 rfl (lv_at hl 1 rfl) ?_
    refine lv_l2i (v := Int64.toInt32 x1) hx hb dX8_cut_38 rfl ?_
    refine lv_i2s (v := (Int32.toInt16 (Int64.toInt32 x1)).toInt32) hx hb dX8_cut_39 rfl ?_
    refine lv_i2l (v := Int32.toInt64 ((Int32.toInt16 (Int64.toInt32 x1)).toInt32)) hx hb dX8_cut_40 rfl ?_
    cases h
    exact W.lret hx hb hr (fun _ ht9 _ => ⟨_, rfl, rfl, ht9⟩) (fun _ hq => by cases hq) dX8_cut_41
  have h := ie c_5 h
  by_cases c_6 : y_sort = 2
  · have h := it c_6 h
    refine lv_tableIn (tgt := 42) hx hb dX8_cut_4 (by rw [c_6]; decide) (by rw [c_6]; decide) (by rw [c_6]; rfl) (by decide) ?_
    refine lv_lload_n hx hb dX8_cut_42 rfl (lv_at hl 1 rfl) ?_
    refine lv_l2i (v := Int64.toInt32 x1) hx hb dX8_cut_43 rfl ?_
    refine lv_i2l (v := Int32.toInt64 (Int64.toInt32 x1)) hx hb dX8_cut_44 rfl ?_
    cases h
    exact W.lret hx hb hr (fun _ ht9 _ => ⟨_, rfl, rfl, ht9⟩) (fun _ hq => by cases hq) dX8_cut_45
  have h := ie c_6 h
  refine lv_tableOut (tgt := 46) hx hb dX8_cut_4 (by have n_c_4 := lv_neT (a := 0) c_4 rfl; have n_c_5 := lv_neT (a := 1) c_5 rfl; have n_c_6 := lv_neT (a := 2) c_6 rfl; omega) (by decide) ?_
  refine lv_lload_n hx hb dX8_cut_46 rfl (lv_at hl 1 rfl) ?_
  cases h
  exact W.lret hx hb hr (fun _ ht9 _ => ⟨_, rfl, rfl, ht9⟩) (fun _ hq => by cases hq) dX8_cut_47
theorem dX8_put_0 : decode cX8_put 0 = .ok (.aload_n 0, 1) := by decide +kernel
theorem dX8_put_1 : decode cX8_put 1 = .ok (.iload_n 1, 1) := by decide +kernel
theorem dX8_put_2 : decode cX8_put 2 = .ok (.iconst 1, 1) := by decide +kernel
theorem dX8_put_3 : decode cX8_put 3 = .ok (.invokevirtual 32, 3) := by decide +kernel
theorem dX8_put_6 : decode cX8_put 6 = .ok (.ifCond .eq 14, 3) := by decide +kernel
theorem dX8_put_9 : decode cX8_put 9 = .ok (.aload_n 0, 1) := by decide +kernel
theorem dX8_put_10 : decode cX8_put 10 = .ok (.getfield 9, 3) := by decide +kernel
theorem dX8_put_13 : decode cX8_put 13 = .ok (.iload_n 1, 1) := by decide +kernel
theorem dX8_put_14 : decode cX8_put 14 = .ok (.aload_n 0, 1) := by decide +kernel
theorem dX8_put_15 : decode cX8_put 15 = .ok (.lload_n 2, 1) := by decide +kernel
theorem dX8_put_16 : decode cX8_put 16 = .ok (.invokevirtual 36, 3) := by decide +kernel
theorem dX8_put_19 : decode cX8_put 19 = .ok (.lastore, 1) := by decide +kernel
theorem dX8_put_20 : decode cX8_put 20 = .ok (.return_, 1) := by decide +kernel
theorem mv_X8_put : MV yX8_put RX8 cX8_put 4 none 2 := ⟨tb_533, tb_531, tb_532, tb_15, by decide +kernel, by decide +kernel, by decide +kernel⟩
def f_X8_put (fu : Nat) (y_row : Nat → Int64) (y_sort : Int32) (y_many : Int32) (x1 : Int32) (x2 : Int64) : Option ((Nat → Int64)) := (f_X8_hasPlaces fu y_many x1 1).bind fun z_5 => (if z_5 = 0 then some (y_row) else (f_X8_cut fu y_sort x2).bind fun z_7 => (wrJ y_row 60 x1 z_7).bind fun y_row_8 => some (y_row_8))
abbrev rm_X8_put : Room := { frames := 1, cells := 0, slots := 0, locals := 22 }
set_option maxHeartbeats 4000000 in
set_option maxRecDepth 100000 in
theorem c_X8_put (l : Launch) (D : va_G) (cy : Nat → ClassId) (fu : Nat) (A_y : Nat → Nat) (y_row : Nat → Int64) (y_missing : Int32) (y_sort : Int32) (y_many : Int32) (x1 : Int32) (x2 : Int64) (res : (Nat → Int64)) (h : f_X8_put fu y_row y_sort y_many x1 x2 = some res) (A : Nat → Prop) (hA : A = adr [bl_X8 cy A_y y_row y_missing y_sort y_many]) (W1 : List va_W) (hW1 : W1 = [bl_X8 cy A_y res y_missing y_sort y_many]) : Met l yX8_put (WW yX8_put cX8_put 4 none) rm_X8_put (Ed D cy [.ref (A_y 0), .int x1, .long x2] [bl_X8 cy A_y y_row y_missing y_sort y_many]) (Qev D A W1) 0 0 A := by
  refine Met.ofW (cc := cX8_put) (maxL := 4) (ret := none) (by decide) rfl ?_
  intro p e s m args below meth c s₁ B hml hv
  obtain ⟨hargs, hP, hX, hD0⟩ := hv
  have hx := B.exec
  have hb := B.bytes
  have hr := B.returns
  have ht : ∀ w ∈ lw_gd, w.before args s = true := fun w hw => atoms_spec (ws := WW yX8_put cX8_put 4 none) B.pre w (List.mem_cons_of_mem _ hw)
  have hown : s.vm.findClass RX8 = some m.cls := findClass_of_methodNamed B.named
  have hlocks := B.notSynchronized
  have hP : PD D A [bl_X8 cy A_y y_row y_missing y_sort y_many] s.heap := ⟨hP, by rw [hA]; exact hD0.own⟩
  have hS : va_S A s.heap s.heap [] := va_S.rf
  obtain ⟨ls, hl, hent⟩ := ent (m := m) (n := 4) hargs (Nat.le_of_ble_eq_true rfl) (lv := [(0, .ref (A_y 0)), (1, .int x1), (2, .long x2)]) rfl
  rw [hent]
  clear hent
  unfold f_X8_put at h
  refine lv_aload_n hx hb dX8_put_0 rfl (lv_at hl 0 rfl) ?_
  refine lv_iload_n hx hb dX8_put_1 rfl (lv_at hl 1 rfl) ?_
  refine lv_iconst (v := 1) hx hb dX8_put_2 (by decide) ?_
  obtain ⟨z_5, e_z_5, h⟩ := bi h
  refine roVi (rest := []) ⟨hx, hb, hml, hown, ht⟩ (c_X8_hasPlaces l D cy fu A_y y_row y_missing y_sort y_many x1 1 z_5 e_z_5) (cV ht mv_X8_hasPlaces tb_534 rfl rfl ⟨Nat.le_of_ble_eq_true rfl, Nat.le_of_ble_eq_true rfl⟩) (P_sub hP.1 [0] rfl) hX rfl rfl rfl hl.1 rfl (Nat.le_of_ble_eq_true rfl) dX8_put_3 ⟨Nat.le_of_ble_eq_true rfl, Nat.le_of_ble_eq_true rfl⟩ ?_
  refine lv_if_eq (tgt := 20) hx hb dX8_put_6 (by decide) (fun c_6 => ?_) (fun c_6 => ?_)
  · have h := it c_6 h
    cases h
    subst hW1
    exact W.vret hx hb hr (fun _ ht9 _ => ⟨⟨(), rfl, trivial, hPt ht9 hP.1⟩, hS.F ht9⟩) hS.2.2 dX8_put_20
  · have h := ie c_6 h
    refine lv_aload_n hx hb dX8_put_9 rfl (lv_at hl 0 rfl) ?_
    refine xget (i := 0) (j := 0) (k := 0) (T := TX8) hx hb ht tb_iX8 hown hX hP.1 rfl rfl rfl (by decide) tb_413 rfl dX8_put_10 ?_
    refine lv_iload_n hx hb dX8_put_13 rfl (lv_at hl 1 rfl) ?_
    refine lv_aload_n hx hb dX8_put_14 rfl (lv_at hl 0 rfl) ?_
    refine lv_lload_n hx hb dX8_put_15 rfl (lv_at hl 2 rfl) ?_
    obtain ⟨z_7, e_z_7, h⟩ := bi h
    refine roVl (rest := [.int x1, .ref (A_y 1)]) ⟨hx, hb, hml, hown, ht⟩ (c_X8_cut l D cy fu A_y y_row y_missing y_sort y_many x2 z_7 e_z_7) (cV ht mv_X8_cut tb_535 rfl rfl ⟨Nat.le_of_ble_eq_true rfl, Nat.le_of_ble_eq_true rfl⟩) (P_sub hP.1 [0] rfl) hX rfl rfl rfl hl.1 rfl (Nat.le_of_ble_eq_true rfl) dX8_put_16 ⟨Nat.le_of_ble_eq_true rfl, Nat.le_of_ble_eq_true rfl⟩ ?_
    obtain ⟨y_row_8, e_y_row_8, h⟩ := bi h
    refine xlast (i0 := 0) (j0 := 1) hx hb hX hP hS rfl rfl e_y_row_8 dX8_put_19 (fun H locs hP hS => ?_)
    have hP : PD D A [bl_X8 cy A_y y_row_8 y_missing y_sort y_many] H := hP
    cases h
    subst hW1
    exact W.vret hx hb hr (fun _ ht9 _ => ⟨⟨(), rfl, trivial, hPt ht9 hP.1⟩, hS.F ht9⟩) hS.2.2 dX8_put_20
theorem dX8_at_0 : decode cX8_at 0 = .ok (.aload_n 0, 1) := by decide +kernel
theorem dX8_at_1 : decode cX8_at 1 = .ok (.iload_n 1, 1) := by decide +kernel
theorem dX8_at_2 : decode cX8_at 2 = .ok (.iconst 1, 1) := by decide +kernel
theorem dX8_at_3 : decode cX8_at 3 = .ok (.invokevirtual 32, 3) := by decide +kernel
theorem dX8_at_6 : decode cX8_at 6 = .ok (.ifCond .eq 12, 3) := by decide +kernel
theorem dX8_at_9 : decode cX8_at 9 = .ok (.aload_n 0, 1) := by decide +kernel
theorem dX8_at_10 : decode cX8_at 10 = .ok (.getfield 9, 3) := by decide +kernel
theorem dX8_at_13 : decode cX8_at 13 = .ok (.iload_n 1, 1) := by decide +kernel
theorem dX8_at_14 : decode cX8_at 14 = .ok (.laload, 1) := by decide +kernel
theorem dX8_at_15 : decode cX8_at 15 = .ok (.goto 4, 3) := by decide +kernel
theorem dX8_at_18 : decode cX8_at 18 = .ok (.lconst 0, 1) := by decide +kernel
theorem dX8_at_19 : decode cX8_at 19 = .ok (.lreturn, 1) := by decide +kernel
theorem mv_X8_at : MV yX8_at RX8 cX8_at 2 (some .long) 1 := ⟨tb_550, tb_548, tb_549, tb_15, by decide +kernel, by decide +kernel, by decide +kernel⟩
def f_X8_at (fu : Nat) (y_row : Nat → Int64) (y_many : Int32) (x1 : Int32) : Option (Int64) := (f_X8_hasPlaces fu y_many x1 1).bind fun z_4 => (if z_4 = 0 then some (0) else (rdJ y_row 60 x1).bind fun y_6 => some (y_6))
abbrev rm_X8_at : Room := { frames := 1, cells := 0, slots := 0, locals := 22 }
set_option maxHeartbeats 4000000 in
set_option maxRecDepth 100000 in
theorem c_X8_at (l : Launch) (D : va_G) (cy : Nat → ClassId) (fu : Nat) (A_y : Nat → Nat) (y_row : Nat → Int64) (y_missing : Int32) (y_sort : Int32) (y_many : Int32) (x1 : Int32) (res : Int64) (h : f_X8_at fu y_row y_many x1 = some res) : Met l yX8_at (WW yX8_at cX8_at 2 (some .long)) rm_X8_at (Rd D cy [.ref (A_y 0), .int x1] [bl_X8 cy A_y y_row y_missing y_sort y_many]) (vp_Sl (fun v => v = res)) 0 0 (fun _ => False) := by
  refine Met.ofW (cc := cX8_at) (maxL := 2) (ret := (some .long)) (by decide) rfl ?_
  intro p e s m args below meth c s₁ B hml hv
  obtain ⟨hargs, hP, hX⟩ := hv
  have hx := B.exec
  have hb := B.bytes
  have hr := B.returns
  have ht : ∀ w ∈ lw_gd, w.before args s = true := fun w hw => atoms_spec (ws := WW yX8_at cX8_at 2 (some .long)) B.pre w (List.mem_cons_of_mem _ hw)
  have hown : s.vm.findClass RX8 = some m.cls := findClass_of_methodNamed B.named
  have hlocks := B.notSynchronized
  have hP : PB D [bl_X8 cy A_y y_row y_missing y_sort y_many] s.heap := hP
  obtain ⟨ls, hl, hent⟩ := ent (m := m) (n := 2) hargs (Nat.le_of_ble_eq_true rfl) (lv := [(0, .ref (A_y 0)), (1, .int x1)]) rfl
  rw [hent]
  clear hent
  unfold f_X8_at at h
  refine lv_aload_n hx hb dX8_at_0 rfl (lv_at hl 0 rfl) ?_
  refine lv_iload_n hx hb dX8_at_1 rfl (lv_at hl 1 rfl) ?_
  refine lv_iconst (v := 1) hx hb dX8_at_2 (by decide) ?_
  obtain ⟨z_4, e_z_4, h⟩ := bi h
  refine roVi (rest := []) ⟨hx, hb, hml, hown, ht⟩ (c_X8_hasPlaces l D cy fu A_y y_row y_missing y_sort y_many x1 1 z_4 e_z_4) (cV ht mv_X8_hasPlaces tb_534 rfl rfl ⟨Nat.le_of_ble_eq_true rfl, Nat.le_of_ble_eq_true rfl⟩) (P_sub hP [0] rfl) hX rfl rfl rfl hl.1 rfl (Nat.le_of_ble_eq_true rfl) dX8_at_3 ⟨Nat.le_of_ble_eq_true rfl, Nat.le_of_ble_eq_true rfl⟩ ?_
  refine lv_if_eq (tgt := 18) hx hb dX8_at_6 (by decide) (fun c_5 => ?_) (fun c_5 => ?_)
  · have h := it c_5 h
    refine lv_lconst (v := 0) hx hb dX8_at_18 (by decide) ?_
    cases h
    exact W.lret hx hb hr (fun _ ht9 _ => ⟨_, rfl, rfl, ht9⟩) (fun _ hq => by cases hq) dX8_at_19
  · have h := ie c_5 h
    refine lv_aload_n hx hb dX8_at_9 rfl (lv_at hl 0 rfl) ?_
    refine xget (i := 0) (j := 0) (k := 0) (T := TX8) hx hb ht tb_iX8 hown hX hP rfl rfl rfl (by decide) tb_413 rfl dX8_at_10 ?_
    refine lv_iload_n hx hb dX8_at_13 rfl (lv_at hl 1 rfl) ?_
    obtain ⟨y_6, e_y_6, h⟩ := bi h
    refine xlald (i0 := 0) (j0 := 1) hx hb hX hP rfl rfl e_y_6 dX8_at_14 ?_
    refine lv_goto (tgt := 19) hx hb dX8_at_15 (by decide) ?_
    cases h
    exact W.lret hx hb hr (fun _ ht9 _ => ⟨_, rfl, rfl, ht9⟩) (fun _ hq => by cases hq) dX8_at_19
theorem dX8_sizesRefusal_0 : decode cX8_sizesRefusal 0 = .ok (.aload_n 0, 1) := by decide +kernel
theorem dX8_sizesRefusal_1 : decode cX8_sizesRefusal 1 = .ok (.getfield 15, 3) := by decide +kernel
theorem dX8_sizesRefusal_4 : decode cX8_sizesRefusal 4 = .ok (.ifCond .eq 5, 3) := by decide +kernel
theorem dX8_sizesRefusal_7 : decode cX8_sizesRefusal 7 = .ok (.iconst 2, 1) := by decide +kernel
theorem dX8_sizesRefusal_8 : decode cX8_sizesRefusal 8 = .ok (.ireturn, 1) := by decide +kernel
theorem dX8_sizesRefusal_9 : decode cX8_sizesRefusal 9 = .ok (.aload_n 0, 1) := by decide +kernel
theorem dX8_sizesRefusal_10 : decode cX8_sizesRefusal 10 = .ok (.iconst 0, 1) := by decide +kernel
theorem dX8_sizesRefusal_11 : decode cX8_sizesRefusal 11 = .ok (.iload_n 1, 1) := by decide +kernel
theorem dX8_sizesRefusal_12 : decode cX8_sizesRefusal 12 = .ok (.iload_n 2, 1) := by decide +kernel
theorem dX8_sizesRefusal_13 : decode cX8_sizesRefusal 13 = .ok (.imul, 1) := by decide +kernel
theorem dX8_sizesRefusal_14 : decode cX8_sizesRefusal 14 = .ok (.invokevirtual 32, 3) := by decide +kernel
theorem dX8_sizesRefusal_17 : decode cX8_sizesRefusal 17 = .ok (.ifCond .ne 5, 3) := by decide +kernel
theorem dX8_sizesRefusal_20 : decode cX8_sizesRefusal 20 = .ok (.iconst 3, 1) := by decide +kernel
theorem dX8_sizesRefusal_21 : decode cX8_sizesRefusal 21 = .ok (.ireturn, 1) := by decide +kernel
theorem dX8_sizesRefusal_22 : decode cX8_sizesRefusal 22 = .ok (.iconst 0, 1) := by decide +kernel
theorem dX8_sizesRefusal_23 : decode cX8_sizesRefusal 23 = .ok (.istore_n 3, 1) := by decide +kernel
theorem dX8_sizesRefusal_24 : decode cX8_sizesRefusal 24 = .ok (.iload_n 3, 1) := by decide +kernel
theorem dX8_sizesRefusal_25 : decode cX8_sizesRefusal 25 = .ok (.iload_n 1, 1) := by decide +kernel
theorem dX8_sizesRefusal_26 : decode cX8_sizesRefusal 26 = .ok (.if_icmp .ge 36, 3) := by decide +kernel
theorem dX8_sizesRefusal_29 : decode cX8_sizesRefusal 29 = .ok (.aload_n 0, 1) := by decide +kernel
theorem dX8_sizesRefusal_30 : decode cX8_sizesRefusal 30 = .ok (.iload_n 3, 1) := by decide +kernel
theorem dX8_sizesRefusal_31 : decode cX8_sizesRefusal 31 = .ok (.iload_n 2, 1) := by decide +kernel
theorem dX8_sizesRefusal_32 : decode cX8_sizesRefusal 32 = .ok (.imul, 1) := by decide +kernel
theorem dX8_sizesRefusal_33 : decode cX8_sizesRefusal 33 = .ok (.invokevirtual 40, 3) := by decide +kernel
theorem dX8_sizesRefusal_36 : decode cX8_sizesRefusal 36 = .ok (.lstore 4, 2) := by decide +kernel
theorem dX8_sizesRefusal_38 : decode cX8_sizesRefusal 38 = .ok (.lload 4, 2) := by decide +kernel
theorem dX8_sizesRefusal_40 : decode cX8_sizesRefusal 40 = .ok (.lconst 1, 1) := by decide +kernel
theorem dX8_sizesRefusal_41 : decode cX8_sizesRefusal 41 = .ok (.lcmp, 1) := by decide +kernel
theorem dX8_sizesRefusal_42 : decode cX8_sizesRefusal 42 = .ok (.ifCond .lt 12, 3) := by decide +kernel
theorem dX8_sizesRefusal_45 : decode cX8_sizesRefusal 45 = .ok (.lload 4, 2) := by decide +kernel
theorem dX8_sizesRefusal_47 : decode cX8_sizesRefusal 47 = .ok (.ldc2_w 44, 3) := by decide +kernel
theorem dX8_sizesRefusal_50 : decode cX8_sizesRefusal 50 = .ok (.lcmp, 1) := by decide +kernel
theorem dX8_sizesRefusal_51 : decode cX8_sizesRefusal 51 = .ok (.ifCond .le 5, 3) := by decide +kernel
theorem dX8_sizesRefusal_54 : decode cX8_sizesRefusal 54 = .ok (.iconst 5, 1) := by decide +kernel
theorem dX8_sizesRefusal_55 : decode cX8_sizesRefusal 55 = .ok (.ireturn, 1) := by decide +kernel
theorem dX8_sizesRefusal_56 : decode cX8_sizesRefusal 56 = .ok (.iinc 3 1, 3) := by decide +kernel
theorem dX8_sizesRefusal_59 : decode cX8_sizesRefusal 59 = .ok (.goto (-35), 3) := by decide +kernel
theorem dX8_sizesRefusal_62 : decode cX8_sizesRefusal 62 = .ok (.iconst 0, 1) := by decide +kernel
theorem dX8_sizesRefusal_63 : decode cX8_sizesRefusal 63 = .ok (.ireturn, 1) := by decide +kernel
theorem mv_X8_sizesRefusal : MV yX8_sizesRefusal RX8 cX8_sizesRefusal 6 (some .int) 2 := ⟨tb_988, tb_986, tb_987, tb_15, by decide +kernel, by decide +kernel, by decide +kernel⟩
def f_X8_sizesRefusal_b24 (fu : Nat) (y_row : Nat → Int64) (y_missing : Int32) (y_many : Int32) (x1 : Int32) (x2 : Int32) (k24 : Int32 → Option (Int32)) (x3 : Int32) : Option (Int32) := (if x1 ≤ x3 then some (0) else (f_X8_at fu y_row y_many (x3 * x2)).bind fun z_10 => (if (lg_cmp z_10 1) < 0 then some (5) else (if (lg_cmp z_10 99) ≤ 0 then bnd (x3 + 1) fun x3_13 => k24 x3_13 else some (5))))
def f_X8_sizesRefusal_l24 (fu : Nat) (y_row : Nat → Int64) (y_missing : Int32) (y_many : Int32) (x1 : Int32) (x2 : Int32) : Nat → Int32 → Option (Int32)
  | 0, _ => none
  | n + 1, x3 => f_X8_sizesRefusal_b24 fu y_row y_missing y_many x1 x2 (f_X8_sizesRefusal_l24 fu y_row y_missing y_many x1 x2 n) x3
def f_X8_sizesRefusal (fu : Nat) (y_row : Nat → Int64) (y_missing : Int32) (y_many : Int32) (x1 : Int32) (x2 : Int32) : Option (Int32) := (if y_missing = 0 then (f_X8_hasPlaces fu y_many 0 (x1 * x2)).bind fun z_15 => (if z_15 = 0 then some (3) else f_X8_sizesRefusal_l24 fu y_row y_missing y_many x1 x2 fu 0) else some (2))
abbrev rm_X8_sizesRefusal : Room := { frames := 2, cells := 0, slots := 0, locals := 43 }
set_option maxHeartbeats 4000000 in
set_option maxRecDepth 100000 in
theorem c_X8_sizesRefusal (l : Launch) (D : va_G) (cy : Nat → ClassId) (fu : Nat) (A_y : Nat → Nat) (y_row : Nat → Int64) (y_missing : Int32) (y_sort : Int32) (y_many : Int32) (x1 : Int32) (x2 : Int32) (res : Int32) (h : f_X8_sizesRefusal fu y_row y_missing y_many x1 x2 = some res) : Met l yX8_sizesRefusal (WW yX8_sizesRefusal cX8_sizesRefusal 6 (some .int)) rm_X8_sizesRefusal (Rd D cy [.ref (A_y 0), .int x1, .int x2] [bl_X8 cy A_y y_row y_missing y_sort y_many]) (vp_Si (fun v => v = res)) 0 0 (fun _ => False) := by
  refine Met.ofW (cc := cX8_sizesRefusal) (maxL := 6) (ret := (some .int)) (by decide) rfl ?_
  intro p e s m args below meth c s₁ B hml hv
  obtain ⟨hargs, hP, hX⟩ := hv
  have hx := B.exec
  have hb := B.bytes
  have hr := B.returns
  have ht : ∀ w ∈ lw_gd, w.before args s = true := fun w hw => atoms_spec (ws := WW yX8_sizesRefusal cX8_sizesRefusal 6 (some .int)) B.pre w (List.mem_cons_of_mem _ hw)
  have hown : s.vm.findClass RX8 = some m.cls := findClass_of_methodNamed B.named
  have hlocks := B.notSynchronized
  have hP : PB D [bl_X8 cy A_y y_row y_missing y_sort y_many] s.heap := hP
  obtain ⟨ls, hl, hent⟩ := ent (m := m) (n := 6) hargs (Nat.le_of_ble_eq_true rfl) (lv := [(0, .ref (A_y 0)), (1, .int x1), (2, .int x2)]) rfl
  rw [hent]
  clear hent
  have l24 : ∀ (n24 : Nat) (x3 : Int32) (ls : Array Slot), lv_has ls 6 [(0, .ref (A_y 0)), (1, .int x1), (2, .int x2), (3, .int x3)] → f_X8_sizesRefusal_l24 fu y_row y_missing y_many x1 x2 n24 x3 = some res → W p l e (headSpec (WW yX8_sizesRefusal cX8_sizesRefusal 6 (some .int)) rm_X8_sizesRefusal).room s m args below meth c s.heap [] 0 0 (MQ below (vp_Si (fun v => v = res)) args s 0 0 (fun _ => False)) (F0 m 24 ls []) := by
    intro n24
    induction n24 with
    | zero => intro x3 ls hl h; cases h
    | succ n24 ih24 =>
      intro x3 ls hl h
      have h : f_X8_sizesRefusal_b24 fu y_row y_missing y_many x1 x2 (f_X8_sizesRefusal_l24 fu y_row y_missing y_many x1 x2 n24) x3 = some res := h
      unfold f_X8_sizesRefusal_b24 at h
      refine lv_iload_n hx hb dX8_sizesRefusal_24 rfl (lv_at hl 3 rfl) ?_
      refine lv_iload_n hx hb dX8_sizesRefusal_25 rfl (lv_at hl 1 rfl) ?_
      refine lv_icmp_ge (tgt := 62) hx hb dX8_sizesRefusal_26 (by decide) (fun c_9 => ?_) (fun c_9 => ?_)
      · have h := it c_9 h
        refine lv_iconst (v := 0) hx hb dX8_sizesRefusal_62 (by decide) ?_
        cases h
        exact W.iret hx hb hr (fun _ ht9 _ => ⟨_, rfl, rfl, ht9⟩) (fun _ hq => by cases hq) dX8_sizesRefusal_63
      · have h := ie c_9 h
        refine lv_aload_n hx hb dX8_sizesRefusal_29 rfl (lv_at hl 0 rfl) ?_
        refine lv_iload_n hx hb dX8_sizesRefusal_30 rfl (lv_at hl 3 rfl) ?_
        refine lv_iload_n hx hb dX8_sizesRefusal_31 rfl (lv_at hl 2 rfl) ?_
        refine lv_imul hx hb dX8_sizesRefusal_32 ?_
        obtain ⟨z_10, e_z_10, h⟩ := bi h
        refine roVl (rest := []) ⟨hx, hb, hml, hown, ht⟩ (c_X8_at l D cy fu A_y y_row y_missing y_sort y_many (x3 * x2) z_10 e_z_10) (cV ht mv_X8_at tb_989 rfl rfl ⟨Nat.le_of_ble_eq_true rfl, Nat.le_of_ble_eq_true rfl⟩) (P_sub hP [0] rfl) hX rfl rfl rfl hl.1 rfl (Nat.le_of_ble_eq_true rfl) dX8_sizesRefusal_33 ⟨Nat.le_of_ble_eq_true rfl, Nat.le_of_ble_eq_true rfl⟩ ?_
        refine lv_lstore (lv' := [(4, .long z_10), (0, .ref (A_y 0)), (1, .int x1), (2, .int x2), (3, .int x3)]) hx hb dX8_sizesRefusal_36 hl (by decide) rfl (fun ls hl => ?_)
        refine lv_lload hx hb dX8_sizesRefusal_38 (lv_at hl 0 rfl) ?_
        refine lv_lconst (v := 1) hx hb dX8_sizesRefusal_40 (by decide) ?_
        refine W.lcmp hx hb dX8_sizesRefusal_41 ?_
        refine lv_if_lt (tgt := 54) hx hb dX8_sizesRefusal_42 (by decide) (fun c_11 => ?_) (fun c_11 => ?_)
        · have h := it c_11 h
          refine lv_iconst (v := 5) hx hb dX8_sizesRefusal_54 (by decide) ?_
          cases h
          exact W.iret hx hb hr (fun _ ht9 _ => ⟨_, rfl, rfl, ht9⟩) (fun _ hq => by cases hq) dX8_sizesRefusal_55
        · have h := ie c_11 h
          refine lv_lload hx hb dX8_sizesRefusal_45 (lv_at hl 0 rfl) ?_
          refine lv_ldc2 (v := 99) hx hb hown (ht _ tb_990) dX8_sizesRefusal_47 ?_
          refine W.lcmp hx hb dX8_sizesRefusal_50 ?_
          refine lv_if_le (tgt := 56) hx hb dX8_sizesRefusal_51 (by decide) (fun c_12 => ?_) (fun c_12 => ?_)
          · have h := it c_12 h
            obtain ⟨x3_13, e_x3_13⟩ : ∃ y : Int32, y = x3 + 1 := ⟨_, rfl⟩
            have h := bn e_x3_13 h
            refine lv_iinc (v := x3_13) (lv' := [(3, .int x3_13), (4, .long z_10), (0, .ref (A_y 0)), (1, .int x1), (2, .int x2)]) hx hb dX8_sizesRefusal_56 hl (k := 4) rfl (by rw [e_x3_13]; rfl) (by decide) rfl (fun ls hl => ?_)
            refine lv_goto (tgt := 24) hx hb dX8_sizesRefusal_59 (by decide) ?_
            exact ih24 x3_13 ls (lv_sub hl [2, 3, 4, 0] rfl) h
          · have h := ie c_12 h
            refine lv_iconst (v := 5) hx hb dX8_sizesRefusal_54 (by decide) ?_
            cases h
            exact W.iret hx hb hr (fun _ ht9 _ => ⟨_, rfl, rfl, ht9⟩) (fun _ hq => by cases hq) dX8_sizesRefusal_55
  unfold f_X8_sizesRefusal at h
  refine lv_aload_n hx hb dX8_sizesRefusal_0 rfl (lv_at hl 0 rfl) ?_
  refine xget (i := 0) (j := 0) (k := 1) (T := TX8) hx hb ht tb_iX8 hown hX hP rfl rfl rfl (by decide) tb_415 rfl dX8_sizesRefusal_1 ?_
  refine lv_if_eq (tgt := 9) hx hb dX8_sizesRefusal_4 (by decide) (fun c_14 => ?_) (fun c_14 => ?_)
  · have h := it c_14 h
    refine lv_aload_n hx hb dX8_sizesRefusal_9 rfl (lv_at hl 0 rfl) ?_
    refine lv_iconst (v := 0) hx hb dX8_sizesRefusal_10 (by decide) ?_
    refine lv_iload_n hx hb dX8_sizesRefusal_11 rfl (lv_at hl 1 rfl) ?_
    refine lv_iload_n hx hb dX8_sizesRefusal_12 rfl (lv_at hl 2 rfl) ?_
    refine lv_imul hx hb dX8_sizesRefusal_13 ?_
    obtain ⟨z_15, e_z_15, h⟩ := bi h
    refine roVi (rest := []) ⟨hx, hb, hml, hown, ht⟩ (c_X8_hasPlaces l D cy fu A_y y_row y_missing y_sort y_many 0 (x1 * x2) z_15 e_z_15) (cV ht mv_X8_hasPlaces tb_534 rfl rfl ⟨Nat.le_of_ble_eq_true rfl, Nat.le_of_ble_eq_true rfl⟩) (P_sub hP [0] rfl) hX rfl rfl rfl hl.1 rfl (Nat.le_of_ble_eq_true rfl) dX8_sizesRefusal_14 ⟨Nat.le_of_ble_eq_true rfl, Nat.le_of_ble_eq_true rfl⟩ ?_
    refine lv_if_ne (tgt := 22) hx hb dX8_sizesRefusal_17 (by decide) (fun c_16 => ?_) (fun c_16 => ?_)
    · have h := ie c_16 h
      refine lv_iconst (v := 0) hx hb dX8_sizesRefusal_22 (by decide) ?_
      refine lv_istore_n (lv' := [(3, .int 0), (0, .ref (A_y 0)), (1, .int x1), (2, .int x2)]) hx hb dX8_sizesRefusal_23 rfl hl (by decide) rfl (fun ls hl => ?_)
      exact l24 fu 0 ls (lv_sub hl [1, 2, 3, 0] rfl) h
    · have h := it c_16 h
      refine lv_iconst (v := 3) hx hb dX8_sizesRefusal_20 (by decide) ?_
      cases h
      exact W.iret hx hb hr (fun _ ht9 _ => ⟨_, rfl, rfl, ht9⟩) (fun _ hq => by cases hq) dX8_sizesRefusal_21
  · have h := ie c_14 h
    refine lv_iconst (v := 2) hx hb dX8_sizesRefusal_7 (by decide) ?_
    cases h
    exact W.iret hx hb hr (fun _ ht9 _ => ⟨_, rfl, rfl, ht9⟩) (fun _ hq => by cases hq) dX8_sizesRefusal_8
theorem dX9_clear_0 : decode cX9_clear 0 = .ok (.aload_n 0, 1) := by decide +kernel
theorem dX9_clear_1 : decode cX9_clear 1 = .ok (.iconst 0, 1) := by decide +kernel
theorem dX9_clear_2 : decode cX9_clear 2 = .ok (.putfield 30, 3) := by decide +kernel
theorem dX9_clear_5 : decode cX9_clear 5 = .ok (.aload_n 0, 1) := by decide +kernel
theorem dX9_clear_6 : decode cX9_clear 6 = .ok (.iconst 0, 1) := by decide +kernel
theorem dX9_clear_7 : decode cX9_clear 7 = .ok (.putfield 34, 3) := by decide +kernel
theorem dX9_clear_10 : decode cX9_clear 10 = .ok (.aload_n 0, 1) := by decide +kernel
theorem dX9_clear_11 : decode cX9_clear 11 = .ok (.iconst 0, 1) := by decide +kernel
theorem dX9_clear_12 : decode cX9_clear 12 = .ok (.putfield 38, 3) := by decide +kernel
theorem dX9_clear_15 : decode cX9_clear 15 = .ok (.return_, 1) := by decide +kernel
theorem mv_X9_clear : MV yX9_clear RX9 cX9_clear 1 none 0 := ⟨tb_695, tb_693, tb_694, tb_3, by decide +kernel, by decide +kernel, by decide +kernel⟩
def f_X9_clear (fu : Nat) (w_there : Int32) (w_rows : Int32) (w_steps : Int32) : Option (Int32 × Int32 × Int32) := some (0, 0, 0)
abbrev rm_X9_clear : Room := { frames := 0, cells := 0, slots := 0, locals := 0 }
set_option maxHeartbeats 4000000 in
set_option maxRecDepth 100000 in
theorem c_X9_clear (l : Launch) (D : va_G) (cy : Nat → ClassId) (fu : Nat) (A_w : Nat → Nat) (w_deed : Nat → Int32) (w_man : Nat → Int32) (w_other : Nat → Int32) (w_sign : Nat → Int32) (w_number : Nat → Int32) (w_mate : Nat → Int32) (w_there : Int32) (w_rows : Int32) (w_steps : Int32) (res : Int32 × Int32 × Int32) (h : f_X9_clear fu w_there w_rows w_steps = some res) (A : Nat → Prop) (hA : A = adr [bl_X9 cy A_w w_deed w_man w_other w_sign w_number w_mate w_there w_rows w_steps]) (W1 : List va_W) (hW1 : W1 = [bl_X9 cy A_w w_deed w_man w_other w_sign w_number w_mate res.1 res.2.1 res.2.2]) : Met l yX9_clear (WW yX9_clear cX9_clear 1 none) rm_X9_clear (Ed D cy [.ref (A_w 0)] [bl_X9 cy A_w w_deed w_man w_other w_sign w_number w_mate w_there w_rows w_steps]) (Qev D A W1) 0 0 A := by
  refine Met.ofW (cc := cX9_clear) (maxL := 1) (ret := none) (by decide) rfl ?_
  intro p e s m args below meth c s₁ B hml hv
  obtain ⟨hargs, hP, hX, hD0⟩ := hv
  have hx := B.exec
  have hb := B.bytes
  have hr := B.returns
  have ht : ∀ w ∈ lw_gd, w.before args s = true := fun w hw => atoms_spec (ws := WW yX9_clear cX9_clear 1 none) B.pre w (List.mem_cons_of_mem _ hw)
  have hown : s.vm.findClass RX9 = some m.cls := findClass_of_methodNamed B.named
  have hlocks := B.notSynchronized
  have hP : PD D A [bl_X9 cy A_w w_deed w_man w_other w_sign w_number w_mate w_there w_rows w_steps] s.heap := ⟨hP, by rw [hA]; exact hD0.own⟩
  have hS : va_S A s.heap s.heap [] := va_S.rf
  obtain ⟨ls, hl, hent⟩ := ent (m := m) (n := 1) hargs (Nat.le_of_ble_eq_true rfl) (lv := [(0, .ref (A_w 0))]) rfl
  rw [hent]
  clear hent
  unfold f_X9_clear at h
  refine lv_aload_n hx hb dX9_clear_0 rfl (lv_at hl 0 rfl) ?_
  refine lv_iconst (v := 0) hx hb dX9_clear_1 (by decide) ?_
  refine xput (i := 0) (j := 0) (k := 6) (T := TX9) tyX9 tyX9_ok nmX9 hx hb ht tb_iX9 hown hX hP hS rfl rfl rfl (by decide) tb_128 rfl rfl rfl (Nat.le_of_ble_eq_true rfl) dX9_clear_2 (fun H locs hP hS => ?_)
  have hP : PD D A [bl_X9 cy A_w w_deed w_man w_other w_sign w_number w_mate 0 w_rows w_steps] H := hP
  refine lv_aload_n hx hb dX9_clear_5 rfl (lv_at hl 0 rfl) ?_
  refine lv_iconst (v := 0) hx hb dX9_clear_6 (by decide) ?_
  refine xput (i := 0) (j := 0) (k := 7) (T := TX9) tyX9 tyX9_ok nmX9 hx hb ht tb_iX9 hown hX hP hS rfl rfl rfl (by decide) tb_131 rfl rfl rfl (Nat.le_of_ble_eq_true rfl) dX9_clear_7 (fun H locs hP hS => ?_)
  have hP : PD D A [bl_X9 cy A_w w_deed w_man w_other w_sign w_number w_mate 0 0 w_steps] H := hP
  refine lv_aload_n hx hb dX9_clear_10 rfl (lv_at hl 0 rfl) ?_
  refine lv_iconst (v := 0) hx hb dX9_clear_11 (by decide) ?_
  refine xput (i := 0) (j := 0) (k := 8) (T := TX9) tyX9 tyX9_ok nmX9 hx hb ht tb_iX9 hown hX hP hS rfl rfl rfl (by decide) tb_134 rfl rfl rfl (Nat.le_of_ble_eq_true rfl) dX9_clear_12 (fun H locs hP hS => ?_)
  have hP : PD D A [bl_X9 cy A_w w_deed w_man w_other w_sign w_number w_mate 0 0 0] H := hP
  cases h
  subst hW1
  exact W.vret hx hb hr (fun _ ht9 _ => ⟨⟨(), rfl, trivial, hPt ht9 hP.1⟩, hS.F ht9⟩) hS.2.2 dX9_clear_15
theorem dX9_become_0 : decode cX9_become 0 = .ok (.aload_n 1, 1) := by decide +kernel
theorem dX9_become_1 : decode cX9_become 1 = .ok (.getfield 9, 3) := by decide +kernel
theorem dX9_become_4 : decode cX9_become 4 = .ok (.iconst 0, 1) := by decide +kernel
theorem dX9_become_5 : decode cX9_become 5 = .ok (.aload_n 0, 1) := by decide +kernel
theorem dX9_become_6 : decode cX9_become 6 = .ok (.getfield 9, 3) := by decide +kernel
theorem dX9_become_9 : decode cX9_become 9 = .ok (.iconst 0, 1) := by decide +kernel
theorem dX9_become_10 : decode cX9_become 10 = .ok (.bipush 60, 2) := by decide +kernel
theorem dX9_become_12 : decode cX9_become 12 = .ok (.invokestatic 41, 3) := by decide +kernel
theorem dX9_become_15 : decode cX9_become 15 = .ok (.aload_n 1, 1) := by decide +kernel
theorem dX9_become_16 : decode cX9_become 16 = .ok (.getfield 15, 3) := by decide +kernel
theorem dX9_become_19 : decode cX9_become 19 = .ok (.iconst 0, 1) := by decide +kernel
theorem dX9_become_20 : decode cX9_become 20 = .ok (.aload_n 0, 1) := by decide +kernel
theorem dX9_become_21 : decode cX9_become 21 = .ok (.getfield 15, 3) := by decide +kernel
theorem dX9_become_24 : decode cX9_become 24 = .ok (.iconst 0, 1) := by decide +kernel
theorem dX9_become_25 : decode cX9_become 25 = .ok (.bipush 60, 2) := by decide +kernel
theorem dX9_become_27 : decode cX9_become 27 = .ok (.invokestatic 41, 3) := by decide +kernel
theorem dX9_become_30 : decode cX9_become 30 = .ok (.aload_n 1, 1) := by decide +kernel
theorem dX9_become_31 : decode cX9_become 31 = .ok (.getfield 18, 3) := by decide +kernel
theorem dX9_become_34 : decode cX9_become 34 = .ok (.iconst 0, 1) := by decide +kernel
theorem dX9_become_35 : decode cX9_become 35 = .ok (.aload_n 0, 1) := by decide +kernel
theorem dX9_become_36 : decode cX9_become 36 = .ok (.getfield 18, 3) := by decide +kernel
theorem dX9_become_39 : decode cX9_become 39 = .ok (.iconst 0, 1) := by decide +kernel
theorem dX9_become_40 : decode cX9_become 40 = .ok (.bipush 60, 2) := by decide +kernel
theorem dX9_become_42 : decode cX9_become 42 = .ok (.invokestatic 41, 3) := by decide +kernel
theorem dX9_become_45 : decode cX9_become 45 = .ok (.aload_n 1, 1) := by decide +kernel
theorem dX9_become_46 : decode cX9_become 46 = .ok (.getfield 21, 3) := by decide +kernel
theorem dX9_become_49 : decode cX9_become 49 = .ok (.iconst 0, 1) := by decide +kernel
theorem dX9_become_50 : decode cX9_become 50 = .ok (.aload_n 0, 1) := by decide +kernel
theorem dX9_become_51 : decode cX9_become 51 = .ok (.getfield 21, 3) := by decide +kernel
theorem dX9_become_54 : decode cX9_become 54 = .ok (.iconst 0, 1) := by decide +kernel
theorem dX9_become_55 : decode cX9_become 55 = .ok (.bipush 60, 2) := by decide +kernel
theorem dX9_become_57 : decode cX9_become 57 = .ok (.invokestatic 41, 3) := by decide +kernel
theorem dX9_become_60 : decode cX9_become 60 = .ok (.aload_n 1, 1) := by decide +kernel
theorem dX9_become_61 : decode cX9_become 61 = .ok (.getfield 24, 3) := by decide +kernel
theorem dX9_become_64 : decode cX9_become 64 = .ok (.iconst 0, 1) := by decide +kernel
theorem dX9_become_65 : decode cX9_become 65 = .ok (.aload_n 0, 1) := by decide +kernel
theorem dX9_become_66 : decode cX9_become 66 = .ok (.getfield 24, 3) := by decide +kernel
theorem dX9_become_69 : decode cX9_become 69 = .ok (.iconst 0, 1) := by decide +kernel
theorem dX9_become_70 : decode cX9_become 70 = .ok (.bipush 60, 2) := by decide +kernel
theorem dX9_become_72 : decode cX9_become 72 = .ok (.invokestatic 41, 3) := by decide +kernel
theorem dX9_become_75 : decode cX9_become 75 = .ok (.aload_n 1, 1) := by decide +kernel
theorem dX9_become_76 : decode cX9_become 76 = .ok (.getfield 27, 3) := by decide +kernel
theorem dX9_become_79 : decode cX9_become 79 = .ok (.iconst 0, 1) := by decide +kernel
theorem dX9_become_80 : decode cX9_become 80 = .ok (.aload_n 0, 1) := by decide +kernel
theorem dX9_become_81 : decode cX9_become 81 = .ok (.getfield 27, 3) := by decide +kernel
theorem dX9_become_84 : decode cX9_become 84 = .ok (.iconst 0, 1) := by decide +kernel
theorem dX9_become_85 : decode cX9_become 85 = .ok (.bipush 60, 2) := by decide +kernel
theorem dX9_become_87 : decode cX9_become 87 = .ok (.invokestatic 41, 3) := by decide +kernel
theorem dX9_become_90 : decode cX9_become 90 = .ok (.aload_n 0, 1) := by decide +kernel
theorem dX9_become_91 : decode cX9_become 91 = .ok (.aload_n 1, 1) := by decide +kernel
theorem dX9_become_92 : decode cX9_become 92 = .ok (.getfield 30, 3) := by decide +kernel
theorem dX9_become_95 : decode cX9_become 95 = .ok (.putfield 30, 3) := by decide +kernel
theorem dX9_become_98 : decode cX9_become 98 = .ok (.aload_n 0, 1) := by decide +kernel
theorem dX9_become_99 : decode cX9_become 99 = .ok (.aload_n 1, 1) := by decide +kernel
theorem dX9_become_100 : decode cX9_become 100 = .ok (.getfield 34, 3) := by decide +kernel
theorem dX9_become_103 : decode cX9_become 103 = .ok (.putfield 34, 3) := by decide +kernel
theorem dX9_become_106 : decode cX9_become 106 = .ok (.aload_n 0, 1) := by decide +kernel
theorem dX9_become_107 : decode cX9_become 107 = .ok (.aload_n 1, 1) := by decide +kernel
theorem dX9_become_108 : decode cX9_become 108 = .ok (.getfield 38, 3) := by decide +kernel
theorem dX9_become_111 : decode cX9_become 111 = .ok (.putfield 38, 3) := by decide +kernel
theorem dX9_become_114 : decode cX9_become 114 = .ok (.return_, 1) := by decide +kernel
theorem mv_X9_become : MV yX9_become RX9 cX9_become 2 none 1 := ⟨tb_753, tb_751, tb_752, tb_3, by decide +kernel, by decide +kernel, by decide +kernel⟩
def f_X9_become (fu : Nat) (w_deed : Nat → Int32) (w_man : Nat → Int32) (w_other : Nat → Int32) (w_sign : Nat → Int32) (w_number : Nat → Int32) (w_mate : Nat → Int32) (w_there : Int32) (w_rows : Int32) (w_steps : Int32) (o_deed : Nat → Int32) (o_man : Nat → Int32) (o_other : Nat → Int32) (o_sign : Nat → Int32) (o_number : Nat → Int32) (o_mate : Nat → Int32) (o_there : Int32) (o_rows : Int32) (o_steps : Int32) : Option ((Nat → Int32) × (Nat → Int32) × (Nat → Int32) × (Nat → Int32) × (Nat → Int32) × (Nat → Int32) × Int32 × Int32 × Int32) := (cpI o_deed 60 w_deed 60 0 0 60).bind fun w_deed_8 => (cpI o_man 60 w_man 60 0 0 60).bind fun w_man_9 => (cpI o_other 60 w_other 60 0 0 60).bind fun w_other_10 => (cpI o_sign 60 w_sign 60 0 0 60).bind fun w_sign_11 => (cpI o_number 60 w_number 60 0 0 60).bind fun w_number_12 => (cpI o_mate 60 w_mate 60 0 0 60).bind fun w_mate_13 => (bz o_there).bind fun _ => some (w_deed_8, w_man_9, w_other_10, w_sign_11, w_number_12, w_mate_13, o_there, o_rows, o_steps)
abbrev rm_X9_become : Room := { frames := 1, cells := 0, slots := 0, locals := 60 }
set_option maxHeartbeats 4000000 in
set_option maxRecDepth 100000 in
theorem c_X9_become (l : Launch) (D : va_G) (cy : Nat → ClassId) (fu : Nat) (A_w : Nat → Nat) (w_deed : Nat → Int32) (w_man : Nat → Int32) (w_other : Nat → Int32) (w_sign : Nat → Int32) (w_number : Nat → Int32) (w_mate : Nat → Int32) (w_there : Int32) (w_rows : Int32) (w_steps : Int32) (A_o : Nat → Nat) (o_deed : Nat → Int32) (o_man : Nat → Int32) (o_other : Nat → Int32) (o_sign : Nat → Int32) (o_number : Nat → Int32) (o_mate : Nat → Int32) (o_there : Int32) (o_rows : Int32) (o_steps : Int32) (res : (Nat → Int32) × (Nat → Int32) × (Nat → Int32) × (Nat → Int32) × (Nat → Int32) × (Nat → Int32) × Int32 × Int32 × Int32) (h : f_X9_become fu w_deed w_man w_other w_sign w_number w_mate w_there w_rows w_steps o_deed o_man o_other o_sign o_number o_mate o_there o_rows o_steps = some res) (A : Nat → Prop) (hA : A = adr [bl_X9 cy A_w w_deed w_man w_other w_sign w_number w_mate w_there w_rows w_steps, bl_X9 cy A_o o_deed o_man o_other o_sign o_number o_mate o_there o_rows o_steps]) (W1 : List va_W) (hW1 : W1 = [bl_X9 cy A_w res.1 res.2.1 res.2.2.1 res.2.2.2.1 res.2.2.2.2.1 res.2.2.2.2.2.1 res.2.2.2.2.2.2.1 res.2.2.2.2.2.2.2.1 res.2.2.2.2.2.2.2.2, bl_X9 cy A_o o_deed o_man o_other o_sign o_number o_mate o_there o_rows o_steps]) : Met l yX9_become (WW yX9_become cX9_become 2 none) rm_X9_become (Ed D cy [.ref (A_w 0), .ref (A_o 0)] [bl_X9 cy A_w w_deed w_man w_other w_sign w_number w_mate w_there w_rows w_steps, bl_X9 cy A_o o_deed o_man o_other o_sign o_number o_mate o_there o_rows o_steps]) (Qev D A W1) 0 0 A := by
  refine Met.ofW (cc := cX9_become) (maxL := 2) (ret := none) (by decide) rfl ?_
  intro p e s m args below meth c s₁ B hml hv
  obtain ⟨hargs, hP, hX, hD0⟩ := hv
  have hx := B.exec
  have hb := B.bytes
  have hr := B.returns
  have ht : ∀ w ∈ lw_gd, w.before args s = true := fun w hw => atoms_spec (ws := WW yX9_become cX9_become 2 none) B.pre w (List.mem_cons_of_mem _ hw)
  have hown : s.vm.findClass RX9 = some m.cls := findClass_of_methodNamed B.named
  have hlocks := B.notSynchronized
  have hP : PD D A [bl_X9 cy A_w w_deed w_man w_other w_sign w_number w_mate w_there w_rows w_steps, bl_X9 cy A_o o_deed o_man o_other o_sign o_number o_mate o_there o_rows o_steps] s.heap := ⟨hP, by rw [hA]; exact hD0.own⟩
  have hS : va_S A s.heap s.heap [] := va_S.rf
  obtain ⟨ls, hl, hent⟩ := ent (m := m) (n := 2) hargs (Nat.le_of_ble_eq_true rfl) (lv := [(0, .ref (A_w 0)), (1, .ref (A_o 0))]) rfl
  rw [hent]
  clear hent
  unfold f_X9_become at h
  refine lv_aload_n hx hb dX9_become_0 rfl (lv_at hl 1 rfl) ?_
  refine xget (i := 1) (j := 0) (k := 0) (T := TX9) hx hb ht tb_iX9 hown hX hP.1 rfl rfl rfl (by decide) tb_112 rfl dX9_become_1 ?_
  refine lv_iconst (v := 0) hx hb dX9_become_4 (by decide) ?_
  refine lv_aload_n hx hb dX9_become_5 rfl (lv_at hl 0 rfl) ?_
  refine xget (i := 0) (j := 0) (k := 0) (T := TX9) hx hb ht tb_iX9 hown hX hP.1 rfl rfl rfl (by decide) tb_112 rfl dX9_become_6 ?_
  refine lv_iconst (v := 0) hx hb dX9_become_9 (by decide) ?_
  refine lv_bipush (v := 60) hx hb dX9_become_10 (by decide) ?_
  obtain ⟨w_deed_8, e_w_deed_8, h⟩ := bi h
  refine xcpI (i0 := 1) (j0 := 1) (i1 := 0) (j1 := 1) hx hb (hml.trans hl.1.symm) hown (ht _ tb_754) (ht _ tb_557) (ht _ tb_556) (ht _ tb_18) hX hP hS rfl rfl rfl rfl e_w_deed_8 (Nat.le_of_ble_eq_true rfl) (Nat.le_of_ble_eq_true rfl) dX9_become_12 (fun H locs hP hS => ?_)
  have hP : PD D A [bl_X9 cy A_w w_deed_8 w_man w_other w_sign w_number w_mate w_there w_rows w_steps, bl_X9 cy A_o o_deed o_man o_other o_sign o_number o_mate o_there o_rows o_steps] H := hP
  refine lv_aload_n hx hb dX9_become_15 rfl (lv_at hl 1 rfl) ?_
  refine xget (i := 1) (j := 0) (k := 1) (T := TX9) hx hb ht tb_iX9 hown hX hP.1 rfl rfl rfl (by decide) tb_114 rfl dX9_become_16 ?_
  refine lv_iconst (v := 0) hx hb dX9_become_19 (by decide) ?_
  refine lv_aload_n hx hb dX9_become_20 rfl (lv_at hl 0 rfl) ?_
  refine xget (i := 0) (j := 0) (k := 1) (T := TX9) hx hb ht tb_iX9 hown hX hP.1 rfl rfl rfl (by decide) tb_114 rfl dX9_become_21 ?_
  refine lv_iconst (v := 0) hx hb dX9_become_24 (by decide) ?_
  refine lv_bipush (v := 60) hx hb dX9_become_25 (by decide) ?_
  obtain ⟨w_man_9, e_w_man_9, h⟩ := bi h
  refine xcpI (i0 := 1) (j0 := 2) (i1 := 0) (j1 := 2) hx hb (hml.trans hl.1.symm) hown (ht _ tb_754) (ht _ tb_557) (ht _ tb_556) (ht _ tb_18) hX hP hS rfl rfl rfl rfl e_w_man_9 (Nat.le_of_ble_eq_true rfl) (Nat.le_of_ble_eq_true rfl) dX9_become_27 (fun H locs hP hS => ?_)
  have hP : PD D A [bl_X9 cy A_w w_deed_8 w_man_9 w_other w_sign w_number w_mate w_there w_rows w_steps, bl_X9 cy A_o o_deed o_man o_other o_sign o_number o_mate o_there o_rows o_steps] H := hP
  refine lv_aload_n hx hb dX9_become_30 rfl (lv_at hl 1 rfl) ?_
  refine xget (i := 1) (j := 0) (k := 2) (T := TX9) hx hb ht tb_iX9 hown hX hP.1 rfl rfl rfl (by decide) tb_117 rfl dX9_become_31 ?_
  refine lv_iconst (v := 0) hx hb dX9_become_34 (by decide) ?_
  refine lv_aload_n hx hb dX9_become_35 rfl (lv_at hl 0 rfl) ?_
  refine xget (i := 0) (j := 0) (k := 2) (T := TX9) hx hb ht tb_iX9 hown hX hP.1 rfl rfl rfl (by decide) tb_117 rfl dX9_become_36 ?_
  refine lv_iconst (v := 0) hx hb dX9_become_39 (by decide) ?_
  refine lv_bipush (v := 60) hx hb dX9_become_40 (by decide) ?_
  obtain ⟨w_other_10, e_w_other_10, h⟩ := bi h
  refine xcpI (i0 := 1) (j0 := 3) (i1 := 0) (j1 := 3) hx hb (hml.trans hl.1.symm) hown (ht _ tb_754) (ht _ tb_557) (ht _ tb_556) (ht _ tb_18) hX hP hS rfl rfl rfl rfl e_w_other_10 (Nat.le_of_ble_eq_true rfl) (Nat.le_of_ble_eq_true rfl) dX9_become_42 (fun H locs hP hS => ?_)
  have hP : PD D A [bl_X9 cy A_w w_deed_8 w_man_9 w_other_10 w_sign w_number w_mate w_there w_rows w_steps, bl_X9 cy A_o o_deed o_man o_other o_sign o_number o_mate o_there o_rows o_steps] H := hP
  refine lv_aload_n hx hb dX9_become_45 rfl (lv_at hl 1 rfl) ?_
  refine xget (i := 1) (j := 0) (k := 3) (T := TX9) hx hb ht tb_iX9 hown hX hP.1 rfl rfl rfl (by decide) tb_120 rfl dX9_become_46 ?_
  refine lv_iconst (v := 0) hx hb dX9_become_49 (by decide) ?_
  refine lv_aload_n hx hb dX9_become_50 rfl (lv_at hl 0 rfl) ?_
  refine xget (i := 0) (j := 0) (k := 3) (T := TX9) hx hb ht tb_iX9 hown hX hP.1 rfl rfl rfl (by decide) tb_120 rfl dX9_become_51 ?_
  refine lv_iconst (v := 0) hx hb dX9_become_54 (by decide) ?_
  refine lv_bipush (v := 60) hx hb dX9_become_55 (by decide) ?_
  obtain ⟨w_sign_11, e_w_sign_11, h⟩ := bi h
  refine xcpI (i0 := 1) (j0 := 4) (i1 := 0) (j1 := 4) hx hb (hml.trans hl.1.symm) hown (ht _ tb_754) (ht _ tb_557) (ht _ tb_556) (ht _ tb_18) hX hP hS rfl rfl rfl rfl e_w_sign_11 (Nat.le_of_ble_eq_true rfl) (Nat.le_of_ble_eq_true rfl) dX9_become_57 (fun H locs hP hS => ?_)
  have hP : PD D A [bl_X9 cy A_w w_deed_8 w_man_9 w_other_10 w_sign_11 w_number w_mate w_there w_rows w_steps, bl_X9 cy A_o o_deed o_man o_other o_sign o_number o_mate o_there o_rows o_steps] H := hP
  refine lv_aload_n hx hb dX9_become_60 rfl (lv_at hl 1 rfl) ?_
  refine xget (i := 1) (j := 0) (k := 4) (T := TX9) hx hb ht tb_iX9 hown hX hP.1 rfl rfl rfl (by decide) tb_123 rfl dX9_become_61 ?_
  refine lv_iconst (v := 0) hx hb dX9_become_64 (by decide) ?_
  refine lv_aload_n hx hb dX9_become_65 rfl (lv_at hl 0 rfl) ?_
  refine xget (i := 0) (j := 0) (k := 4) (T := TX9) hx hb ht tb_iX9 hown hX hP.1 rfl rfl rfl (by decide) tb_123 rfl dX9_become_66 ?_
  refine lv_iconst (v := 0) hx hb dX9_become_69 (by decide) ?_
  refine lv_bipush (v := 60) hx hb dX9_become_70 (by decide) ?_
  obtain ⟨w_number_12, e_w_number_12, h⟩ := bi h
  refine xcpI (i0 := 1) (j0 := 5) (i1 := 0) (j1 := 5) hx hb (hml.trans hl.1.symm) hown (ht _ tb_754) (ht _ tb_557) (ht _ tb_556) (ht _ tb_18) hX hP hS rfl rfl rfl rfl e_w_number_12 (Nat.le_of_ble_eq_true rfl) (Nat.le_of_ble_eq_true rfl) dX9_become_72 (fun H locs hP hS => ?_)
  have hP : PD D A [bl_X9 cy A_w w_deed_8 w_man_9 w_other_10 w_sign_11 w_number_12 w_mate w_there w_rows w_steps, bl_X9 cy A_o o_deed o_man o_other o_sign o_number o_mate o_there o_rows o_steps] H := hP
  refine lv_aload_n hx hb dX9_become_75 rfl (lv_at hl 1 rfl) ?_
  refine xget (i := 1) (j := 0) (k := 5) (T := TX9) hx hb ht tb_iX9 hown hX hP.1 rfl rfl rfl (by decide) tb_126 rfl dX9_become_76 ?_
  refine lv_iconst (v := 0) hx hb dX9_become_79 (by decide) ?_
  refine lv_aload_n hx hb dX9_become_80 rfl (lv_at hl 0 rfl) ?_
  refine xget (i := 0) (j := 0) (k := 5) (T := TX9) hx hb ht tb_iX9 hown hX hP.1 rfl rfl rfl (by decide) tb_126 rfl dX9_become_81 ?_
  refine lv_iconst (v := 0) hx hb dX9_become_84 (by decide) ?_
  refine lv_bipush (v := 60) hx hb dX9_become_85 (by decide) ?_
  obtain ⟨w_mate_13, e_w_mate_13, h⟩ := bi h
  refine xcpI (i0 := 1) (j0 := 6) (i1 := 0) (j1 := 6) hx hb (hml.trans hl.1.symm) hown (ht _ tb_754) (ht _ tb_557) (ht _ tb_556) (ht _ tb_18) hX hP hS rfl rfl rfl rfl e_w_mate_13 (Nat.le_of_ble_eq_true rfl) (Nat.le_of_ble_eq_true rfl) dX9_become_87 (fun H locs hP hS => ?_)
  have hP : PD D A [bl_X9 cy A_w w_deed_8 w_man_9 w_other_10 w_sign_11 w_number_12 w_mate_13 w_there w_rows w_steps, bl_X9 cy A_o o_deed o_man o_other o_sign o_number o_mate o_there o_rows o_steps] H := hP
  refine lv_aload_n hx hb dX9_become_90 rfl (lv_at hl 0 rfl) ?_
  refine lv_aload_n hx hb dX9_become_91 rfl (lv_at hl 1 rfl) ?_
  refine xget (i := 1) (j := 0) (k := 6) (T := TX9) hx hb ht tb_iX9 hown hX hP.1 rfl rfl rfl (by decide) tb_128 rfl dX9_become_92 ?_
  obtain ⟨b_14, e_b_14, h⟩ := bi h
  obtain ⟨-, n_b_14, f_b_14⟩ := bz_ok e_b_14
  refine xput (i := 0) (j := 0) (k := 6) (T := TX9) tyX9 tyX9_ok nmX9 hx hb ht tb_iX9 hown hX hP hS rfl rfl rfl (by decide) tb_128 rfl n_b_14 f_b_14 (Nat.le_of_ble_eq_true rfl) dX9_become_95 (fun H locs hP hS => ?_)
  have hP : PD D A [bl_X9 cy A_w w_deed_8 w_man_9 w_other_10 w_sign_11 w_number_12 w_mate_13 o_there w_rows w_steps, bl_X9 cy A_o o_deed o_man o_other o_sign o_number o_mate o_there o_rows o_steps] H := hP
  refine lv_aload_n hx hb dX9_become_98 rfl (lv_at hl 0 rfl) ?_
  refine lv_aload_n hx hb dX9_become_99 rfl (lv_at hl 1 rfl) ?_
  refine xget (i := 1) (j := 0) (k := 7) (T := TX9) hx hb ht tb_iX9 hown hX hP.1 rfl rfl rfl (by decide) tb_131 rfl dX9_become_100 ?_
  refine xput (i := 0) (j := 0) (k := 7) (T := TX9) tyX9 tyX9_ok nmX9 hx hb ht tb_iX9 hown hX hP hS rfl rfl rfl (by decide) tb_131 rfl rfl rfl (Nat.le_of_ble_eq_true rfl) dX9_become_103 (fun H locs hP hS => ?_)
  have hP : PD D A [bl_X9 cy A_w w_deed_8 w_man_9 w_other_10 w_sign_11 w_number_12 w_mate_13 o_there o_rows w_steps, bl_X9 cy A_o o_deed o_man o_other o_sign o_number o_mate o_there o_rows o_steps] H := hP
  refine lv_aload_n hx hb dX9_become_106 rfl (lv_at hl 0 rfl) ?_
  refine lv_aload_n hx hb dX9_become_107 rfl (lv_at hl 1 rfl) ?_
  refine xget (i := 1) (j := 0) (k := 8) (T := TX9) hx hb ht tb_iX9 hown hX hP.1 rfl rfl rfl (by decide) tb_134 rfl dX9_become_108 ?_
  refine xput (i := 0) (j := 0) (k := 8) (T := TX9) tyX9 tyX9_ok nmX9 hx hb ht tb_iX9 hown hX hP hS rfl rfl rfl (by decide) tb_134 rfl rfl rfl (Nat.le_of_ble_eq_true rfl) dX9_become_111 (fun H locs hP hS => ?_)
  have hP : PD D A [bl_X9 cy A_w w_deed_8 w_man_9 w_other_10 w_sign_11 w_number_12 w_mate_13 o_there o_rows o_steps, bl_X9 cy A_o o_deed o_man o_other o_sign o_number o_mate o_there o_rows o_steps] H := hP
  cases h
  subst hW1
  exact W.vret hx hb hr (fun _ ht9 _ => ⟨⟨(), rfl, trivial, hPt ht9 hP.1⟩, hS.F ht9⟩) hS.2.2 dX9_become_114
theorem dX9_step_0 : decode cX9_step 0 = .ok (.aload_n 0, 1) := by decide +kernel
theorem dX9_step_1 : decode cX9_step 1 = .ok (.getfield 34, 3) := by decide +kernel
theorem dX9_step_4 : decode cX9_step 4 = .ok (.iconst 0, 1) := by decide +kernel
theorem dX9_step_5 : decode cX9_step 5 = .ok (.bipush 59, 2) := by decide +kernel
theorem dX9_step_7 : decode cX9_step 7 = .ok (.invokestatic 47, 3) := by decide +kernel
theorem dX9_step_10 : decode cX9_step 10 = .ok (.ifCond .eq 33, 3) := by decide +kernel
theorem dX9_step_13 : decode cX9_step 13 = .ok (.aload_n 0, 1) := by decide +kernel
theorem dX9_step_14 : decode cX9_step 14 = .ok (.getfield 9, 3) := by decide +kernel
theorem dX9_step_17 : decode cX9_step 17 = .ok (.aload_n 0, 1) := by decide +kernel
theorem dX9_step_18 : decode cX9_step 18 = .ok (.getfield 34, 3) := by decide +kernel
theorem dX9_step_21 : decode cX9_step 21 = .ok (.iload_n 1, 1) := by decide +kernel
theorem dX9_step_22 : decode cX9_step 22 = .ok (.iastore, 1) := by decide +kernel
theorem dX9_step_23 : decode cX9_step 23 = .ok (.aload_n 0, 1) := by decide +kernel
theorem dX9_step_24 : decode cX9_step 24 = .ok (.dup, 1) := by decide +kernel
theorem dX9_step_25 : decode cX9_step 25 = .ok (.getfield 34, 3) := by decide +kernel
theorem dX9_step_28 : decode cX9_step 28 = .ok (.iconst 1, 1) := by decide +kernel
theorem dX9_step_29 : decode cX9_step 29 = .ok (.iadd, 1) := by decide +kernel
theorem dX9_step_30 : decode cX9_step 30 = .ok (.putfield 34, 3) := by decide +kernel
theorem dX9_step_33 : decode cX9_step 33 = .ok (.aload_n 0, 1) := by decide +kernel
theorem dX9_step_34 : decode cX9_step 34 = .ok (.dup, 1) := by decide +kernel
theorem dX9_step_35 : decode cX9_step 35 = .ok (.getfield 38, 3) := by decide +kernel
theorem dX9_step_38 : decode cX9_step 38 = .ok (.iconst 1, 1) := by decide +kernel
theorem dX9_step_39 : decode cX9_step 39 = .ok (.iadd, 1) := by decide +kernel
theorem dX9_step_40 : decode cX9_step 40 = .ok (.putfield 38, 3) := by decide +kernel
theorem dX9_step_43 : decode cX9_step 43 = .ok (.return_, 1) := by decide +kernel
theorem mv_X9_step : MV yX9_step RX9 cX9_step 2 none 1 := ⟨tb_749, tb_747, tb_748, tb_3, by decide +kernel, by decide +kernel, by decide +kernel⟩
def f_X9_step (fu : Nat) (w_deed : Nat → Int32) (w_rows : Int32) (w_steps : Int32) (x1 : Int32) : Option ((Nat → Int32) × Int32 × Int32) := (f_X11_within fu w_rows 0 59).bind fun z_6 => (if z_6 = 0 then some (w_deed, w_rows, w_steps) else (wrI w_deed 60 w_rows x1).bind fun w_deed_8 => bnd (w_rows + 1) fun w_rows_9 => bnd (w_steps + 1) fun w_steps_10 => some (w_deed_8, w_rows_9, w_steps_10))
abbrev rm_X9_step : Room := { frames := 1, cells := 0, slots := 0, locals := 22 }
set_option maxHeartbeats 4000000 in
set_option maxRecDepth 100000 in
theorem c_X9_step (l : Launch) (D : va_G) (cy : Nat → ClassId) (fu : Nat) (A_w : Nat → Nat) (w_deed : Nat → Int32) (w_man : Nat → Int32) (w_other : Nat → Int32) (w_sign : Nat → Int32) (w_number : Nat → Int32) (w_mate : Nat → Int32) (w_there : Int32) (w_rows : Int32) (w_steps : Int32) (x1 : Int32) (res : (Nat → Int32) × Int32 × Int32) (h : f_X9_step fu w_deed w_rows w_steps x1 = some res) (A : Nat → Prop) (hA : A = adr [bl_X9 cy A_w w_deed w_man w_other w_sign w_number w_mate w_there w_rows w_steps]) (W1 : List va_W) (hW1 : W1 = [bl_X9 cy A_w res.1 w_man w_other w_sign w_number w_mate w_there res.2.1 res.2.2]) : Met l yX9_step (WW yX9_step cX9_step 2 none) rm_X9_step (Ed D cy [.ref (A_w 0), .int x1] [bl_X9 cy A_w w_deed w_man w_other w_sign w_number w_mate w_there w_rows w_steps]) (Qev D A W1) 0 0 A := by
  refine Met.ofW (cc := cX9_step) (maxL := 2) (ret := none) (by decide) rfl ?_
  intro p e s m args below meth c s₁ B hml hv
  obtain ⟨hargs, hP, hX, hD0⟩ := hv
  have hx := B.exec
  have hb := B.bytes
  have hr := B.returns
  have ht : ∀ w ∈ lw_gd, w.before args s = true := fun w hw => atoms_spec (ws := WW yX9_step cX9_step 2 none) B.pre w (List.mem_cons_of_mem _ hw)
  have hown : s.vm.findClass RX9 = some m.cls := findClass_of_methodNamed B.named
  have hlocks := B.notSynchronized
  have hP : PD D A [bl_X9 cy A_w w_deed w_man w_other w_sign w_number w_mate w_there w_rows w_steps] s.heap := ⟨hP, by rw [hA]; exact hD0.own⟩
  have hS : va_S A s.heap s.heap [] := va_S.rf
  obtain ⟨ls, hl, hent⟩ := ent (m := m) (n := 2) hargs (Nat.le_of_ble_eq_true rfl) (lv := [(0, .ref (A_w 0)), (1, .int x1)]) rfl
  rw [hent]
  clear hent
  unfold f_X9_step at h
  refine lv_aload_n hx hb dX9_step_0 rfl (lv_at hl 0 rfl) ?_
  refine xget (i := 0) (j := 0) (k := 7) (T := TX9) hx hb ht tb_iX9 hown hX hP.1 rfl rfl rfl (by decide) tb_131 rfl dX9_step_1 ?_
  refine lv_iconst (v := 0) hx hb dX9_step_4 (by decide) ?_
  refine lv_bipush (v := 59) hx hb dX9_step_5 (by decide) ?_
  obtain ⟨z_6, e_z_6, h⟩ := bi h
  refine roNi (rest := []) ⟨hx, hb, hml, hown, ht⟩ (c_X11_within l D cy fu  w_rows 0 59 z_6 e_z_6) (cN ht hX ms_X11_within (List.mem_of_getElem? (i := 9) rfl) rfl rfl ⟨Nat.le_of_ble_eq_true rfl, Nat.le_of_ble_eq_true rfl⟩) (P_sub hP.1 [] rfl) hX rfl hl.1 rfl (Nat.le_of_ble_eq_true rfl) dX9_step_7 ⟨Nat.le_of_ble_eq_true rfl, Nat.le_of_ble_eq_true rfl⟩ ?_
  refine lv_if_eq (tgt := 43) hx hb dX9_step_10 (by decide) (fun c_7 => ?_) (fun c_7 => ?_)
  · have h := it c_7 h
    cases h
    subst hW1
    exact W.vret hx hb hr (fun _ ht9 _ => ⟨⟨(), rfl, trivial, hPt ht9 hP.1⟩, hS.F ht9⟩) hS.2.2 dX9_step_43
  · have h := ie c_7 h
    refine lv_aload_n hx hb dX9_step_13 rfl (lv_at hl 0 rfl) ?_
    refine xget (i := 0) (j := 0) (k := 0) (T := TX9) hx hb ht tb_iX9 hown hX hP.1 rfl rfl rfl (by decide) tb_112 rfl dX9_step_14 ?_
    refine lv_aload_n hx hb dX9_step_17 rfl (lv_at hl 0 rfl) ?_
    refine xget (i := 0) (j := 0) (k := 7) (T := TX9) hx hb ht tb_iX9 hown hX hP.1 rfl rfl rfl (by decide) tb_131 rfl dX9_step_18 ?_
    refine lv_iload_n hx hb dX9_step_21 rfl (lv_at hl 1 rfl) ?_
    obtain ⟨w_deed_8, e_w_deed_8, h⟩ := bi h
    refine xiast (i0 := 0) (j0 := 1) hx hb hX hP hS rfl rfl e_w_deed_8 dX9_step_22 (fun H locs hP hS => ?_)
    have hP : PD D A [bl_X9 cy A_w w_deed_8 w_man w_other w_sign w_number w_mate w_there w_rows w_steps] H := hP
    refine lv_aload_n hx hb dX9_step_23 rfl (lv_at hl 0 rfl) ?_
    refine lv_dup hx hb dX9_step_24 rfl ?_
    refine xget (i := 0) (j := 0) (k := 7) (T := TX9) hx hb ht tb_iX9 hown hX hP.1 rfl rfl rfl (by decide) tb_131 rfl dX9_step_25 ?_
    refine lv_iconst (v := 1) hx hb dX9_step_28 (by decide) ?_
    refine lv_iadd hx hb dX9_step_29 ?_
    refine lv_topi (fun w_rows_9 e_w_rows_9 => ?_)
    have h := bn e_w_rows_9 h
    refine xput (i := 0) (j := 0) (k := 7) (T := TX9) tyX9 tyX9_ok nmX9 hx hb ht tb_iX9 hown hX hP hS rfl rfl rfl (by decide) tb_131 rfl rfl rfl (Nat.le_of_ble_eq_true rfl) dX9_step_30 (fun H locs hP hS => ?_)
    have hP : PD D A [bl_X9 cy A_w w_deed_8 w_man w_other w_sign w_number w_mate w_there w_rows_9 w_steps] H := hP
    refine lv_aload_n hx hb dX9_step_33 rfl (lv_at hl 0 rfl) ?_
    refine lv_dup hx hb dX9_step_34 rfl ?_
    refine xget (i := 0) (j := 0) (k := 8) (T := TX9) hx hb ht tb_iX9 hown hX hP.1 rfl rfl rfl (by decide) tb_134 rfl dX9_step_35 ?_
    refine lv_iconst (v := 1) hx hb dX9_step_38 (by decide) ?_
    refine lv_iadd hx hb dX9_step_39 ?_
    refine lv_topi (fun w_steps_10 e_w_steps_10 => ?_)
    have h := bn e_w_steps_10 h
    refine xput (i := 0) (j := 0) (k := 8) (T := TX9) tyX9 tyX9_ok nmX9 hx hb ht tb_iX9 hown hX hP hS rfl rfl rfl (by decide) tb_134 rfl rfl rfl (Nat.le_of_ble_eq_true rfl) dX9_step_40 (fun H locs hP hS => ?_)
    have hP : PD D A [bl_X9 cy A_w w_deed_8 w_man w_other w_sign w_number w_mate w_there w_rows_9 w_steps_10] H := hP
    cases h
    subst hW1
    exact W.vret hx hb hr (fun _ ht9 _ => ⟨⟨(), rfl, trivial, hPt ht9 hP.1⟩, hS.F ht9⟩) hS.2.2 dX9_step_43
theorem dX9_close_0 : decode cX9_close 0 = .ok (.aload_n 0, 1) := by decide +kernel
theorem dX9_close_1 : decode cX9_close 1 = .ok (.getfield 34, 3) := by decide +kernel
theorem dX9_close_4 : decode cX9_close 4 = .ok (.iconst 0, 1) := by decide +kernel
theorem dX9_close_5 : decode cX9_close 5 = .ok (.bipush 59, 2) := by decide +kernel
theorem dX9_close_7 : decode cX9_close 7 = .ok (.invokestatic 47, 3) := by decide +kernel
theorem dX9_close_10 : decode cX9_close 10 = .ok (.ifCond .eq 54, 3) := by decide +kernel
theorem dX9_close_13 : decode cX9_close 13 = .ok (.iload_n 1, 1) := by decide +kernel
theorem dX9_close_14 : decode cX9_close 14 = .ok (.iconst 0, 1) := by decide +kernel
theorem dX9_close_15 : decode cX9_close 15 = .ok (.bipush 59, 2) := by decide +kernel
theorem dX9_close_17 : decode cX9_close 17 = .ok (.invokestatic 47, 3) := by decide +kernel
theorem dX9_close_20 : decode cX9_close 20 = .ok (.ifCond .eq 44, 3) := by decide +kernel
theorem dX9_close_23 : decode cX9_close 23 = .ok (.aload_n 0, 1) := by decide +kernel
theorem dX9_close_24 : decode cX9_close 24 = .ok (.getfield 9, 3) := by decide +kernel
theorem dX9_close_27 : decode cX9_close 27 = .ok (.aload_n 0, 1) := by decide +kernel
theorem dX9_close_28 : decode cX9_close 28 = .ok (.getfield 34, 3) := by decide +kernel
theorem dX9_close_31 : decode cX9_close 31 = .ok (.bipush 17, 2) := by decide +kernel
theorem dX9_close_33 : decode cX9_close 33 = .ok (.iastore, 1) := by decide +kernel
theorem dX9_close_34 : decode cX9_close 34 = .ok (.aload_n 0, 1) := by decide +kernel
theorem dX9_close_35 : decode cX9_close 35 = .ok (.getfield 27, 3) := by decide +kernel
theorem dX9_close_38 : decode cX9_close 38 = .ok (.aload_n 0, 1) := by decide +kernel
theorem dX9_close_39 : decode cX9_close 39 = .ok (.getfield 34, 3) := by decide +kernel
theorem dX9_close_42 : decode cX9_close 42 = .ok (.iload_n 1, 1) := by decide +kernel
theorem dX9_close_43 : decode cX9_close 43 = .ok (.iastore, 1) := by decide +kernel
theorem dX9_close_44 : decode cX9_close 44 = .ok (.aload_n 0, 1) := by decide +kernel
theorem dX9_close_45 : decode cX9_close 45 = .ok (.getfield 27, 3) := by decide +kernel
theorem dX9_close_48 : decode cX9_close 48 = .ok (.iload_n 1, 1) := by decide +kernel
theorem dX9_close_49 : decode cX9_close 49 = .ok (.aload_n 0, 1) := by decide +kernel
theorem dX9_close_50 : decode cX9_close 50 = .ok (.getfield 34, 3) := by decide +kernel
theorem dX9_close_53 : decode cX9_close 53 = .ok (.iastore, 1) := by decide +kernel
theorem dX9_close_54 : decode cX9_close 54 = .ok (.aload_n 0, 1) := by decide +kernel
theorem dX9_close_55 : decode cX9_close 55 = .ok (.dup, 1) := by decide +kernel
theorem dX9_close_56 : decode cX9_close 56 = .ok (.getfield 34, 3) := by decide +kernel
theorem dX9_close_59 : decode cX9_close 59 = .ok (.iconst 1, 1) := by decide +kernel
theorem dX9_close_60 : decode cX9_close 60 = .ok (.iadd, 1) := by decide +kernel
theorem dX9_close_61 : decode cX9_close 61 = .ok (.putfield 34, 3) := by decide +kernel
theorem dX9_close_64 : decode cX9_close 64 = .ok (.return_, 1) := by decide +kernel
theorem mv_X9_close : MV yX9_close RX9 cX9_close 2 none 1 := ⟨tb_722, tb_720, tb_721, tb_3, by decide +kernel, by decide +kernel, by decide +kernel⟩
def f_X9_close (fu : Nat) (w_deed : Nat → Int32) (w_mate : Nat → Int32) (w_rows : Int32) (x1 : Int32) : Option ((Nat → Int32) × (Nat → Int32) × Int32) := (f_X11_within fu w_rows 0 59).bind fun z_9 => (if z_9 = 0 then some (w_deed, w_mate, w_rows) else (f_X11_within fu x1 0 59).bind fun z_11 => (if z_11 = 0 then some (w_deed, w_mate, w_rows) else (wrI w_deed 60 w_rows 17).bind fun w_deed_13 => (wrI w_mate 60 w_rows x1).bind fun w_mate_14 => (wrI w_mate_14 60 x1 w_rows).bind fun w_mate_15 => bnd (w_rows + 1) fun w_rows_16 => some (w_deed_13, w_mate_15, w_rows_16)))
abbrev rm_X9_close : Room := { frames := 1, cells := 0, slots := 0, locals := 22 }
set_option maxHeartbeats 4000000 in
set_option maxRecDepth 100000 in
theorem c_X9_close (l : Launch) (D : va_G) (cy : Nat → ClassId) (fu : Nat) (A_w : Nat → Nat) (w_deed : Nat → Int32) (w_man : Nat → Int32) (w_other : Nat → Int32) (w_sign : Nat → Int32) (w_number : Nat → Int32) (w_mate : Nat → Int32) (w_there : Int32) (w_rows : Int32) (w_steps : Int32) (x1 : Int32) (res : (Nat → Int32) × (Nat → Int32) × Int32) (h : f_X9_close fu w_deed w_mate w_rows x1 = some res) (A : Nat → Prop) (hA : A = adr [bl_X9 cy A_w w_deed w_man w_other w_sign w_number w_mate w_there w_rows w_steps]) (W1 : List va_W) (hW1 : W1 = [bl_X9 cy A_w res.1 w_man w_other w_sign w_number res.2.1 w_there res.2.2 w_steps]) : Met l yX9_close (WW yX9_close cX9_close 2 none) rm_X9_close (Ed D cy [.ref (A_w 0), .int x1] [bl_X9 cy A_w w_deed w_man w_other w_sign w_number w_mate w_there w_rows w_steps]) (Qev D A W1) 0 0 A := by
  refine Met.ofW (cc := cX9_close) (maxL := 2) (ret := none) (by decide) rfl ?_
  intro p e s m args below meth c s₁ B hml hv
  obtain ⟨hargs, hP, hX, hD0⟩ := hv
  have hx := B.exec
  have hb := B.bytes
  have hr := B.returns
  have ht : ∀ w ∈ lw_gd, w.before args s = true := fun w hw => atoms_spec (ws := WW yX9_close cX9_close 2 none) B.pre w (List.mem_cons_of_mem _ hw)
  have hown : s.vm.findClass RX9 = some m.cls := findClass_of_methodNamed B.named
  have hlocks := B.notSynchronized
  have hP : PD D A [bl_X9 cy A_w w_deed w_man w_other w_sign w_number w_mate w_there w_rows w_steps] s.heap := ⟨hP, by rw [hA]; exact hD0.own⟩
  have hS : va_S A s.heap s.heap [] := va_S.rf
  obtain ⟨ls, hl, hent⟩ := ent (m := m) (n := 2) hargs (Nat.le_of_ble_eq_true rfl) (lv := [(0, .ref (A_w 0)), (1, .int x1)]) rfl
  rw [hent]
  clear hent
  unfold f_X9_close at h
  refine lv_aload_n hx hb dX9_close_0 rfl (lv_at hl 0 rfl) ?_
  refine xget (i := 0) (j := 0) (k := 7) (T := TX9) hx hb ht tb_iX9 hown hX hP.1 rfl rfl rfl (by decide) tb_131 rfl dX9_close_1 ?_
  refine lv_iconst (v := 0) hx hb dX9_close_4 (by decide) ?_
  refine lv_bipush (v := 59) hx hb dX9_close_5 (by decide) ?_
  obtain ⟨z_9, e_z_9, h⟩ := bi h
  refine roNi (rest := []) ⟨hx, hb, hml, hown, ht⟩ (c_X11_within l D cy fu  w_rows 0 59 z_9 e_z_9) (cN ht hX ms_X11_within (List.mem_of_getElem? (i := 9) rfl) rfl rfl ⟨Nat.le_of_ble_eq_true rfl, Nat.le_of_ble_eq_true rfl⟩) (P_sub hP.1 [] rfl) hX rfl hl.1 rfl (Nat.le_of_ble_eq_true rfl) dX9_close_7 ⟨Nat.le_of_ble_eq_true rfl, Nat.le_of_ble_eq_true rfl⟩ ?_
  refine lv_if_eq (tgt := 64) hx hb dX9_close_10 (by decide) (fun c_10 => ?_) (fun c_10 => ?_)
  · have h := it c_10 h
    cases h
    subst hW1
    exact W.vret hx hb hr (fun _ ht9 _ => ⟨⟨(), rfl, trivial, hPt ht9 hP.1⟩, hS.F ht9⟩) hS.2.2 dX9_close_64
  · have h := ie c_10 h
    refine lv_iload_n hx hb dX9_close_13 rfl (lv_at hl 1 rfl) ?_
    refine lv_iconst (v := 0) hx hb dX9_close_14 (by decide) ?_
    refine lv_bipush (v := 59) hx hb dX9_close_15 (by decide) ?_
    obtain ⟨z_11, e_z_11, h⟩ := bi h
    refine roNi (rest := []) ⟨hx, hb, hml, hown, ht⟩ (c_X11_within l D cy fu  x1 0 59 z_11 e_z_11) (cN ht hX ms_X11_within (List.mem_of_getElem? (i := 9) rfl) rfl rfl ⟨Nat.le_of_ble_eq_true rfl, Nat.le_of_ble_eq_true rfl⟩) (P_sub hP.1 [] rfl) hX rfl hl.1 rfl (Nat.le_of_ble_eq_true rfl) dX9_close_17 ⟨Nat.le_of_ble_eq_true rfl, Nat.le_of_ble_eq_true rfl⟩ ?_
    refine lv_if_eq (tgt := 64) hx hb dX9_close_20 (by decide) (fun c_12 => ?_) (fun c_12 => ?_)
    · have h := it c_12 h
      cases h
      subst hW1
      exact W.vret hx hb hr (fun _ ht9 _ => ⟨⟨(), rfl, trivial, hPt ht9 hP.1⟩, hS.F ht9⟩) hS.2.2 dX9_close_64
    · have h := ie c_12 h
      refine lv_aload_n hx hb dX9_close_23 rfl (lv_at hl 0 rfl) ?_
      refine xget (i := 0) (j := 0) (k := 0) (T := TX9) hx hb ht tb_iX9 hown hX hP.1 rfl rfl rfl (by decide) tb_112 rfl dX9_close_24 ?_
      refine lv_aload_n hx hb dX9_close_27 rfl (lv_at hl 0 rfl) ?_
      refine xget (i := 0) (j := 0) (k := 7) (T := TX9) hx hb ht tb_iX9 hown hX hP.1 rfl rfl rfl (by decide) tb_131 rfl dX9_close_28 ?_
      refine lv_bipush (v := 17) hx hb dX9_close_31 (by decide) ?_
      obtain ⟨w_deed_13, e_w_deed_13, h⟩ := bi h
      refine xiast (i0 := 0) (j0 := 1) hx hb hX hP hS rfl rfl e_w_deed_13 dX9_close_33 (fun H locs hP hS => ?_)
      have hP : PD D A [bl_X9 cy A_w w_deed_13 w_man w_other w_sign w_number w_mate w_there w_rows w_steps] H := hP
      refine lv_aload_n hx hb dX9_close_34 rfl (lv_at hl 0 rfl) ?_
      refine xget (i := 0) (j := 0) (k := 5) (T := TX9) hx hb ht tb_iX9 hown hX hP.1 rfl rfl rfl (by decide) tb_126 rfl dX9_close_35 ?_
      refine lv_aload_n hx hb dX9_close_38 rfl (lv_at hl 0 rfl) ?_
      refine xget (i := 0) (j := 0) (k := 7) (T := TX9) hx hb ht tb_iX9 hown hX hP.1 rfl rfl rfl (by decide) tb_131 rfl dX9_close_39 ?_
      refine lv_iload_n hx hb dX9_close_42 rfl (lv_at hl 1 rfl) ?_
      obtain ⟨w_mate_14, e_w_mate_14, h⟩ := bi h
      refine xiast (i0 := 0) (j0 := 6) hx hb hX hP hS rfl rfl e_w_mate_14 dX9_close_43 (fun H locs hP hS => ?_)
      have hP : PD D A [bl_X9 cy A_w w_deed_13 w_man w_other w_sign w_number w_mate_14 w_there w_rows w_steps] H := hP
      refine lv_aload_n hx hb dX9_close_44 rfl (lv_at hl 0 rfl) ?_
      refine xget (i := 0) (j := 0) (k := 5) (T := TX9) hx hb ht tb_iX9 hown hX hP.1 rfl rfl rfl (by decide) tb_126 rfl dX9_close_45 ?_
      refine lv_iload_n hx hb dX9_close_48 rfl (lv_at hl 1 rfl) ?_
      refine lv_aload_n hx hb dX9_close_49 rfl (lv_at hl 0 rfl) ?_
      refine xget (i := 0) (j := 0) (k := 7) (T := TX9) hx hb ht tb_iX9 hown hX hP.1 rfl rfl rfl (by decide) tb_131 rfl dX9_close_50 ?_
      obtain ⟨w_mate_15, e_w_mate_15, h⟩ := bi h
      refine xiast (i0 := 0) (j0 := 6) hx hb hX hP hS rfl rfl e_w_mate_15 dX9_close_53 (fun H locs hP hS => ?_)
      have hP : PD D A [bl_X9 cy A_w w_deed_13 w_man w_other w_sign w_number w_mate_15 w_there w_rows w_steps] H := hP
      refine lv_aload_n hx hb dX9_close_54 rfl (lv_at hl 0 rfl) ?_
      refine lv_dup hx hb dX9_close_55 rfl ?_
      refine xget (i := 0) (j := 0) (k := 7) (T := TX9) hx hb ht tb_iX9 hown hX hP.1 rfl rfl rfl (by decide) tb_131 rfl dX9_close_56 ?_
      refine lv_iconst (v := 1) hx hb dX9_close_59 (by decide) ?_
      refine lv_iadd hx hb dX9_close_60 ?_
      refine lv_topi (fun w_rows_16 e_w_rows_16 => ?_)
      have h := bn e_w_rows_16 h
      refine xput (i := 0) (j := 0) (k := 7) (T := TX9) tyX9 tyX9_ok nmX9 hx hb ht tb_iX9 hown hX hP hS rfl rfl rfl (by decide) tb_131 rfl rfl rfl (Nat.le_of_ble_eq_true rfl) dX9_close_61 (fun H locs hP hS => ?_)
      have hP : PD D A [bl_X9 cy A_w w_deed_13 w_man w_other w_sign w_number w_mate_15 w_there w_rows_16 w_steps] H := hP
      cases h
      subst hW1
      exact W.vret hx hb hr (fun _ ht9 _ => ⟨⟨(), rfl, trivial, hPt ht9 hP.1⟩, hS.F ht9⟩) hS.2.2 dX9_close_64

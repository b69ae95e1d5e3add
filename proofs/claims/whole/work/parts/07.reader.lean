theorem dX6_begin_0 : decode cX6_begin 0 = .ok (.aload_n 0, 1) := by decide +kernel
theorem dX6_begin_1 : decode cX6_begin 1 = .ok (.iconst 0, 1) := by decide +kernel
theorem dX6_begin_2 : decode cX6_begin 2 = .ok (.putfield 18, 3) := by decide +kernel
theorem dX6_begin_5 : decode cX6_begin 5 = .ok (.aload_n 0, 1) := by decide +kernel
theorem dX6_begin_6 : decode cX6_begin 6 = .ok (.iconst (-1), 1) := by decide +kernel
theorem dX6_begin_7 : decode cX6_begin 7 = .ok (.putfield 22, 3) := by decide +kernel
theorem dX6_begin_10 : decode cX6_begin 10 = .ok (.aload_n 0, 1) := by decide +kernel
theorem dX6_begin_11 : decode cX6_begin 11 = .ok (.getfield 12, 3) := by decide +kernel
theorem dX6_begin_14 : decode cX6_begin 14 = .ok (.iload_n 1, 1) := by decide +kernel
theorem dX6_begin_15 : decode cX6_begin 15 = .ok (.invokevirtual 25, 3) := by decide +kernel
theorem dX6_begin_18 : decode cX6_begin 18 = .ok (.aload_n 0, 1) := by decide +kernel
theorem dX6_begin_19 : decode cX6_begin 19 = .ok (.getfield 12, 3) := by decide +kernel
theorem dX6_begin_22 : decode cX6_begin 22 = .ok (.invokevirtual 29, 3) := by decide +kernel
theorem dX6_begin_25 : decode cX6_begin 25 = .ok (.return_, 1) := by decide +kernel
theorem mv_X6_begin : MV yX6_begin RX6 cX6_begin 2 none 1 := ⟨tb_577, tb_575, tb_576, tb_4, by decide +kernel, by decide +kernel, by decide +kernel⟩
def f_X6_begin (fu : Nat) (r_fault : Int32) (r_place : Int32) (t_bytes : Nat → Int32) (t_wordCodes : Nat → Int64) (t_kind : Int32) (t_start : Int32) (t_value : Int32) (t_word : Int32) (t_name : Int64) (t_end : Int32) (t_at : Int32) (x1 : Int32) : Option (Int32 × Int32 × Int32 × Int32 × Int32 × Int32 × Int64 × Int32 × Int32) := (f_X7_rewind fu t_end t_at x1).bind fun z_3 => (f_X7_next fu t_bytes t_wordCodes t_kind t_start t_value t_word t_name z_3.1 z_3.2).bind fun z_4 => some (0, (-1), z_4.1, z_4.2.1, z_4.2.2.1, z_4.2.2.2.1, z_4.2.2.2.2.1, z_3.1, z_4.2.2.2.2.2)
abbrev rm_X6_begin : Room := { frames := 2, cells := 0, slots := 0, locals := 61 }
set_option maxHeartbeats 4000000 in
set_option maxRecDepth 100000 in
theorem c_X6_begin (l : Launch) (D : va_G) (cy : Nat → ClassId) (fu : Nat) (A_r : Nat → Nat) (r_fault : Int32) (r_place : Int32) (A_t : Nat → Nat) (t_bytes : Nat → Int32) (t_wordCodes : Nat → Int64) (t_length : Int32) (t_kind : Int32) (t_start : Int32) (t_value : Int32) (t_word : Int32) (t_name : Int64) (t_end : Int32) (t_at : Int32) (x1 : Int32) (res : Int32 × Int32 × Int32 × Int32 × Int32 × Int32 × Int64 × Int32 × Int32) (h : f_X6_begin fu r_fault r_place t_bytes t_wordCodes t_kind t_start t_value t_word t_name t_end t_at x1 = some res) (A : Nat → Prop) (hA : A = adr [bl_X6 cy A_r (A_t 0) r_fault r_place, bl_X7 cy A_t t_bytes t_wordCodes t_length t_kind t_start t_value t_word t_name t_end t_at]) (W1 : List va_W) (hW1 : W1 = [bl_X6 cy A_r (A_t 0) res.1 res.2.1, bl_X7 cy A_t t_bytes t_wordCodes t_length res.2.2.1 res.2.2.2.1 res.2.2.2.2.1 res.2.2.2.2.2.1 res.2.2.2.2.2.2.1 res.2.2.2.2.2.2.2.1 res.2.2.2.2.2.2.2.2]) : Met l yX6_begin (WW yX6_begin cX6_begin 2 none) rm_X6_begin (Ed D cy [.ref (A_r 0), .int x1] [bl_X6 cy A_r (A_t 0) r_fault r_place, bl_X7 cy A_t t_bytes t_wordCodes t_length t_kind t_start t_value t_word t_name t_end t_at]) (Qev D A W1) 0 0 A := by
  refine Met.ofW (cc := cX6_begin) (maxL := 2) (ret := none) (by decide) rfl ?_
  intro p e s m args below meth c s₁ B hml hv
  obtain ⟨hargs, hP, hX, hD0⟩ := hv
  have hx := B.exec
  have hb := B.bytes
  have hr := B.returns
  have ht : ∀ w ∈ lw_gd, w.before args s = true := fun w hw => atoms_spec (ws := WW yX6_begin cX6_begin 2 none) B.pre w (List.mem_cons_of_mem _ hw)
  have hown : s.vm.findClass RX6 = some m.cls := findClass_of_methodNamed B.named
  have hlocks := B.notSynchronized
  have hP : PD D A [bl_X6 cy A_r (A_t 0) r_fault r_place, bl_X7 cy A_t t_bytes t_wordCodes t_length t_kind t_start t_value t_word t_name t_end t_at] s.heap := ⟨hP, by rw [hA]; exact hD0.own⟩
  have hS : va_S A s.heap s.heap [] := va_S.rf
  obtain ⟨ls, hl, hent⟩ := ent (m := m) (n := 2) hargs (Nat.le_of_ble_eq_true rfl) (lv := [(0, .ref (A_r 0)), (1, .int x1)]) rfl
  rw [hent]
  clear hent
  unfold f_X6_begin at h
  refine lv_aload_n hx hb dX6_begin_0 rfl (lv_at hl 0 rfl) ?_
  refine lv_iconst (v := 0) hx hb dX6_begin_1 (by decide) ?_
  refine xput (i := 0) (j := 0) (k := 1) (T := TX6) tyX6 tyX6_ok nmX6 hx hb ht tb_iX6 hown hX hP hS rfl rfl rfl (by decide) tb_264 rfl rfl rfl (Nat.le_of_ble_eq_true rfl) dX6_begin_2 (fun H locs hP hS => ?_)
  have hP : PD D A [bl_X6 cy A_r (A_t 0) 0 r_place, bl_X7 cy A_t t_bytes t_wordCodes t_length t_kind t_start t_value t_word t_name t_end t_at] H := hP
  refine lv_aload_n hx hb dX6_begin_5 rfl (lv_at hl 0 rfl) ?_
  refine lv_iconst (v := (-1)) hx hb dX6_begin_6 (by decide) ?_
  refine xput (i := 0) (j := 0) (k := 2) (T := TX6) tyX6 tyX6_ok nmX6 hx hb ht tb_iX6 hown hX hP hS rfl rfl rfl (by decide) tb_266 rfl rfl rfl (Nat.le_of_ble_eq_true rfl) dX6_begin_7 (fun H locs hP hS => ?_)
  have hP : PD D A [bl_X6 cy A_r (A_t 0) 0 (-1), bl_X7 cy A_t t_bytes t_wordCodes t_length t_kind t_start t_value t_word t_name t_end t_at] H := hP
  refine lv_aload_n hx hb dX6_begin_10 rfl (lv_at hl 0 rfl) ?_
  refine xget (i := 0) (j := 0) (k := 0) (T := TX6) hx hb ht tb_iX6 hown hX hP.1 rfl rfl rfl (by decide) tb_260 rfl dX6_begin_11 ?_
  refine lv_iload_n hx hb dX6_begin_14 rfl (lv_at hl 1 rfl) ?_
  obtain ⟨z_3, e_z_3, h⟩ := bi h
  refine efVv (rest := []) ⟨hx, hb, hml, hown, ht⟩ (c_X7_rewind l D cy fu A_t t_bytes t_wordCodes t_length t_kind t_start t_value t_word t_name t_end t_at x1 z_3 e_z_3 _ rfl _ rfl) (cV ht mv_X7_rewind tb_578 rfl rfl ⟨Nat.le_of_ble_eq_true rfl, Nat.le_of_ble_eq_true rfl⟩) hP hS hX [1] rfl rfl rfl rfl rfl rfl hl.1 rfl (Nat.le_of_ble_eq_true rfl) dX6_begin_15 ⟨Nat.le_of_ble_eq_true rfl, Nat.le_of_ble_eq_true rfl⟩ (fun H locs hP hS => ?_)
  have hP : PD D A [bl_X6 cy A_r (A_t 0) 0 (-1), bl_X7 cy A_t t_bytes t_wordCodes t_length t_kind t_start t_value t_word t_name z_3.1 z_3.2] H := hP
  refine lv_aload_n hx hb dX6_begin_18 rfl (lv_at hl 0 rfl) ?_
  refine xget (i := 0) (j := 0) (k := 0) (T := TX6) hx hb ht tb_iX6 hown hX hP.1 rfl rfl rfl (by decide) tb_260 rfl dX6_begin_19 ?_
  obtain ⟨z_4, e_z_4, h⟩ := bi h
  refine efVv (rest := []) ⟨hx, hb, hml, hown, ht⟩ (c_X7_next l D cy fu A_t t_bytes t_wordCodes t_length t_kind t_start t_value t_word t_name z_3.1 z_3.2 z_4 e_z_4 _ rfl _ rfl) (cV ht mv_X7_next tb_588 rfl rfl ⟨Nat.le_of_ble_eq_true rfl, Nat.le_of_ble_eq_true rfl⟩) hP hS hX [1] rfl rfl rfl rfl rfl rfl hl.1 rfl (Nat.le_of_ble_eq_true rfl) dX6_begin_22 ⟨Nat.le_of_ble_eq_true rfl, Nat.le_of_ble_eq_true rfl⟩ (fun H locs hP hS => ?_)
  have hP : PD D A [bl_X6 cy A_r (A_t 0) 0 (-1), bl_X7 cy A_t t_bytes t_wordCodes t_length z_4.1 z_4.2.1 z_4.2.2.1 z_4.2.2.2.1 z_4.2.2.2.2.1 z_3.1 z_4.2.2.2.2.2] H := hP
  cases h
  subst hW1
  exact W.vret hx hb hr (fun _ ht9 _ => ⟨⟨(), rfl, trivial, hPt ht9 hP.1⟩, hS.F ht9⟩) hS.2.2 dX6_begin_25
theorem dX6_fail_0 : decode cX6_fail 0 = .ok (.aload_n 0, 1) := by decide +kernel
theorem dX6_fail_1 : decode cX6_fail 1 = .ok (.aload_n 0, 1) := by decide +kernel
theorem dX6_fail_2 : decode cX6_fail 2 = .ok (.getfield 12, 3) := by decide +kernel
theorem dX6_fail_5 : decode cX6_fail 5 = .ok (.getfield 32, 3) := by decide +kernel
theorem dX6_fail_8 : decode cX6_fail 8 = .ok (.iconst 1, 1) := by decide +kernel
theorem dX6_fail_9 : decode cX6_fail 9 = .ok (.if_icmp .ne 7, 3) := by decide +kernel
theorem dX6_fail_12 : decode cX6_fail 12 = .ok (.iconst 1, 1) := by decide +kernel
theorem dX6_fail_13 : decode cX6_fail 13 = .ok (.goto 4, 3) := by decide +kernel
theorem dX6_fail_16 : decode cX6_fail 16 = .ok (.iload_n 1, 1) := by decide +kernel
theorem dX6_fail_17 : decode cX6_fail 17 = .ok (.putfield 18, 3) := by decide +kernel
theorem dX6_fail_20 : decode cX6_fail 20 = .ok (.aload_n 0, 1) := by decide +kernel
theorem dX6_fail_21 : decode cX6_fail 21 = .ok (.aload_n 0, 1) := by decide +kernel
theorem dX6_fail_22 : decode cX6_fail 22 = .ok (.getfield 12, 3) := by decide +kernel
theorem dX6_fail_25 : decode cX6_fail 25 = .ok (.getfield 35, 3) := by decide +kernel
theorem dX6_fail_28 : decode cX6_fail 28 = .ok (.putfield 22, 3) := by decide +kernel
theorem dX6_fail_31 : decode cX6_fail 31 = .ok (.iconst 0, 1) := by decide +kernel
theorem dX6_fail_32 : decode cX6_fail 32 = .ok (.ireturn, 1) := by decide +kernel
theorem mv_X6_fail : MV yX6_fail RX6 cX6_fail 2 (some .boolean) 1 := ⟨tb_629, tb_627, tb_628, tb_4, by decide +kernel, by decide +kernel, by decide +kernel⟩
def f_X6_fail (fu : Nat) (r_fault : Int32) (r_place : Int32) (t_kind : Int32) (t_start : Int32) (x1 : Int32) : Option (Int32 × Int32 × Int32) := (if t_kind = 1 then some (0, 1, t_start) else some (0, x1, t_start))
abbrev rm_X6_fail : Room := { frames := 0, cells := 0, slots := 0, locals := 0 }
set_option maxHeartbeats 4000000 in
set_option maxRecDepth 100000 in
theorem c_X6_fail (l : Launch) (D : va_G) (cy : Nat → ClassId) (fu : Nat) (A_r : Nat → Nat) (r_fault : Int32) (r_place : Int32) (A_t : Nat → Nat) (t_bytes : Nat → Int32) (t_wordCodes : Nat → Int64) (t_length : Int32) (t_kind : Int32) (t_start : Int32) (t_value : Int32) (t_word : Int32) (t_name : Int64) (t_end : Int32) (t_at : Int32) (x1 : Int32) (res : Int32 × Int32 × Int32) (h : f_X6_fail fu r_fault r_place t_kind t_start x1 = some res) (A : Nat → Prop) (hA : A = adr [bl_X6 cy A_r (A_t 0) r_fault r_place, bl_X7 cy A_t t_bytes t_wordCodes t_length t_kind t_start t_value t_word t_name t_end t_at]) (W1 : List va_W) (hW1 : W1 = [bl_X6 cy A_r (A_t 0) res.2.1 res.2.2, bl_X7 cy A_t t_bytes t_wordCodes t_length t_kind t_start t_value t_word t_name t_end t_at]) : Met l yX6_fail (WW yX6_fail cX6_fail 2 (some .boolean)) rm_X6_fail (Ed D cy [.ref (A_r 0), .int x1] [bl_X6 cy A_r (A_t 0) r_fault r_place, bl_X7 cy A_t t_bytes t_wordCodes t_length t_kind t_start t_value t_word t_name t_end t_at]) (Qei D res.1 A W1) 0 0 A := by
  refine Met.ofW (cc := cX6_fail) (maxL := 2) (ret := (some .boolean)) (by decide) rfl ?_
  intro p e s m args below meth c s₁ B hml hv
  obtain ⟨hargs, hP, hX, hD0⟩ := hv
  have hx := B.exec
  have hb := B.bytes
  have hr := B.returns
  have ht : ∀ w ∈ lw_gd, w.before args s = true := fun w hw => atoms_spec (ws := WW yX6_fail cX6_fail 2 (some .boolean)) B.pre w (List.mem_cons_of_mem _ hw)
  have hown : s.vm.findClass RX6 = some m.cls := findClass_of_methodNamed B.named
  have hlocks := B.notSynchronized
  have hP : PD D A [bl_X6 cy A_r (A_t 0) r_fault r_place, bl_X7 cy A_t t_bytes t_wordCodes t_length t_kind t_start t_value t_word t_name t_end t_at] s.heap := ⟨hP, by rw [hA]; exact hD0.own⟩
  have hS : va_S A s.heap s.heap [] := va_S.rf
  obtain ⟨ls, hl, hent⟩ := ent (m := m) (n := 2) hargs (Nat.le_of_ble_eq_true rfl) (lv := [(0, .ref (A_r 0)), (1, .int x1)]) rfl
  rw [hent]
  clear hent
  unfold f_X6_fail at h
  refine lv_aload_n hx hb dX6_fail_0 rfl (lv_at hl 0 rfl) ?_
  refine lv_aload_n hx hb dX6_fail_1 rfl (lv_at hl 0 rfl) ?_
  refine xget (i := 0) (j := 0) (k := 0) (T := TX6) hx hb ht tb_iX6 hown hX hP.1 rfl rfl rfl (by decide) tb_260 rfl dX6_fail_2 ?_
  refine xget (i := 1) (j := 0) (k := 3) (T := TX7) hx hb ht tb_iX7 hown hX hP.1 rfl rfl rfl (by decide) tb_223 rfl dX6_fail_5 ?_
  refine lv_iconst (v := 1) hx hb dX6_fail_8 (by decide) ?_
  refine lv_icmp_ne (tgt := 16) hx hb dX6_fail_9 (by decide) (fun c_2 => ?_) (fun c_2 => ?_)
  · have h := ie c_2 h
    refine lv_iload_n hx hb dX6_fail_16 rfl (lv_at hl 1 rfl) ?_
    refine xput (i := 0) (j := 0) (k := 1) (T := TX6) tyX6 tyX6_ok nmX6 hx hb ht tb_iX6 hown hX hP hS rfl rfl rfl (by decide) tb_264 rfl rfl rfl (Nat.le_of_ble_eq_true rfl) dX6_fail_17 (fun H locs hP hS => ?_)
    have hP : PD D A [bl_X6 cy A_r (A_t 0) x1 r_place, bl_X7 cy A_t t_bytes t_wordCodes t_length t_kind t_start t_value t_word t_name t_end t_at] H := hP
    refine lv_aload_n hx hb dX6_fail_20 rfl (lv_at hl 0 rfl) ?_
    refine lv_aload_n hx hb dX6_fail_21 rfl (lv_at hl 0 rfl) ?_
    refine xget (i := 0) (j := 0) (k := 0) (T := TX6) hx hb ht tb_iX6 hown hX hP.1 rfl rfl rfl (by decide) tb_260 rfl dX6_fail_22 ?_
    refine xget (i := 1) (j := 0) (k := 4) (T := TX7) hx hb ht tb_iX7 hown hX hP.1 rfl rfl rfl (by decide) tb_225 rfl dX6_fail_25 ?_
    refine xput (i := 0) (j := 0) (k := 2) (T := TX6) tyX6 tyX6_ok nmX6 hx hb ht tb_iX6 hown hX hP hS rfl rfl rfl (by decide) tb_266 rfl rfl rfl (Nat.le_of_ble_eq_true rfl) dX6_fail_28 (fun H locs hP hS => ?_)
    have hP : PD D A [bl_X6 cy A_r (A_t 0) x1 t_start, bl_X7 cy A_t t_bytes t_wordCodes t_length t_kind t_start t_value t_word t_name t_end t_at] H := hP
    refine lv_iconst (v := 0) hx hb dX6_fail_31 (by decide) ?_
    cases h
    subst hW1
    exact W.zret hx hb hr rfl (fun _ ht9 _ => ⟨⟨_, (), rfl, rfl, hPt ht9 hP.1⟩, hS.F ht9⟩) hS.2.2 dX6_fail_32
  · have h := it c_2 h
    refine lv_iconst (v := 1) hx hb dX6_fail_12 (by decide) ?_
    refine lv_goto (tgt := 17) hx hb dX6_fail_13 (by decide) ?_
    refine xput (i := 0) (j := 0) (k := 1) (T := TX6) tyX6 tyX6_ok nmX6 hx hb ht tb_iX6 hown hX hP hS rfl rfl rfl (by decide) tb_264 rfl rfl rfl (Nat.le_of_ble_eq_true rfl) dX6_fail_17 (fun H locs hP hS => ?_)
    have hP : PD D A [bl_X6 cy A_r (A_t 0) 1 r_place, bl_X7 cy A_t t_bytes t_wordCodes t_length t_kind t_start t_value t_word t_name t_end t_at] H := hP
    refine lv_aload_n hx hb dX6_fail_20 rfl (lv_at hl 0 rfl) ?_
    refine lv_aload_n hx hb dX6_fail_21 rfl (lv_at hl 0 rfl) ?_
    refine xget (i := 0) (j := 0) (k := 0) (T := TX6) hx hb ht tb_iX6 hown hX hP.1 rfl rfl rfl (by decide) tb_260 rfl dX6_fail_22 ?_
    refine xget (i := 1) (j := 0) (k := 4) (T := TX7) hx hb ht tb_iX7 hown hX hP.1 rfl rfl rfl (by decide) tb_225 rfl dX6_fail_25 ?_
    refine xput (i := 0) (j := 0) (k := 2) (T := TX6) tyX6 tyX6_ok nmX6 hx hb ht tb_iX6 hown hX hP hS rfl rfl rfl (by decide) tb_266 rfl rfl rfl (Nat.le_of_ble_eq_true rfl) dX6_fail_28 (fun H locs hP hS => ?_)
    have hP : PD D A [bl_X6 cy A_r (A_t 0) 1 t_start, bl_X7 cy A_t t_bytes t_wordCodes t_length t_kind t_start t_value t_word t_name t_end t_at] H := hP
    refine lv_iconst (v := 0) hx hb dX6_fail_31 (by decide) ?_
    cases h
    subst hW1
    exact W.zret hx hb hr rfl (fun _ ht9 _ => ⟨⟨_, (), rfl, rfl, hPt ht9 hP.1⟩, hS.F ht9⟩) hS.2.2 dX6_fail_32
theorem dX6_atEnd_0 : decode cX6_atEnd 0 = .ok (.aload_n 0, 1) := by decide +kernel
theorem dX6_atEnd_1 : decode cX6_atEnd 1 = .ok (.getfield 12, 3) := by decide +kernel
theorem dX6_atEnd_4 : decode cX6_atEnd 4 = .ok (.getfield 32, 3) := by decide +kernel
theorem dX6_atEnd_7 : decode cX6_atEnd 7 = .ok (.ifCond .ne 7, 3) := by decide +kernel
theorem dX6_atEnd_10 : decode cX6_atEnd 10 = .ok (.iconst 1, 1) := by decide +kernel
theorem dX6_atEnd_11 : decode cX6_atEnd 11 = .ok (.goto 4, 3) := by decide +kernel
theorem dX6_atEnd_14 : decode cX6_atEnd 14 = .ok (.iconst 0, 1) := by decide +kernel
theorem dX6_atEnd_15 : decode cX6_atEnd 15 = .ok (.ireturn, 1) := by decide +kernel
theorem mv_X6_atEnd : MV yX6_atEnd RX6 cX6_atEnd 1 (some .boolean) 0 := ⟨tb_621, tb_619, tb_620, tb_4, by decide +kernel, by decide +kernel, by decide +kernel⟩
def f_X6_atEnd (fu : Nat) (t_kind : Int32) : Option (Int32) := (if t_kind = 0 then some (1) else some (0))
abbrev rm_X6_atEnd : Room := { frames := 0, cells := 0, slots := 0, locals := 0 }
set_option maxHeartbeats 4000000 in
set_option maxRecDepth 100000 in
theorem c_X6_atEnd (l : Launch) (D : va_G) (cy : Nat → ClassId) (fu : Nat) (A_r : Nat → Nat) (r_fault : Int32) (r_place : Int32) (A_t : Nat → Nat) (t_bytes : Nat → Int32) (t_wordCodes : Nat → Int64) (t_length : Int32) (t_kind : Int32) (t_start : Int32) (t_value : Int32) (t_word : Int32) (t_name : Int64) (t_end : Int32) (t_at : Int32) (res : Int32) (h : f_X6_atEnd fu t_kind = some res) : Met l yX6_atEnd (WW yX6_atEnd cX6_atEnd 1 (some .boolean)) rm_X6_atEnd (Rd D cy [.ref (A_r 0)] [bl_X6 cy A_r (A_t 0) r_fault r_place, bl_X7 cy A_t t_bytes t_wordCodes t_length t_kind t_start t_value t_word t_name t_end t_at]) (vp_Si (fun v => v = res)) 0 0 (fun _ => False) := by
  refine Met.ofW (cc := cX6_atEnd) (maxL := 1) (ret := (some .boolean)) (by decide) rfl ?_
  intro p e s m args below meth c s₁ B hml hv
  obtain ⟨hargs, hP, hX⟩ := hv
  have hx := B.exec
  have hb := B.bytes
  have hr := B.returns
  have ht : ∀ w ∈ lw_gd, w.before args s = true := fun w hw => atoms_spec (ws := WW yX6_atEnd cX6_atEnd 1 (some .boolean)) B.pre w (List.mem_cons_of_mem _ hw)
  have hown : s.vm.findClass RX6 = some m.cls := findClass_of_methodNamed B.named
  have hlocks := B.notSynchronized
  have hP : PB D [bl_X6 cy A_r (A_t 0) r_fault r_place, bl_X7 cy A_t t_bytes t_wordCodes t_length t_kind t_start t_value t_word t_name t_end t_at] s.heap := hP
  obtain ⟨ls, hl, hent⟩ := ent (m := m) (n := 1) hargs (Nat.le_of_ble_eq_true rfl) (lv := [(0, .ref (A_r 0))]) rfl
  rw [hent]
  clear hent
  unfold f_X6_atEnd at h
  refine lv_aload_n hx hb dX6_atEnd_0 rfl (lv_at hl 0 rfl) ?_
  refine xget (i := 0) (j := 0) (k := 0) (T := TX6) hx hb ht tb_iX6 hown hX hP rfl rfl rfl (by decide) tb_260 rfl dX6_atEnd_1 ?_
  refine xget (i := 1) (j := 0) (k := 3) (T := TX7) hx hb ht tb_iX7 hown hX hP rfl rfl rfl (by decide) tb_223 rfl dX6_atEnd_4 ?_
  refine lv_if_ne (tgt := 14) hx hb dX6_atEnd_7 (by decide) (fun c_2 => ?_) (fun c_2 => ?_)
  · have h := ie c_2 h
    refine lv_iconst (v := 0) hx hb dX6_atEnd_14 (by decide) ?_
    cases h
    exact W.zret hx hb hr rfl (fun _ ht9 _ => ⟨_, rfl, rfl, ht9⟩) (fun _ hq => by cases hq) dX6_atEnd_15
  · have h := it c_2 h
    refine lv_iconst (v := 1) hx hb dX6_atEnd_10 (by decide) ?_
    refine lv_goto (tgt := 15) hx hb dX6_atEnd_11 (by decide) ?_
    cases h
    exact W.zret hx hb hr rfl (fun _ ht9 _ => ⟨_, rfl, rfl, ht9⟩) (fun _ hq => by cases hq) dX6_atEnd_15
theorem dX6_isSign_0 : decode cX6_isSign 0 = .ok (.aload_n 0, 1) := by decide +kernel
theorem dX6_isSign_1 : decode cX6_isSign 1 = .ok (.getfield 12, 3) := by decide +kernel
theorem dX6_isSign_4 : decode cX6_isSign 4 = .ok (.getfield 32, 3) := by decide +kernel
theorem dX6_isSign_7 : decode cX6_isSign 7 = .ok (.iconst 4, 1) := by decide +kernel
theorem dX6_isSign_8 : decode cX6_isSign 8 = .ok (.if_icmp .ne 18, 3) := by decide +kernel
theorem dX6_isSign_11 : decode cX6_isSign 11 = .ok (.aload_n 0, 1) := by decide +kernel
theorem dX6_isSign_12 : decode cX6_isSign 12 = .ok (.getfield 12, 3) := by decide +kernel
theorem dX6_isSign_15 : decode cX6_isSign 15 = .ok (.getfield 38, 3) := by decide +kernel
theorem dX6_isSign_18 : decode cX6_isSign 18 = .ok (.iload_n 1, 1) := by decide +kernel
theorem dX6_isSign_19 : decode cX6_isSign 19 = .ok (.if_icmp .ne 7, 3) := by decide +kernel
theorem dX6_isSign_22 : decode cX6_isSign 22 = .ok (.iconst 1, 1) := by decide +kernel
theorem dX6_isSign_23 : decode cX6_isSign 23 = .ok (.goto 4, 3) := by decide +kernel
theorem dX6_isSign_26 : decode cX6_isSign 26 = .ok (.iconst 0, 1) := by decide +kernel
theorem dX6_isSign_27 : decode cX6_isSign 27 = .ok (.ireturn, 1) := by decide +kernel
theorem mv_X6_isSign : MV yX6_isSign RX6 cX6_isSign 2 (some .boolean) 1 := ⟨tb_644, tb_642, tb_643, tb_4, by decide +kernel, by decide +kernel, by decide +kernel⟩
def f_X6_isSign (fu : Nat) (t_kind : Int32) (t_value : Int32) (x1 : Int32) : Option (Int32) := (if t_kind = 4 then (if t_value = x1 then some (1) else some (0)) else some (0))
abbrev rm_X6_isSign : Room := { frames := 0, cells := 0, slots := 0, locals := 0 }
set_option maxHeartbeats 4000000 in
set_option maxRecDepth 100000 in
theorem c_X6_isSign (l : Launch) (D : va_G) (cy : Nat → ClassId) (fu : Nat) (A_r : Nat → Nat) (r_fault : Int32) (r_place : Int32) (A_t : Nat → Nat) (t_bytes : Nat → Int32) (t_wordCodes : Nat → Int64) (t_length : Int32) (t_kind : Int32) (t_start : Int32) (t_value : Int32) (t_word : Int32) (t_name : Int64) (t_end : Int32) (t_at : Int32) (x1 : Int32) (res : Int32) (h : f_X6_isSign fu t_kind t_value x1 = some res) : Met l yX6_isSign (WW yX6_isSign cX6_isSign 2 (some .boolean)) rm_X6_isSign (Rd D cy [.ref (A_r 0), .int x1] [bl_X6 cy A_r (A_t 0) r_fault r_place, bl_X7 cy A_t t_bytes t_wordCodes t_length t_kind t_start t_value t_word t_name t_end t_at]) (vp_Si (fun v => v = res)) 0 0 (fun _ => False) := by
  refine Met.ofW (cc := cX6_isSign) (maxL := 2) (ret := (some .boolean)) (by decide) rfl ?_
  intro p e s m args below meth c s₁ B hml hv
  obtain ⟨hargs, hP, hX⟩ := hv
  have hx := B.exec
  have hb := B.bytes
  have hr := B.returns
  have ht : ∀ w ∈ lw_gd, w.before args s = true := fun w hw => atoms_spec (ws := WW yX6_isSign cX6_isSign 2 (some .boolean)) B.pre w (List.mem_cons_of_mem _ hw)
  have hown : s.vm.findClass RX6 = some m.cls := findClass_of_methodNamed B.named
  have hlocks := B.notSynchronized
  have hP : PB D [bl_X6 cy A_r (A_t 0) r_fault r_place, bl_X7 cy A_t t_bytes t_wordCodes t_length t_kind t_start t_value t_word t_name t_end t_at] s.heap := hP
  obtain ⟨ls, hl, hent⟩ := ent (m := m) (n := 2) hargs (Nat.le_of_ble_eq_true rfl) (lv := [(0, .ref (A_r 0)), (1, .int x1)]) rfl
  rw [hent]
  clear hent
  unfold f_X6_isSign at h
  refine lv_aload_n hx hb dX6_isSign_0 rfl (lv_at hl 0 rfl) ?_
  refine xget (i := 0) (j := 0) (k := 0) (T := TX6) hx hb ht tb_iX6 hown hX hP rfl rfl rfl (by decide) tb_260 rfl dX6_isSign_1 ?_
  refine xget (i := 1) (j := 0) (k := 3) (T := TX7) hx hb ht tb_iX7 hown hX hP rfl rfl rfl (by decide) tb_223 rfl dX6_isSign_4 ?_
  refine lv_iconst (v := 4) hx hb dX6_isSign_7 (by decide) ?_
  refine lv_icmp_ne (tgt := 26) hx hb dX6_isSign_8 (by decide) (fun c_3 => ?_) (fun c_3 => ?_)
  · have h := ie c_3 h
    refine lv_iconst (v := 0) hx hb dX6_isSign_26 (by decide) ?_
    cases h
    exact W.zret hx hb hr rfl (fun _ ht9 _ => ⟨_, rfl, rfl, ht9⟩) (fun _ hq => by cases hq) dX6_isSign_27
  · have h := it c_3 h
    refine lv_aload_n hx hb dX6_isSign_11 rfl (lv_at hl 0 rfl) ?_
    refine xget (i := 0) (j := 0) (k := 0) (T := TX6) hx hb ht tb_iX6 hown hX hP rfl rfl rfl (by decide) tb_260 rfl dX6_isSign_12 ?_
    refine xget (i := 1) (j := 0) (k := 5) (T := TX7) hx hb ht tb_iX7 hown hX hP rfl rfl rfl (by decide) tb_227 rfl dX6_isSign_15 ?_
    refine lv_iload_n hx hb dX6_isSign_18 rfl (lv_at hl 1 rfl) ?_
    refine lv_icmp_ne (tgt := 26) hx hb dX6_isSign_19 (by decide) (fun c_4 => ?_) (fun c_4 => ?_)
    · have h := ie c_4 h
      refine lv_iconst (v := 0) hx hb dX6_isSign_26 (by decide) ?_
      cases h
      exact W.zret hx hb hr rfl (fun _ ht9 _ => ⟨_, rfl, rfl, ht9⟩) (fun _ hq => by cases hq) dX6_isSign_27
    · have h := it c_4 h
      refine lv_iconst (v := 1) hx hb dX6_isSign_22 (by decide) ?_
      refine lv_goto (tgt := 27) hx hb dX6_isSign_23 (by decide) ?_
      cases h
      exact W.zret hx hb hr rfl (fun _ ht9 _ => ⟨_, rfl, rfl, ht9⟩) (fun _ hq => by cases hq) dX6_isSign_27
theorem dX6_takeSign_0 : decode cX6_takeSign 0 = .ok (.aload_n 0, 1) := by decide +kernel
theorem dX6_takeSign_1 : decode cX6_takeSign 1 = .ok (.iload_n 1, 1) := by decide +kernel
theorem dX6_takeSign_2 : decode cX6_takeSign 2 = .ok (.invokevirtual 41, 3) := by decide +kernel
theorem dX6_takeSign_5 : decode cX6_takeSign 5 = .ok (.ifCond .ne 9, 3) := by decide +kernel
theorem dX6_takeSign_8 : decode cX6_takeSign 8 = .ok (.aload_n 0, 1) := by decide +kernel
theorem dX6_takeSign_9 : decode cX6_takeSign 9 = .ok (.iconst 2, 1) := by decide +kernel
theorem dX6_takeSign_10 : decode cX6_takeSign 10 = .ok (.invokevirtual 45, 3) := by decide +kernel
theorem dX6_takeSign_13 : decode cX6_takeSign 13 = .ok (.ireturn, 1) := by decide +kernel
theorem dX6_takeSign_14 : decode cX6_takeSign 14 = .ok (.aload_n 0, 1) := by decide +kernel
theorem dX6_takeSign_15 : decode cX6_takeSign 15 = .ok (.getfield 12, 3) := by decide +kernel
theorem dX6_takeSign_18 : decode cX6_takeSign 18 = .ok (.invokevirtual 29, 3) := by decide +kernel
theorem dX6_takeSign_21 : decode cX6_takeSign 21 = .ok (.iconst 1, 1) := by decide +kernel
theorem dX6_takeSign_22 : decode cX6_takeSign 22 = .ok (.ireturn, 1) := by decide +kernel
theorem mv_X6_takeSign : MV yX6_takeSign RX6 cX6_takeSign 2 (some .boolean) 1 := ⟨tb_640, tb_638, tb_639, tb_4, by decide +kernel, by decide +kernel, by decide +kernel⟩
def f_X6_takeSign (fu : Nat) (r_fault : Int32) (r_place : Int32) (t_bytes : Nat → Int32) (t_wordCodes : Nat → Int64) (t_kind : Int32) (t_start : Int32) (t_value : Int32) (t_word : Int32) (t_name : Int64) (t_end : Int32) (t_at : Int32) (x1 : Int32) : Option (Int32 × Int32 × Int32 × Int32 × Int32 × Int32 × Int32 × Int64 × Int32) := (f_X6_isSign fu t_kind t_value x1).bind fun z_6 => (if z_6 = 0 then (f_X6_fail fu r_fault r_place t_kind t_start 2).bind fun z_9 => (bz z_9.1).bind fun _ => some (z_9.1, z_9.2.1, z_9.2.2, t_kind, t_start, t_value, t_word, t_name, t_at) else (f_X7_next fu t_bytes t_wordCodes t_kind t_start t_value t_word t_name t_end t_at).bind fun z_8 => some (1, r_fault, r_place, z_8.1, z_8.2.1, z_8.2.2.1, z_8.2.2.2.1, z_8.2.2.2.2.1, z_8.2.2.2.2.2))
abbrev rm_X6_takeSign : Room := { frames := 2, cells := 0, slots := 0, locals := 43 }
set_option maxHeartbeats 4000000 in
set_option maxRecDepth 100000 in
theorem c_X6_takeSign (l : Launch) (D : va_G) (cy : Nat → ClassId) (fu : Nat) (A_r : Nat → Nat) (r_fault : Int32) (r_place : Int32) (A_t : Nat → Nat) (t_bytes : Nat → Int32) (t_wordCodes : Nat → Int64) (t_length : Int32) (t_kind : Int32) (t_start : Int32) (t_value : Int32) (t_word : Int32) (t_name : Int64) (t_end : Int32) (t_at : Int32) (x1 : Int32) (res : Int32 × Int32 × Int32 × Int32 × Int32 × Int32 × Int32 × Int64 × Int32) (h : f_X6_takeSign fu r_fault r_place t_bytes t_wordCodes t_kind t_start t_value t_word t_name t_end t_at x1 = some res) (A : Nat → Prop) (hA : A = adr [bl_X6 cy A_r (A_t 0) r_fault r_place, bl_X7 cy A_t t_bytes t_wordCodes t_length t_kind t_start t_value t_word t_name t_end t_at]) (W1 : List va_W) (hW1 : W1 = [bl_X6 cy A_r (A_t 0) res.2.1 res.2.2.1, bl_X7 cy A_t t_bytes t_wordCodes t_length res.2.2.2.1 res.2.2.2.2.1 res.2.2.2.2.2.1 res.2.2.2.2.2.2.1 res.2.2.2.2.2.2.2.1 t_end res.2.2.2.2.2.2.2.2]) : Met l yX6_takeSign (WW yX6_takeSign cX6_takeSign 2 (some .boolean)) rm_X6_takeSign (Ed D cy [.ref (A_r 0), .int x1] [bl_X6 cy A_r (A_t 0) r_fault r_place, bl_X7 cy A_t t_bytes t_wordCodes t_length t_kind t_start t_value t_word t_name t_end t_at]) (Qei D res.1 A W1) 0 0 A := by
  refine Met.ofW (cc := cX6_takeSign) (maxL := 2) (ret := (some .boolean)) (by decide) rfl ?_
  intro p e s m args below meth c s₁ B hml hv
  obtain ⟨hargs, hP, hX, hD0⟩ := hv
  have hx := B.exec
  have hb := B.bytes
  have hr := B.returns
  have ht : ∀ w ∈ lw_gd, w.before args s = true := fun w hw => atoms_spec (ws := WW yX6_takeSign cX6_takeSign 2 (some .boolean)) B.pre w (List.mem_cons_of_mem _ hw)
  have hown : s.vm.findClass RX6 = some m.cls := findClass_of_methodNamed B.named
  have hlocks := B.notSynchronized
  have hP : PD D A [bl_X6 cy A_r (A_t 0) r_fault r_place, bl_X7 cy A_t t_bytes t_wordCodes t_length t_kind t_start t_value t_word t_name t_end t_at] s.heap := ⟨hP, by rw [hA]; exact hD0.own⟩
  have hS : va_S A s.heap s.heap [] := va_S.rf
  obtain ⟨ls, hl, hent⟩ := ent (m := m) (n := 2) hargs (Nat.le_of_ble_eq_true rfl) (lv := [(0, .ref (A_r 0)), (1, .int x1)]) rfl
  rw [hent]
  clear hent
  unfold f_X6_takeSign at h
  refine lv_aload_n hx hb dX6_takeSign_0 rfl (lv_at hl 0 rfl) ?_
  refine lv_iload_n hx hb dX6_takeSign_1 rfl (lv_at hl 1 rfl) ?_
  obtain ⟨z_6, e_z_6, h⟩ := bi h
  refine roVi (rest := []) ⟨hx, hb, hml, hown, ht⟩ (c_X6_isSign l D cy fu A_r r_fault r_place A_t t_bytes t_wordCodes t_length t_kind t_start t_value t_word t_name t_end t_at x1 z_6 e_z_6) (cV ht mv_X6_isSign tb_641 rfl rfl ⟨Nat.le_of_ble_eq_true rfl, Nat.le_of_ble_eq_true rfl⟩) (P_sub hP.1 [0, 1] rfl) hX rfl rfl rfl hl.1 rfl (Nat.le_of_ble_eq_true rfl) dX6_takeSign_2 ⟨Nat.le_of_ble_eq_true rfl, Nat.le_of_ble_eq_true rfl⟩ ?_
  refine lv_if_ne (tgt := 14) hx hb dX6_takeSign_5 (by decide) (fun c_7 => ?_) (fun c_7 => ?_)
  · have h := ie c_7 h
    refine lv_aload_n hx hb dX6_takeSign_14 rfl (lv_at hl 0 rfl) ?_
    refine xget (i := 0) (j := 0) (k := 0) (T := TX6) hx hb ht tb_iX6 hown hX hP.1 rfl rfl rfl (by decide) tb_260 rfl dX6_takeSign_15 ?_
    obtain ⟨z_8, e_z_8, h⟩ := bi h
    refine efVv (rest := []) ⟨hx, hb, hml, hown, ht⟩ (c_X7_next l D cy fu A_t t_bytes t_wordCodes t_length t_kind t_start t_value t_word t_name t_end t_at z_8 e_z_8 _ rfl _ rfl) (cV ht mv_X7_next tb_588 rfl rfl ⟨Nat.le_of_ble_eq_true rfl, Nat.le_of_ble_eq_true rfl⟩) hP hS hX [1] rfl rfl rfl rfl rfl rfl hl.1 rfl (Nat.le_of_ble_eq_true rfl) dX6_takeSign_18 ⟨Nat.le_of_ble_eq_true rfl, Nat.le_of_ble_eq_true rfl⟩ (fun H locs hP hS => ?_)
    have hP : PD D A [bl_X6 cy A_r (A_t 0) r_fault r_place, bl_X7 cy A_t t_bytes t_wordCodes t_length z_8.1 z_8.2.1 z_8.2.2.1 z_8.2.2.2.1 z_8.2.2.2.2.1 t_end z_8.2.2.2.2.2] H := hP
    refine lv_iconst (v := 1) hx hb dX6_takeSign_21 (by decide) ?_
    cases h
    subst hW1
    exact W.zret hx hb hr rfl (fun _ ht9 _ => ⟨⟨_, (), rfl, rfl, hPt ht9 hP.1⟩, hS.F ht9⟩) hS.2.2 dX6_takeSign_22
  · have h := it c_7 h
    refine lv_aload_n hx hb dX6_takeSign_8 rfl (lv_at hl 0 rfl) ?_
    refine lv_iconst (v := 2) hx hb dX6_takeSign_9 (by decide) ?_
    obtain ⟨z_9, e_z_9, h⟩ := bi h
    refine efVi (rest := []) ⟨hx, hb, hml, hown, ht⟩ (c_X6_fail l D cy fu A_r r_fault r_place A_t t_bytes t_wordCodes t_length t_kind t_start t_value t_word t_name t_end t_at 2 z_9 e_z_9 _ rfl _ rfl) (cV ht mv_X6_fail tb_635 rfl rfl ⟨Nat.le_of_ble_eq_true rfl, Nat.le_of_ble_eq_true rfl⟩) hP hS hX [0, 1] rfl rfl rfl rfl rfl rfl hl.1 rfl (Nat.le_of_ble_eq_true rfl) dX6_takeSign_10 ⟨Nat.le_of_ble_eq_true rfl, Nat.le_of_ble_eq_true rfl⟩ (fun H locs hP hS => ?_)
    have hP : PD D A [bl_X6 cy A_r (A_t 0) z_9.2.1 z_9.2.2, bl_X7 cy A_t t_bytes t_wordCodes t_length t_kind t_start t_value t_word t_name t_end t_at] H := hP
    obtain ⟨b_10, e_b_10, h⟩ := bi h
    obtain ⟨-, n_b_10, -⟩ := bz_ok e_b_10
    cases h
    subst hW1
    exact W.zret hx hb hr n_b_10 (fun _ ht9 _ => ⟨⟨_, (), rfl, rfl, hPt ht9 hP.1⟩, hS.F ht9⟩) hS.2.2 dX6_takeSign_13
theorem dX6_takeWord_0 : decode cX6_takeWord 0 = .ok (.aload_n 0, 1) := by decide +kernel
theorem dX6_takeWord_1 : decode cX6_takeWord 1 = .ok (.getfield 12, 3) := by decide +kernel
theorem dX6_takeWord_4 : decode cX6_takeWord 4 = .ok (.getfield 48, 3) := by decide +kernel
theorem dX6_takeWord_7 : decode cX6_takeWord 7 = .ok (.iload_n 1, 1) := by decide +kernel
theorem dX6_takeWord_8 : decode cX6_takeWord 8 = .ok (.if_icmp .eq 9, 3) := by decide +kernel
theorem dX6_takeWord_11 : decode cX6_takeWord 11 = .ok (.aload_n 0, 1) := by decide +kernel
theorem dX6_takeWord_12 : decode cX6_takeWord 12 = .ok (.iconst 2, 1) := by decide +kernel
theorem dX6_takeWord_13 : decode cX6_takeWord 13 = .ok (.invokevirtual 45, 3) := by decide +kernel
theorem dX6_takeWord_16 : decode cX6_takeWord 16 = .ok (.ireturn, 1) := by decide +kernel
theorem dX6_takeWord_17 : decode cX6_takeWord 17 = .ok (.aload_n 0, 1) := by decide +kernel
theorem dX6_takeWord_18 : decode cX6_takeWord 18 = .ok (.getfield 12, 3) := by decide +kernel
theorem dX6_takeWord_21 : decode cX6_takeWord 21 = .ok (.invokevirtual 29, 3) := by decide +kernel
theorem dX6_takeWord_24 : decode cX6_takeWord 24 = .ok (.iconst 1, 1) := by decide +kernel
theorem dX6_takeWord_25 : decode cX6_takeWord 25 = .ok (.ireturn, 1) := by decide +kernel
theorem mv_X6_takeWord : MV yX6_takeWord RX6 cX6_takeWord 2 (some .boolean) 1 := ⟨tb_660, tb_658, tb_659, tb_4, by decide +kernel, by decide +kernel, by decide +kernel⟩
def f_X6_takeWord (fu : Nat) (r_fault : Int32) (r_place : Int32) (t_bytes : Nat → Int32) (t_wordCodes : Nat → Int64) (t_kind : Int32) (t_start : Int32) (t_value : Int32) (t_word : Int32) (t_name : Int64) (t_end : Int32) (t_at : Int32) (x1 : Int32) : Option (Int32 × Int32 × Int32 × Int32 × Int32 × Int32 × Int32 × Int64 × Int32) := (if t_word = x1 then (f_X7_next fu t_bytes t_wordCodes t_kind t_start t_value t_word t_name t_end t_at).bind fun z_6 => some (1, r_fault, r_place, z_6.1, z_6.2.1, z_6.2.2.1, z_6.2.2.2.1, z_6.2.2.2.2.1, z_6.2.2.2.2.2) else (f_X6_fail fu r_fault r_place t_kind t_start 2).bind fun z_7 => (bz z_7.1).bind fun _ => some (z_7.1, z_7.2.1, z_7.2.2, t_kind, t_start, t_value, t_word, t_name, t_at))
abbrev rm_X6_takeWord : Room := { frames := 2, cells := 0, slots := 0, locals := 43 }
set_option maxHeartbeats 4000000 in
set_option maxRecDepth 100000 in
theorem c_X6_takeWord (l : Launch) (D : va_G) (cy : Nat → ClassId) (fu : Nat) (A_r : Nat → Nat) (r_fault : Int32) (r_place : Int32) (A_t : Nat → Nat) (t_bytes : Nat → Int32) (t_wordCodes : Nat → Int64) (t_length : Int32) (t_kind : Int32) (t_start : Int32) (t_value : Int32) (t_word : Int32) (t_name : Int64) (t_end : Int32) (t_at : Int32) (x1 : Int32) (res : Int32 × Int32 × Int32 × Int32 × Int32 × Int32 × Int32 × Int64 × Int32) (h : f_X6_takeWord fu r_fault r_place t_bytes t_wordCodes t_kind t_start t_value t_word t_name t_end t_at x1 = some res) (A : Nat → Prop) (hA : A = adr [bl_X6 cy A_r (A_t 0) r_fault r_place, bl_X7 cy A_t t_bytes t_wordCodes t_length t_kind t_start t_value t_word t_name t_end t_at]) (W1 : List va_W) (hW1 : W1 = [bl_X6 cy A_r (A_t 0) res.2.1 res.2.2.1, bl_X7 cy A_t t_bytes t_wordCodes t_length res.2.2.2.1 res.2.2.2.2.1 res.2.2.2.2.2.1 res.2.2.2.2.2.2.1 res.2.2.2.2.2.2.2.1 t_end res.2.2.2.2.2.2.2.2]) : Met l yX6_takeWord (WW yX6_takeWord cX6_takeWord 2 (some .boolean)) rm_X6_takeWord (Ed D cy [.ref (A_r 0), .int x1] [bl_X6 cy A_r (A_t 0) r_fault r_place, bl_X7 cy A_t t_bytes t_wordCodes t_length t_kind t_start t_value t_word t_name t_end t_at]) (Qei D res.1 A W1) 0 0 A := by
  refine Met.ofW (cc := cX6_takeWord) (maxL := 2) (ret := (some .boolean)) (by decide) rfl ?_
  intro p e s m args below meth c s₁ B hml hv
  obtain ⟨hargs, hP, hX, hD0⟩ := hv
  have hx := B.exec
  have hb := B.bytes
  have hr := B.returns
  have ht : ∀ w ∈ lw_gd, w.before args s = true := fun w hw => atoms_spec (ws := WW yX6_takeWord cX6_takeWord 2 (some .boolean)) B.pre w (List.mem_cons_of_mem _ hw)
  have hown : s.vm.findClass RX6 = some m.cls := findClass_of_methodNamed B.named
  have hlocks := B.notSynchronized
  have hP : PD D A [bl_X6 cy A_r (A_t 0) r_fault r_place, bl_X7 cy A_t t_bytes t_wordCodes t_length t_kind t_start t_value t_word t_name t_end t_at] s.heap := ⟨hP, by rw [hA]; exact hD0.own⟩
  have hS : va_S A s.heap s.heap [] := va_S.rf
  obtain ⟨ls, hl, hent⟩ := ent (m := m) (n := 2) hargs (Nat.le_of_ble_eq_true rfl) (lv := [(0, .ref (A_r 0)), (1, .int x1)]) rfl
  rw [hent]
  clear hent
  unfold f_X6_takeWord at h
  refine lv_aload_n hx hb dX6_takeWord_0 rfl (lv_at hl 0 rfl) ?_
  refine xget (i := 0) (j := 0) (k := 0) (T := TX6) hx hb ht tb_iX6 hown hX hP.1 rfl rfl rfl (by decide) tb_260 rfl dX6_takeWord_1 ?_
  refine xget (i := 1) (j := 0) (k := 6) (T := TX7) hx hb ht tb_iX7 hown hX hP.1 rfl rfl rfl (by decide) tb_232 rfl dX6_takeWord_4 ?_
  refine lv_iload_n hx hb dX6_takeWord_7 rfl (lv_at hl 1 rfl) ?_
  refine lv_icmp_eq (tgt := 17) hx hb dX6_takeWord_8 (by decide) (fun c_5 => ?_) (fun c_5 => ?_)
  · have h := it c_5 h
    refine lv_aload_n hx hb dX6_takeWord_17 rfl (lv_at hl 0 rfl) ?_
    refine xget (i := 0) (j := 0) (k := 0) (T := TX6) hx hb ht tb_iX6 hown hX hP.1 rfl rfl rfl (by decide) tb_260 rfl dX6_takeWord_18 ?_
    obtain ⟨z_6, e_z_6, h⟩ := bi h
    refine efVv (rest := []) ⟨hx, hb, hml, hown, ht⟩ (c_X7_next l D cy fu A_t t_bytes t_wordCodes t_length t_kind t_start t_value t_word t_name t_end t_at z_6 e_z_6 _ rfl _ rfl) (cV ht mv_X7_next tb_588 rfl rfl ⟨Nat.le_of_ble_eq_true rfl, Nat.le_of_ble_eq_true rfl⟩) hP hS hX [1] rfl rfl rfl rfl rfl rfl hl.1 rfl (Nat.le_of_ble_eq_true rfl) dX6_takeWord_21 ⟨Nat.le_of_ble_eq_true rfl, Nat.le_of_ble_eq_true rfl⟩ (fun H locs hP hS => ?_)
    have hP : PD D A [bl_X6 cy A_r (A_t 0) r_fault r_place, bl_X7 cy A_t t_bytes t_wordCodes t_length z_6.1 z_6.2.1 z_6.2.2.1 z_6.2.2.2.1 z_6.2.2.2.2.1 t_end z_6.2.2.2.2.2] H := hP
    refine lv_iconst (v := 1) hx hb dX6_takeWord_24 (by decide) ?_
    cases h
    subst hW1
    exact W.zret hx hb hr rfl (fun _ ht9 _ => ⟨⟨_, (), rfl, rfl, hPt ht9 hP.1⟩, hS.F ht9⟩) hS.2.2 dX6_takeWord_25
  · have h := ie c_5 h
    refine lv_aload_n hx hb dX6_takeWord_11 rfl (lv_at hl 0 rfl) ?_
    refine lv_iconst (v := 2) hx hb dX6_takeWord_12 (by decide) ?_
    obtain ⟨z_7, e_z_7, h⟩ := bi h
    refine efVi (rest := []) ⟨hx, hb, hml, hown, ht⟩ (c_X6_fail l D cy fu A_r r_fault r_place A_t t_bytes t_wordCodes t_length t_kind t_start t_value t_word t_name t_end t_at 2 z_7 e_z_7 _ rfl _ rfl) (cV ht mv_X6_fail tb_635 rfl rfl ⟨Nat.le_of_ble_eq_true rfl, Nat.le_of_ble_eq_true rfl⟩) hP hS hX [0, 1] rfl rfl rfl rfl rfl rfl hl.1 rfl (Nat.le_of_ble_eq_true rfl) dX6_takeWord_13 ⟨Nat.le_of_ble_eq_true rfl, Nat.le_of_ble_eq_true rfl⟩ (fun H locs hP hS => ?_)
    have hP : PD D A [bl_X6 cy A_r (A_t 0) z_7.2.1 z_7.2.2, bl_X7 cy A_t t_bytes t_wordCodes t_length t_kind t_start t_value t_word t_name t_end t_at] H := hP
    obtain ⟨b_8, e_b_8, h⟩ := bi h
    obtain ⟨-, n_b_8, -⟩ := bz_ok e_b_8
    cases h
    subst hW1
    exact W.zret hx hb hr n_b_8 (fun _ ht9 _ => ⟨⟨_, (), rfl, rfl, hPt ht9 hP.1⟩, hS.F ht9⟩) hS.2.2 dX6_takeWord_16
theorem dX6_takeNumber_0 : decode cX6_takeNumber 0 = .ok (.aload_n 0, 1) := by decide +kernel
theorem dX6_takeNumber_1 : decode cX6_takeNumber 1 = .ok (.getfield 12, 3) := by decide +kernel
theorem dX6_takeNumber_4 : decode cX6_takeNumber 4 = .ok (.getfield 38, 3) := by decide +kernel
theorem dX6_takeNumber_7 : decode cX6_takeNumber 7 = .ok (.istore_n 3, 1) := by decide +kernel
theorem dX6_takeNumber_8 : decode cX6_takeNumber 8 = .ok (.aload_n 0, 1) := by decide +kernel
theorem dX6_takeNumber_9 : decode cX6_takeNumber 9 = .ok (.getfield 12, 3) := by decide +kernel
theorem dX6_takeNumber_12 : decode cX6_takeNumber 12 = .ok (.getfield 32, 3) := by decide +kernel
theorem dX6_takeNumber_15 : decode cX6_takeNumber 15 = .ok (.iconst 3, 1) := by decide +kernel
theorem dX6_takeNumber_16 : decode cX6_takeNumber 16 = .ok (.if_icmp .eq 11, 3) := by decide +kernel
theorem dX6_takeNumber_19 : decode cX6_takeNumber 19 = .ok (.aload_n 0, 1) := by decide +kernel
theorem dX6_takeNumber_20 : decode cX6_takeNumber 20 = .ok (.iconst 2, 1) := by decide +kernel
theorem dX6_takeNumber_21 : decode cX6_takeNumber 21 = .ok (.invokevirtual 45, 3) := by decide +kernel
theorem dX6_takeNumber_24 : decode cX6_takeNumber 24 = .ok (.pop, 1) := by decide +kernel
theorem dX6_takeNumber_25 : decode cX6_takeNumber 25 = .ok (.iconst (-1), 1) := by decide +kernel
theorem dX6_takeNumber_26 : decode cX6_takeNumber 26 = .ok (.ireturn, 1) := by decide +kernel
theorem dX6_takeNumber_27 : decode cX6_takeNumber 27 = .ok (.iload_n 3, 1) := by decide +kernel
theorem dX6_takeNumber_28 : decode cX6_takeNumber 28 = .ok (.iload_n 1, 1) := by decide +kernel
theorem dX6_takeNumber_29 : decode cX6_takeNumber 29 = .ok (.iload_n 2, 1) := by decide +kernel
theorem dX6_takeNumber_30 : decode cX6_takeNumber 30 = .ok (.invokestatic 51, 3) := by decide +kernel
theorem dX6_takeNumber_33 : decode cX6_takeNumber 33 = .ok (.ifCond .ne 11, 3) := by decide +kernel
theorem dX6_takeNumber_36 : decode cX6_takeNumber 36 = .ok (.aload_n 0, 1) := by decide +kernel
theorem dX6_takeNumber_37 : decode cX6_takeNumber 37 = .ok (.iconst 4, 1) := by decide +kernel
theorem dX6_takeNumber_38 : decode cX6_takeNumber 38 = .ok (.invokevirtual 45, 3) := by decide +kernel
theorem dX6_takeNumber_41 : decode cX6_takeNumber 41 = .ok (.pop, 1) := by decide +kernel
theorem dX6_takeNumber_42 : decode cX6_takeNumber 42 = .ok (.iconst (-1), 1) := by decide +kernel
theorem dX6_takeNumber_43 : decode cX6_takeNumber 43 = .ok (.ireturn, 1) := by decide +kernel
theorem dX6_takeNumber_44 : decode cX6_takeNumber 44 = .ok (.aload_n 0, 1) := by decide +kernel
theorem dX6_takeNumber_45 : decode cX6_takeNumber 45 = .ok (.getfield 12, 3) := by decide +kernel
theorem dX6_takeNumber_48 : decode cX6_takeNumber 48 = .ok (.invokevirtual 29, 3) := by decide +kernel
theorem dX6_takeNumber_51 : decode cX6_takeNumber 51 = .ok (.iload_n 3, 1) := by decide +kernel
theorem dX6_takeNumber_52 : decode cX6_takeNumber 52 = .ok (.ireturn, 1) := by decide +kernel
theorem mv_X6_takeNumber : MV yX6_takeNumber RX6 cX6_takeNumber 4 (some .int) 2 := ⟨tb_634, tb_632, tb_633, tb_4, by decide +kernel, by decide +kernel, by decide +kernel⟩
def f_X6_takeNumber (fu : Nat) (r_fault : Int32) (r_place : Int32) (t_bytes : Nat → Int32) (t_wordCodes : Nat → Int64) (t_kind : Int32) (t_start : Int32) (t_value : Int32) (t_word : Int32) (t_name : Int64) (t_end : Int32) (t_at : Int32) (x1 : Int32) (x2 : Int32) : Option (Int32 × Int32 × Int32 × Int32 × Int32 × Int32 × Int32 × Int64 × Int32) := (if t_kind = 3 then (f_X11_within fu t_value x1 x2).bind fun z_8 => (if z_8 = 0 then (f_X6_fail fu r_fault r_place t_kind t_start 4).bind fun z_11 => some ((-1), z_11.2.1, z_11.2.2, t_kind, t_start, t_value, t_word, t_name, t_at) else (f_X7_next fu t_bytes t_wordCodes t_kind t_start t_value t_word t_name t_end t_at).bind fun z_10 => some (t_value, r_fault, r_place, z_10.1, z_10.2.1, z_10.2.2.1, z_10.2.2.2.1, z_10.2.2.2.2.1, z_10.2.2.2.2.2)) else (f_X6_fail fu r_fault r_place t_kind t_start 2).bind fun z_12 => some ((-1), z_12.2.1, z_12.2.2, t_kind, t_start, t_value, t_word, t_name, t_at))
abbrev rm_X6_takeNumber : Room := { frames := 2, cells := 0, slots := 0, locals := 43 }
set_option maxHeartbeats 4000000 in
set_option maxRecDepth 100000 in
theorem c_X6_takeNumber (l : Launch) (D : va_G) (cy : Nat → ClassId) (fu : Nat) (A_r : Nat → Nat) (r_fault : Int32) (r_place : Int32) (A_t : Nat → Nat) (t_bytes : Nat → Int32) (t_wordCodes : Nat → Int64) (t_length : Int32) (t_kind : Int32) (t_start : Int32) (t_value : Int32) (t_word : Int32) (t_name : Int64) (t_end : Int32) (t_at : Int32) (x1 : Int32) (x2 : Int32) (res : Int32 × Int32 × Int32 × Int32 × Int32 × Int32 × Int32 × Int64 × Int32) (h : f_X6_takeNumber fu r_fault r_place t_bytes t_wordCodes t_kind t_start t_value t_word t_name t_end t_at x1 x2 = some res) (A : Nat → Prop) (hA : A = adr [bl_X6 cy A_r (A_t 0) r_fault r_place, bl_X7 cy A_t t_bytes t_wordCodes t_length t_kind t_start t_value t_word t_name t_end t_at]) (W1 : List va_W) (hW1 : W1 = [bl_X6 cy A_r (A_t 0) res.2.1 res.2.2.1, bl_X7 cy A_t t_bytes t_wordCodes t_length res.2.2.2.1 res.2.2.2.2.1 res.2.2.2.2.2.1 res.2.2.2.2.2.2.1 res.2.2.2.2.2.2.2.1 t_end res.2.2.2.2.2.2.2.2]) : Met l yX6_takeNumber (WW yX6_takeNumber cX6_takeNumber 4 (some .int)) rm_X6_takeNumber (Ed D cy [.ref (A_r 0), .int x1, .int x2] [bl_X6 cy A_r (A_t 0) r_fault r_place, bl_X7 cy A_t t_bytes t_wordCodes t_length t_kind t_start t_value t_word t_name t_end t_at]) (Qei D res.1 A W1) 0 0 A := by
  refine Met.ofW (cc := cX6_takeNumber) (maxL := 4) (ret := (some .int)) (by decide) rfl ?_
  intro p e s m args below meth c s₁ B hml hv
  obtain ⟨hargs, hP, hX, hD0⟩ := hv
  have hx := B.exec
  have hb := B.bytes
  have hr := B.returns
  have ht : ∀ w ∈ lw_gd, w.before args s = true := fun w hw => atoms_spec (ws := WW yX6_takeNumber cX6_takeNumber 4 (some .int)) B.pre w (List.mem_cons_of_mem _ hw)
  have hown : s.vm.findClass RX6 = some m.cls := findClass_of_methodNamed B.named
  have hlocks := B.notSynchronized
  have hP : PD D A [bl_X6 cy A_r (A_t 0) r_fault r_place, bl_X7 cy A_t t_bytes t_wordCodes t_length t_kind t_start t_value t_word t_name t_end t_at] s.heap := ⟨hP, by rw [hA]; exact hD0.own⟩
  have hS : va_S A s.heap s.heap [] := va_S.rf
  obtain ⟨ls, hl, hent⟩ := ent (m := m) (n := 4) hargs (Nat.le_of_ble_eq_true rfl) (lv := [(0, .ref (A_r 0)), (1, .int x1), (2, .int x2)]) rfl
  rw [hent]
  clear hent
  unfold f_X6_takeNumber at h
  refine lv_aload_n hx hb dX6_takeNumber_0 rfl (lv_at hl 0 rfl) ?_
  refine xget (i := 0) (j := 0) (k := 0) (T := TX6) hx hb ht tb_iX6 hown hX hP.1 rfl rfl rfl (by decide) tb_260 rfl dX6_takeNumber_1 ?_
  refine xget (i := 1) (j := 0) (k := 5) (T := TX7) hx hb ht tb_iX7 hown hX hP.1 rfl rfl rfl (by decide) tb_227 rfl dX6_takeNumber_4 ?_
  refine lv_istore_n (lv' := [(3, .int t_value), (0, .ref (A_r 0)), (1, .int x1), (2, .int x2)]) hx hb dX6_takeNumber_7 rfl hl (by decide) rfl (fun ls hl => ?_)
  refine lv_aload_n hx hb dX6_takeNumber_8 rfl (lv_at hl 1 rfl) ?_
  refine xget (i := 0) (j := 0) (k := 0) (T := TX6) hx hb ht tb_iX6 hown hX hP.1 rfl rfl rfl (by decide) tb_260 rfl dX6_takeNumber_9 ?_
  refine xget (i := 1) (j := 0) (k := 3) (T := TX7) hx hb ht tb_iX7 hown hX hP.1 rfl rfl rfl (by decide) tb_223 rfl dX6_takeNumber_12 ?_
  refine lv_iconst (v := 3) hx hb dX6_takeNumber_15 (by decide) ?_
  refine lv_icmp_eq (tgt := 27) hx hb dX6_takeNumber_16 (by decide) (fun c_7 => ?_) (fun c_7 => ?_)
  · have h := it c_7 h
    refine lv_iload_n hx hb dX6_takeNumber_27 rfl (lv_at hl 0 rfl) ?_
    refine lv_iload_n hx hb dX6_takeNumber_28 rfl (lv_at hl 2 rfl) ?_
    refine lv_iload_n hx hb dX6_takeNumber_29 rfl (lv_at hl 3 rfl) ?_
    obtain ⟨z_8, e_z_8, h⟩ := bi h
    refine roNi (rest := []) ⟨hx, hb, hml, hown, ht⟩ (c_X11_within l D cy fu  t_value x1 x2 z_8 e_z_8) (cN ht hX ms_X11_within (List.mem_of_getElem? (i := 6) rfl) rfl rfl ⟨Nat.le_of_ble_eq_true rfl, Nat.le_of_ble_eq_true rfl⟩) (P_sub hP.1 [] rfl) hX rfl hl.1 rfl (Nat.le_of_ble_eq_true rfl) dX6_takeNumber_30 ⟨Nat.le_of_ble_eq_true rfl, Nat.le_of_ble_eq_true rfl⟩ ?_
    refine lv_if_ne (tgt := 44) hx hb dX6_takeNumber_33 (by decide) (fun c_9 => ?_) (fun c_9 => ?_)
    · have h := ie c_9 h
      refine lv_aload_n hx hb dX6_takeNumber_44 rfl (lv_at hl 1 rfl) ?_
      refine xget (i := 0) (j := 0) (k := 0) (T := TX6) hx hb ht tb_iX6 hown hX hP.1 rfl rfl rfl (by decide) tb_260 rfl dX6_takeNumber_45 ?_
      obtain ⟨z_10, e_z_10, h⟩ := bi h
      refine efVv (rest := []) ⟨hx, hb, hml, hown, ht⟩ (c_X7_next l D cy fu A_t t_bytes t_wordCodes t_length t_kind t_start t_value t_word t_name t_end t_at z_10 e_z_10 _ rfl _ rfl) (cV ht mv_X7_next tb_588 rfl rfl ⟨Nat.le_of_ble_eq_true rfl, Nat.le_of_ble_eq_true rfl⟩) hP hS hX [1] rfl rfl rfl rfl rfl rfl hl.1 rfl (Nat.le_of_ble_eq_true rfl) dX6_takeNumber_48 ⟨Nat.le_of_ble_eq_true rfl, Nat.le_of_ble_eq_true rfl⟩ (fun H locs hP hS => ?_)
      have hP : PD D A [bl_X6 cy A_r (A_t 0) r_fault r_place, bl_X7 cy A_t t_bytes t_wordCodes t_length z_10.1 z_10.2.1 z_10.2.2.1 z_10.2.2.2.1 z_10.2.2.2.2.1 t_end z_10.2.2.2.2.2] H := hP
      refine lv_iload_n hx hb dX6_takeNumber_51 rfl (lv_at hl 0 rfl) ?_
      cases h
      subst hW1
      exact W.iret hx hb hr (fun _ ht9 _ => ⟨⟨_, (), rfl, rfl, hPt ht9 hP.1⟩, hS.F ht9⟩) hS.2.2 dX6_takeNumber_52
    · have h := it c_9 h
      refine lv_aload_n hx hb dX6_takeNumber_36 rfl (lv_at hl 1 rfl) ?_
      refine lv_iconst (v := 4) hx hb dX6_takeNumber_37 (by decide) ?_
      obtain ⟨z_11, e_z_11, h⟩ := bi h
      refine efVi (rest := []) ⟨hx, hb, hml, hown, ht⟩ (c_X6_fail l D cy fu A_r r_fault r_place A_t t_bytes t_wordCodes t_length t_kind t_start t_value t_word t_name t_end t_at 4 z_11 e_z_11 _ rfl _ rfl) (cV ht mv_X6_fail tb_635 rfl rfl ⟨Nat.le_of_ble_eq_true rfl, Nat.le_of_ble_eq_true rfl⟩) hP hS hX [0, 1] rfl rfl rfl rfl rfl rfl hl.1 rfl (Nat.le_of_ble_eq_true rfl) dX6_takeNumber_38 ⟨Nat.le_of_ble_eq_true rfl, Nat.le_of_ble_eq_true rfl⟩ (fun H locs hP hS => ?_)
      have hP : PD D A [bl_X6 cy A_r (A_t 0) z_11.2.1 z_11.2.2, bl_X7 cy A_t t_bytes t_wordCodes t_length t_kind t_start t_value t_word t_name t_end t_at] H := hP
      refine lv_pop hx hb dX6_takeNumber_41 rfl ?_
      refine lv_iconst (v := (-1)) hx hb dX6_takeNumber_42 (by decide) ?_
      cases h
      subst hW1
      exact W.iret hx hb hr (fun _ ht9 _ => ⟨⟨_, (), rfl, rfl, hPt ht9 hP.1⟩, hS.F ht9⟩) hS.2.2 dX6_takeNumber_43
  · have h := ie c_7 h
    refine lv_aload_n hx hb dX6_takeNumber_19 rfl (lv_at hl 1 rfl) ?_
    refine lv_iconst (v := 2) hx hb dX6_takeNumber_20 (by decide) ?_
    obtain ⟨z_12, e_z_12, h⟩ := bi h
    refine efVi (rest := []) ⟨hx, hb, hml, hown, ht⟩ (c_X6_fail l D cy fu A_r r_fault r_place A_t t_bytes t_wordCodes t_length t_kind t_start t_value t_word t_name t_end t_at 2 z_12 e_z_12 _ rfl _ rfl) (cV ht mv_X6_fail tb_635 rfl rfl ⟨Nat.le_of_ble_eq_true rfl, Nat.le_of_ble_eq_true rfl⟩) hP hS hX [0, 1] rfl rfl rfl rfl rfl rfl hl.1 rfl (Nat.le_of_ble_eq_true rfl) dX6_takeNumber_21 ⟨Nat.le_of_ble_eq_true rfl, Nat.le_of_ble_eq_true rfl⟩ (fun H locs hP hS => ?_)
    have hP : PD D A [bl_X6 cy A_r (A_t 0) z_12.2.1 z_12.2.2, bl_X7 cy A_t t_bytes t_wordCodes t_length t_kind t_start t_value t_word t_name t_end t_at] H := hP
    refine lv_pop hx hb dX6_takeNumber_24 rfl ?_
    refine lv_iconst (v := (-1)) hx hb dX6_takeNumber_25 (by decide) ?_
    cases h
    subst hW1
    exact W.iret hx hb hr (fun _ ht9 _ => ⟨⟨_, (), rfl, rfl, hPt ht9 hP.1⟩, hS.F ht9⟩) hS.2.2 dX6_takeNumber_26
theorem dX6_takeMan_0 : decode cX6_takeMan 0 = .ok (.aload_n 0, 1) := by decide +kernel
theorem dX6_takeMan_1 : decode cX6_takeMan 1 = .ok (.getfield 12, 3) := by decide +kernel
theorem dX6_takeMan_4 : decode cX6_takeMan 4 = .ok (.getfield 55, 3) := by decide +kernel
theorem dX6_takeMan_7 : decode cX6_takeMan 7 = .ok (.lconst 0, 1) := by decide +kernel
theorem dX6_takeMan_8 : decode cX6_takeMan 8 = .ok (.lcmp, 1) := by decide +kernel
theorem dX6_takeMan_9 : decode cX6_takeMan 9 = .ok (.ifCond .ne 11, 3) := by decide +kernel
theorem dX6_takeMan_12 : decode cX6_takeMan 12 = .ok (.aload_n 0, 1) := by decide +kernel
theorem dX6_takeMan_13 : decode cX6_takeMan 13 = .ok (.iconst 2, 1) := by decide +kernel
theorem dX6_takeMan_14 : decode cX6_takeMan 14 = .ok (.invokevirtual 45, 3) := by decide +kernel
theorem dX6_takeMan_17 : decode cX6_takeMan 17 = .ok (.pop, 1) := by decide +kernel
theorem dX6_takeMan_18 : decode cX6_takeMan 18 = .ok (.iconst (-1), 1) := by decide +kernel
theorem dX6_takeMan_19 : decode cX6_takeMan 19 = .ok (.ireturn, 1) := by decide +kernel
theorem dX6_takeMan_20 : decode cX6_takeMan 20 = .ok (.aload_n 1, 1) := by decide +kernel
theorem dX6_takeMan_21 : decode cX6_takeMan 21 = .ok (.aload_n 0, 1) := by decide +kernel
theorem dX6_takeMan_22 : decode cX6_takeMan 22 = .ok (.getfield 12, 3) := by decide +kernel
theorem dX6_takeMan_25 : decode cX6_takeMan 25 = .ok (.getfield 55, 3) := by decide +kernel
theorem dX6_takeMan_28 : decode cX6_takeMan 28 = .ok (.invokevirtual 59, 3) := by decide +kernel
theorem dX6_takeMan_31 : decode cX6_takeMan 31 = .ok (.istore_n 3, 1) := by decide +kernel
theorem dX6_takeMan_32 : decode cX6_takeMan 32 = .ok (.iload_n 3, 1) := by decide +kernel
theorem dX6_takeMan_33 : decode cX6_takeMan 33 = .ok (.iconst (-1), 1) := by decide +kernel
theorem dX6_takeMan_34 : decode cX6_takeMan 34 = .ok (.if_icmp .ne 11, 3) := by decide +kernel
theorem dX6_takeMan_37 : decode cX6_takeMan 37 = .ok (.aload_n 0, 1) := by decide +kernel
theorem dX6_takeMan_38 : decode cX6_takeMan 38 = .ok (.iconst 3, 1) := by decide +kernel
theorem dX6_takeMan_39 : decode cX6_takeMan 39 = .ok (.invokevirtual 45, 3) := by decide +kernel
theorem dX6_takeMan_42 : decode cX6_takeMan 42 = .ok (.pop, 1) := by decide +kernel
theorem dX6_takeMan_43 : decode cX6_takeMan 43 = .ok (.iconst (-1), 1) := by decide +kernel
theorem dX6_takeMan_44 : decode cX6_takeMan 44 = .ok (.ireturn, 1) := by decide +kernel
theorem dX6_takeMan_45 : decode cX6_takeMan 45 = .ok (.iload_n 3, 1) := by decide +kernel
theorem dX6_takeMan_46 : decode cX6_takeMan 46 = .ok (.iload_n 2, 1) := by decide +kernel
theorem dX6_takeMan_47 : decode cX6_takeMan 47 = .ok (.if_icmp .ne 11, 3) := by decide +kernel
theorem dX6_takeMan_50 : decode cX6_takeMan 50 = .ok (.aload_n 0, 1) := by decide +kernel
theorem dX6_takeMan_51 : decode cX6_takeMan 51 = .ok (.iconst 5, 1) := by decide +kernel
theorem dX6_takeMan_52 : decode cX6_takeMan 52 = .ok (.invokevirtual 45, 3) := by decide +kernel
theorem dX6_takeMan_55 : decode cX6_takeMan 55 = .ok (.pop, 1) := by decide +kernel
theorem dX6_takeMan_56 : decode cX6_takeMan 56 = .ok (.iconst (-1), 1) := by decide +kernel
theorem dX6_takeMan_57 : decode cX6_takeMan 57 = .ok (.ireturn, 1) := by decide +kernel
theorem dX6_takeMan_58 : decode cX6_takeMan 58 = .ok (.aload_n 0, 1) := by decide +kernel
theorem dX6_takeMan_59 : decode cX6_takeMan 59 = .ok (.getfield 12, 3) := by decide +kernel
theorem dX6_takeMan_62 : decode cX6_takeMan 62 = .ok (.invokevirtual 29, 3) := by decide +kernel
theorem dX6_takeMan_65 : decode cX6_takeMan 65 = .ok (.iload_n 3, 1) := by decide +kernel
theorem dX6_takeMan_66 : decode cX6_takeMan 66 = .ok (.ireturn, 1) := by decide +kernel
theorem mv_X6_takeMan : MV yX6_takeMan RX6 cX6_takeMan 4 (some .int) 2 := ⟨tb_677, tb_675, tb_676, tb_4, by decide +kernel, by decide +kernel, by decide +kernel⟩
def f_X6_takeMan (fu : Nat) (r_fault : Int32) (r_place : Int32) (t_bytes : Nat → Int32) (t_wordCodes : Nat → Int64) (t_kind : Int32) (t_start : Int32) (t_value : Int32) (t_word : Int32) (t_name : Int64) (t_end : Int32) (t_at : Int32) (a_name : Nat → Int64) (a_count : Int32) (x2 : Int32) : Option (Int32 × Int32 × Int32 × Int32 × Int32 × Int32 × Int32 × Int64 × Int32) := (if (lg_cmp t_name 0) = 0 then (f_X6_fail fu r_fault r_place t_kind t_start 2).bind fun z_16 => some ((-1), z_16.2.1, z_16.2.2, t_kind, t_start, t_value, t_word, t_name, t_at) else (f_X0_named fu a_name a_count t_name).bind fun z_10 => (if z_10 = (-1) then (f_X6_fail fu r_fault r_place t_kind t_start 3).bind fun z_15 => some ((-1), z_15.2.1, z_15.2.2, t_kind, t_start, t_value, t_word, t_name, t_at) else (if z_10 = x2 then (f_X6_fail fu r_fault r_place t_kind t_start 5).bind fun z_14 => some ((-1), z_14.2.1, z_14.2.2, t_kind, t_start, t_value, t_word, t_name, t_at) else (f_X7_next fu t_bytes t_wordCodes t_kind t_start t_value t_word t_name t_end t_at).bind fun z_13 => some (z_10, r_fault, r_place, z_13.1, z_13.2.1, z_13.2.2.1, z_13.2.2.2.1, z_13.2.2.2.2.1, z_13.2.2.2.2.2))))
abbrev rm_X6_takeMan : Room := { frames := 2, cells := 0, slots := 0, locals := 43 }
set_option maxHeartbeats 4000000 in
set_option maxRecDepth 100000 in
theorem c_X6_takeMan (l : Launch) (D : va_G) (cy : Nat → ClassId) (fu : Nat) (A_r : Nat → Nat) (r_fault : Int32) (r_place : Int32) (A_t : Nat → Nat) (t_bytes : Nat → Int32) (t_wordCodes : Nat → Int64) (t_length : Int32) (t_kind : Int32) (t_start : Int32) (t_value : Int32) (t_word : Int32) (t_name : Int64) (t_end : Int32) (t_at : Int32) (A_a : Nat → Nat) (a_name : Nat → Int64) (a_courage : Nat → Int32) (a_weight : Nat → Int32) (a_medals : Nat → Int32) (a_stood : Nat → Int32) (a_fled : Nat → Int32) (a_liked : Nat → Int32) (a_votes : Nat → Int32) (a_count : Int32) (a_living : Int32) (a_pride : Int32) (a_quota : Int32) (a_melted : Int32) (a_lost : Int32) (x2 : Int32) (res : Int32 × Int32 × Int32 × Int32 × Int32 × Int32 × Int32 × Int64 × Int32) (h : f_X6_takeMan fu r_fault r_place t_bytes t_wordCodes t_kind t_start t_value t_word t_name t_end t_at a_name a_count x2 = some res) (A : Nat → Prop) (hA : A = adr [bl_X6 cy A_r (A_t 0) r_fault r_place, bl_X7 cy A_t t_bytes t_wordCodes t_length t_kind t_start t_value t_word t_name t_end t_at, bl_X0 cy A_a a_name a_courage a_weight a_medals a_stood a_fled a_liked a_votes a_count a_living a_pride a_quota a_melted a_lost]) (W1 : List va_W) (hW1 : W1 = [bl_X6 cy A_r (A_t 0) res.2.1 res.2.2.1, bl_X7 cy A_t t_bytes t_wordCodes t_length res.2.2.2.1 res.2.2.2.2.1 res.2.2.2.2.2.1 res.2.2.2.2.2.2.1 res.2.2.2.2.2.2.2.1 t_end res.2.2.2.2.2.2.2.2, bl_X0 cy A_a a_name a_courage a_weight a_medals a_stood a_fled a_liked a_votes a_count a_living a_pride a_quota a_melted a_lost]) : Met l yX6_takeMan (WW yX6_takeMan cX6_takeMan 4 (some .int)) rm_X6_takeMan (Ed D cy [.ref (A_r 0), .ref (A_a 0), .int x2] [bl_X6 cy A_r (A_t 0) r_fault r_place, bl_X7 cy A_t t_bytes t_wordCodes t_length t_kind t_start t_value t_word t_name t_end t_at, bl_X0 cy A_a a_name a_courage a_weight a_medals a_stood a_fled a_liked a_votes a_count a_living a_pride a_quota a_melted a_lost]) (Qei D res.1 A W1) 0 0 A := by
  refine Met.ofW (cc := cX6_takeMan) (maxL := 4) (ret := (some .int)) (by decide) rfl ?_
  intro p e s m args below meth c s₁ B hml hv
  obtain ⟨hargs, hP, hX, hD0⟩ := hv
  have hx := B.exec
  have hb := B.bytes
  have hr := B.returns
  have ht : ∀ w ∈ lw_gd, w.before args s = true := fun w hw => atoms_spec (ws := WW yX6_takeMan cX6_takeMan 4 (some .int)) B.pre w (List.mem_cons_of_mem _ hw)
  have hown : s.vm.findClass RX6 = some m.cls := findClass_of_methodNamed B.named
  have hlocks := B.notSynchronized
  have hP : PD D A [bl_X6 cy A_r (A_t 0) r_fault r_place, bl_X7 cy A_t t_bytes t_wordCodes t_length t_kind t_start t_value t_word t_name t_end t_at, bl_X0 cy A_a a_name a_courage a_weight a_medals a_stood a_fled a_liked a_votes a_count a_living a_pride a_quota a_melted a_lost] s.heap := ⟨hP, by rw [hA]; exact hD0.own⟩
  have hS : va_S A s.heap s.heap [] := va_S.rf
  obtain ⟨ls, hl, hent⟩ := ent (m := m) (n := 4) hargs (Nat.le_of_ble_eq_true rfl) (lv := [(0, .ref (A_r 0)), (1, .ref (A_a 0)), (2, .int x2)]) rfl
  rw [hent]
  clear hent
  unfold f_X6_takeMan at h
  refine lv_aload_n hx hb dX6_takeMan_0 rfl (lv_at hl 0 rfl) ?_
  refine xget (i := 0) (j := 0) (k := 0) (T := TX6) hx hb ht tb_iX6 hown hX hP.1 rfl rfl rfl (by decide) tb_260 rfl dX6_takeMan_1 ?_
  refine xget (i := 1) (j := 0) (k := 7) (T := TX7) hx hb ht tb_iX7 hown hX hP.1 rfl rfl rfl (by decide) tb_235 rfl dX6_takeMan_4 ?_
  refine lv_lconst (v := 0) hx hb dX6_takeMan_7 (by decide) ?_
  refine W.lcmp hx hb dX6_takeMan_8 ?_
  refine lv_if_ne (tgt := 20) hx hb dX6_takeMan_9 (by decide) (fun c_9 => ?_) (fun c_9 => ?_)
  · have h := ie c_9 h
    refine lv_aload_n hx hb dX6_takeMan_20 rfl (lv_at hl 1 rfl) ?_
    refine lv_aload_n hx hb dX6_takeMan_21 rfl (lv_at hl 0 rfl) ?_
    refine xget (i := 0) (j := 0) (k := 0) (T := TX6) hx hb ht tb_iX6 hown hX hP.1 rfl rfl rfl (by decide) tb_260 rfl dX6_takeMan_22 ?_
    refine xget (i := 1) (j := 0) (k := 7) (T := TX7) hx hb ht tb_iX7 hown hX hP.1 rfl rfl rfl (by decide) tb_235 rfl dX6_takeMan_25 ?_
    obtain ⟨z_10, e_z_10, h⟩ := bi h
    refine roVi (rest := []) ⟨hx, hb, hml, hown, ht⟩ (c_X0_named l D cy fu A_a a_name a_courage a_weight a_medals a_stood a_fled a_liked a_votes a_count a_living a_pride a_quota a_melted a_lost t_name z_10 e_z_10) (cV ht mv_X0_named tb_678 rfl rfl ⟨Nat.le_of_ble_eq_true rfl, Nat.le_of_ble_eq_true rfl⟩) (P_sub hP.1 [2] rfl) hX rfl rfl rfl hl.1 rfl (Nat.le_of_ble_eq_true rfl) dX6_takeMan_28 ⟨Nat.le_of_ble_eq_true rfl, Nat.le_of_ble_eq_true rfl⟩ ?_
    refine lv_istore_n (lv' := [(3, .int z_10), (0, .ref (A_r 0)), (1, .ref (A_a 0)), (2, .int x2)]) hx hb dX6_takeMan_31 rfl hl (by decide) rfl (fun ls hl => ?_)
    refine lv_iload_n hx hb dX6_takeMan_32 rfl (lv_at hl 0 rfl) ?_
    refine lv_iconst (v := (-1)) hx hb dX6_takeMan_33 (by decide) ?_
    refine lv_icmp_ne (tgt := 45) hx hb dX6_takeMan_34 (by decide) (fun c_11 => ?_) (fun c_11 => ?_)
    · have h := ie c_11 h
      refine lv_iload_n hx hb dX6_takeMan_45 rfl (lv_at hl 0 rfl) ?_
      refine lv_iload_n hx hb dX6_takeMan_46 rfl (lv_at hl 3 rfl) ?_
      refine lv_icmp_ne (tgt := 58) hx hb dX6_takeMan_47 (by decide) (fun c_12 => ?_) (fun c_12 => ?_)
      · have h := ie c_12 h
        refine lv_aload_n hx hb dX6_takeMan_58 rfl (lv_at hl 1 rfl) ?_
        refine xget (i := 0) (j := 0) (k := 0) (T := TX6) hx hb ht tb_iX6 hown hX hP.1 rfl rfl rfl (by decide) tb_260 rfl dX6_takeMan_59 ?_
        obtain ⟨z_13, e_z_13, h⟩ := bi h
        refine efVv (rest := []) ⟨hx, hb, hml, hown, ht⟩ (c_X7_next l D cy fu A_t t_bytes t_wordCodes t_length t_kind t_start t_value t_word t_name t_end t_at z_13 e_z_13 _ rfl _ rfl) (cV ht mv_X7_next tb_588 rfl rfl ⟨Nat.le_of_ble_eq_true rfl, Nat.le_of_ble_eq_true rfl⟩) hP hS hX [1] rfl rfl rfl rfl rfl rfl hl.1 rfl (Nat.le_of_ble_eq_true rfl) dX6_takeMan_62 ⟨Nat.le_of_ble_eq_true rfl, Nat.le_of_ble_eq_true rfl⟩ (fun H locs hP hS => ?_)
        have hP : PD D A [bl_X6 cy A_r (A_t 0) r_fault r_place, bl_X7 cy A_t t_bytes t_wordCodes t_length z_13.1 z_13.2.1 z_13.2.2.1 z_13.2.2.2.1 z_13.2.2.2.2.1 t_end z_13.2.2.2.2.2, bl_X0 cy A_a a_name a_courage a_weight a_medals a_stood a_fled a_liked a_votes a_count a_living a_pride a_quota a_melted a_lost] H := hP
        refine lv_iload_n hx hb dX6_takeMan_65 rfl (lv_at hl 0 rfl) ?_
        cases h
        subst hW1
        exact W.iret hx hb hr (fun _ ht9 _ => ⟨⟨_, (), rfl, rfl, hPt ht9 hP.1⟩, hS.F ht9⟩) hS.2.2 dX6_takeMan_66
      · have h := it c_12 h
        refine lv_aload_n hx hb dX6_takeMan_50 rfl (lv_at hl 1 rfl) ?_
        refine lv_iconst (v := 5) hx hb dX6_takeMan_51 (by decide) ?_
        obtain ⟨z_14, e_z_14, h⟩ := bi h
        refine efVi (rest := []) ⟨hx, hb, hml, hown, ht⟩ (c_X6_fail l D cy fu A_r r_fault r_place A_t t_bytes t_wordCodes t_length t_kind t_start t_value t_word t_name t_end t_at 5 z_14 e_z_14 _ rfl _ rfl) (cV ht mv_X6_fail tb_635 rfl rfl ⟨Nat.le_of_ble_eq_true rfl, Nat.le_of_ble_eq_true rfl⟩) hP hS hX [0, 1] rfl rfl rfl rfl rfl rfl hl.1 rfl (Nat.le_of_ble_eq_true rfl) dX6_takeMan_52 ⟨Nat.le_of_ble_eq_true rfl, Nat.le_of_ble_eq_true rfl⟩ (fun H locs hP hS => ?_)
        have hP : PD D A [bl_X6 cy A_r (A_t 0) z_14.2.1 z_14.2.2, bl_X7 cy A_t t_bytes t_wordCodes t_length t_kind t_start t_value t_word t_name t_end t_at, bl_X0 cy A_a a_name a_courage a_weight a_medals a_stood a_fled a_liked a_votes a_count a_living a_pride a_quota a_melted a_lost] H := hP
        refine lv_pop hx hb dX6_takeMan_55 rfl ?_
        refine lv_iconst (v := (-1)) hx hb dX6_takeMan_56 (by decide) ?_
        cases h
        subst hW1
        exact W.iret hx hb hr (fun _ ht9 _ => ⟨⟨_, (), rfl, rfl, hPt ht9 hP.1⟩, hS.F ht9⟩) hS.2.2 dX6_takeMan_57
    · have h := it c_11 h
      refine lv_aload_n hx hb dX6_takeMan_37 rfl (lv_at hl 1 rfl) ?_
      refine lv_iconst (v := 3) hx hb dX6_takeMan_38 (by decide) ?_
      obtain ⟨z_15, e_z_15, h⟩ := bi h
      refine efVi (rest := []) ⟨hx, hb, hml, hown, ht⟩ (c_X6_fail l D cy fu A_r r_fault r_place A_t t_bytes t_wordCodes t_length t_kind t_start t_value t_word t_name t_end t_at 3 z_15 e_z_15 _ rfl _ rfl) (cV ht mv_X6_fail tb_635 rfl rfl ⟨Nat.le_of_ble_eq_true rfl, Nat.le_of_ble_eq_true rfl⟩) hP hS hX [0, 1] rfl rfl rfl rfl rfl rfl hl.1 rfl (Nat.le_of_ble_eq_true rfl) dX6_takeMan_39 ⟨Nat.le_of_ble_eq_true rfl, Nat.le_of_ble_eq_true rfl⟩ (fun H locs hP hS => ?_)
      have hP : PD D A [bl_X6 cy A_r (A_t 0) z_15.2.1 z_15.2.2, bl_X7 cy A_t t_bytes t_wordCodes t_length t_kind t_start t_value t_word t_name t_end t_at, bl_X0 cy A_a a_name a_courage a_weight a_medals a_stood a_fled a_liked a_votes a_count a_living a_pride a_quota a_melted a_lost] H := hP
      refine lv_pop hx hb dX6_takeMan_42 rfl ?_
      refine lv_iconst (v := (-1)) hx hb dX6_takeMan_43 (by decide) ?_
      cases h
      subst hW1
      exact W.iret hx hb hr (fun _ ht9 _ => ⟨⟨_, (), rfl, rfl, hPt ht9 hP.1⟩, hS.F ht9⟩) hS.2.2 dX6_takeMan_44
  · have h := it c_9 h
    refine lv_aload_n hx hb dX6_takeMan_12 rfl (lv_at hl 0 rfl) ?_
    refine lv_iconst (v := 2) hx hb dX6_takeMan_13 (by decide) ?_
    obtain ⟨z_16, e_z_16, h⟩ := bi h
    refine efVi (rest := []) ⟨hx, hb, hml, hown, ht⟩ (c_X6_fail l D cy fu A_r r_fault r_place A_t t_bytes t_wordCodes t_length t_kind t_start t_value t_word t_name t_end t_at 2 z_16 e_z_16 _ rfl _ rfl) (cV ht mv_X6_fail tb_635 rfl rfl ⟨Nat.le_of_ble_eq_true rfl, Nat.le_of_ble_eq_true rfl⟩) hP hS hX [0, 1] rfl rfl rfl rfl rfl rfl hl.1 rfl (Nat.le_of_ble_eq_true rfl) dX6_takeMan_14 ⟨Nat.le_of_ble_eq_true rfl, Nat.le_of_ble_eq_true rfl⟩ (fun H locs hP hS => ?_)
    have hP : PD D A [bl_X6 cy A_r (A_t 0) z_16.2.1 z_16.2.2, bl_X7 cy A_t t_bytes t_wordCodes t_length t_kind t_start t_value t_word t_name t_end t_at, bl_X0 cy A_a a_name a_courage a_weight a_medals a_stood a_fled a_liked a_votes a_count a_living a_pride a_quota a_melted a_lost] H := hP
    refine lv_pop hx hb dX6_takeMan_17 rfl ?_
    refine lv_iconst (v := (-1)) hx hb dX6_takeMan_18 (by decide) ?_
    cases h
    subst hW1
    exact W.iret hx hb hr (fun _ ht9 _ => ⟨⟨_, (), rfl, rfl, hPt ht9 hP.1⟩, hS.F ht9⟩) hS.2.2 dX6_takeMan_19
theorem dX1_takePride_0 : decode cX1_takePride 0 = .ok (.aload_n 0, 1) := by decide +kernel
theorem dX1_takePride_1 : decode cX1_takePride 1 = .ok (.getfield 9, 3) := by decide +kernel
theorem dX1_takePride_4 : decode cX1_takePride 4 = .ok (.ifCond .eq 12, 3) := by decide +kernel
theorem dX1_takePride_7 : decode cX1_takePride 7 = .ok (.aload_n 0, 1) := by decide +kernel
theorem dX1_takePride_8 : decode cX1_takePride 8 = .ok (.getfield 18, 3) := by decide +kernel
theorem dX1_takePride_11 : decode cX1_takePride 11 = .ok (.iconst 5, 1) := by decide +kernel
theorem dX1_takePride_12 : decode cX1_takePride 12 = .ok (.invokevirtual 59, 3) := by decide +kernel
theorem dX1_takePride_15 : decode cX1_takePride 15 = .ok (.ireturn, 1) := by decide +kernel
theorem dX1_takePride_16 : decode cX1_takePride 16 = .ok (.aload_n 0, 1) := by decide +kernel
theorem dX1_takePride_17 : decode cX1_takePride 17 = .ok (.iconst 1, 1) := by decide +kernel
theorem dX1_takePride_18 : decode cX1_takePride 18 = .ok (.putfield 9, 3) := by decide +kernel
theorem dX1_takePride_21 : decode cX1_takePride 21 = .ok (.aload_n 0, 1) := by decide +kernel
theorem dX1_takePride_22 : decode cX1_takePride 22 = .ok (.getfield 18, 3) := by decide +kernel
theorem dX1_takePride_25 : decode cX1_takePride 25 = .ok (.getfield 37, 3) := by decide +kernel
theorem dX1_takePride_28 : decode cX1_takePride 28 = .ok (.invokevirtual 63, 3) := by decide +kernel
theorem dX1_takePride_31 : decode cX1_takePride 31 = .ok (.aload_n 0, 1) := by decide +kernel
theorem dX1_takePride_32 : decode cX1_takePride 32 = .ok (.getfield 22, 3) := by decide +kernel
theorem dX1_takePride_35 : decode cX1_takePride 35 = .ok (.aload_n 0, 1) := by decide +kernel
theorem dX1_takePride_36 : decode cX1_takePride 36 = .ok (.getfield 18, 3) := by decide +kernel
theorem dX1_takePride_39 : decode cX1_takePride 39 = .ok (.iconst 0, 1) := by decide +kernel
theorem dX1_takePride_40 : decode cX1_takePride 40 = .ok (.bipush 9, 2) := by decide +kernel
theorem dX1_takePride_42 : decode cX1_takePride 42 = .ok (.invokevirtual 66, 3) := by decide +kernel
theorem dX1_takePride_45 : decode cX1_takePride 45 = .ok (.putfield 70, 3) := by decide +kernel
theorem dX1_takePride_48 : decode cX1_takePride 48 = .ok (.aload_n 0, 1) := by decide +kernel
theorem dX1_takePride_49 : decode cX1_takePride 49 = .ok (.getfield 22, 3) := by decide +kernel
theorem dX1_takePride_52 : decode cX1_takePride 52 = .ok (.getfield 70, 3) := by decide +kernel
theorem dX1_takePride_55 : decode cX1_takePride 55 = .ok (.iconst (-1), 1) := by decide +kernel
theorem dX1_takePride_56 : decode cX1_takePride 56 = .ok (.if_icmp .eq 19, 3) := by decide +kernel
theorem dX1_takePride_59 : decode cX1_takePride 59 = .ok (.aload_n 0, 1) := by decide +kernel
theorem dX1_takePride_60 : decode cX1_takePride 60 = .ok (.getfield 18, 3) := by decide +kernel
theorem dX1_takePride_63 : decode cX1_takePride 63 = .ok (.bipush 59, 2) := by decide +kernel
theorem dX1_takePride_65 : decode cX1_takePride 65 = .ok (.invokevirtual 73, 3) := by decide +kernel
theorem dX1_takePride_68 : decode cX1_takePride 68 = .ok (.ifCond .eq 7, 3) := by decide +kernel
theorem dX1_takePride_71 : decode cX1_takePride 71 = .ok (.iconst 1, 1) := by decide +kernel
theorem dX1_takePride_72 : decode cX1_takePride 72 = .ok (.goto 4, 3) := by decide +kernel
theorem dX1_takePride_75 : decode cX1_takePride 75 = .ok (.iconst 0, 1) := by decide +kernel
theorem dX1_takePride_76 : decode cX1_takePride 76 = .ok (.ireturn, 1) := by decide +kernel
theorem mv_X1_takePride : MV yX1_takePride RX1 cX1_takePride 1 (some .boolean) 0 := ⟨tb_625, tb_624, ts_8, tb_10, by decide +kernel, by decide +kernel, by decide +kernel⟩
def f_X1_takePride (fu : Nat) (k_prideTold : Int32) (r_fault : Int32) (r_place : Int32) (t_bytes : Nat → Int32) (t_wordCodes : Nat → Int64) (t_kind : Int32) (t_start : Int32) (t_value : Int32) (t_word : Int32) (t_name : Int64) (t_end : Int32) (t_at : Int32) (a_pride : Int32) : Option (Int32 × Int32 × Int32 × Int32 × Int32 × Int32 × Int32 × Int32 × Int64 × Int32 × Int32) := (if k_prideTold = 0 then (f_X7_next fu t_bytes t_wordCodes t_kind t_start t_value t_word t_name t_end t_at).bind fun z_10 => (f_X6_takeNumber fu r_fault r_place t_bytes t_wordCodes z_10.1 z_10.2.1 z_10.2.2.1 z_10.2.2.2.1 z_10.2.2.2.2.1 t_end z_10.2.2.2.2.2 0 9).bind fun z_11 => (if z_11.1 = (-1) then some (0, 1, z_11.2.1, z_11.2.2.1, z_11.2.2.2.1, z_11.2.2.2.2.1, z_11.2.2.2.2.2.1, z_11.2.2.2.2.2.2.1, z_11.2.2.2.2.2.2.2.1, z_11.2.2.2.2.2.2.2.2, z_11.1) else (f_X6_takeSign fu z_11.2.1 z_11.2.2.1 t_bytes t_wordCodes z_11.2.2.2.1 z_11.2.2.2.2.1 z_11.2.2.2.2.2.1 z_11.2.2.2.2.2.2.1 z_11.2.2.2.2.2.2.2.1 t_end z_11.2.2.2.2.2.2.2.2 59).bind fun z_13 => (if z_13.1 = 0 then some (0, 1, z_13.2.1, z_13.2.2.1, z_13.2.2.2.1, z_13.2.2.2.2.1, z_13.2.2.2.2.2.1, z_13.2.2.2.2.2.2.1, z_13.2.2.2.2.2.2.2.1, z_13.2.2.2.2.2.2.2.2, z_11.1) else some (1, 1, z_13.2.1, z_13.2.2.1, z_13.2.2.2.1, z_13.2.2.2.2.1, z_13.2.2.2.2.2.1, z_13.2.2.2.2.2.2.1, z_13.2.2.2.2.2.2.2.1, z_13.2.2.2.2.2.2.2.2, z_11.1))) else (f_X6_fail fu r_fault r_place t_kind t_start 5).bind fun z_15 => (bz z_15.1).bind fun _ => some (z_15.1, k_prideTold, z_15.2.1, z_15.2.2, t_kind, t_start, t_value, t_word, t_name, t_at, a_pride))
abbrev rm_X1_takePride : Room := { frames := 3, cells := 0, slots := 0, locals := 66 }
set_option maxHeartbeats 4000000 in
set_option maxRecDepth 100000 in
theorem c_X1_takePride (l : Launch) (D : va_G) (cy : Nat → ClassId) (fu : Nat) (A_k : Nat → Nat) (k_prideTold : Int32) (k_quotaTold : Int32) (A_r : Nat → Nat) (r_fault : Int32) (r_place : Int32) (A_t : Nat → Nat) (t_bytes : Nat → Int32) (t_wordCodes : Nat → Int64) (t_length : Int32) (t_kind : Int32) (t_start : Int32) (t_value : Int32) (t_word : Int32) (t_name : Int64) (t_end : Int32) (t_at : Int32) (A_a : Nat → Nat) (a_name : Nat → Int64) (a_courage : Nat → Int32) (a_weight : Nat → Int32) (a_medals : Nat → Int32) (a_stood : Nat → Int32) (a_fled : Nat → Int32) (a_liked : Nat → Int32) (a_votes : Nat → Int32) (a_count : Int32) (a_living : Int32) (a_pride : Int32) (a_quota : Int32) (a_melted : Int32) (a_lost : Int32) (res : Int32 × Int32 × Int32 × Int32 × Int32 × Int32 × Int32 × Int32 × Int64 × Int32 × Int32) (h : f_X1_takePride fu k_prideTold r_fault r_place t_bytes t_wordCodes t_kind t_start t_value t_word t_name t_end t_at a_pride = some res) (A : Nat → Prop) (hA : A = adr [bl_X1 cy A_k (A_r 0) (A_a 0) k_prideTold k_quotaTold, bl_X6 cy A_r (A_t 0) r_fault r_place, bl_X7 cy A_t t_bytes t_wordCodes t_length t_kind t_start t_value t_word t_name t_end t_at, bl_X0 cy A_a a_name a_courage a_weight a_medals a_stood a_fled a_liked a_votes a_count a_living a_pride a_quota a_melted a_lost]) (W1 : List va_W) (hW1 : W1 = [bl_X1 cy A_k (A_r 0) (A_a 0) res.2.1 k_quotaTold, bl_X6 cy A_r (A_t 0) res.2.2.1 res.2.2.2.1, bl_X7 cy A_t t_bytes t_wordCodes t_length res.2.2.2.2.1 res.2.2.2.2.2.1 res.2.2.2.2.2.2.1 res.2.2.2.2.2.2.2.1 res.2.2.2.2.2.2.2.2.1 t_end res.2.2.2.2.2.2.2.2.2.1, bl_X0 cy A_a a_name a_courage a_weight a_medals a_stood a_fled a_liked a_votes a_count a_living res.2.2.2.2.2.2.2.2.2.2 a_quota a_melted a_lost]) : Met l yX1_takePride (WW yX1_takePride cX1_takePride 1 (some .boolean)) rm_X1_takePride (Ed D cy [.ref (A_k 0)] [bl_X1 cy A_k (A_r 0) (A_a 0) k_prideTold k_quotaTold, bl_X6 cy A_r (A_t 0) r_fault r_place, bl_X7 cy A_t t_bytes t_wordCodes t_length t_kind t_start t_value t_word t_name t_end t_at, bl_X0 cy A_a a_name a_courage a_weight a_medals a_stood a_fled a_liked a_votes a_count a_living a_pride a_quota a_melted a_lost]) (Qei D res.1 A W1) 0 0 A := by
  refine Met.ofW (cc := cX1_takePride) (maxL := 1) (ret := (some .boolean)) (by decide) rfl ?_
  intro p e s m args below meth c s₁ B hml hv
  obtain ⟨hargs, hP, hX, hD0⟩ := hv
  have hx := B.exec
  have hb := B.bytes
  have hr := B.returns
  have ht : ∀ w ∈ lw_gd, w.before args s = true := fun w hw => atoms_spec (ws := WW yX1_takePride cX1_takePride 1 (some .boolean)) B.pre w (List.mem_cons_of_mem _ hw)
  have hown : s.vm.findClass RX1 = some m.cls := findClass_of_methodNamed B.named
  have hlocks := B.notSynchronized
  have hP : PD D A [bl_X1 cy A_k (A_r 0) (A_a 0) k_prideTold k_quotaTold, bl_X6 cy A_r (A_t 0) r_fault r_place, bl_X7 cy A_t t_bytes t_wordCodes t_length t_kind t_start t_value t_word t_name t_end t_at, bl_X0 cy A_a a_name a_courage a_weight a_medals a_stood a_fled a_liked a_votes a_count a_living a_pride a_quota a_melted a_lost] s.heap := ⟨hP, by rw [hA]; exact hD0.own⟩
  have hS : va_S A s.heap s.heap [] := va_S.rf
  obtain ⟨ls, hl, hent⟩ := ent (m := m) (n := 1) hargs (Nat.le_of_ble_eq_true rfl) (lv := [(0, .ref (A_k 0))]) rfl
  rw [hent]
  clear hent
  unfold f_X1_takePride at h
  refine lv_aload_n hx hb dX1_takePride_0 rfl (lv_at hl 0 rfl) ?_
  refine xget (i := 0) (j := 0) (k := 2) (T := TX1) hx hb ht tb_iX1 hown hX hP.1 rfl rfl rfl (by decide) tb_283 rfl dX1_takePride_1 ?_
  refine lv_if_eq (tgt := 16) hx hb dX1_takePride_4 (by decide) (fun c_9 => ?_) (fun c_9 => ?_)
  · have h := it c_9 h
    refine lv_aload_n hx hb dX1_takePride_16 rfl (lv_at hl 0 rfl) ?_
    refine lv_iconst (v := 1) hx hb dX1_takePride_17 (by decide) ?_
    refine xput (i := 0) (j := 0) (k := 2) (T := TX1) tyX1 tyX1_ok nmX1 hx hb ht tb_iX1 hown hX hP hS rfl rfl rfl (by decide) tb_283 rfl rfl rfl (Nat.le_of_ble_eq_true rfl) dX1_takePride_18 (fun H locs hP hS => ?_)
    have hP : PD D A [bl_X1 cy A_k (A_r 0) (A_a 0) 1 k_quotaTold, bl_X6 cy A_r (A_t 0) r_fault r_place, bl_X7 cy A_t t_bytes t_wordCodes t_length t_kind t_start t_value t_word t_name t_end t_at, bl_X0 cy A_a a_name a_courage a_weight a_medals a_stood a_fled a_liked a_votes a_count a_living a_pride a_quota a_melted a_lost] H := hP
    refine lv_aload_n hx hb dX1_takePride_21 rfl (lv_at hl 0 rfl) ?_
    refine xget (i := 0) (j := 0) (k := 0) (T := TX1) hx hb ht tb_iX1 hown hX hP.1 rfl rfl rfl (by decide) tb_281 rfl dX1_takePride_22 ?_
    refine xget (i := 1) (j := 0) (k := 0) (T := TX6) hx hb ht tb_iX6 hown hX hP.1 rfl rfl rfl (by decide) tb_261 rfl dX1_takePride_25 ?_
    obtain ⟨z_10, e_z_10, h⟩ := bi h
    refine efVv (rest := []) ⟨hx, hb, hml, hown, ht⟩ (c_X7_next l D cy fu A_t t_bytes t_wordCodes t_length t_kind t_start t_value t_word t_name t_end t_at z_10 e_z_10 _ rfl _ rfl) (cV ht mv_X7_next tb_630 rfl rfl ⟨Nat.le_of_ble_eq_true rfl, Nat.le_of_ble_eq_true rfl⟩) hP hS hX [2] rfl rfl rfl rfl rfl rfl hl.1 rfl (Nat.le_of_ble_eq_true rfl) dX1_takePride_28 ⟨Nat.le_of_ble_eq_true rfl, Nat.le_of_ble_eq_true rfl⟩ (fun H locs hP hS => ?_)
    have hP : PD D A [bl_X1 cy A_k (A_r 0) (A_a 0) 1 k_quotaTold, bl_X6 cy A_r (A_t 0) r_fault r_place, bl_X7 cy A_t t_bytes t_wordCodes t_length z_10.1 z_10.2.1 z_10.2.2.1 z_10.2.2.2.1 z_10.2.2.2.2.1 t_end z_10.2.2.2.2.2, bl_X0 cy A_a a_name a_courage a_weight a_medals a_stood a_fled a_liked a_votes a_count a_living a_pride a_quota a_melted a_lost] H := hP
    refine lv_aload_n hx hb dX1_takePride_31 rfl (lv_at hl 0 rfl) ?_
    refine xget (i := 0) (j := 0) (k := 1) (T := TX1) hx hb ht tb_iX1 hown hX hP.1 rfl rfl rfl (by decide) tb_282 rfl dX1_takePride_32 ?_
    refine lv_aload_n hx hb dX1_takePride_35 rfl (lv_at hl 0 rfl) ?_
    refine xget (i := 0) (j := 0) (k := 0) (T := TX1) hx hb ht tb_iX1 hown hX hP.1 rfl rfl rfl (by decide) tb_281 rfl dX1_takePride_36 ?_
    refine lv_iconst (v := 0) hx hb dX1_takePride_39 (by decide) ?_
    refine lv_bipush (v := 9) hx hb dX1_takePride_40 (by decide) ?_
    obtain ⟨z_11, e_z_11, h⟩ := bi h
    refine efVi (rest := [.ref (A_a 0)]) ⟨hx, hb, hml, hown, ht⟩ (c_X6_takeNumber l D cy fu A_r r_fault r_place A_t t_bytes t_wordCodes t_length z_10.1 z_10.2.1 z_10.2.2.1 z_10.2.2.2.1 z_10.2.2.2.2.1 t_end z_10.2.2.2.2.2 0 9 z_11 e_z_11 _ rfl _ rfl) (cV ht mv_X6_takeNumber tb_631 rfl rfl ⟨Nat.le_of_ble_eq_true rfl, Nat.le_of_ble_eq_true rfl⟩) hP hS hX [1, 2] rfl rfl rfl rfl rfl rfl hl.1 rfl (Nat.le_of_ble_eq_true rfl) dX1_takePride_42 ⟨Nat.le_of_ble_eq_true rfl, Nat.le_of_ble_eq_true rfl⟩ (fun H locs hP hS => ?_)
    have hP : PD D A [bl_X1 cy A_k (A_r 0) (A_a 0) 1 k_quotaTold, bl_X6 cy A_r (A_t 0) z_11.2.1 z_11.2.2.1, bl_X7 cy A_t t_bytes t_wordCodes t_length z_11.2.2.2.1 z_11.2.2.2.2.1 z_11.2.2.2.2.2.1 z_11.2.2.2.2.2.2.1 z_11.2.2.2.2.2.2.2.1 t_end z_11.2.2.2.2.2.2.2.2, bl_X0 cy A_a a_name a_courage a_weight a_medals a_stood a_fled a_liked a_votes a_count a_living a_pride a_quota a_melted a_lost] H := hP
    refine xput (i := 3) (j := 0) (k := 10) (T := TX0) tyX0 tyX0_ok nmX0 hx hb ht tb_iX0 hown hX hP hS rfl rfl rfl (by decide) tb_66 rfl rfl rfl (Nat.le_of_ble_eq_true rfl) dX1_takePride_45 (fun H locs hP hS => ?_)
    have hP : PD D A [bl_X1 cy A_k (A_r 0) (A_a 0) 1 k_quotaTold, bl_X6 cy A_r (A_t 0) z_11.2.1 z_11.2.2.1, bl_X7 cy A_t t_bytes t_wordCodes t_length z_11.2.2.2.1 z_11.2.2.2.2.1 z_11.2.2.2.2.2.1 z_11.2.2.2.2.2.2.1 z_11.2.2.2.2.2.2.2.1 t_end z_11.2.2.2.2.2.2.2.2, bl_X0 cy A_a a_name a_courage a_weight a_medals a_stood a_fled a_liked a_votes a_count a_living z_11.1 a_quota a_melted a_lost] H := hP
    refine lv_aload_n hx hb dX1_takePride_48 rfl (lv_at hl 0 rfl) ?_
    refine xget (i := 0) (j := 0) (k := 1) (T := TX1) hx hb ht tb_iX1 hown hX hP.1 rfl rfl rfl (by decide) tb_282 rfl dX1_takePride_49 ?_
    refine xget (i := 3) (j := 0) (k := 10) (T := TX0) hx hb ht tb_iX0 hown hX hP.1 rfl rfl rfl (by decide) tb_66 rfl dX1_takePride_52 ?_
    refine lv_iconst (v := (-1)) hx hb dX1_takePride_55 (by decide) ?_
    refine lv_icmp_eq (tgt := 75) hx hb dX1_takePride_56 (by decide) (fun c_12 => ?_) (fun c_12 => ?_)
    · have h := it c_12 h
      refine lv_iconst (v := 0) hx hb dX1_takePride_75 (by decide) ?_
      cases h
      subst hW1
      exact W.zret hx hb hr rfl (fun _ ht9 _ => ⟨⟨_, (), rfl, rfl, hPt ht9 hP.1⟩, hS.F ht9⟩) hS.2.2 dX1_takePride_76
    · have h := ie c_12 h
      refine lv_aload_n hx hb dX1_takePride_59 rfl (lv_at hl 0 rfl) ?_
      refine xget (i := 0) (j := 0) (k := 0) (T := TX1) hx hb ht tb_iX1 hown hX hP.1 rfl rfl rfl (by decide) tb_281 rfl dX1_takePride_60 ?_
      refine lv_bipush (v := 59) hx hb dX1_takePride_63 (by decide) ?_
      obtain ⟨z_13, e_z_13, h⟩ := bi h
      refine efVi (rest := []) ⟨hx, hb, hml, hown, ht⟩ (c_X6_takeSign l D cy fu A_r z_11.2.1 z_11.2.2.1 A_t t_bytes t_wordCodes t_length z_11.2.2.2.1 z_11.2.2.2.2.1 z_11.2.2.2.2.2.1 z_11.2.2.2.2.2.2.1 z_11.2.2.2.2.2.2.2.1 t_end z_11.2.2.2.2.2.2.2.2 59 z_13 e_z_13 _ rfl _ rfl) (cV ht mv_X6_takeSign tb_637 rfl rfl ⟨Nat.le_of_ble_eq_true rfl, Nat.le_of_ble_eq_true rfl⟩) hP hS hX [1, 2] rfl rfl rfl rfl rfl rfl hl.1 rfl (Nat.le_of_ble_eq_true rfl) dX1_takePride_65 ⟨Nat.le_of_ble_eq_true rfl, Nat.le_of_ble_eq_true rfl⟩ (fun H locs hP hS => ?_)
      have hP : PD D A [bl_X1 cy A_k (A_r 0) (A_a 0) 1 k_quotaTold, bl_X6 cy A_r (A_t 0) z_13.2.1 z_13.2.2.1, bl_X7 cy A_t t_bytes t_wordCodes t_length z_13.2.2.2.1 z_13.2.2.2.2.1 z_13.2.2.2.2.2.1 z_13.2.2.2.2.2.2.1 z_13.2.2.2.2.2.2.2.1 t_end z_13.2.2.2.2.2.2.2.2, bl_X0 cy A_a a_name a_courage a_weight a_medals a_stood a_fled a_liked a_votes a_count a_living z_11.1 a_quota a_melted a_lost] H := hP
      refine lv_if_eq (tgt := 75) hx hb dX1_takePride_68 (by decide) (fun c_14 => ?_) (fun c_14 => ?_)
      · have h := it c_14 h
        refine lv_iconst (v := 0) hx hb dX1_takePride_75 (by decide) ?_
        cases h
        subst hW1
        exact W.zret hx hb hr rfl (fun _ ht9 _ => ⟨⟨_, (), rfl, rfl, hPt ht9 hP.1⟩, hS.F ht9⟩) hS.2.2 dX1_takePride_76
      · have h := ie c_14 h
        refine lv_iconst (v := 1) hx hb dX1_takePride_71 (by decide) ?_
        refine lv_goto (tgt := 76) hx hb dX1_takePride_72 (by decide) ?_
        cases h
        subst hW1
        exact W.zret hx hb hr rfl (fun _ ht9 _ => ⟨⟨_, (), rfl, rfl, hPt ht9 hP.1⟩, hS.F ht9⟩) hS.2.2 dX1_takePride_76
  · have h := ie c_9 h
    refine lv_aload_n hx hb dX1_takePride_7 rfl (lv_at hl 0 rfl) ?_
    refine xget (i := 0) (j := 0) (k := 0) (T := TX1) hx hb ht tb_iX1 hown hX hP.1 rfl rfl rfl (by decide) tb_281 rfl dX1_takePride_8 ?_
    refine lv_iconst (v := 5) hx hb dX1_takePride_11 (by decide) ?_
    obtain ⟨z_15, e_z_15, h⟩ := bi h
    refine efVi (rest := []) ⟨hx, hb, hml, hown, ht⟩ (c_X6_fail l D cy fu A_r r_fault r_place A_t t_bytes t_wordCodes t_length t_kind t_start t_value t_word t_name t_end t_at 5 z_15 e_z_15 _ rfl _ rfl) (cV ht mv_X6_fail tb_626 rfl rfl ⟨Nat.le_of_ble_eq_true rfl, Nat.le_of_ble_eq_true rfl⟩) hP hS hX [1, 2] rfl rfl rfl rfl rfl rfl hl.1 rfl (Nat.le_of_ble_eq_true rfl) dX1_takePride_12 ⟨Nat.le_of_ble_eq_true rfl, Nat.le_of_ble_eq_true rfl⟩ (fun H locs hP hS => ?_)
    have hP : PD D A [bl_X1 cy A_k (A_r 0) (A_a 0) k_prideTold k_quotaTold, bl_X6 cy A_r (A_t 0) z_15.2.1 z_15.2.2, bl_X7 cy A_t t_bytes t_wordCodes t_length t_kind t_start t_value t_word t_name t_end t_at, bl_X0 cy A_a a_name a_courage a_weight a_medals a_stood a_fled a_liked a_votes a_count a_living a_pride a_quota a_melted a_lost] H := hP
    obtain ⟨b_16, e_b_16, h⟩ := bi h
    obtain ⟨-, n_b_16, -⟩ := bz_ok e_b_16
    cases h
    subst hW1
    exact W.zret hx hb hr n_b_16 (fun _ ht9 _ => ⟨⟨_, (), rfl, rfl, hPt ht9 hP.1⟩, hS.F ht9⟩) hS.2.2 dX1_takePride_15
theorem dX1_takeQuota_0 : decode cX1_takeQuota 0 = .ok (.aload_n 0, 1) := by decide +kernel
theorem dX1_takeQuota_1 : decode cX1_takeQuota 1 = .ok (.getfield 15, 3) := by decide +kernel
theorem dX1_takeQuota_4 : decode cX1_takeQuota 4 = .ok (.ifCond .eq 12, 3) := by decide +kernel
theorem dX1_takeQuota_7 : decode cX1_takeQuota 7 = .ok (.aload_n 0, 1) := by decide +kernel
theorem dX1_takeQuota_8 : decode cX1_takeQuota 8 = .ok (.getfield 18, 3) := by decide +kernel
theorem dX1_takeQuota_11 : decode cX1_takeQuota 11 = .ok (.iconst 5, 1) := by decide +kernel
theorem dX1_takeQuota_12 : decode cX1_takeQuota 12 = .ok (.invokevirtual 59, 3) := by decide +kernel
theorem dX1_takeQuota_15 : decode cX1_takeQuota 15 = .ok (.ireturn, 1) := by decide +kernel
theorem dX1_takeQuota_16 : decode cX1_takeQuota 16 = .ok (.aload_n 0, 1) := by decide +kernel
theorem dX1_takeQuota_17 : decode cX1_takeQuota 17 = .ok (.iconst 1, 1) := by decide +kernel
theorem dX1_takeQuota_18 : decode cX1_takeQuota 18 = .ok (.putfield 15, 3) := by decide +kernel
theorem dX1_takeQuota_21 : decode cX1_takeQuota 21 = .ok (.aload_n 0, 1) := by decide +kernel
theorem dX1_takeQuota_22 : decode cX1_takeQuota 22 = .ok (.getfield 18, 3) := by decide +kernel
theorem dX1_takeQuota_25 : decode cX1_takeQuota 25 = .ok (.getfield 37, 3) := by decide +kernel
theorem dX1_takeQuota_28 : decode cX1_takeQuota 28 = .ok (.invokevirtual 63, 3) := by decide +kernel
theorem dX1_takeQuota_31 : decode cX1_takeQuota 31 = .ok (.aload_n 0, 1) := by decide +kernel
theorem dX1_takeQuota_32 : decode cX1_takeQuota 32 = .ok (.getfield 22, 3) := by decide +kernel
theorem dX1_takeQuota_35 : decode cX1_takeQuota 35 = .ok (.aload_n 0, 1) := by decide +kernel
theorem dX1_takeQuota_36 : decode cX1_takeQuota 36 = .ok (.getfield 18, 3) := by decide +kernel
theorem dX1_takeQuota_39 : decode cX1_takeQuota 39 = .ok (.iconst 1, 1) := by decide +kernel
theorem dX1_takeQuota_40 : decode cX1_takeQuota 40 = .ok (.bipush 99, 2) := by decide +kernel
theorem dX1_takeQuota_42 : decode cX1_takeQuota 42 = .ok (.invokevirtual 66, 3) := by decide +kernel
theorem dX1_takeQuota_45 : decode cX1_takeQuota 45 = .ok (.putfield 76, 3) := by decide +kernel
theorem dX1_takeQuota_48 : decode cX1_takeQuota 48 = .ok (.aload_n 0, 1) := by decide +kernel
theorem dX1_takeQuota_49 : decode cX1_takeQuota 49 = .ok (.getfield 22, 3) := by decide +kernel
theorem dX1_takeQuota_52 : decode cX1_takeQuota 52 = .ok (.getfield 76, 3) := by decide +kernel
theorem dX1_takeQuota_55 : decode cX1_takeQuota 55 = .ok (.iconst (-1), 1) := by decide +kernel
theorem dX1_takeQuota_56 : decode cX1_takeQuota 56 = .ok (.if_icmp .eq 19, 3) := by decide +kernel
theorem dX1_takeQuota_59 : decode cX1_takeQuota 59 = .ok (.aload_n 0, 1) := by decide +kernel
theorem dX1_takeQuota_60 : decode cX1_takeQuota 60 = .ok (.getfield 18, 3) := by decide +kernel
theorem dX1_takeQuota_63 : decode cX1_takeQuota 63 = .ok (.bipush 59, 2) := by decide +kernel
theorem dX1_takeQuota_65 : decode cX1_takeQuota 65 = .ok (.invokevirtual 73, 3) := by decide +kernel
theorem dX1_takeQuota_68 : decode cX1_takeQuota 68 = .ok (.ifCond .eq 7, 3) := by decide +kernel
theorem dX1_takeQuota_71 : decode cX1_takeQuota 71 = .ok (.iconst 1, 1) := by decide +kernel
theorem dX1_takeQuota_72 : decode cX1_takeQuota 72 = .ok (.goto 4, 3) := by decide +kernel
theorem dX1_takeQuota_75 : decode cX1_takeQuota 75 = .ok (.iconst 0, 1) := by decide +kernel
theorem dX1_takeQuota_76 : decode cX1_takeQuota 76 = .ok (.ireturn, 1) := by decide +kernel
theorem mv_X1_takeQuota : MV yX1_takeQuota RX1 cX1_takeQuota 1 (some .boolean) 0 := ⟨tb_648, tb_647, ts_9, tb_10, by decide +kernel, by decide +kernel, by decide +kernel⟩
def f_X1_takeQuota (fu : Nat) (k_quotaTold : Int32) (r_fault : Int32) (r_place : Int32) (t_bytes : Nat → Int32) (t_wordCodes : Nat → Int64) (t_kind : Int32) (t_start : Int32) (t_value : Int32) (t_word : Int32) (t_name : Int64) (t_end : Int32) (t_at : Int32) (a_quota : Int32) : Option (Int32 × Int32 × Int32 × Int32 × Int32 × Int32 × Int32 × Int32 × Int64 × Int32 × Int32) := (if k_quotaTold = 0 then (f_X7_next fu t_bytes t_wordCodes t_kind t_start t_value t_word t_name t_end t_at).bind fun z_10 => (f_X6_takeNumber fu r_fault r_place t_bytes t_wordCodes z_10.1 z_10.2.1 z_10.2.2.1 z_10.2.2.2.1 z_10.2.2.2.2.1 t_end z_10.2.2.2.2.2 1 99).bind fun z_11 => (if z_11.1 = (-1) then some (0, 1, z_11.2.1, z_11.2.2.1, z_11.2.2.2.1, z_11.2.2.2.2.1, z_11.2.2.2.2.2.1, z_11.2.2.2.2.2.2.1, z_11.2.2.2.2.2.2.2.1, z_11.2.2.2.2.2.2.2.2, z_11.1) else (f_X6_takeSign fu z_11.2.1 z_11.2.2.1 t_bytes t_wordCodes z_11.2.2.2.1 z_11.2.2.2.2.1 z_11.2.2.2.2.2.1 z_11.2.2.2.2.2.2.1 z_11.2.2.2.2.2.2.2.1 t_end z_11.2.2.2.2.2.2.2.2 59).bind fun z_13 => (if z_13.1 = 0 then some (0, 1, z_13.2.1, z_13.2.2.1, z_13.2.2.2.1, z_13.2.2.2.2.1, z_13.2.2.2.2.2.1, z_13.2.2.2.2.2.2.1, z_13.2.2.2.2.2.2.2.1, z_13.2.2.2.2.2.2.2.2, z_11.1) else some (1, 1, z_13.2.1, z_13.2.2.1, z_13.2.2.2.1, z_13.2.2.2.2.1, z_13.2.2.2.2.2.1, z_13.2.2.2.2.2.2.1, z_13.2.2.2.2.2.2.2.1, z_13.2.2.2.2.2.2.2.2, z_11.1))) else (f_X6_fail fu r_fault r_place t_kind t_start 5).bind fun z_15 => (bz z_15.1).bind fun _ => some (z_15.1, k_quotaTold, z_15.2.1, z_15.2.2, t_kind, t_start, t_value, t_word, t_name, t_at, a_quota))
abbrev rm_X1_takeQuota : Room := { frames := 3, cells := 0, slots := 0, locals := 66 }
set_option maxHeartbeats 4000000 in
set_option maxRecDepth 100000 in
theorem c_X1_takeQuota (l : Launch) (D : va_G) (cy : Nat → ClassId) (fu : Nat) (A_k : Nat → Nat) (k_prideTold : Int32) (k_quotaTold : Int32) (A_r : Nat → Nat) (r_fault : Int32) (r_place : Int32) (A_t : Nat → Nat) (t_bytes : Nat → Int32) (t_wordCodes : Nat → Int64) (t_length : Int32) (t_kind : Int32) (t_start : Int32) (t_value : Int32) (t_word : Int32) (t_name : Int64) (t_end : Int32) (t_at : Int32) (A_a : Nat → Nat) (a_name : Nat → Int64) (a_courage : Nat → Int32) (a_weight : Nat → Int32) (a_medals : Nat → Int32) (a_stood : Nat → Int32) (a_fled : Nat → Int32) (a_liked : Nat → Int32) (a_votes : Nat → Int32) (a_count : Int32) (a_living : Int32) (a_pride : Int32) (a_quota : Int32) (a_melted : Int32) (a_lost : Int32) (res : Int32 × Int32 × Int32 × Int32 × Int32 × Int32 × Int32 × Int32 × Int64 × Int32 × Int32) (h : f_X1_takeQuota fu k_quotaTold r_fault r_place t_bytes t_wordCodes t_kind t_start t_value t_word t_name t_end t_at a_quota = some res) (A : Nat → Prop) (hA : A = adr [bl_X1 cy A_k (A_r 0) (A_a 0) k_prideTold k_quotaTold, bl_X6 cy A_r (A_t 0) r_fault r_place, bl_X7 cy A_t t_bytes t_wordCodes t_length t_kind t_start t_value t_word t_name t_end t_at, bl_X0 cy A_a a_name a_courage a_weight a_medals a_stood a_fled a_liked a_votes a_count a_living a_pride a_quota a_melted a_lost]) (W1 : List va_W) (hW1 : W1 = [bl_X1 cy A_k (A_r 0) (A_a 0) k_prideTold res.2.1, bl_X6 cy A_r (A_t 0) res.2.2.1 res.2.2.2.1, bl_X7 cy A_t t_bytes t_wordCodes t_length res.2.2.2.2.1 res.2.2.2.2.2.1 res.2.2.2.2.2.2.1 res.2.2.2.2.2.2.2.1 res.2.2.2.2.2.2.2.2.1 t_end res.2.2.2.2.2.2.2.2.2.1, bl_X0 cy A_a a_name a_courage a_weight a_medals a_stood a_fled a_liked a_votes a_count a_living a_pride res.2.2.2.2.2.2.2.2.2.2 a_melted a_lost]) : Met l yX1_takeQuota (WW yX1_takeQuota cX1_takeQuota 1 (some .boolean)) rm_X1_takeQuota (Ed D cy [.ref (A_k 0)] [bl_X1 cy A_k (A_r 0) (A_a 0) k_prideTold k_quotaTold, bl_X6 cy A_r (A_t 0) r_fault r_place, bl_X7 cy A_t t_bytes t_wordCodes t_length t_kind t_start t_value t_word t_name t_end t_at, bl_X0 cy A_a a_name a_courage a_weight a_medals a_stood a_fled a_liked a_votes a_count a_living a_pride a_quota a_melted a_lost]) (Qei D res.1 A W1) 0 0 A := by
  refine Met.ofW (cc := cX1_takeQuota) (maxL := 1) (ret := (some .boolean)) (by decide) rfl ?_
  intro p e s m args below meth c s₁ B hml hv
  obtain ⟨hargs, hP, hX, hD0⟩ := hv
  have hx := B.exec
  have hb := B.bytes
  have hr := B.returns
  have ht : ∀ w ∈ lw_gd, w.before args s = true := fun w hw => atoms_spec (ws := WW yX1_takeQuota cX1_takeQuota 1 (some .boolean)) B.pre w (List.mem_cons_of_mem _ hw)
  have hown : s.vm.findClass RX1 = some m.cls := findClass_of_methodNamed B.named
  have hlocks := B.notSynchronized
  have hP : PD D A [bl_X1 cy A_k (A_r 0) (A_a 0) k_prideTold k_quotaTold, bl_X6 cy A_r (A_t 0) r_fault r_place, bl_X7 cy A_t t_bytes t_wordCodes t_length t_kind t_start t_value t_word t_name t_end t_at, bl_X0 cy A_a a_name a_courage a_weight a_medals a_stood a_fled a_liked a_votes a_count a_living a_pride a_quota a_melted a_lost] s.heap := ⟨hP, by rw [hA]; exact hD0.own⟩
  have hS : va_S A s.heap s.heap [] := va_S.rf
  obtain ⟨ls, hl, hent⟩ := ent (m := m) (n := 1) hargs (Nat.le_of_ble_eq_true rfl) (lv := [(0, .ref (A_k 0))]) rfl
  rw [hent]
  clear hent
  unfold f_X1_takeQuota at h
  refine lv_aload_n hx hb dX1_takeQuota_0 rfl (lv_at hl 0 rfl) ?_
  refine xget (i := 0) (j := 0) (k := 3) (T := TX1) hx hb ht tb_iX1 hown hX hP.1 rfl rfl rfl (by decide) tb_284 rfl dX1_takeQuota_1 ?_
  refine lv_if_eq (tgt := 16) hx hb dX1_takeQuota_4 (by decide) (fun c_9 => ?_) (fun c_9 => ?_)
  · have h := it c_9 h
    refine lv_aload_n hx hb dX1_takeQuota_16 rfl (lv_at hl 0 rfl) ?_
    refine lv_iconst (v := 1) hx hb dX1_takeQuota_17 (by decide) ?_
    refine xput (i := 0) (j := 0) (k := 3) (T := TX1) tyX1 tyX1_ok nmX1 hx hb ht tb_iX1 hown hX hP hS rfl rfl rfl (by decide) tb_284 rfl rfl rfl (Nat.le_of_ble_eq_true rfl) dX1_takeQuota_18 (fun H locs hP hS => ?_)
    have hP : PD D A [bl_X1 cy A_k (A_r 0) (A_a 0) k_prideTold 1, bl_X6 cy A_r (A_t 0) r_fault r_place, bl_X7 cy A_t t_bytes t_wordCodes t_length t_kind t_start t_value t_word t_name t_end t_at, bl_X0 cy A_a a_name a_courage a_weight a_medals a_stood a_fled a_liked a_votes a_count a_living a_pride a_quota a_melted a_lost] H := hP
    refine lv_aload_n hx hb dX1_takeQuota_21 rfl (lv_at hl 0 rfl) ?_
    refine xget (i := 0) (j := 0) (k := 0) (T := TX1) hx hb ht tb_iX1 hown hX hP.1 rfl rfl rfl (by decide) tb_281 rfl dX1_takeQuota_22 ?_
    refine xget (i := 1) (j := 0) (k := 0) (T := TX6) hx hb ht tb_iX6 hown hX hP.1 rfl rfl rfl (by decide) tb_261 rfl dX1_takeQuota_25 ?_
    obtain ⟨z_10, e_z_10, h⟩ := bi h
    refine efVv (rest := []) ⟨hx, hb, hml, hown, ht⟩ (c_X7_next l D cy fu A_t t_bytes t_wordCodes t_length t_kind t_start t_value t_word t_name t_end t_at z_10 e_z_10 _ rfl _ rfl) (cV ht mv_X7_next tb_630 rfl rfl ⟨Nat.le_of_ble_eq_true rfl, Nat.le_of_ble_eq_true rfl⟩) hP hS hX [2] rfl rfl rfl rfl rfl rfl hl.1 rfl (Nat.le_of_ble_eq_true rfl) dX1_takeQuota_28 ⟨Nat.le_of_ble_eq_true rfl, Nat.le_of_ble_eq_true rfl⟩ (fun H locs hP hS => ?_)
    have hP : PD D A [bl_X1 cy A_k (A_r 0) (A_a 0) k_prideTold 1, bl_X6 cy A_r (A_t 0) r_fault r_place, bl_X7 cy A_t t_bytes t_wordCodes t_length z_10.1 z_10.2.1 z_10.2.2.1 z_10.2.2.2.1 z_10.2.2.2.2.1 t_end z_10.2.2.2.2.2, bl_X0 cy A_a a_name a_courage a_weight a_medals a_stood a_fled a_liked a_votes a_count a_living a_pride a_quota a_melted a_lost] H := hP
    refine lv_aload_n hx hb dX1_takeQuota_31 rfl (lv_at hl 0 rfl) ?_
    refine xget (i := 0) (j := 0) (k := 1) (T := TX1) hx hb ht tb_iX1 hown hX hP.1 rfl rfl rfl (by decide) tb_282 rfl dX1_takeQuota_32 ?_
    refine lv_aload_n hx hb dX1_takeQuota_35 rfl (lv_at hl 0 rfl) ?_
    refine xget (i := 0) (j := 0) (k := 0) (T := TX1) hx hb ht tb_iX1 hown hX hP.1 rfl rfl rfl (by decide) tb_281 rfl dX1_takeQuota_36 ?_
    refine lv_iconst (v := 1) hx hb dX1_takeQuota_39 (by decide) ?_
    refine lv_bipush (v := 99) hx hb dX1_takeQuota_40 (by decide) ?_
    obtain ⟨z_11, e_z_11, h⟩ := bi h
    refine efVi (rest := [.ref (A_a 0)]) ⟨hx, hb, hml, hown, ht⟩ (c_X6_takeNumber l D cy fu A_r r_fault r_place A_t t_bytes t_wordCodes t_length z_10.1 z_10.2.1 z_10.2.2.1 z_10.2.2.2.1 z_10.2.2.2.2.1 t_end z_10.2.2.2.2.2 1 99 z_11 e_z_11 _ rfl _ rfl) (cV ht mv_X6_takeNumber tb_631 rfl rfl ⟨Nat.le_of_ble_eq_true rfl, Nat.le_of_ble_eq_true rfl⟩) hP hS hX [1, 2] rfl rfl rfl rfl rfl rfl hl.1 rfl (Nat.le_of_ble_eq_true rfl) dX1_takeQuota_42 ⟨Nat.le_of_ble_eq_true rfl, Nat.le_of_ble_eq_true rfl⟩ (fun H locs hP hS => ?_)
    have hP : PD D A [bl_X1 cy A_k (A_r 0) (A_a 0) k_prideTold 1, bl_X6 cy A_r (A_t 0) z_11.2.1 z_11.2.2.1, bl_X7 cy A_t t_bytes t_wordCodes t_length z_11.2.2.2.1 z_11.2.2.2.2.1 z_11.2.2.2.2.2.1 z_11.2.2.2.2.2.2.1 z_11.2.2.2.2.2.2.2.1 t_end z_11.2.2.2.2.2.2.2.2, bl_X0 cy A_a a_name a_courage a_weight a_medals a_stood a_fled a_liked a_votes a_count a_living a_pride a_quota a_melted a_lost] H := hP
    refine xput (i := 3) (j := 0) (k := 11) (T := TX0) tyX0 tyX0_ok nmX0 hx hb ht tb_iX0 hown hX hP hS rfl rfl rfl (by decide) tb_69 rfl rfl rfl (Nat.le_of_ble_eq_true rfl) dX1_takeQuota_45 (fun H locs hP hS => ?_)
    have hP : PD D A [bl_X1 cy A_k (A_r 0) (A_a 0) k_prideTold 1, bl_X6 cy A_r (A_t 0) z_11.2.1 z_11.2.2.1, bl_X7 cy A_t t_bytes t_wordCodes t_length z_11.2.2.2.1 z_11.2.2.2.2.1 z_11.2.2.2.2.2.1 z_11.2.2.2.2.2.2.1 z_11.2.2.2.2.2.2.2.1 t_end z_11.2.2.2.2.2.2.2.2, bl_X0 cy A_a a_name a_courage a_weight a_medals a_stood a_fled a_liked a_votes a_count a_living a_pride z_11.1 a_melted a_lost] H := hP
    refine lv_aload_n hx hb dX1_takeQuota_48 rfl (lv_at hl 0 rfl) ?_
    refine xget (i := 0) (j := 0) (k := 1) (T := TX1) hx hb ht tb_iX1 hown hX hP.1 rfl rfl rfl (by decide) tb_282 rfl dX1_takeQuota_49 ?_
    refine xget (i := 3) (j := 0) (k := 11) (T := TX0) hx hb ht tb_iX0 hown hX hP.1 rfl rfl rfl (by decide) tb_69 rfl dX1_takeQuota_52 ?_
    refine lv_iconst (v := (-1)) hx hb dX1_takeQuota_55 (by decide) ?_
    refine lv_icmp_eq (tgt := 75) hx hb dX1_takeQuota_56 (by decide) (fun c_12 => ?_) (fun c_12 => ?_)
    · have h := it c_12 h
      refine lv_iconst (v := 0) hx hb dX1_takeQuota_75 (by decide) ?_
      cases h
      subst hW1
      exact W.zret hx hb hr rfl (fun _ ht9 _ => ⟨⟨_, (), rfl, rfl, hPt ht9 hP.1⟩, hS.F ht9⟩) hS.2.2 dX1_takeQuota_76
    · have h := ie c_12 h
      refine lv_aload_n hx hb dX1_takeQuota_59 rfl (lv_at hl 0 rfl) ?_
      refine xget (i := 0) (j := 0) (k := 0) (T := TX1) hx hb ht tb_iX1 hown hX hP.1 rfl rfl rfl (by decide) tb_281 rfl dX1_takeQuota_60 ?_
      refine lv_bipush (v := 59) hx hb dX1_takeQuota_63 (by decide) ?_
      obtain ⟨z_13, e_z_13, h⟩ := bi h
      refine efVi (rest := []) ⟨hx, hb, hml, hown, ht⟩ (c_X6_takeSign l D cy fu A_r z_11.2.1 z_11.2.2.1 A_t t_bytes t_wordCodes t_length z_11.2.2.2.1 z_11.2.2.2.2.1 z_11.2.2.2.2.2.1 z_11.2.2.2.2.2.2.1 z_11.2.2.2.2.2.2.2.1 t_end z_11.2.2.2.2.2.2.2.2 59 z_13 e_z_13 _ rfl _ rfl) (cV ht mv_X6_takeSign tb_637 rfl rfl ⟨Nat.le_of_ble_eq_true rfl, Nat.le_of_ble_eq_true rfl⟩) hP hS hX [1, 2] rfl rfl rfl rfl rfl rfl hl.1 rfl (Nat.le_of_ble_eq_true rfl) dX1_takeQuota_65 ⟨Nat.le_of_ble_eq_true rfl, Nat.le_of_ble_eq_true rfl⟩ (fun H locs hP hS => ?_)
      have hP : PD D A [bl_X1 cy A_k (A_r 0) (A_a 0) k_prideTold 1, bl_X6 cy A_r (A_t 0) z_13.2.1 z_13.2.2.1, bl_X7 cy A_t t_bytes t_wordCodes t_length z_13.2.2.2.1 z_13.2.2.2.2.1 z_13.2.2.2.2.2.1 z_13.2.2.2.2.2.2.1 z_13.2.2.2.2.2.2.2.1 t_end z_13.2.2.2.2.2.2.2.2, bl_X0 cy A_a a_name a_courage a_weight a_medals a_stood a_fled a_liked a_votes a_count a_living a_pride z_11.1 a_melted a_lost] H := hP
      refine lv_if_eq (tgt := 75) hx hb dX1_takeQuota_68 (by decide) (fun c_14 => ?_) (fun c_14 => ?_)
      · have h := it c_14 h
        refine lv_iconst (v := 0) hx hb dX1_takeQuota_75 (by decide) ?_
        cases h
        subst hW1
        exact W.zret hx hb hr rfl (fun _ ht9 _ => ⟨⟨_, (), rfl, rfl, hPt ht9 hP.1⟩, hS.F ht9⟩) hS.2.2 dX1_takeQuota_76
      · have h := ie c_14 h
        refine lv_iconst (v := 1) hx hb dX1_takeQuota_71 (by decide) ?_
        refine lv_goto (tgt := 76) hx hb dX1_takeQuota_72 (by decide) ?_
        cases h
        subst hW1
        exact W.zret hx hb hr rfl (fun _ ht9 _ => ⟨⟨_, (), rfl, rfl, hPt ht9 hP.1⟩, hS.F ht9⟩) hS.2.2 dX1_takeQuota_76
  · have h := ie c_9 h
    refine lv_aload_n hx hb dX1_takeQuota_7 rfl (lv_at hl 0 rfl) ?_
    refine xget (i := 0) (j := 0) (k := 0) (T := TX1) hx hb ht tb_iX1 hown hX hP.1 rfl rfl rfl (by decide) tb_281 rfl dX1_takeQuota_8 ?_
    refine lv_iconst (v := 5) hx hb dX1_takeQuota_11 (by decide) ?_
    obtain ⟨z_15, e_z_15, h⟩ := bi h
    refine efVi (rest := []) ⟨hx, hb, hml, hown, ht⟩ (c_X6_fail l D cy fu A_r r_fault r_place A_t t_bytes t_wordCodes t_length t_kind t_start t_value t_word t_name t_end t_at 5 z_15 e_z_15 _ rfl _ rfl) (cV ht mv_X6_fail tb_626 rfl rfl ⟨Nat.le_of_ble_eq_true rfl, Nat.le_of_ble_eq_true rfl⟩) hP hS hX [1, 2] rfl rfl rfl rfl rfl rfl hl.1 rfl (Nat.le_of_ble_eq_true rfl) dX1_takeQuota_12 ⟨Nat.le_of_ble_eq_true rfl, Nat.le_of_ble_eq_true rfl⟩ (fun H locs hP hS => ?_)
    have hP : PD D A [bl_X1 cy A_k (A_r 0) (A_a 0) k_prideTold k_quotaTold, bl_X6 cy A_r (A_t 0) z_15.2.1 z_15.2.2, bl_X7 cy A_t t_bytes t_wordCodes t_length t_kind t_start t_value t_word t_name t_end t_at, bl_X0 cy A_a a_name a_courage a_weight a_medals a_stood a_fled a_liked a_votes a_count a_living a_pride a_quota a_melted a_lost] H := hP
    obtain ⟨b_16, e_b_16, h⟩ := bi h
    obtain ⟨-, n_b_16, -⟩ := bz_ok e_b_16
    cases h
    subst hW1
    exact W.zret hx hb hr n_b_16 (fun _ ht9 _ => ⟨⟨_, (), rfl, rfl, hPt ht9 hP.1⟩, hS.F ht9⟩) hS.2.2 dX1_takeQuota_15
theorem dX1_takeIfTold_0 : decode cX1_takeIfTold 0 = .ok (.aload_n 0, 1) := by decide +kernel
theorem dX1_takeIfTold_1 : decode cX1_takeIfTold 1 = .ok (.getfield 18, 3) := by decide +kernel
theorem dX1_takeIfTold_4 : decode cX1_takeIfTold 4 = .ok (.getfield 37, 3) := by decide +kernel
theorem dX1_takeIfTold_7 : decode cX1_takeIfTold 7 = .ok (.getfield 41, 3) := by decide +kernel
theorem dX1_takeIfTold_10 : decode cX1_takeIfTold 10 = .ok (.iload_n 1, 1) := by decide +kernel
theorem dX1_takeIfTold_11 : decode cX1_takeIfTold 11 = .ok (.if_icmp .eq 5, 3) := by decide +kernel
theorem dX1_takeIfTold_14 : decode cX1_takeIfTold 14 = .ok (.iload_n 3, 1) := by decide +kernel
theorem dX1_takeIfTold_15 : decode cX1_takeIfTold 15 = .ok (.ireturn, 1) := by decide +kernel
theorem dX1_takeIfTold_16 : decode cX1_takeIfTold 16 = .ok (.aload_n 0, 1) := by decide +kernel
theorem dX1_takeIfTold_17 : decode cX1_takeIfTold 17 = .ok (.getfield 18, 3) := by decide +kernel
theorem dX1_takeIfTold_20 : decode cX1_takeIfTold 20 = .ok (.getfield 37, 3) := by decide +kernel
theorem dX1_takeIfTold_23 : decode cX1_takeIfTold 23 = .ok (.invokevirtual 63, 3) := by decide +kernel
theorem dX1_takeIfTold_26 : decode cX1_takeIfTold 26 = .ok (.aload_n 0, 1) := by decide +kernel
theorem dX1_takeIfTold_27 : decode cX1_takeIfTold 27 = .ok (.getfield 18, 3) := by decide +kernel
theorem dX1_takeIfTold_30 : decode cX1_takeIfTold 30 = .ok (.iconst 0, 1) := by decide +kernel
theorem dX1_takeIfTold_31 : decode cX1_takeIfTold 31 = .ok (.iload_n 2, 1) := by decide +kernel
theorem dX1_takeIfTold_32 : decode cX1_takeIfTold 32 = .ok (.invokevirtual 66, 3) := by decide +kernel
theorem dX1_takeIfTold_35 : decode cX1_takeIfTold 35 = .ok (.ireturn, 1) := by decide +kernel
theorem mv_X1_takeIfTold : MV yX1_takeIfTold RX1 cX1_takeIfTold 4 (some .int) 3 := ⟨tb_664, tb_663, ts_11, tb_10, by decide +kernel, by decide +kernel, by decide +kernel⟩
def f_X1_takeIfTold (fu : Nat) (r_fault : Int32) (r_place : Int32) (t_bytes : Nat → Int32) (t_wordCodes : Nat → Int64) (t_kind : Int32) (t_start : Int32) (t_value : Int32) (t_word : Int32) (t_name : Int64) (t_end : Int32) (t_at : Int32) (x1 : Int32) (x2 : Int32) (x3 : Int32) : Option (Int32 × Int32 × Int32 × Int32 × Int32 × Int32 × Int32 × Int64 × Int32) := (if t_word = x1 then (f_X7_next fu t_bytes t_wordCodes t_kind t_start t_value t_word t_name t_end t_at).bind fun z_5 => (f_X6_takeNumber fu r_fault r_place t_bytes t_wordCodes z_5.1 z_5.2.1 z_5.2.2.1 z_5.2.2.2.1 z_5.2.2.2.2.1 t_end z_5.2.2.2.2.2 0 x2).bind fun z_6 => some (z_6.1, z_6.2.1, z_6.2.2.1, z_6.2.2.2.1, z_6.2.2.2.2.1, z_6.2.2.2.2.2.1, z_6.2.2.2.2.2.2.1, z_6.2.2.2.2.2.2.2.1, z_6.2.2.2.2.2.2.2.2) else some (x3, r_fault, r_place, t_kind, t_start, t_value, t_word, t_name, t_at))
abbrev rm_X1_takeIfTold : Room := { frames := 3, cells := 0, slots := 0, locals := 66 }
set_option maxHeartbeats 4000000 in
set_option maxRecDepth 100000 in
theorem c_X1_takeIfTold (l : Launch) (D : va_G) (cy : Nat → ClassId) (fu : Nat) (A_k : Nat → Nat) (k_prideTold : Int32) (k_quotaTold : Int32) (A_r : Nat → Nat) (r_fault : Int32) (r_place : Int32) (A_t : Nat → Nat) (t_bytes : Nat → Int32) (t_wordCodes : Nat → Int64) (t_length : Int32) (t_kind : Int32) (t_start : Int32) (t_value : Int32) (t_word : Int32) (t_name : Int64) (t_end : Int32) (t_at : Int32) (A_a : Nat → Nat) (a_name : Nat → Int64) (a_courage : Nat → Int32) (a_weight : Nat → Int32) (a_medals : Nat → Int32) (a_stood : Nat → Int32) (a_fled : Nat → Int32) (a_liked : Nat → Int32) (a_votes : Nat → Int32) (a_count : Int32) (a_living : Int32) (a_pride : Int32) (a_quota : Int32) (a_melted : Int32) (a_lost : Int32) (x1 : Int32) (x2 : Int32) (x3 : Int32) (res : Int32 × Int32 × Int32 × Int32 × Int32 × Int32 × Int32 × Int64 × Int32) (h : f_X1_takeIfTold fu r_fault r_place t_bytes t_wordCodes t_kind t_start t_value t_word t_name t_end t_at x1 x2 x3 = some res) (A : Nat → Prop) (hA : A = adr [bl_X1 cy A_k (A_r 0) (A_a 0) k_prideTold k_quotaTold, bl_X6 cy A_r (A_t 0) r_fault r_place, bl_X7 cy A_t t_bytes t_wordCodes t_length t_kind t_start t_value t_word t_name t_end t_at, bl_X0 cy A_a a_name a_courage a_weight a_medals a_stood a_fled a_liked a_votes a_count a_living a_pride a_quota a_melted a_lost]) (W1 : List va_W) (hW1 : W1 = [bl_X1 cy A_k (A_r 0) (A_a 0) k_prideTold k_quotaTold, bl_X6 cy A_r (A_t 0) res.2.1 res.2.2.1, bl_X7 cy A_t t_bytes t_wordCodes t_length res.2.2.2.1 res.2.2.2.2.1 res.2.2.2.2.2.1 res.2.2.2.2.2.2.1 res.2.2.2.2.2.2.2.1 t_end res.2.2.2.2.2.2.2.2, bl_X0 cy A_a a_name a_courage a_weight a_medals a_stood a_fled a_liked a_votes a_count a_living a_pride a_quota a_melted a_lost]) : Met l yX1_takeIfTold (WW yX1_takeIfTold cX1_takeIfTold 4 (some .int)) rm_X1_takeIfTold (Ed D cy [.ref (A_k 0), .int x1, .int x2, .int x3] [bl_X1 cy A_k (A_r 0) (A_a 0) k_prideTold k_quotaTold, bl_X6 cy A_r (A_t 0) r_fault r_place, bl_X7 cy A_t t_bytes t_wordCodes t_length t_kind t_start t_value t_word t_name t_end t_at, bl_X0 cy A_a a_name a_courage a_weight a_medals a_stood a_fled a_liked a_votes a_count a_living a_pride a_quota a_melted a_lost]) (Qei D res.1 A W1) 0 0 A := by
  refine Met.ofW (cc := cX1_takeIfTold) (maxL := 4) (ret := (some .int)) (by decide) rfl ?_
  intro p e s m args below meth c s₁ B hml hv
  obtain ⟨hargs, hP, hX, hD0⟩ := hv
  have hx := B.exec
  have hb := B.bytes
  have hr := B.returns
  have ht : ∀ w ∈ lw_gd, w.before args s = true := fun w hw => atoms_spec (ws := WW yX1_takeIfTold cX1_takeIfTold 4 (some .int)) B.pre w (List.mem_cons_of_mem _ hw)
  have hown : s.vm.findClass RX1 = some m.cls := findClass_of_methodNamed B.named
  have hlocks := B.notSynchronized
  have hP : PD D A [bl_X1 cy A_k (A_r 0) (A_a 0) k_prideTold k_quotaTold, bl_X6 cy A_r (A_t 0) r_fault r_place, bl_X7 cy A_t t_bytes t_wordCodes t_length t_kind t_start t_value t_word t_name t_end t_at, bl_X0 cy A_a a_name a_courage a_weight a_medals a_stood a_fled a_liked a_votes a_count a_living a_pride a_quota a_melted a_lost] s.heap := ⟨hP, by rw [hA]; exact hD0.own⟩
  have hS : va_S A s.heap s.heap [] := va_S.rf
  obtain ⟨ls, hl, hent⟩ := ent (m := m) (n := 4) hargs (Nat.le_of_ble_eq_true rfl) (lv := [(0, .ref (A_k 0)), (1, .int x1), (2, .int x2), (3, .int x3)]) rfl
  rw [hent]
  clear hent
  unfold f_X1_takeIfTold at h
  refine lv_aload_n hx hb dX1_takeIfTold_0 rfl (lv_at hl 0 rfl) ?_
  refine xget (i := 0) (j := 0) (k := 0) (T := TX1) hx hb ht tb_iX1 hown hX hP.1 rfl rfl rfl (by decide) tb_281 rfl dX1_takeIfTold_1 ?_
  refine xget (i := 1) (j := 0) (k := 0) (T := TX6) hx hb ht tb_iX6 hown hX hP.1 rfl rfl rfl (by decide) tb_261 rfl dX1_takeIfTold_4 ?_
  refine xget (i := 2) (j := 0) (k := 6) (T := TX7) hx hb ht tb_iX7 hown hX hP.1 rfl rfl rfl (by decide) tb_230 rfl dX1_takeIfTold_7 ?_
  refine lv_iload_n hx hb dX1_takeIfTold_10 rfl (lv_at hl 1 rfl) ?_
  refine lv_icmp_eq (tgt := 16) hx hb dX1_takeIfTold_11 (by decide) (fun c_4 => ?_) (fun c_4 => ?_)
  · have h := it c_4 h
    refine lv_aload_n hx hb dX1_takeIfTold_16 rfl (lv_at hl 0 rfl) ?_
    refine xget (i := 0) (j := 0) (k := 0) (T := TX1) hx hb ht tb_iX1 hown hX hP.1 rfl rfl rfl (by decide) tb_281 rfl dX1_takeIfTold_17 ?_
    refine xget (i := 1) (j := 0) (k := 0) (T := TX6) hx hb ht tb_iX6 hown hX hP.1 rfl rfl rfl (by decide) tb_261 rfl dX1_takeIfTold_20 ?_
    obtain ⟨z_5, e_z_5, h⟩ := bi h
    refine efVv (rest := []) ⟨hx, hb, hml, hown, ht⟩ (c_X7_next l D cy fu A_t t_bytes t_wordCodes t_length t_kind t_start t_value t_word t_name t_end t_at z_5 e_z_5 _ rfl _ rfl) (cV ht mv_X7_next tb_630 rfl rfl ⟨Nat.le_of_ble_eq_true rfl, Nat.le_of_ble_eq_true rfl⟩) hP hS hX [2] rfl rfl rfl rfl rfl rfl hl.1 rfl (Nat.le_of_ble_eq_true rfl) dX1_takeIfTold_23 ⟨Nat.le_of_ble_eq_true rfl, Nat.le_of_ble_eq_true rfl⟩ (fun H locs hP hS => ?_)
    have hP : PD D A [bl_X1 cy A_k (A_r 0) (A_a 0) k_prideTold k_quotaTold, bl_X6 cy A_r (A_t 0) r_fault r_place, bl_X7 cy A_t t_bytes t_wordCodes t_length z_5.1 z_5.2.1 z_5.2.2.1 z_5.2.2.2.1 z_5.2.2.2.2.1 t_end z_5.2.2.2.2.2, bl_X0 cy A_a a_name a_courage a_weight a_medals a_stood a_fled a_liked a_votes a_count a_living a_pride a_quota a_melted a_lost] H := hP
    refine lv_aload_n hx hb dX1_takeIfTold_26 rfl (lv_at hl 0 rfl) ?_
    refine xget (i := 0) (j := 0) (k := 0) (T := TX1) hx hb ht tb_iX1 hown hX hP.1 rfl rfl rfl (by decide) tb_281 rfl dX1_takeIfTold_27 ?_
    refine lv_iconst (v := 0) hx hb dX1_takeIfTold_30 (by decide) ?_
    refine lv_iload_n hx hb dX1_takeIfTold_31 rfl (lv_at hl 2 rfl) ?_
    obtain ⟨z_6, e_z_6, h⟩ := bi h
    refine efVi (rest := []) ⟨hx, hb, hml, hown, ht⟩ (c_X6_takeNumber l D cy fu A_r r_fault r_place A_t t_bytes t_wordCodes t_length z_5.1 z_5.2.1 z_5.2.2.1 z_5.2.2.2.1 z_5.2.2.2.2.1 t_end z_5.2.2.2.2.2 0 x2 z_6 e_z_6 _ rfl _ rfl) (cV ht mv_X6_takeNumber tb_631 rfl rfl ⟨Nat.le_of_ble_eq_true rfl, Nat.le_of_ble_eq_true rfl⟩) hP hS hX [1, 2] rfl rfl rfl rfl rfl rfl hl.1 rfl (Nat.le_of_ble_eq_true rfl) dX1_takeIfTold_32 ⟨Nat.le_of_ble_eq_true rfl, Nat.le_of_ble_eq_true rfl⟩ (fun H locs hP hS => ?_)
    have hP : PD D A [bl_X1 cy A_k (A_r 0) (A_a 0) k_prideTold k_quotaTold, bl_X6 cy A_r (A_t 0) z_6.2.1 z_6.2.2.1, bl_X7 cy A_t t_bytes t_wordCodes t_length z_6.2.2.2.1 z_6.2.2.2.2.1 z_6.2.2.2.2.2.1 z_6.2.2.2.2.2.2.1 z_6.2.2.2.2.2.2.2.1 t_end z_6.2.2.2.2.2.2.2.2, bl_X0 cy A_a a_name a_courage a_weight a_medals a_stood a_fled a_liked a_votes a_count a_living a_pride a_quota a_melted a_lost] H := hP
    cases h
    subst hW1
    exact W.iret hx hb hr (fun _ ht9 _ => ⟨⟨_, (), rfl, rfl, hPt ht9 hP.1⟩, hS.F ht9⟩) hS.2.2 dX1_takeIfTold_35
  · have h := ie c_4 h
    refine lv_iload_n hx hb dX1_takeIfTold_14 rfl (lv_at hl 3 rfl) ?_
    cases h
    subst hW1
    exact W.iret hx hb hr (fun _ ht9 _ => ⟨⟨_, (), rfl, rfl, hPt ht9 hP.1⟩, hS.F ht9⟩) hS.2.2 dX1_takeIfTold_15
theorem dX1_takeNewMan_0 : decode cX1_takeNewMan 0 = .ok (.aload_n 0, 1) := by decide +kernel
theorem dX1_takeNewMan_1 : decode cX1_takeNewMan 1 = .ok (.getfield 22, 3) := by decide +kernel
theorem dX1_takeNewMan_4 : decode cX1_takeNewMan 4 = .ok (.getfield 79, 3) := by decide +kernel
theorem dX1_takeNewMan_7 : decode cX1_takeNewMan 7 = .ok (.bipush 8, 2) := by decide +kernel
theorem dX1_takeNewMan_9 : decode cX1_takeNewMan 9 = .ok (.if_icmp .lt 13, 3) := by decide +kernel
theorem dX1_takeNewMan_12 : decode cX1_takeNewMan 12 = .ok (.aload_n 0, 1) := by decide +kernel
theorem dX1_takeNewMan_13 : decode cX1_takeNewMan 13 = .ok (.getfield 18, 3) := by decide +kernel
theorem dX1_takeNewMan_16 : decode cX1_takeNewMan 16 = .ok (.bipush 6, 2) := by decide +kernel
theorem dX1_takeNewMan_18 : decode cX1_takeNewMan 18 = .ok (.invokevirtual 59, 3) := by decide +kernel
theorem dX1_takeNewMan_21 : decode cX1_takeNewMan 21 = .ok (.ireturn, 1) := by decide +kernel
theorem dX1_takeNewMan_22 : decode cX1_takeNewMan 22 = .ok (.aload_n 0, 1) := by decide +kernel
theorem dX1_takeNewMan_23 : decode cX1_takeNewMan 23 = .ok (.getfield 18, 3) := by decide +kernel
theorem dX1_takeNewMan_26 : decode cX1_takeNewMan 26 = .ok (.getfield 37, 3) := by decide +kernel
theorem dX1_takeNewMan_29 : decode cX1_takeNewMan 29 = .ok (.invokevirtual 63, 3) := by decide +kernel
theorem dX1_takeNewMan_32 : decode cX1_takeNewMan 32 = .ok (.aload_n 0, 1) := by decide +kernel
theorem dX1_takeNewMan_33 : decode cX1_takeNewMan 33 = .ok (.getfield 18, 3) := by decide +kernel
theorem dX1_takeNewMan_36 : decode cX1_takeNewMan 36 = .ok (.getfield 37, 3) := by decide +kernel
theorem dX1_takeNewMan_39 : decode cX1_takeNewMan 39 = .ok (.getfield 82, 3) := by decide +kernel
theorem dX1_takeNewMan_42 : decode cX1_takeNewMan 42 = .ok (.lstore_n 1, 1) := by decide +kernel
theorem dX1_takeNewMan_43 : decode cX1_takeNewMan 43 = .ok (.lload_n 1, 1) := by decide +kernel
theorem dX1_takeNewMan_44 : decode cX1_takeNewMan 44 = .ok (.lconst 0, 1) := by decide +kernel
theorem dX1_takeNewMan_45 : decode cX1_takeNewMan 45 = .ok (.lcmp, 1) := by decide +kernel
theorem dX1_takeNewMan_46 : decode cX1_takeNewMan 46 = .ok (.ifCond .ne 12, 3) := by decide +kernel
theorem dX1_takeNewMan_49 : decode cX1_takeNewMan 49 = .ok (.aload_n 0, 1) := by decide +kernel
theorem dX1_takeNewMan_50 : decode cX1_takeNewMan 50 = .ok (.getfield 18, 3) := by decide +kernel
theorem dX1_takeNewMan_53 : decode cX1_takeNewMan 53 = .ok (.iconst 2, 1) := by decide +kernel
theorem dX1_takeNewMan_54 : decode cX1_takeNewMan 54 = .ok (.invokevirtual 59, 3) := by decide +kernel
theorem dX1_takeNewMan_57 : decode cX1_takeNewMan 57 = .ok (.ireturn, 1) := by decide +kernel
theorem dX1_takeNewMan_58 : decode cX1_takeNewMan 58 = .ok (.aload_n 0, 1) := by decide +kernel
theorem dX1_takeNewMan_59 : decode cX1_takeNewMan 59 = .ok (.getfield 22, 3) := by decide +kernel
theorem dX1_takeNewMan_62 : decode cX1_takeNewMan 62 = .ok (.lload_n 1, 1) := by decide +kernel
theorem dX1_takeNewMan_63 : decode cX1_takeNewMan 63 = .ok (.invokevirtual 86, 3) := by decide +kernel
theorem dX1_takeNewMan_66 : decode cX1_takeNewMan 66 = .ok (.iconst (-1), 1) := by decide +kernel
theorem dX1_takeNewMan_67 : decode cX1_takeNewMan 67 = .ok (.if_icmp .eq 12, 3) := by decide +kernel
theorem dX1_takeNewMan_70 : decode cX1_takeNewMan 70 = .ok (.aload_n 0, 1) := by decide +kernel
theorem dX1_takeNewMan_71 : decode cX1_takeNewMan 71 = .ok (.getfield 18, 3) := by decide +kernel
theorem dX1_takeNewMan_74 : decode cX1_takeNewMan 74 = .ok (.iconst 3, 1) := by decide +kernel
theorem dX1_takeNewMan_75 : decode cX1_takeNewMan 75 = .ok (.invokevirtual 59, 3) := by decide +kernel
theorem dX1_takeNewMan_78 : decode cX1_takeNewMan 78 = .ok (.ireturn, 1) := by decide +kernel
theorem dX1_takeNewMan_79 : decode cX1_takeNewMan 79 = .ok (.aload_n 0, 1) := by decide +kernel
theorem dX1_takeNewMan_80 : decode cX1_takeNewMan 80 = .ok (.getfield 18, 3) := by decide +kernel
theorem dX1_takeNewMan_83 : decode cX1_takeNewMan 83 = .ok (.getfield 37, 3) := by decide +kernel
theorem dX1_takeNewMan_86 : decode cX1_takeNewMan 86 = .ok (.invokevirtual 63, 3) := by decide +kernel
theorem dX1_takeNewMan_89 : decode cX1_takeNewMan 89 = .ok (.aload_n 0, 1) := by decide +kernel
theorem dX1_takeNewMan_90 : decode cX1_takeNewMan 90 = .ok (.getfield 18, 3) := by decide +kernel
theorem dX1_takeNewMan_93 : decode cX1_takeNewMan 93 = .ok (.iconst 3, 1) := by decide +kernel
theorem dX1_takeNewMan_94 : decode cX1_takeNewMan 94 = .ok (.invokevirtual 90, 3) := by decide +kernel
theorem dX1_takeNewMan_97 : decode cX1_takeNewMan 97 = .ok (.ifCond .ne 5, 3) := by decide +kernel
theorem dX1_takeNewMan_100 : decode cX1_takeNewMan 100 = .ok (.iconst 0, 1) := by decide +kernel
theorem dX1_takeNewMan_101 : decode cX1_takeNewMan 101 = .ok (.ireturn, 1) := by decide +kernel
theorem dX1_takeNewMan_102 : decode cX1_takeNewMan 102 = .ok (.aload_n 0, 1) := by decide +kernel
theorem dX1_takeNewMan_103 : decode cX1_takeNewMan 103 = .ok (.getfield 18, 3) := by decide +kernel
theorem dX1_takeNewMan_106 : decode cX1_takeNewMan 106 = .ok (.iconst 0, 1) := by decide +kernel
theorem dX1_takeNewMan_107 : decode cX1_takeNewMan 107 = .ok (.bipush 20, 2) := by decide +kernel
theorem dX1_takeNewMan_109 : decode cX1_takeNewMan 109 = .ok (.invokevirtual 66, 3) := by decide +kernel
theorem dX1_takeNewMan_112 : decode cX1_takeNewMan 112 = .ok (.istore_n 3, 1) := by decide +kernel
theorem dX1_takeNewMan_113 : decode cX1_takeNewMan 113 = .ok (.iload_n 3, 1) := by decide +kernel
theorem dX1_takeNewMan_114 : decode cX1_takeNewMan 114 = .ok (.iconst (-1), 1) := by decide +kernel
theorem dX1_takeNewMan_115 : decode cX1_takeNewMan 115 = .ok (.if_icmp .ne 7, 3) := by decide +kernel
theorem dX1_takeNewMan_118 : decode cX1_takeNewMan 118 = .ok (.iconst (-1), 1) := by decide +kernel
theorem dX1_takeNewMan_119 : decode cX1_takeNewMan 119 = .ok (.goto 11, 3) := by decide +kernel
theorem dX1_takeNewMan_122 : decode cX1_takeNewMan 122 = .ok (.aload_n 0, 1) := by decide +kernel
theorem dX1_takeNewMan_123 : decode cX1_takeNewMan 123 = .ok (.iconst 4, 1) := by decide +kernel
theorem dX1_takeNewMan_124 : decode cX1_takeNewMan 124 = .ok (.bipush 9, 2) := by decide +kernel
theorem dX1_takeNewMan_126 : decode cX1_takeNewMan 126 = .ok (.iconst 1, 1) := by decide +kernel
theorem dX1_takeNewMan_127 : decode cX1_takeNewMan 127 = .ok (.invokevirtual 93, 3) := by decide +kernel
theorem dX1_takeNewMan_130 : decode cX1_takeNewMan 130 = .ok (.istore 4, 2) := by decide +kernel
theorem dX1_takeNewMan_132 : decode cX1_takeNewMan 132 = .ok (.iload 4, 2) := by decide +kernel
theorem dX1_takeNewMan_134 : decode cX1_takeNewMan 134 = .ok (.iconst (-1), 1) := by decide +kernel
theorem dX1_takeNewMan_135 : decode cX1_takeNewMan 135 = .ok (.if_icmp .ne 7, 3) := by decide +kernel
theorem dX1_takeNewMan_138 : decode cX1_takeNewMan 138 = .ok (.iconst (-1), 1) := by decide +kernel
theorem dX1_takeNewMan_139 : decode cX1_takeNewMan 139 = .ok (.goto 11, 3) := by decide +kernel
theorem dX1_takeNewMan_142 : decode cX1_takeNewMan 142 = .ok (.aload_n 0, 1) := by decide +kernel
theorem dX1_takeNewMan_143 : decode cX1_takeNewMan 143 = .ok (.iconst 5, 1) := by decide +kernel
theorem dX1_takeNewMan_144 : decode cX1_takeNewMan 144 = .ok (.bipush 99, 2) := by decide +kernel
theorem dX1_takeNewMan_146 : decode cX1_takeNewMan 146 = .ok (.iconst 0, 1) := by decide +kernel
theorem dX1_takeNewMan_147 : decode cX1_takeNewMan 147 = .ok (.invokevirtual 93, 3) := by decide +kernel
theorem dX1_takeNewMan_150 : decode cX1_takeNewMan 150 = .ok (.istore 5, 2) := by decide +kernel
theorem dX1_takeNewMan_152 : decode cX1_takeNewMan 152 = .ok (.iload 5, 2) := by decide +kernel
theorem dX1_takeNewMan_154 : decode cX1_takeNewMan 154 = .ok (.iconst (-1), 1) := by decide +kernel
theorem dX1_takeNewMan_155 : decode cX1_takeNewMan 155 = .ok (.if_icmp .eq 15, 3) := by decide +kernel
theorem dX1_takeNewMan_158 : decode cX1_takeNewMan 158 = .ok (.aload_n 0, 1) := by decide +kernel
theorem dX1_takeNewMan_159 : decode cX1_takeNewMan 159 = .ok (.getfield 18, 3) := by decide +kernel
theorem dX1_takeNewMan_162 : decode cX1_takeNewMan 162 = .ok (.bipush 59, 2) := by decide +kernel
theorem dX1_takeNewMan_164 : decode cX1_takeNewMan 164 = .ok (.invokevirtual 73, 3) := by decide +kernel
theorem dX1_takeNewMan_167 : decode cX1_takeNewMan 167 = .ok (.ifCond .ne 5, 3) := by decide +kernel
theorem dX1_takeNewMan_170 : decode cX1_takeNewMan 170 = .ok (.iconst 0, 1) := by decide +kernel
theorem dX1_takeNewMan_171 : decode cX1_takeNewMan 171 = .ok (.ireturn, 1) := by decide +kernel
theorem dX1_takeNewMan_172 : decode cX1_takeNewMan 172 = .ok (.aload_n 0, 1) := by decide +kernel
theorem dX1_takeNewMan_173 : decode cX1_takeNewMan 173 = .ok (.getfield 22, 3) := by decide +kernel
theorem dX1_takeNewMan_176 : decode cX1_takeNewMan 176 = .ok (.lload_n 1, 1) := by decide +kernel
theorem dX1_takeNewMan_177 : decode cX1_takeNewMan 177 = .ok (.iload_n 3, 1) := by decide +kernel
theorem dX1_takeNewMan_178 : decode cX1_takeNewMan 178 = .ok (.iload 4, 2) := by decide +kernel
theorem dX1_takeNewMan_180 : decode cX1_takeNewMan 180 = .ok (.invokevirtual 97, 3) := by decide +kernel
theorem dX1_takeNewMan_183 : decode cX1_takeNewMan 183 = .ok (.istore 6, 2) := by decide +kernel
theorem dX1_takeNewMan_185 : decode cX1_takeNewMan 185 = .ok (.iload 6, 2) := by decide +kernel
theorem dX1_takeNewMan_187 : decode cX1_takeNewMan 187 = .ok (.iconst (-1), 1) := by decide +kernel
theorem dX1_takeNewMan_188 : decode cX1_takeNewMan 188 = .ok (.if_icmp .eq 15, 3) := by decide +kernel
theorem dX1_takeNewMan_191 : decode cX1_takeNewMan 191 = .ok (.aload_n 0, 1) := by decide +kernel
theorem dX1_takeNewMan_192 : decode cX1_takeNewMan 192 = .ok (.getfield 22, 3) := by decide +kernel
theorem dX1_takeNewMan_195 : decode cX1_takeNewMan 195 = .ok (.getfield 101, 3) := by decide +kernel
theorem dX1_takeNewMan_198 : decode cX1_takeNewMan 198 = .ok (.iload 6, 2) := by decide +kernel
theorem dX1_takeNewMan_200 : decode cX1_takeNewMan 200 = .ok (.iload 5, 2) := by decide +kernel
theorem dX1_takeNewMan_202 : decode cX1_takeNewMan 202 = .ok (.iastore, 1) := by decide +kernel
theorem dX1_takeNewMan_203 : decode cX1_takeNewMan 203 = .ok (.iconst 1, 1) := by decide +kernel
theorem dX1_takeNewMan_204 : decode cX1_takeNewMan 204 = .ok (.ireturn, 1) := by decide +kernel
theorem mv_X1_takeNewMan : MV yX1_takeNewMan RX1 cX1_takeNewMan 7 (some .boolean) 0 := ⟨tb_652, tb_651, ts_10, tb_10, by decide +kernel, by decide +kernel, by decide +kernel⟩
def f_X1_takeNewMan_j150 (fu : Nat) (t_bytes : Nat → Int32) (t_wordCodes : Nat → Int64) (t_end : Int32) (r_fault : Int32) (r_place : Int32) (t_kind : Int32) (t_start : Int32) (t_value : Int32) (t_word : Int32) (t_name : Int64) (t_at : Int32) (a_name : Nat → Int64) (a_courage : Nat → Int32) (a_weight : Nat → Int32) (a_medals : Nat → Int32) (a_stood : Nat → Int32) (a_fled : Nat → Int32) (a_liked : Nat → Int32) (a_count : Int32) (a_living : Int32) (x1 : Int64) (x3 : Int32) (x4 : Int32) (s0 : Int32) : Option (Int32 × Int32 × Int32 × Int32 × Int32 × Int32 × Int32 × Int64 × Int32 × (Nat → Int64) × (Nat → Int32) × (Nat → Int32) × (Nat → Int32) × (Nat → Int32) × (Nat → Int32) × (Nat → Int32) × Int32 × Int32) := (if s0 = (-1) then some (0, r_fault, r_place, t_kind, t_start, t_value, t_word, t_name, t_at, a_name, a_courage, a_weight, a_medals, a_stood, a_fled, a_liked, a_count, a_living) else (f_X6_takeSign fu r_fault r_place t_bytes t_wordCodes t_kind t_start t_value t_word t_name t_end t_at 59).bind fun z_27 => (if z_27.1 = 0 then some (0, z_27.2.1, z_27.2.2.1, z_27.2.2.2.1, z_27.2.2.2.2.1, z_27.2.2.2.2.2.1, z_27.2.2.2.2.2.2.1, z_27.2.2.2.2.2.2.2.1, z_27.2.2.2.2.2.2.2.2, a_name, a_courage, a_weight, a_medals, a_stood, a_fled, a_liked, a_count, a_living) else (f_X0_add fu a_name a_courage a_weight a_medals a_stood a_fled a_liked a_count a_living x1 x3 x4).bind fun z_29 => (if z_29.1 = (-1) then some (1, z_27.2.1, z_27.2.2.1, z_27.2.2.2.1, z_27.2.2.2.2.1, z_27.2.2.2.2.2.1, z_27.2.2.2.2.2.2.1, z_27.2.2.2.2.2.2.2.1, z_27.2.2.2.2.2.2.2.2, z_29.2.1, z_29.2.2.1, z_29.2.2.2.1, z_29.2.2.2.2.1, z_29.2.2.2.2.2.1, z_29.2.2.2.2.2.2.1, z_29.2.2.2.2.2.2.2.1, z_29.2.2.2.2.2.2.2.2.1, z_29.2.2.2.2.2.2.2.2.2) else (wrI z_29.2.2.2.2.1 8 z_29.1 s0).bind fun a_medals_31 => some (1, z_27.2.1, z_27.2.2.1, z_27.2.2.2.1, z_27.2.2.2.2.1, z_27.2.2.2.2.2.1, z_27.2.2.2.2.2.2.1, z_27.2.2.2.2.2.2.2.1, z_27.2.2.2.2.2.2.2.2, z_29.2.1, z_29.2.2.1, z_29.2.2.2.1, a_medals_31, z_29.2.2.2.2.2.1, z_29.2.2.2.2.2.2.1, z_29.2.2.2.2.2.2.2.1, z_29.2.2.2.2.2.2.2.2.1, z_29.2.2.2.2.2.2.2.2.2))))
def f_X1_takeNewMan_j130 (fu : Nat) (t_bytes : Nat → Int32) (t_wordCodes : Nat → Int64) (t_end : Int32) (r_fault : Int32) (r_place : Int32) (t_kind : Int32) (t_start : Int32) (t_value : Int32) (t_word : Int32) (t_name : Int64) (t_at : Int32) (a_name : Nat → Int64) (a_courage : Nat → Int32) (a_weight : Nat → Int32) (a_medals : Nat → Int32) (a_stood : Nat → Int32) (a_fled : Nat → Int32) (a_liked : Nat → Int32) (a_count : Int32) (a_living : Int32) (x1 : Int64) (x3 : Int32) (s0 : Int32) : Option (Int32 × Int32 × Int32 × Int32 × Int32 × Int32 × Int32 × Int64 × Int32 × (Nat → Int64) × (Nat → Int32) × (Nat → Int32) × (Nat → Int32) × (Nat → Int32) × (Nat → Int32) × (Nat → Int32) × Int32 × Int32) := (if s0 = (-1) then f_X1_takeNewMan_j150 fu t_bytes t_wordCodes t_end r_fault r_place t_kind t_start t_value t_word t_name t_at a_name a_courage a_weight a_medals a_stood a_fled a_liked a_count a_living x1 x3 s0 (-1) else (f_X1_takeIfTold fu r_fault r_place t_bytes t_wordCodes t_kind t_start t_value t_word t_name t_end t_at 5 99 0).bind fun z_33 => f_X1_takeNewMan_j150 fu t_bytes t_wordCodes t_end z_33.2.1 z_33.2.2.1 z_33.2.2.2.1 z_33.2.2.2.2.1 z_33.2.2.2.2.2.1 z_33.2.2.2.2.2.2.1 z_33.2.2.2.2.2.2.2.1 z_33.2.2.2.2.2.2.2.2 a_name a_courage a_weight a_medals a_stood a_fled a_liked a_count a_living x1 x3 s0 z_33.1)
def f_X1_takeNewMan (fu : Nat) (r_fault : Int32) (r_place : Int32) (t_bytes : Nat → Int32) (t_wordCodes : Nat → Int64) (t_kind : Int32) (t_start : Int32) (t_value : Int32) (t_word : Int32) (t_name : Int64) (t_end : Int32) (t_at : Int32) (a_name : Nat → Int64) (a_courage : Nat → Int32) (a_weight : Nat → Int32) (a_medals : Nat → Int32) (a_stood : Nat → Int32) (a_fled : Nat → Int32) (a_liked : Nat → Int32) (a_count : Int32) (a_living : Int32) : Option (Int32 × Int32 × Int32 × Int32 × Int32 × Int32 × Int32 × Int64 × Int32 × (Nat → Int64) × (Nat → Int32) × (Nat → Int32) × (Nat → Int32) × (Nat → Int32) × (Nat → Int32) × (Nat → Int32) × Int32 × Int32) := (if a_count < 8 then (f_X7_next fu t_bytes t_wordCodes t_kind t_start t_value t_word t_name t_end t_at).bind fun z_35 => (if (lg_cmp z_35.2.2.2.2.1 0) = 0 then (f_X6_fail fu r_fault r_place z_35.1 z_35.2.1 2).bind fun z_47 => (bz z_47.1).bind fun _ => some (z_47.1, z_47.2.1, z_47.2.2, z_35.1, z_35.2.1, z_35.2.2.1, z_35.2.2.2.1, z_35.2.2.2.2.1, z_35.2.2.2.2.2, a_name, a_courage, a_weight, a_medals, a_stood, a_fled, a_liked, a_count, a_living) else (f_X0_named fu a_name a_count z_35.2.2.2.2.1).bind fun z_37 => (if z_37 = (-1) then (f_X7_next fu t_bytes t_wordCodes z_35.1 z_35.2.1 z_35.2.2.1 z_35.2.2.2.1 z_35.2.2.2.2.1 t_end z_35.2.2.2.2.2).bind fun z_39 => (f_X6_takeWord fu r_fault r_place t_bytes t_wordCodes z_39.1 z_39.2.1 z_39.2.2.1 z_39.2.2.2.1 z_39.2.2.2.2.1 t_end z_39.2.2.2.2.2 3).bind fun z_40 => (if z_40.1 = 0 then some (0, z_40.2.1, z_40.2.2.1, z_40.2.2.2.1, z_40.2.2.2.2.1, z_40.2.2.2.2.2.1, z_40.2.2.2.2.2.2.1, z_40.2.2.2.2.2.2.2.1, z_40.2.2.2.2.2.2.2.2, a_name, a_courage, a_weight, a_medals, a_stood, a_fled, a_liked, a_count, a_living) else (f_X6_takeNumber fu z_40.2.1 z_40.2.2.1 t_bytes t_wordCodes z_40.2.2.2.1 z_40.2.2.2.2.1 z_40.2.2.2.2.2.1 z_40.2.2.2.2.2.2.1 z_40.2.2.2.2.2.2.2.1 t_end z_40.2.2.2.2.2.2.2.2 0 20).bind fun z_42 => (if z_42.1 = (-1) then f_X1_takeNewMan_j130 fu t_bytes t_wordCodes t_end z_42.2.1 z_42.2.2.1 z_42.2.2.2.1 z_42.2.2.2.2.1 z_42.2.2.2.2.2.1 z_42.2.2.2.2.2.2.1 z_42.2.2.2.2.2.2.2.1 z_42.2.2.2.2.2.2.2.2 a_name a_courage a_weight a_medals a_stood a_fled a_liked a_count a_living z_35.2.2.2.2.1 z_42.1 (-1) else (f_X1_takeIfTold fu z_42.2.1 z_42.2.2.1 t_bytes t_wordCodes z_42.2.2.2.1 z_42.2.2.2.2.1 z_42.2.2.2.2.2.1 z_42.2.2.2.2.2.2.1 z_42.2.2.2.2.2.2.2.1 t_end z_42.2.2.2.2.2.2.2.2 4 9 1).bind fun z_44 => f_X1_takeNewMan_j130 fu t_bytes t_wordCodes t_end z_44.2.1 z_44.2.2.1 z_44.2.2.2.1 z_44.2.2.2.2.1 z_44.2.2.2.2.2.1 z_44.2.2.2.2.2.2.1 z_44.2.2.2.2.2.2.2.1 z_44.2.2.2.2.2.2.2.2 a_name a_courage a_weight a_medals a_stood a_fled a_liked a_count a_living z_35.2.2.2.2.1 z_42.1 z_44.1)) else (f_X6_fail fu r_fault r_place z_35.1 z_35.2.1 3).bind fun z_45 => (bz z_45.1).bind fun _ => some (z_45.1, z_45.2.1, z_45.2.2, z_35.1, z_35.2.1, z_35.2.2.1, z_35.2.2.2.1, z_35.2.2.2.2.1, z_35.2.2.2.2.2, a_name, a_courage, a_weight, a_medals, a_stood, a_fled, a_liked, a_count, a_living))) else (f_X6_fail fu r_fault r_place t_kind t_start 6).bind fun z_49 => (bz z_49.1).bind fun _ => some (z_49.1, z_49.2.1, z_49.2.2, t_kind, t_start, t_value, t_word, t_name, t_at, a_name, a_courage, a_weight, a_medals, a_stood, a_fled, a_liked, a_count, a_living))
abbrev rm_X1_takeNewMan : Room := { frames := 4, cells := 0, slots := 0, locals := 89 }
set_option maxHeartbeats 4000000 in
set_option maxRecDepth 100000 in
theorem c_X1_takeNewMan (l : Launch) (D : va_G) (cy : Nat → ClassId) (fu : Nat) (A_k : Nat → Nat) (k_prideTold : Int32) (k_quotaTold : Int32) (A_r : Nat → Nat) (r_fault : Int32) (r_place : Int32) (A_t : Nat → Nat) (t_bytes : Nat → Int32) (t_wordCodes : Nat → Int64) (t_length : Int32) (t_kind : Int32) (t_start : Int32) (t_value : Int32) (t_word : Int32) (t_name : Int64) (t_end : Int32) (t_at : Int32) (A_a : Nat → Nat) (a_name : Nat → Int64) (a_courage : Nat → Int32) (a_weight : Nat → Int32) (a_medals : Nat → Int32) (a_stood : Nat → Int32) (a_fled : Nat → Int32) (a_liked : Nat → Int32) (a_votes : Nat → Int32) (a_count : Int32) (a_living : Int32) (a_pride : Int32) (a_quota : Int32) (a_melted : Int32) (a_lost : Int32) (res : Int32 × Int32 × Int32 × Int32 × Int32 × Int32 × Int32 × Int64 × Int32 × (Nat → Int64) × (Nat → Int32) × (Nat → Int32) × (Nat → Int32) × (Nat → Int32) × (Nat → Int32) × (Nat → Int32) × Int32 × Int32) (h : f_X1_takeNewMan fu r_fault r_place t_bytes t_wordCodes t_kind t_start t_value t_word t_name t_end t_at a_name a_courage a_weight a_medals a_stood a_fled a_liked a_count a_living = some res) (A : Nat → Prop) (hA : A = adr [bl_X1 cy A_k (A_r 0) (A_a 0) k_prideTold k_quotaTold, bl_X6 cy A_r (A_t 0) r_fault r_place, bl_X7 cy A_t t_bytes t_wordCodes t_length t_kind t_start t_value t_word t_name t_end t_at, bl_X0 cy A_a a_name a_courage a_weight a_medals a_stood a_fled a_liked a_votes a_count a_living a_pride a_quota a_melted a_lost]) (W1 : List va_W) (hW1 : W1 = [bl_X1 cy A_k (A_r 0) (A_a 0) k_prideTold k_quotaTold, bl_X6 cy A_r (A_t 0) res.2.1 res.2.2.1, bl_X7 cy A_t t_bytes t_wordCodes t_length res.2.2.2.1 res.2.2.2.2.1 res.2.2.2.2.2.1 res.2.2.2.2.2.2.1 res.2.2.2.2.2.2.2.1 t_end res.2.2.2.2.2.2.2.2.1, bl_X0 cy A_a res.2.2.2.2.2.2.2.2.2.1 res.2.2.2.2.2.2.2.2.2.2.1 res.2.2.2.2.2.2.2.2.2.2.2.1 res.2.2.2.2.2.2.2.2.2.2.2.2.1 res.2.2.2.2.2.2.2.2.2.2.2.2.2.1 res.2.2.2.2.2.2.2.2.2.2.2.2.2.2.1 res.2.2.2.2.2.2.2.2.2.2.2.2.2.2.2.1 a_votes res.2.2.2.2.2.2.2.2.2.2.2.2.2.2.2.2.1 res.2.2.2.2.2.2.2.2.2.2.2.2.2.2.2.2.2 a_pride a_quota a_melted a_lost]) : Met l yX1_takeNewMan (WW yX1_takeNewMan cX1_takeNewMan 7 (some .boolean)) rm_X1_takeNewMan (Ed D cy [.ref (A_k 0)] [bl_X1 cy A_k (A_r 0) (A_a 0) k_prideTold k_quotaTold, bl_X6 cy A_r (A_t 0) r_fault r_place, bl_X7 cy A_t t_bytes t_wordCodes t_length t_kind t_start t_value t_word t_name t_end t_at, bl_X0 cy A_a a_name a_courage a_weight a_medals a_stood a_fled a_liked a_votes a_count a_living a_pride a_quota a_melted a_lost]) (Qei D res.1 A W1) 0 0 A := by
  refine Met.ofW (cc := cX1_takeNewMan) (maxL := 7) (ret := (some .boolean)) (by decide) rfl ?_
  intro p e s m args below meth c s₁ B hml hv
  obtain ⟨hargs, hP, hX, hD0⟩ := hv
  have hx := B.exec
  have hb := B.bytes
  have hr := B.returns
  have ht : ∀ w ∈ lw_gd, w.before args s = true := fun w hw => atoms_spec (ws := WW yX1_takeNewMan cX1_takeNewMan 7 (some .boolean)) B.pre w (List.mem_cons_of_mem _ hw)
  have hown : s.vm.findClass RX1 = some m.cls := findClass_of_methodNamed B.named
  have hlocks := B.notSynchronized
  have hP : PD D A [bl_X1 cy A_k (A_r 0) (A_a 0) k_prideTold k_quotaTold, bl_X6 cy A_r (A_t 0) r_fault r_place, bl_X7 cy A_t t_bytes t_wordCodes t_length t_kind t_start t_value t_word t_name t_end t_at, bl_X0 cy A_a a_name a_courage a_weight a_medals a_stood a_fled a_liked a_votes a_count a_living a_pride a_quota a_melted a_lost] s.heap := ⟨hP, by rw [hA]; exact hD0.own⟩
  have hS : va_S A s.heap s.heap [] := va_S.rf
  obtain ⟨ls, hl, hent⟩ := ent (m := m) (n := 7) hargs (Nat.le_of_ble_eq_true rfl) (lv := [(0, .ref (A_k 0))]) rfl
  rw [hent]
  clear hent
  have j150 : ∀ (r_fault : Int32) (r_place : Int32) (t_kind : Int32) (t_start : Int32) (t_value : Int32) (t_word : Int32) (t_name : Int64) (t_at : Int32) (a_name : Nat → Int64) (a_courage : Nat → Int32) (a_weight : Nat → Int32) (a_medals : Nat → Int32) (a_stood : Nat → Int32) (a_fled : Nat → Int32) (a_liked : Nat → Int32) (a_count : Int32) (a_living : Int32) (x1 : Int64) (x3 : Int32) (x4 : Int32) (s0 : Int32) (H : Heap) (locs : List Loc) (_ : PD D A [bl_X1 cy A_k (A_r 0) (A_a 0) k_prideTold k_quotaTold, bl_X6 cy A_r (A_t 0) r_fault r_place, bl_X7 cy A_t t_bytes t_wordCodes t_length t_kind t_start t_value t_word t_name t_end t_at, bl_X0 cy A_a a_name a_courage a_weight a_medals a_stood a_fled a_liked a_votes a_count a_living a_pride a_quota a_melted a_lost] H) (_ : va_S A s.heap H locs) (ls : Array Slot), lv_has ls 7 [(0, .ref (A_k 0)), (1, .long x1), (3, .int x3), (4, .int x4)] → f_X1_takeNewMan_j150 fu t_bytes t_wordCodes t_end r_fault r_place t_kind t_start t_value t_word t_name t_at a_name a_courage a_weight a_medals a_stood a_fled a_liked a_count a_living x1 x3 x4 s0 = some res → W p l e (headSpec (WW yX1_takeNewMan cX1_takeNewMan 7 (some .boolean)) rm_X1_takeNewMan).room s m args below meth c H locs 0 0 (MQ below (Qei D res.1 A W1) args s 0 0 A) (F0 m 150 ls [.int s0]) := by
    intro r_fault r_place t_kind t_start t_value t_word t_name t_at a_name a_courage a_weight a_medals a_stood a_fled a_liked a_count a_living x1 x3 x4 s0 H locs hP hS ls hl h
    unfold f_X1_takeNewMan_j150 at h
    refine lv_istore (lv' := [(5, .int s0), (0, .ref (A_k 0)), (1, .long x1), (3, .int x3), (4, .int x4)]) hx hb dX1_takeNewMan_150 hl (by decide) rfl (fun ls hl => ?_)
    refine lv_iload hx hb dX1_takeNewMan_152 (lv_at hl 0 rfl) ?_
    refine lv_iconst (v := (-1)) hx hb dX1_takeNewMan_154 (by decide) ?_
    refine lv_icmp_eq (tgt := 170) hx hb dX1_takeNewMan_155 (by decide) (fun c_26 => ?_) (fun c_26 => ?_)
    · have h := it c_26 h
      refine lv_iconst (v := 0) hx hb dX1_takeNewMan_170 (by decide) ?_
      cases h
      subst hW1
      exact W.zret hx hb hr rfl (fun _ ht9 _ => ⟨⟨_, (), rfl, rfl, hPt ht9 hP.1⟩, hS.F ht9⟩) hS.2.2 dX1_takeNewMan_171
    · have h := ie c_26 h
      refine lv_aload_n hx hb dX1_takeNewMan_158 rfl (lv_at hl 1 rfl) ?_
      refine xget (i := 0) (j := 0) (k := 0) (T := TX1) hx hb ht tb_iX1 hown hX hP.1 rfl rfl rfl (by decide) tb_281 rfl dX1_takeNewMan_159 ?_
      refine lv_bipush (v := 59) hx hb dX1_takeNewMan_162 (by decide) ?_
      obtain ⟨z_27, e_z_27, h⟩ := bi h
      refine efVi (rest := []) ⟨hx, hb, hml, hown, ht⟩ (c_X6_takeSign l D cy fu A_r r_fault r_place A_t t_bytes t_wordCodes t_length t_kind t_start t_value t_word t_name t_end t_at 59 z_27 e_z_27 _ rfl _ rfl) (cV ht mv_X6_takeSign tb_637 rfl rfl ⟨Nat.le_of_ble_eq_true rfl, Nat.le_of_ble_eq_true rfl⟩) hP hS hX [1, 2] rfl rfl rfl rfl rfl rfl hl.1 rfl (Nat.le_of_ble_eq_true rfl) dX1_takeNewMan_164 ⟨Nat.le_of_ble_eq_true rfl, Nat.le_of_ble_eq_true rfl⟩ (fun H locs hP hS => ?_)
      have hP : PD D A [bl_X1 cy A_k (A_r 0) (A_a 0) k_prideTold k_quotaTold, bl_X6 cy A_r (A_t 0) z_27.2.1 z_27.2.2.1, bl_X7 cy A_t t_bytes t_wordCodes t_length z_27.2.2.2.1 z_27.2.2.2.2.1 z_27.2.2.2.2.2.1 z_27.2.2.2.2.2.2.1 z_27.2.2.2.2.2.2.2.1 t_end z_27.2.2.2.2.2.2.2.2, bl_X0 cy A_a a_name a_courage a_weight a_medals a_stood a_fled a_liked a_votes a_count a_living a_pride a_quota a_melted a_lost] H := hP
      refine lv_if_ne (tgt := 172) hx hb dX1_takeNewMan_167 (by decide) (fun c_28 => ?_) (fun c_28 => ?_)
      · have h := ie c_28 h
        refine lv_aload_n hx hb dX1_takeNewMan_172 rfl (lv_at hl 1 rfl) ?_
        refine xget (i := 0) (j := 0) (k := 1) (T := TX1) hx hb ht tb_iX1 hown hX hP.1 rfl rfl rfl (by decide) tb_282 rfl dX1_takeNewMan_173 ?_
        refine lv_lload_n hx hb dX1_takeNewMan_176 rfl (lv_at hl 2 rfl) ?_
        refine lv_iload_n hx hb dX1_takeNewMan_177 rfl (lv_at hl 3 rfl) ?_
        refine lv_iload hx hb dX1_takeNewMan_178 (lv_at hl 4 rfl) ?_
        obtain ⟨z_29, e_z_29, h⟩ := bi h
        refine efVi (rest := []) ⟨hx, hb, hml, hown, ht⟩ (c_X0_add l D cy fu A_a a_name a_courage a_weight a_medals a_stood a_fled a_liked a_votes a_count a_living a_pride a_quota a_melted a_lost x1 x3 x4 z_29 e_z_29 _ rfl _ rfl) (cV ht mv_X0_add tb_665 rfl rfl ⟨Nat.le_of_ble_eq_true rfl, Nat.le_of_ble_eq_true rfl⟩) hP hS hX [3] rfl rfl rfl rfl rfl rfl hl.1 rfl (Nat.le_of_ble_eq_true rfl) dX1_takeNewMan_180 ⟨Nat.le_of_ble_eq_true rfl, Nat.le_of_ble_eq_true rfl⟩ (fun H locs hP hS => ?_)
        have hP : PD D A [bl_X1 cy A_k (A_r 0) (A_a 0) k_prideTold k_quotaTold, bl_X6 cy A_r (A_t 0) z_27.2.1 z_27.2.2.1, bl_X7 cy A_t t_bytes t_wordCodes t_length z_27.2.2.2.1 z_27.2.2.2.2.1 z_27.2.2.2.2.2.1 z_27.2.2.2.2.2.2.1 z_27.2.2.2.2.2.2.2.1 t_end z_27.2.2.2.2.2.2.2.2, bl_X0 cy A_a z_29.2.1 z_29.2.2.1 z_29.2.2.2.1 z_29.2.2.2.2.1 z_29.2.2.2.2.2.1 z_29.2.2.2.2.2.2.1 z_29.2.2.2.2.2.2.2.1 a_votes z_29.2.2.2.2.2.2.2.2.1 z_29.2.2.2.2.2.2.2.2.2 a_pride a_quota a_melted a_lost] H := hP
        refine lv_istore (lv' := [(6, .int z_29.1), (5, .int s0), (0, .ref (A_k 0)), (1, .long x1), (3, .int x3), (4, .int x4)]) hx hb dX1_takeNewMan_183 hl (by decide) rfl (fun ls hl => ?_)
        refine lv_iload hx hb dX1_takeNewMan_185 (lv_at hl 0 rfl) ?_
        refine lv_iconst (v := (-1)) hx hb dX1_takeNewMan_187 (by decide) ?_
        refine lv_icmp_eq (tgt := 203) hx hb dX1_takeNewMan_188 (by decide) (fun c_30 => ?_) (fun c_30 => ?_)
        · have h := it c_30 h
          refine lv_iconst (v := 1) hx hb dX1_takeNewMan_203 (by decide) ?_
          cases h
          subst hW1
          exact W.zret hx hb hr rfl (fun _ ht9 _ => ⟨⟨_, (), rfl, rfl, hPt ht9 hP.1⟩, hS.F ht9⟩) hS.2.2 dX1_takeNewMan_204
        · have h := ie c_30 h
          refine lv_aload_n hx hb dX1_takeNewMan_191 rfl (lv_at hl 2 rfl) ?_
          refine xget (i := 0) (j := 0) (k := 1) (T := TX1) hx hb ht tb_iX1 hown hX hP.1 rfl rfl rfl (by decide) tb_282 rfl dX1_takeNewMan_192 ?_
          refine xget (i := 3) (j := 0) (k := 3) (T := TX0) hx hb ht tb_iX0 hown hX hP.1 rfl rfl rfl (by decide) tb_45 rfl dX1_takeNewMan_195 ?_
          refine lv_iload hx hb dX1_takeNewMan_198 (lv_at hl 0 rfl) ?_
          refine lv_iload hx hb dX1_takeNewMan_200 (lv_at hl 1 rfl) ?_
          obtain ⟨a_medals_31, e_a_medals_31, h⟩ := bi h
          refine xiast (i0 := 3) (j0 := 4) hx hb hX hP hS rfl rfl e_a_medals_31 dX1_takeNewMan_202 (fun H locs hP hS => ?_)
          have hP : PD D A [bl_X1 cy A_k (A_r 0) (A_a 0) k_prideTold k_quotaTold, bl_X6 cy A_r (A_t 0) z_27.2.1 z_27.2.2.1, bl_X7 cy A_t t_bytes t_wordCodes t_length z_27.2.2.2.1 z_27.2.2.2.2.1 z_27.2.2.2.2.2.1 z_27.2.2.2.2.2.2.1 z_27.2.2.2.2.2.2.2.1 t_end z_27.2.2.2.2.2.2.2.2, bl_X0 cy A_a z_29.2.1 z_29.2.2.1 z_29.2.2.2.1 a_medals_31 z_29.2.2.2.2.2.1 z_29.2.2.2.2.2.2.1 z_29.2.2.2.2.2.2.2.1 a_votes z_29.2.2.2.2.2.2.2.2.1 z_29.2.2.2.2.2.2.2.2.2 a_pride a_quota a_melted a_lost] H := hP
          refine lv_iconst (v := 1) hx hb dX1_takeNewMan_203 (by decide) ?_
          cases h
          subst hW1
          exact W.zret hx hb hr rfl (fun _ ht9 _ => ⟨⟨_, (), rfl, rfl, hPt ht9 hP.1⟩, hS.F ht9⟩) hS.2.2 dX1_takeNewMan_204
      · have h := it c_28 h
        refine lv_iconst (v := 0) hx hb dX1_takeNewMan_170 (by decide) ?_
        cases h
        subst hW1
        exact W.zret hx hb hr rfl (fun _ ht9 _ => ⟨⟨_, (), rfl, rfl, hPt ht9 hP.1⟩, hS.F ht9⟩) hS.2.2 dX1_takeNewMan_171
  have j130 : ∀ (r_fault : Int32) (r_place : Int32) (t_kind : Int32) (t_start : Int32) (t_value : Int32) (t_word : Int32) (t_name : Int64) (t_at : Int32) (a_name : Nat → Int64) (a_courage : Nat → Int32) (a_weight : Nat → Int32) (a_medals : Nat → Int32) (a_stood : Nat → Int32) (a_fled : Nat → Int32) (a_liked : Nat → Int32) (a_count : Int32) (a_living : Int32) (x1 : Int64) (x3 : Int32) (s0 : Int32) (H : Heap) (locs : List Loc) (_ : PD D A [bl_X1 cy A_k (A_r 0) (A_a 0) k_prideTold k_quotaTold, bl_X6 cy A_r (A_t 0) r_fault r_place, bl_X7 cy A_t t_bytes t_wordCodes t_length t_kind t_start t_value t_word t_name t_end t_at, bl_X0 cy A_a a_name a_courage a_weight a_medals a_stood a_fled a_liked a_votes a_count a_living a_pride a_quota a_melted a_lost] H) (_ : va_S A s.heap H locs) (ls : Array Slot), lv_has ls 7 [(0, .ref (A_k 0)), (1, .long x1), (3, .int x3)] → f_X1_takeNewMan_j130 fu t_bytes t_wordCodes t_end r_fault r_place t_kind t_start t_value t_word t_name t_at a_name a_courage a_weight a_medals a_stood a_fled a_liked a_count a_living x1 x3 s0 = some res → W p l e (headSpec (WW yX1_takeNewMan cX1_takeNewMan 7 (some .boolean)) rm_X1_takeNewMan).room s m args below meth c H locs 0 0 (MQ below (Qei D res.1 A W1) args s 0 0 A) (F0 m 130 ls [.int s0]) := by
    intro r_fault r_place t_kind t_start t_value t_word t_name t_at a_name a_courage a_weight a_medals a_stood a_fled a_liked a_count a_living x1 x3 s0 H locs hP hS ls hl h
    unfold f_X1_takeNewMan_j130 at h
    refine lv_istore (lv' := [(4, .int s0), (0, .ref (A_k 0)), (1, .long x1), (3, .int x3)]) hx hb dX1_takeNewMan_130 hl (by decide) rfl (fun ls hl => ?_)
    refine lv_iload hx hb dX1_takeNewMan_132 (lv_at hl 0 rfl) ?_
    refine lv_iconst (v := (-1)) hx hb dX1_takeNewMan_134 (by decide) ?_
    refine lv_icmp_ne (tgt := 142) hx hb dX1_takeNewMan_135 (by decide) (fun c_32 => ?_) (fun c_32 => ?_)
    · have h := ie c_32 h
      refine lv_aload_n hx hb dX1_takeNewMan_142 rfl (lv_at hl 1 rfl) ?_
      refine lv_iconst (v := 5) hx hb dX1_takeNewMan_143 (by decide) ?_
      refine lv_bipush (v := 99) hx hb dX1_takeNewMan_144 (by decide) ?_
      refine lv_iconst (v := 0) hx hb dX1_takeNewMan_146 (by decide) ?_
      obtain ⟨z_33, e_z_33, h⟩ := bi h
      refine efVi (rest := []) ⟨hx, hb, hml, hown, ht⟩ (c_X1_takeIfTold l D cy fu A_k k_prideTold k_quotaTold A_r r_fault r_place A_t t_bytes t_wordCodes t_length t_kind t_start t_value t_word t_name t_end t_at A_a a_name a_courage a_weight a_medals a_stood a_fled a_liked a_votes a_count a_living a_pride a_quota a_melted a_lost 5 99 0 z_33 e_z_33 _ rfl _ rfl) (cV ht mv_X1_takeIfTold tb_661 rfl rfl ⟨Nat.le_of_ble_eq_true rfl, Nat.le_of_ble_eq_true rfl⟩) hP hS hX [0, 1, 2, 3] rfl rfl rfl rfl rfl rfl hl.1 rfl (Nat.le_of_ble_eq_true rfl) dX1_takeNewMan_147 ⟨Nat.le_of_ble_eq_true rfl, Nat.le_of_ble_eq_true rfl⟩ (fun H locs hP hS => ?_)
      have hP : PD D A [bl_X1 cy A_k (A_r 0) (A_a 0) k_prideTold k_quotaTold, bl_X6 cy A_r (A_t 0) z_33.2.1 z_33.2.2.1, bl_X7 cy A_t t_bytes t_wordCodes t_length z_33.2.2.2.1 z_33.2.2.2.2.1 z_33.2.2.2.2.2.1 z_33.2.2.2.2.2.2.1 z_33.2.2.2.2.2.2.2.1 t_end z_33.2.2.2.2.2.2.2.2, bl_X0 cy A_a a_name a_courage a_weight a_medals a_stood a_fled a_liked a_votes a_count a_living a_pride a_quota a_melted a_lost] H := hP
      exact j150 z_33.2.1 z_33.2.2.1 z_33.2.2.2.1 z_33.2.2.2.2.1 z_33.2.2.2.2.2.1 z_33.2.2.2.2.2.2.1 z_33.2.2.2.2.2.2.2.1 z_33.2.2.2.2.2.2.2.2 a_name a_courage a_weight a_medals a_stood a_fled a_liked a_count a_living x1 x3 s0 z_33.1 _ _ hP hS ls (lv_sub hl [1, 2, 3, 0] rfl) h
    · have h := it c_32 h
      refine lv_iconst (v := (-1)) hx hb dX1_takeNewMan_138 (by decide) ?_
      refine lv_goto (tgt := 150) hx hb dX1_takeNewMan_139 (by decide) ?_
      exact j150 r_fault r_place t_kind t_start t_value t_word t_name t_at a_name a_courage a_weight a_medals a_stood a_fled a_liked a_count a_living x1 x3 s0 (-1) _ _ hP hS ls (lv_sub hl [1, 2, 3, 0] rfl) h
  unfold f_X1_takeNewMan at h
  refine lv_aload_n hx hb dX1_takeNewMan_0 rfl (lv_at hl 0 rfl) ?_
  refine xget (i := 0) (j := 0) (k := 1) (T := TX1) hx hb ht tb_iX1 hown hX hP.1 rfl rfl rfl (by decide) tb_282 rfl dX1_takeNewMan_1 ?_
  refine xget (i := 3) (j := 0) (k := 8) (T := TX0) hx hb ht tb_iX0 hown hX hP.1 rfl rfl rfl (by decide) tb_57 rfl dX1_takeNewMan_4 ?_
  refine lv_bipush (v := 8) hx hb dX1_takeNewMan_7 (by decide) ?_
  refine lv_icmp_lt (tgt := 22) hx hb dX1_takeNewMan_9 (by decide) (fun c_34 => ?_) (fun c_34 => ?_)
  · have h := it c_34 h
    refine lv_aload_n hx hb dX1_takeNewMan_22 rfl (lv_at hl 0 rfl) ?_
    refine xget (i := 0) (j := 0) (k := 0) (T := TX1) hx hb ht tb_iX1 hown hX hP.1 rfl rfl rfl (by decide) tb_281 rfl dX1_takeNewMan_23 ?_
    refine xget (i := 1) (j := 0) (k := 0) (T := TX6) hx hb ht tb_iX6 hown hX hP.1 rfl rfl rfl (by decide) tb_261 rfl dX1_takeNewMan_26 ?_
    obtain ⟨z_35, e_z_35, h⟩ := bi h
    refine efVv (rest := []) ⟨hx, hb, hml, hown, ht⟩ (c_X7_next l D cy fu A_t t_bytes t_wordCodes t_length t_kind t_start t_value t_word t_name t_end t_at z_35 e_z_35 _ rfl _ rfl) (cV ht mv_X7_next tb_630 rfl rfl ⟨Nat.le_of_ble_eq_true rfl, Nat.le_of_ble_eq_true rfl⟩) hP hS hX [2] rfl rfl rfl rfl rfl rfl hl.1 rfl (Nat.le_of_ble_eq_true rfl) dX1_takeNewMan_29 ⟨Nat.le_of_ble_eq_true rfl, Nat.le_of_ble_eq_true rfl⟩ (fun H locs hP hS => ?_)
    have hP : PD D A [bl_X1 cy A_k (A_r 0) (A_a 0) k_prideTold k_quotaTold, bl_X6 cy A_r (A_t 0) r_fault r_place, bl_X7 cy A_t t_bytes t_wordCodes t_length z_35.1 z_35.2.1 z_35.2.2.1 z_35.2.2.2.1 z_35.2.2.2.2.1 t_end z_35.2.2.2.2.2, bl_X0 cy A_a a_name a_courage a_weight a_medals a_stood a_fled a_liked a_votes a_count a_living a_pride a_quota a_melted a_lost] H := hP
    refine lv_aload_n hx hb dX1_takeNewMan_32 rfl (lv_at hl 0 rfl) ?_
    refine xget (i := 0) (j := 0) (k := 0) (T := TX1) hx hb ht tb_iX1 hown hX hP.1 rfl rfl rfl (by decide) tb_281 rfl dX1_takeNewMan_33 ?_
    refine xget (i := 1) (j := 0) (k := 0) (T := TX6) hx hb ht tb_iX6 hown hX hP.1 rfl rfl rfl (by decide) tb_261 rfl dX1_takeNewMan_36 ?_
    refine xget (i := 2) (j := 0) (k := 7) (T := TX7) hx hb ht tb_iX7 hown hX hP.1 rfl rfl rfl (by decide) tb_234 rfl dX1_takeNewMan_39 ?_
    refine lv_lstore_n (lv' := [(1, .long z_35.2.2.2.2.1), (0, .ref (A_k 0))]) hx hb dX1_takeNewMan_42 rfl hl (by decide) rfl (fun ls hl => ?_)
    refine lv_lload_n hx hb dX1_takeNewMan_43 rfl (lv_at hl 0 rfl) ?_
    refine lv_lconst (v := 0) hx hb dX1_takeNewMan_44 (by decide) ?_
    refine W.lcmp hx hb dX1_takeNewMan_45 ?_
    refine lv_if_ne (tgt := 58) hx hb dX1_takeNewMan_46 (by decide) (fun c_36 => ?_) (fun c_36 => ?_)
    · have h := ie c_36 h
      refine lv_aload_n hx hb dX1_takeNewMan_58 rfl (lv_at hl 1 rfl) ?_
      refine xget (i := 0) (j := 0) (k := 1) (T := TX1) hx hb ht tb_iX1 hown hX hP.1 rfl rfl rfl (by decide) tb_282 rfl dX1_takeNewMan_59 ?_
      refine lv_lload_n hx hb dX1_takeNewMan_62 rfl (lv_at hl 0 rfl) ?_
      obtain ⟨z_37, e_z_37, h⟩ := bi h
      refine roVi (rest := []) ⟨hx, hb, hml, hown, ht⟩ (c_X0_named l D cy fu A_a a_name a_courage a_weight a_medals a_stood a_fled a_liked a_votes a_count a_living a_pride a_quota a_melted a_lost z_35.2.2.2.2.1 z_37 e_z_37) (cV ht mv_X0_named tb_653 rfl rfl ⟨Nat.le_of_ble_eq_true rfl, Nat.le_of_ble_eq_true rfl⟩) (P_sub hP.1 [3] rfl) hX rfl rfl rfl hl.1 rfl (Nat.le_of_ble_eq_true rfl) dX1_takeNewMan_63 ⟨Nat.le_of_ble_eq_true rfl, Nat.le_of_ble_eq_true rfl⟩ ?_
      refine lv_iconst (v := (-1)) hx hb dX1_takeNewMan_66 (by decide) ?_
      refine lv_icmp_eq (tgt := 79) hx hb dX1_takeNewMan_67 (by decide) (fun c_38 => ?_) (fun c_38 => ?_)
      · have h := it c_38 h
        refine lv_aload_n hx hb dX1_takeNewMan_79 rfl (lv_at hl 1 rfl) ?_
        refine xget (i := 0) (j := 0) (k := 0) (T := TX1) hx hb ht tb_iX1 hown hX hP.1 rfl rfl rfl (by decide) tb_281 rfl dX1_takeNewMan_80 ?_
        refine xget (i := 1) (j := 0) (k := 0) (T := TX6) hx hb ht tb_iX6 hown hX hP.1 rfl rfl rfl (by decide) tb_261 rfl dX1_takeNewMan_83 ?_
        obtain ⟨z_39, e_z_39, h⟩ := bi h
        refine efVv (rest := []) ⟨hx, hb, hml, hown, ht⟩ (c_X7_next l D cy fu A_t t_bytes t_wordCodes t_length z_35.1 z_35.2.1 z_35.2.2.1 z_35.2.2.2.1 z_35.2.2.2.2.1 t_end z_35.2.2.2.2.2 z_39 e_z_39 _ rfl _ rfl) (cV ht mv_X7_next tb_630 rfl rfl ⟨Nat.le_of_ble_eq_true rfl, Nat.le_of_ble_eq_true rfl⟩) hP hS hX [2] rfl rfl rfl rfl rfl rfl hl.1 rfl (Nat.le_of_ble_eq_true rfl) dX1_takeNewMan_86 ⟨Nat.le_of_ble_eq_true rfl, Nat.le_of_ble_eq_true rfl⟩ (fun H locs hP hS => ?_)
        have hP : PD D A [bl_X1 cy A_k (A_r 0) (A_a 0) k_prideTold k_quotaTold, bl_X6 cy A_r (A_t 0) r_fault r_place, bl_X7 cy A_t t_bytes t_wordCodes t_length z_39.1 z_39.2.1 z_39.2.2.1 z_39.2.2.2.1 z_39.2.2.2.2.1 t_end z_39.2.2.2.2.2, bl_X0 cy A_a a_name a_courage a_weight a_medals a_stood a_fled a_liked a_votes a_count a_living a_pride a_quota a_melted a_lost] H := hP
        refine lv_aload_n hx hb dX1_takeNewMan_89 rfl (lv_at hl 1 rfl) ?_
        refine xget (i := 0) (j := 0) (k := 0) (T := TX1) hx hb ht tb_iX1 hown hX hP.1 rfl rfl rfl (by decide) tb_281 rfl dX1_takeNewMan_90 ?_
        refine lv_iconst (v := 3) hx hb dX1_takeNewMan_93 (by decide) ?_
        obtain ⟨z_40, e_z_40, h⟩ := bi h
        refine efVi (rest := []) ⟨hx, hb, hml, hown, ht⟩ (c_X6_takeWord l D cy fu A_r r_fault r_place A_t t_bytes t_wordCodes t_length z_39.1 z_39.2.1 z_39.2.2.1 z_39.2.2.2.1 z_39.2.2.2.2.1 t_end z_39.2.2.2.2.2 3 z_40 e_z_40 _ rfl _ rfl) (cV ht mv_X6_takeWord tb_657 rfl rfl ⟨Nat.le_of_ble_eq_true rfl, Nat.le_of_ble_eq_true rfl⟩) hP hS hX [1, 2] rfl rfl rfl rfl rfl rfl hl.1 rfl (Nat.le_of_ble_eq_true rfl) dX1_takeNewMan_94 ⟨Nat.le_of_ble_eq_true rfl, Nat.le_of_ble_eq_true rfl⟩ (fun H locs hP hS => ?_)
        have hP : PD D A [bl_X1 cy A_k (A_r 0) (A_a 0) k_prideTold k_quotaTold, bl_X6 cy A_r (A_t 0) z_40.2.1 z_40.2.2.1, bl_X7 cy A_t t_bytes t_wordCodes t_length z_40.2.2.2.1 z_40.2.2.2.2.1 z_40.2.2.2.2.2.1 z_40.2.2.2.2.2.2.1 z_40.2.2.2.2.2.2.2.1 t_end z_40.2.2.2.2.2.2.2.2, bl_X0 cy A_a a_name a_courage a_weight a_medals a_stood a_fled a_liked a_votes a_count a_living a_pride a_quota a_melted a_lost] H := hP
        refine lv_if_ne (tgt := 102) hx hb dX1_takeNewMan_97 (by decide) (fun c_41 => ?_) (fun c_41 => ?_)
        · have h := ie c_41 h
          refine lv_aload_n hx hb dX1_takeNewMan_102 rfl (lv_at hl 1 rfl) ?_
          refine xget (i := 0) (j := 0) (k := 0) (T := TX1) hx hb ht tb_iX1 hown hX hP.1 rfl rfl rfl (by decide) tb_281 rfl dX1_takeNewMan_103 ?_
          refine lv_iconst (v := 0) hx hb dX1_takeNewMan_106 (by decide) ?_
          refine lv_bipush (v := 20) hx hb dX1_takeNewMan_107 (by decide) ?_
          obtain ⟨z_42, e_z_42, h⟩ := bi h
          refine efVi (rest := []) ⟨hx, hb, hml, hown, ht⟩ (c_X6_takeNumber l D cy fu A_r z_40.2.1 z_40.2.2.1 A_t t_bytes t_wordCodes t_length z_40.2.2.2.1 z_40.2.2.2.2.1 z_40.2.2.2.2.2.1 z_40.2.2.2.2.2.2.1 z_40.2.2.2.2.2.2.2.1 t_end z_40.2.2.2.2.2.2.2.2 0 20 z_42 e_z_42 _ rfl _ rfl) (cV ht mv_X6_takeNumber tb_631 rfl rfl ⟨Nat.le_of_ble_eq_true rfl, Nat.le_of_ble_eq_true rfl⟩) hP hS hX [1, 2] rfl rfl rfl rfl rfl rfl hl.1 rfl (Nat.le_of_ble_eq_true rfl) dX1_takeNewMan_109 ⟨Nat.le_of_ble_eq_true rfl, Nat.le_of_ble_eq_true rfl⟩ (fun H locs hP hS => ?_)
          have hP : PD D A [bl_X1 cy A_k (A_r 0) (A_a 0) k_prideTold k_quotaTold, bl_X6 cy A_r (A_t 0) z_42.2.1 z_42.2.2.1, bl_X7 cy A_t t_bytes t_wordCodes t_length z_42.2.2.2.1 z_42.2.2.2.2.1 z_42.2.2.2.2.2.1 z_42.2.2.2.2.2.2.1 z_42.2.2.2.2.2.2.2.1 t_end z_42.2.2.2.2.2.2.2.2, bl_X0 cy A_a a_name a_courage a_weight a_medals a_stood a_fled a_liked a_votes a_count a_living a_pride a_quota a_melted a_lost] H := hP
          refine lv_istore_n (lv' := [(3, .int z_42.1), (1, .long z_35.2.2.2.2.1), (0, .ref (A_k 0))]) hx hb dX1_takeNewMan_112 rfl hl (by decide) rfl (fun ls hl => ?_)
          refine lv_iload_n hx hb dX1_takeNewMan_113 rfl (lv_at hl 0 rfl) ?_
          refine lv_iconst (v := (-1)) hx hb dX1_takeNewMan_114 (by decide) ?_
          refine lv_icmp_ne (tgt := 122) hx hb dX1_takeNewMan_115 (by decide) (fun c_43 => ?_) (fun c_43 => ?_)
          · have h := ie c_43 h
            refine lv_aload_n hx hb dX1_takeNewMan_122 rfl (lv_at hl 2 rfl) ?_
            refine lv_iconst (v := 4) hx hb dX1_takeNewMan_123 (by decide) ?_
            refine lv_bipush (v := 9) hx hb dX1_takeNewMan_124 (by decide) ?_
            refine lv_iconst (v := 1) hx hb dX1_takeNewMan_126 (by decide) ?_
            obtain ⟨z_44, e_z_44, h⟩ := bi h
            refine efVi (rest := []) ⟨hx, hb, hml, hown, ht⟩ (c_X1_takeIfTold l D cy fu A_k k_prideTold k_quotaTold A_r z_42.2.1 z_42.2.2.1 A_t t_bytes t_wordCodes t_length z_42.2.2.2.1 z_42.2.2.2.2.1 z_42.2.2.2.2.2.1 z_42.2.2.2.2.2.2.1 z_42.2.2.2.2.2.2.2.1 t_end z_42.2.2.2.2.2.2.2.2 A_a a_name a_courage a_weight a_medals a_stood a_fled a_liked a_votes a_count a_living a_pride a_quota a_melted a_lost 4 9 1 z_44 e_z_44 _ rfl _ rfl) (cV ht mv_X1_takeIfTold tb_661 rfl rfl ⟨Nat.le_of_ble_eq_true rfl, Nat.le_of_ble_eq_true rfl⟩) hP hS hX [0, 1, 2, 3] rfl rfl rfl rfl rfl rfl hl.1 rfl (Nat.le_of_ble_eq_true rfl) dX1_takeNewMan_127 ⟨Nat.le_of_ble_eq_true rfl, Nat.le_of_ble_eq_true rfl⟩ (fun H locs hP hS => ?_)
            have hP : PD D A [bl_X1 cy A_k (A_r 0) (A_a 0) k_prideTold k_quotaTold, bl_X6 cy A_r (A_t 0) z_44.2.1 z_44.2.2.1, bl_X7 cy A_t t_bytes t_wordCodes t_length z_44.2.2.2.1 z_44.2.2.2.2.1 z_44.2.2.2.2.2.1 z_44.2.2.2.2.2.2.1 z_44.2.2.2.2.2.2.2.1 t_end z_44.2.2.2.2.2.2.2.2, bl_X0 cy A_a a_name a_courage a_weight a_medals a_stood a_fled a_liked a_votes a_count a_living a_pride a_quota a_melted a_lost] H := hP
            exact j130 z_44.2.1 z_44.2.2.1 z_44.2.2.2.1 z_44.2.2.2.2.1 z_44.2.2.2.2.2.1 z_44.2.2.2.2.2.2.1 z_44.2.2.2.2.2.2.2.1 z_44.2.2.2.2.2.2.2.2 a_name a_courage a_weight a_medals a_stood a_fled a_liked a_count a_living z_35.2.2.2.2.1 z_42.1 z_44.1 _ _ hP hS ls (lv_sub hl [2, 1, 0] rfl) h
          · have h := it c_43 h
            refine lv_iconst (v := (-1)) hx hb dX1_takeNewMan_118 (by decide) ?_
            refine lv_goto (tgt := 130) hx hb dX1_takeNewMan_119 (by decide) ?_
            exact j130 z_42.2.1 z_42.2.2.1 z_42.2.2.2.1 z_42.2.2.2.2.1 z_42.2.2.2.2.2.1 z_42.2.2.2.2.2.2.1 z_42.2.2.2.2.2.2.2.1 z_42.2.2.2.2.2.2.2.2 a_name a_courage a_weight a_medals a_stood a_fled a_liked a_count a_living z_35.2.2.2.2.1 z_42.1 (-1) _ _ hP hS ls (lv_sub hl [2, 1, 0] rfl) h
        · have h := it c_41 h
          refine lv_iconst (v := 0) hx hb dX1_takeNewMan_100 (by decide) ?_
          cases h
          subst hW1
          exact W.zret hx hb hr rfl (fun _ ht9 _ => ⟨⟨_, (), rfl, rfl, hPt ht9 hP.1⟩, hS.F ht9⟩) hS.2.2 dX1_takeNewMan_101
      · have h := ie c_38 h
        refine lv_aload_n hx hb dX1_takeNewMan_70 rfl (lv_at hl 1 rfl) ?_
        refine xget (i := 0) (j := 0) (k := 0) (T := TX1) hx hb ht tb_iX1 hown hX hP.1 rfl rfl rfl (by decide) tb_281 rfl dX1_takeNewMan_71 ?_
        refine lv_iconst (v := 3) hx hb dX1_takeNewMan_74 (by decide) ?_
        obtain ⟨z_45, e_z_45, h⟩ := bi h
        refine efVi (rest := []) ⟨hx, hb, hml, hown, ht⟩ (c_X6_fail l D cy fu A_r r_fault r_place A_t t_bytes t_wordCodes t_length z_35.1 z_35.2.1 z_35.2.2.1 z_35.2.2.2.1 z_35.2.2.2.2.1 t_end z_35.2.2.2.2.2 3 z_45 e_z_45 _ rfl _ rfl) (cV ht mv_X6_fail tb_626 rfl rfl ⟨Nat.le_of_ble_eq_true rfl, Nat.le_of_ble_eq_true rfl⟩) hP hS hX [1, 2] rfl rfl rfl rfl rfl rfl hl.1 rfl (Nat.le_of_ble_eq_true rfl) dX1_takeNewMan_75 ⟨Nat.le_of_ble_eq_true rfl, Nat.le_of_ble_eq_true rfl⟩ (fun H locs hP hS => ?_)
        have hP : PD D A [bl_X1 cy A_k (A_r 0) (A_a 0) k_prideTold k_quotaTold, bl_X6 cy A_r (A_t 0) z_45.2.1 z_45.2.2, bl_X7 cy A_t t_bytes t_wordCodes t_length z_35.1 z_35.2.1 z_35.2.2.1 z_35.2.2.2.1 z_35.2.2.2.2.1 t_end z_35.2.2.2.2.2, bl_X0 cy A_a a_name a_courage a_weight a_medals a_stood a_fled a_liked a_votes a_count a_living a_pride a_quota a_melted a_lost] H := hP
        obtain ⟨b_46, e_b_46, h⟩ := bi h
        obtain ⟨-, n_b_46, -⟩ := bz_ok e_b_46
        cases h
        subst hW1
        exact W.zret hx hb hr n_b_46 (fun _ ht9 _ => ⟨⟨_, (), rfl, rfl, hPt ht9 hP.1⟩, hS.F ht9⟩) hS.2.2 dX1_takeNewMan_78
    · have h := it c_36 h
      refine lv_aload_n hx hb dX1_takeNewMan_49 rfl (lv_at hl 1 rfl) ?_
      refine xget (i := 0) (j := 0) (k := 0) (T := TX1) hx hb ht tb_iX1 hown hX hP.1 rfl rfl rfl (by decide) tb_281 rfl dX1_takeNewMan_50 ?_
      refine lv_iconst (v := 2) hx hb dX1_takeNewMan_53 (by decide) ?_
      obtain ⟨z_47, e_z_47, h⟩ := bi h
      refine efVi (rest := []) ⟨hx, hb, hml, hown, ht⟩ (c_X6_fail l D cy fu A_r r_fault r_place A_t t_bytes t_wordCodes t_length z_35.1 z_35.2.1 z_35.2.2.1 z_35.2.2.2.1 z_35.2.2.2.2.1 t_end z_35.2.2.2.2.2 2 z_47 e_z_47 _ rfl _ rfl) (cV ht mv_X6_fail tb_626 rfl rfl ⟨Nat.le_of_ble_eq_true rfl, Nat.le_of_ble_eq_true rfl⟩) hP hS hX [1, 2] rfl rfl rfl rfl rfl rfl hl.1 rfl (Nat.le_of_ble_eq_true rfl) dX1_takeNewMan_54 ⟨Nat.le_of_ble_eq_true rfl, Nat.le_of_ble_eq_true rfl⟩ (fun H locs hP hS => ?_)
      have hP : PD D A [bl_X1 cy A_k (A_r 0) (A_a 0) k_prideTold k_quotaTold, bl_X6 cy A_r (A_t 0) z_47.2.1 z_47.2.2, bl_X7 cy A_t t_bytes t_wordCodes t_length z_35.1 z_35.2.1 z_35.2.2.1 z_35.2.2.2.1 z_35.2.2.2.2.1 t_end z_35.2.2.2.2.2, bl_X0 cy A_a a_name a_courage a_weight a_medals a_stood a_fled a_liked a_votes a_count a_living a_pride a_quota a_melted a_lost] H := hP
      obtain ⟨b_48, e_b_48, h⟩ := bi h
      obtain ⟨-, n_b_48, -⟩ := bz_ok e_b_48
      cases h
      subst hW1
      exact W.zret hx hb hr n_b_48 (fun _ ht9 _ => ⟨⟨_, (), rfl, rfl, hPt ht9 hP.1⟩, hS.F ht9⟩) hS.2.2 dX1_takeNewMan_57
  · have h := ie c_34 h
    refine lv_aload_n hx hb dX1_takeNewMan_12 rfl (lv_at hl 0 rfl) ?_
    refine xget (i := 0) (j := 0) (k := 0) (T := TX1) hx hb ht tb_iX1 hown hX hP.1 rfl rfl rfl (by decide) tb_281 rfl dX1_takeNewMan_13 ?_
    refine lv_bipush (v := 6) hx hb dX1_takeNewMan_16 (by decide) ?_
    obtain ⟨z_49, e_z_49, h⟩ := bi h
    refine efVi (rest := []) ⟨hx, hb, hml, hown, ht⟩ (c_X6_fail l D cy fu A_r r_fault r_place A_t t_bytes t_wordCodes t_length t_kind t_start t_value t_word t_name t_end t_at 6 z_49 e_z_49 _ rfl _ rfl) (cV ht mv_X6_fail tb_626 rfl rfl ⟨Nat.le_of_ble_eq_true rfl, Nat.le_of_ble_eq_true rfl⟩) hP hS hX [1, 2] rfl rfl rfl rfl rfl rfl hl.1 rfl (Nat.le_of_ble_eq_true rfl) dX1_takeNewMan_18 ⟨Nat.le_of_ble_eq_true rfl, Nat.le_of_ble_eq_true rfl⟩ (fun H locs hP hS => ?_)
    have hP : PD D A [bl_X1 cy A_k (A_r 0) (A_a 0) k_prideTold k_quotaTold, bl_X6 cy A_r (A_t 0) z_49.2.1 z_49.2.2, bl_X7 cy A_t t_bytes t_wordCodes t_length t_kind t_start t_value t_word t_name t_end t_at, bl_X0 cy A_a a_name a_courage a_weight a_medals a_stood a_fled a_liked a_votes a_count a_living a_pride a_quota a_melted a_lost] H := hP
    obtain ⟨b_50, e_b_50, h⟩ := bi h
    obtain ⟨-, n_b_50, -⟩ := bz_ok e_b_50
    cases h
    subst hW1
    exact W.zret hx hb hr n_b_50 (fun _ ht9 _ => ⟨⟨_, (), rfl, rfl, hPt ht9 hP.1⟩, hS.F ht9⟩) hS.2.2 dX1_takeNewMan_21
theorem dX1_takeLikes_0 : decode cX1_takeLikes 0 = .ok (.aload_n 0, 1) := by decide +kernel
theorem dX1_takeLikes_1 : decode cX1_takeLikes 1 = .ok (.getfield 18, 3) := by decide +kernel
theorem dX1_takeLikes_4 : decode cX1_takeLikes 4 = .ok (.getfield 37, 3) := by decide +kernel
theorem dX1_takeLikes_7 : decode cX1_takeLikes 7 = .ok (.invokevirtual 63, 3) := by decide +kernel
theorem dX1_takeLikes_10 : decode cX1_takeLikes 10 = .ok (.aload_n 0, 1) := by decide +kernel
theorem dX1_takeLikes_11 : decode cX1_takeLikes 11 = .ok (.getfield 18, 3) := by decide +kernel
theorem dX1_takeLikes_14 : decode cX1_takeLikes 14 = .ok (.aload_n 0, 1) := by decide +kernel
theorem dX1_takeLikes_15 : decode cX1_takeLikes 15 = .ok (.getfield 22, 3) := by decide +kernel
theorem dX1_takeLikes_18 : decode cX1_takeLikes 18 = .ok (.iconst (-1), 1) := by decide +kernel
theorem dX1_takeLikes_19 : decode cX1_takeLikes 19 = .ok (.invokevirtual 105, 3) := by decide +kernel
theorem dX1_takeLikes_22 : decode cX1_takeLikes 22 = .ok (.istore_n 1, 1) := by decide +kernel
theorem dX1_takeLikes_23 : decode cX1_takeLikes 23 = .ok (.iload_n 1, 1) := by decide +kernel
theorem dX1_takeLikes_24 : decode cX1_takeLikes 24 = .ok (.iconst (-1), 1) := by decide +kernel
theorem dX1_takeLikes_25 : decode cX1_takeLikes 25 = .ok (.if_icmp .ne 7, 3) := by decide +kernel
theorem dX1_takeLikes_28 : decode cX1_takeLikes 28 = .ok (.iconst (-1), 1) := by decide +kernel
theorem dX1_takeLikes_29 : decode cX1_takeLikes 29 = .ok (.goto 15, 3) := by decide +kernel
theorem dX1_takeLikes_32 : decode cX1_takeLikes 32 = .ok (.aload_n 0, 1) := by decide +kernel
theorem dX1_takeLikes_33 : decode cX1_takeLikes 33 = .ok (.getfield 18, 3) := by decide +kernel
theorem dX1_takeLikes_36 : decode cX1_takeLikes 36 = .ok (.aload_n 0, 1) := by decide +kernel
theorem dX1_takeLikes_37 : decode cX1_takeLikes 37 = .ok (.getfield 22, 3) := by decide +kernel
theorem dX1_takeLikes_40 : decode cX1_takeLikes 40 = .ok (.iload_n 1, 1) := by decide +kernel
theorem dX1_takeLikes_41 : decode cX1_takeLikes 41 = .ok (.invokevirtual 105, 3) := by decide +kernel
theorem dX1_takeLikes_44 : decode cX1_takeLikes 44 = .ok (.istore_n 2, 1) := by decide +kernel
theorem dX1_takeLikes_45 : decode cX1_takeLikes 45 = .ok (.iload_n 2, 1) := by decide +kernel
theorem dX1_takeLikes_46 : decode cX1_takeLikes 46 = .ok (.iconst (-1), 1) := by decide +kernel
theorem dX1_takeLikes_47 : decode cX1_takeLikes 47 = .ok (.if_icmp .ne 7, 3) := by decide +kernel
theorem dX1_takeLikes_50 : decode cX1_takeLikes 50 = .ok (.iconst (-1), 1) := by decide +kernel
theorem dX1_takeLikes_51 : decode cX1_takeLikes 51 = .ok (.goto 13, 3) := by decide +kernel
theorem dX1_takeLikes_54 : decode cX1_takeLikes 54 = .ok (.aload_n 0, 1) := by decide +kernel
theorem dX1_takeLikes_55 : decode cX1_takeLikes 55 = .ok (.getfield 18, 3) := by decide +kernel
theorem dX1_takeLikes_58 : decode cX1_takeLikes 58 = .ok (.iconst 0, 1) := by decide +kernel
theorem dX1_takeLikes_59 : decode cX1_takeLikes 59 = .ok (.bipush 9, 2) := by decide +kernel
theorem dX1_takeLikes_61 : decode cX1_takeLikes 61 = .ok (.invokevirtual 66, 3) := by decide +kernel
theorem dX1_takeLikes_64 : decode cX1_takeLikes 64 = .ok (.istore_n 3, 1) := by decide +kernel
theorem dX1_takeLikes_65 : decode cX1_takeLikes 65 = .ok (.iload_n 3, 1) := by decide +kernel
theorem dX1_takeLikes_66 : decode cX1_takeLikes 66 = .ok (.iconst (-1), 1) := by decide +kernel
theorem dX1_takeLikes_67 : decode cX1_takeLikes 67 = .ok (.if_icmp .eq 15, 3) := by decide +kernel
theorem dX1_takeLikes_70 : decode cX1_takeLikes 70 = .ok (.aload_n 0, 1) := by decide +kernel
theorem dX1_takeLikes_71 : decode cX1_takeLikes 71 = .ok (.getfield 18, 3) := by decide +kernel
theorem dX1_takeLikes_74 : decode cX1_takeLikes 74 = .ok (.bipush 59, 2) := by decide +kernel
theorem dX1_takeLikes_76 : decode cX1_takeLikes 76 = .ok (.invokevirtual 73, 3) := by decide +kernel
theorem dX1_takeLikes_79 : decode cX1_takeLikes 79 = .ok (.ifCond .ne 5, 3) := by decide +kernel
theorem dX1_takeLikes_82 : decode cX1_takeLikes 82 = .ok (.iconst 0, 1) := by decide +kernel
theorem dX1_takeLikes_83 : decode cX1_takeLikes 83 = .ok (.ireturn, 1) := by decide +kernel
theorem dX1_takeLikes_84 : decode cX1_takeLikes 84 = .ok (.aload_n 0, 1) := by decide +kernel
theorem dX1_takeLikes_85 : decode cX1_takeLikes 85 = .ok (.getfield 22, 3) := by decide +kernel
theorem dX1_takeLikes_88 : decode cX1_takeLikes 88 = .ok (.iload_n 1, 1) := by decide +kernel
theorem dX1_takeLikes_89 : decode cX1_takeLikes 89 = .ok (.iload_n 2, 1) := by decide +kernel
theorem dX1_takeLikes_90 : decode cX1_takeLikes 90 = .ok (.iload_n 3, 1) := by decide +kernel
theorem dX1_takeLikes_91 : decode cX1_takeLikes 91 = .ok (.invokevirtual 109, 3) := by decide +kernel
theorem dX1_takeLikes_94 : decode cX1_takeLikes 94 = .ok (.iconst 1, 1) := by decide +kernel
theorem dX1_takeLikes_95 : decode cX1_takeLikes 95 = .ok (.ireturn, 1) := by decide +kernel
theorem mv_X1_takeLikes : MV yX1_takeLikes RX1 cX1_takeLikes 4 (some .boolean) 0 := ⟨tb_673, tb_672, ts_12, tb_10, by decide +kernel, by decide +kernel, by decide +kernel⟩
def f_X1_takeLikes_j64 (fu : Nat) (t_bytes : Nat → Int32) (t_wordCodes : Nat → Int64) (t_end : Int32) (a_name : Nat → Int64) (a_count : Int32) (r_fault : Int32) (r_place : Int32) (t_kind : Int32) (t_start : Int32) (t_value : Int32) (t_word : Int32) (t_name : Int64) (t_at : Int32) (a_liked : Nat → Int32) (x1 : Int32) (x2 : Int32) (s0 : Int32) : Option (Int32 × Int32 × Int32 × Int32 × Int32 × Int32 × Int32 × Int64 × Int32 × (Nat → Int32)) := (if s0 = (-1) then some (0, r_fault, r_place, t_kind, t_start, t_value, t_word, t_name, t_at, a_liked) else (f_X6_takeSign fu r_fault r_place t_bytes t_wordCodes t_kind t_start t_value t_word t_name t_end t_at 59).bind fun z_12 => (if z_12.1 = 0 then some (0, z_12.2.1, z_12.2.2.1, z_12.2.2.2.1, z_12.2.2.2.2.1, z_12.2.2.2.2.2.1, z_12.2.2.2.2.2.2.1, z_12.2.2.2.2.2.2.2.1, z_12.2.2.2.2.2.2.2.2, a_liked) else (f_X0_setLiking fu a_liked a_count x1 x2 s0).bind fun z_14 => some (1, z_12.2.1, z_12.2.2.1, z_12.2.2.2.1, z_12.2.2.2.2.1, z_12.2.2.2.2.2.1, z_12.2.2.2.2.2.2.1, z_12.2.2.2.2.2.2.2.1, z_12.2.2.2.2.2.2.2.2, z_14)))
def f_X1_takeLikes_j44 (fu : Nat) (t_bytes : Nat → Int32) (t_wordCodes : Nat → Int64) (t_end : Int32) (a_name : Nat → Int64) (a_count : Int32) (r_fault : Int32) (r_place : Int32) (t_kind : Int32) (t_start : Int32) (t_value : Int32) (t_word : Int32) (t_name : Int64) (t_at : Int32) (a_liked : Nat → Int32) (x1 : Int32) (s0 : Int32) : Option (Int32 × Int32 × Int32 × Int32 × Int32 × Int32 × Int32 × Int64 × Int32 × (Nat → Int32)) := (if s0 = (-1) then f_X1_takeLikes_j64 fu t_bytes t_wordCodes t_end a_name a_count r_fault r_place t_kind t_start t_value t_word t_name t_at a_liked x1 s0 (-1) else (f_X6_takeNumber fu r_fault r_place t_bytes t_wordCodes t_kind t_start t_value t_word t_name t_end t_at 0 9).bind fun z_16 => f_X1_takeLikes_j64 fu t_bytes t_wordCodes t_end a_name a_count z_16.2.1 z_16.2.2.1 z_16.2.2.2.1 z_16.2.2.2.2.1 z_16.2.2.2.2.2.1 z_16.2.2.2.2.2.2.1 z_16.2.2.2.2.2.2.2.1 z_16.2.2.2.2.2.2.2.2 a_liked x1 s0 z_16.1)
def f_X1_takeLikes (fu : Nat) (r_fault : Int32) (r_place : Int32) (t_bytes : Nat → Int32) (t_wordCodes : Nat → Int64) (t_kind : Int32) (t_start : Int32) (t_value : Int32) (t_word : Int32) (t_name : Int64) (t_end : Int32) (t_at : Int32) (a_name : Nat → Int64) (a_liked : Nat → Int32) (a_count : Int32) : Option (Int32 × Int32 × Int32 × Int32 × Int32 × Int32 × Int32 × Int64 × Int32 × (Nat → Int32)) := (f_X7_next fu t_bytes t_wordCodes t_kind t_start t_value t_word t_name t_end t_at).bind fun z_17 => (f_X6_takeMan fu r_fault r_place t_bytes t_wordCodes z_17.1 z_17.2.1 z_17.2.2.1 z_17.2.2.2.1 z_17.2.2.2.2.1 t_end z_17.2.2.2.2.2 a_name a_count (-1)).bind fun z_18 => (if z_18.1 = (-1) then f_X1_takeLikes_j44 fu t_bytes t_wordCodes t_end a_name a_count z_18.2.1 z_18.2.2.1 z_18.2.2.2.1 z_18.2.2.2.2.1 z_18.2.2.2.2.2.1 z_18.2.2.2.2.2.2.1 z_18.2.2.2.2.2.2.2.1 z_18.2.2.2.2.2.2.2.2 a_liked z_18.1 (-1) else (f_X6_takeMan fu z_18.2.1 z_18.2.2.1 t_bytes t_wordCodes z_18.2.2.2.1 z_18.2.2.2.2.1 z_18.2.2.2.2.2.1 z_18.2.2.2.2.2.2.1 z_18.2.2.2.2.2.2.2.1 t_end z_18.2.2.2.2.2.2.2.2 a_name a_count z_18.1).bind fun z_20 => f_X1_takeLikes_j44 fu t_bytes t_wordCodes t_end a_name a_count z_20.2.1 z_20.2.2.1 z_20.2.2.2.1 z_20.2.2.2.2.1 z_20.2.2.2.2.2.1 z_20.2.2.2.2.2.2.1 z_20.2.2.2.2.2.2.2.1 z_20.2.2.2.2.2.2.2.2 a_liked z_18.1 z_20.1)
abbrev rm_X1_takeLikes : Room := { frames := 3, cells := 0, slots := 0, locals := 66 }
set_option maxHeartbeats 4000000 in
set_option maxRecDepth 100000 in
theorem c_X1_takeLikes (l : Launch) (D : va_G) (cy : Nat → ClassId) (fu : Nat) (A_k : Nat → Nat) (k_prideTold : Int32) (k_quotaTold : Int32) (A_r : Nat → Nat) (r_fault : Int32) (r_place : Int32) (A_t : Nat → Nat) (t_bytes : Nat → Int32) (t_wordCodes : Nat → Int64) (t_length : Int32) (t_kind : Int32) (t_start : Int32) (t_value : Int32) (t_word : Int32) (t_name : Int64) (t_end : Int32) (t_at : Int32) (A_a : Nat → Nat) (a_name : Nat → Int64) (a_courage : Nat → Int32) (a_weight : Nat → Int32) (a_medals : Nat → Int32) (a_stood : Nat → Int32) (a_fled : Nat → Int32) (a_liked : Nat → Int32) (a_votes : Nat → Int32) (a_count : Int32) (a_living : Int32) (a_pride : Int32) (a_quota : Int32) (a_melted : Int32) (a_lost : Int32) (res : Int32 × Int32 × Int32 × Int32 × Int32 × Int32 × Int32 × Int64 × Int32 × (Nat → Int32)) (h : f_X1_takeLikes fu r_fault r_place t_bytes t_wordCodes t_kind t_start t_value t_word t_name t_end t_at a_name a_liked a_count = some res) (A : Nat → Prop) (hA : A = adr [bl_X1 cy A_k (A_r 0) (A_a 0) k_prideTold k_quotaTold, bl_X6 cy A_r (A_t 0) r_fault r_place, bl_X7 cy A_t t_bytes t_wordCodes t_length t_kind t_start t_value t_word t_name t_end t_at, bl_X0 cy A_a a_name a_courage a_weight a_medals a_stood a_fled a_liked a_votes a_count a_living a_pride a_quota a_melted a_lost]) (W1 : List va_W) (hW1 : W1 = [bl_X1 cy A_k (A_r 0) (A_a 0) k_prideTold k_quotaTold, bl_X6 cy A_r (A_t 0) res.2.1 res.2.2.1, bl_X7 cy A_t t_bytes t_wordCodes t_length res.2.2.2.1 res.2.2.2.2.1 res.2.2.2.2.2.1 res.2.2.2.2.2.2.1 res.2.2.2.2.2.2.2.1 t_end res.2.2.2.2.2.2.2.2.1, bl_X0 cy A_a a_name a_courage a_weight a_medals a_stood a_fled res.2.2.2.2.2.2.2.2.2 a_votes a_count a_living a_pride a_quota a_melted a_lost]) : Met l yX1_takeLikes (WW yX1_takeLikes cX1_takeLikes 4 (some .boolean)) rm_X1_takeLikes (Ed D cy [.ref (A_k 0)] [bl_X1 cy A_k (A_r 0) (A_a 0) k_prideTold k_quotaTold, bl_X6 cy A_r (A_t 0) r_fault r_place, bl_X7 cy A_t t_bytes t_wordCodes t_length t_kind t_start t_value t_word t_name t_end t_at, bl_X0 cy A_a a_name a_courage a_weight a_medals a_stood a_fled a_liked a_votes a_count a_living a_pride a_quota a_melted a_lost]) (Qei D res.1 A W1) 0 0 A := by
  refine Met.ofW (cc := cX1_takeLikes) (maxL := 4) (ret := (some .boolean)) (by decide) rfl ?_
  intro p e s m args below meth c s₁ B hml hv
  obtain ⟨hargs, hP, hX, hD0⟩ := hv
  have hx := B.exec
  have hb := B.bytes
  have hr := B.returns
  have ht : ∀ w ∈ lw_gd, w.before args s = true := fun w hw => atoms_spec (ws := WW yX1_takeLikes cX1_takeLikes 4 (some .boolean)) B.pre w (List.mem_cons_of_mem _ hw)
  have hown : s.vm.findClass RX1 = some m.cls := findClass_of_methodNamed B.named
  have hlocks := B.notSynchronized
  have hP : PD D A [bl_X1 cy A_k (A_r 0) (A_a 0) k_prideTold k_quotaTold, bl_X6 cy A_r (A_t 0) r_fault r_place, bl_X7 cy A_t t_bytes t_wordCodes t_length t_kind t_start t_value t_word t_name t_end t_at, bl_X0 cy A_a a_name a_courage a_weight a_medals a_stood a_fled a_liked a_votes a_count a_living a_pride a_quota a_melted a_lost] s.heap := ⟨hP, by rw [hA]; exact hD0.own⟩
  have hS : va_S A s.heap s.heap [] := va_S.rf
  obtain ⟨ls, hl, hent⟩ := ent (m := m) (n := 4) hargs (Nat.le_of_ble_eq_true rfl) (lv := [(0, .ref (A_k 0))]) rfl
  rw [hent]
  clear hent
  have j64 : ∀ (r_fault : Int32) (r_place : Int32) (t_kind : Int32) (t_start : Int32) (t_value : Int32) (t_word : Int32) (t_name : Int64) (t_at : Int32) (a_liked : Nat → Int32) (x1 : Int32) (x2 : Int32) (s0 : Int32) (H : Heap) (locs : List Loc) (_ : PD D A [bl_X1 cy A_k (A_r 0) (A_a 0) k_prideTold k_quotaTold, bl_X6 cy A_r (A_t 0) r_fault r_place, bl_X7 cy A_t t_bytes t_wordCodes t_length t_kind t_start t_value t_word t_name t_end t_at, bl_X0 cy A_a a_name a_courage a_weight a_medals a_stood a_fled a_liked a_votes a_count a_living a_pride a_quota a_melted a_lost] H) (_ : va_S A s.heap H locs) (ls : Array Slot), lv_has ls 4 [(0, .ref (A_k 0)), (1, .int x1), (2, .int x2)] → f_X1_takeLikes_j64 fu t_bytes t_wordCodes t_end a_name a_count r_fault r_place t_kind t_start t_value t_word t_name t_at a_liked x1 x2 s0 = some res → W p l e (headSpec (WW yX1_takeLikes cX1_takeLikes 4 (some .boolean)) rm_X1_takeLikes).room s m args below meth c H locs 0 0 (MQ below (Qei D res.1 A W1) args s 0 0 A) (F0 m 64 ls [.int s0]) := by
    intro r_fault r_place t_kind t_start t_value t_word t_name t_at a_liked x1 x2 s0 H locs hP hS ls hl h
    unfold f_X1_takeLikes_j64 at h
    refine lv_istore_n (lv' := [(3, .int s0), (0, .ref (A_k 0)), (1, .int x1), (2, .int x2)]) hx hb dX1_takeLikes_64 rfl hl (by decide) rfl (fun ls hl => ?_)
    refine lv_iload_n hx hb dX1_takeLikes_65 rfl (lv_at hl 0 rfl) ?_
    refine lv_iconst (v := (-1)) hx hb dX1_takeLikes_66 (by decide) ?_
    refine lv_icmp_eq (tgt := 82) hx hb dX1_takeLikes_67 (by decide) (fun c_11 => ?_) (fun c_11 => ?_)
    · have h := it c_11 h
      refine lv_iconst (v := 0) hx hb dX1_takeLikes_82 (by decide) ?_
      cases h
      subst hW1
      exact W.zret hx hb hr rfl (fun _ ht9 _ => ⟨⟨_, (), rfl, rfl, hPt ht9 hP.1⟩, hS.F ht9⟩) hS.2.2 dX1_takeLikes_83
    · have h := ie c_11 h
      refine lv_aload_n hx hb dX1_takeLikes_70 rfl (lv_at hl 1 rfl) ?_
      refine xget (i := 0) (j := 0) (k := 0) (T := TX1) hx hb ht tb_iX1 hown hX hP.1 rfl rfl rfl (by decide) tb_281 rfl dX1_takeLikes_71 ?_
      refine lv_bipush (v := 59) hx hb dX1_takeLikes_74 (by decide) ?_
      obtain ⟨z_12, e_z_12, h⟩ := bi h
      refine efVi (rest := []) ⟨hx, hb, hml, hown, ht⟩ (c_X6_takeSign l D cy fu A_r r_fault r_place A_t t_bytes t_wordCodes t_length t_kind t_start t_value t_word t_name t_end t_at 59 z_12 e_z_12 _ rfl _ rfl) (cV ht mv_X6_takeSign tb_637 rfl rfl ⟨Nat.le_of_ble_eq_true rfl, Nat.le_of_ble_eq_true rfl⟩) hP hS hX [1, 2] rfl rfl rfl rfl rfl rfl hl.1 rfl (Nat.le_of_ble_eq_true rfl) dX1_takeLikes_76 ⟨Nat.le_of_ble_eq_true rfl, Nat.le_of_ble_eq_true rfl⟩ (fun H locs hP hS => ?_)
      have hP : PD D A [bl_X1 cy A_k (A_r 0) (A_a 0) k_prideTold k_quotaTold, bl_X6 cy A_r (A_t 0) z_12.2.1 z_12.2.2.1, bl_X7 cy A_t t_bytes t_wordCodes t_length z_12.2.2.2.1 z_12.2.2.2.2.1 z_12.2.2.2.2.2.1 z_12.2.2.2.2.2.2.1 z_12.2.2.2.2.2.2.2.1 t_end z_12.2.2.2.2.2.2.2.2, bl_X0 cy A_a a_name a_courage a_weight a_medals a_stood a_fled a_liked a_votes a_count a_living a_pride a_quota a_melted a_lost] H := hP
      refine lv_if_ne (tgt := 84) hx hb dX1_takeLikes_79 (by decide) (fun c_13 => ?_) (fun c_13 => ?_)
      · have h := ie c_13 h
        refine lv_aload_n hx hb dX1_takeLikes_84 rfl (lv_at hl 1 rfl) ?_
        refine xget (i := 0) (j := 0) (k := 1) (T := TX1) hx hb ht tb_iX1 hown hX hP.1 rfl rfl rfl (by decide) tb_282 rfl dX1_takeLikes_85 ?_
        refine lv_iload_n hx hb dX1_takeLikes_88 rfl (lv_at hl 2 rfl) ?_
        refine lv_iload_n hx hb dX1_takeLikes_89 rfl (lv_at hl 3 rfl) ?_
        refine lv_iload_n hx hb dX1_takeLikes_90 rfl (lv_at hl 0 rfl) ?_
        obtain ⟨z_14, e_z_14, h⟩ := bi h
        refine efVv (rest := []) ⟨hx, hb, hml, hown, ht⟩ (c_X0_setLiking l D cy fu A_a a_name a_courage a_weight a_medals a_stood a_fled a_liked a_votes a_count a_living a_pride a_quota a_melted a_lost x1 x2 s0 z_14 e_z_14 _ rfl _ rfl) (cV ht mv_X0_setLiking tb_679 rfl rfl ⟨Nat.le_of_ble_eq_true rfl, Nat.le_of_ble_eq_true rfl⟩) hP hS hX [3] rfl rfl rfl rfl rfl rfl hl.1 rfl (Nat.le_of_ble_eq_true rfl) dX1_takeLikes_91 ⟨Nat.le_of_ble_eq_true rfl, Nat.le_of_ble_eq_true rfl⟩ (fun H locs hP hS => ?_)
        have hP : PD D A [bl_X1 cy A_k (A_r 0) (A_a 0) k_prideTold k_quotaTold, bl_X6 cy A_r (A_t 0) z_12.2.1 z_12.2.2.1, bl_X7 cy A_t t_bytes t_wordCodes t_length z_12.2.2.2.1 z_12.2.2.2.2.1 z_12.2.2.2.2.2.1 z_12.2.2.2.2.2.2.1 z_12.2.2.2.2.2.2.2.1 t_end z_12.2.2.2.2.2.2.2.2, bl_X0 cy A_a a_name a_courage a_weight a_medals a_stood a_fled z_14 a_votes a_count a_living a_pride a_quota a_melted a_lost] H := hP
        refine lv_iconst (v := 1) hx hb dX1_takeLikes_94 (by decide) ?_
        cases h
        subst hW1
        exact W.zret hx hb hr rfl (fun _ ht9 _ => ⟨⟨_, (), rfl, rfl, hPt ht9 hP.1⟩, hS.F ht9⟩) hS.2.2 dX1_takeLikes_95
      · have h := it c_13 h
        refine lv_iconst (v := 0) hx hb dX1_takeLikes_82 (by decide) ?_
        cases h
        subst hW1
        exact W.zret hx hb hr rfl (fun _ ht9 _ => ⟨⟨_, (), rfl, rfl, hPt ht9 hP.1⟩, hS.F ht9⟩) hS.2.2 dX1_takeLikes_83
  have j44 : ∀ (r_fault : Int32) (r_place : Int32) (t_kind : Int32) (t_start : Int32) (t_value : Int32) (t_word : Int32) (t_name : Int64) (t_at : Int32) (a_liked : Nat → Int32) (x1 : Int32) (s0 : Int32) (H : Heap) (locs : List Loc) (_ : PD D A [bl_X1 cy A_k (A_r 0) (A_a 0) k_prideTold k_quotaTold, bl_X6 cy A_r (A_t 0) r_fault r_place, bl_X7 cy A_t t_bytes t_wordCodes t_length t_kind t_start t_value t_word t_name t_end t_at, bl_X0 cy A_a a_name a_courage a_weight a_medals a_stood a_fled a_liked a_votes a_count a_living a_pride a_quota a_melted a_lost] H) (_ : va_S A s.heap H locs) (ls : Array Slot), lv_has ls 4 [(0, .ref (A_k 0)), (1, .int x1)] → f_X1_takeLikes_j44 fu t_bytes t_wordCodes t_end a_name a_count r_fault r_place t_kind t_start t_value t_word t_name t_at a_liked x1 s0 = some res → W p l e (headSpec (WW yX1_takeLikes cX1_takeLikes 4 (some .boolean)) rm_X1_takeLikes).room s m args below meth c H locs 0 0 (MQ below (Qei D res.1 A W1) args s 0 0 A) (F0 m 44 ls [.int s0]) := by
    intro r_fault r_place t_kind t_start t_value t_word t_name t_at a_liked x1 s0 H locs hP hS ls hl h
    unfold f_X1_takeLikes_j44 at h
    refine lv_istore_n (lv' := [(2, .int s0), (0, .ref (A_k 0)), (1, .int x1)]) hx hb dX1_takeLikes_44 rfl hl (by decide) rfl (fun ls hl => ?_)
    refine lv_iload_n hx hb dX1_takeLikes_45 rfl (lv_at hl 0 rfl) ?_
    refine lv_iconst (v := (-1)) hx hb dX1_takeLikes_46 (by decide) ?_
    refine lv_icmp_ne (tgt := 54) hx hb dX1_takeLikes_47 (by decide) (fun c_15 => ?_) (fun c_15 => ?_)
    · have h := ie c_15 h
      refine lv_aload_n hx hb dX1_takeLikes_54 rfl (lv_at hl 1 rfl) ?_
      refine xget (i := 0) (j := 0) (k := 0) (T := TX1) hx hb ht tb_iX1 hown hX hP.1 rfl rfl rfl (by decide) tb_281 rfl dX1_takeLikes_55 ?_
      refine lv_iconst (v := 0) hx hb dX1_takeLikes_58 (by decide) ?_
      refine lv_bipush (v := 9) hx hb dX1_takeLikes_59 (by decide) ?_
      obtain ⟨z_16, e_z_16, h⟩ := bi h
      refine efVi (rest := []) ⟨hx, hb, hml, hown, ht⟩ (c_X6_takeNumber l D cy fu A_r r_fault r_place A_t t_bytes t_wordCodes t_length t_kind t_start t_value t_word t_name t_end t_at 0 9 z_16 e_z_16 _ rfl _ rfl) (cV ht mv_X6_takeNumber tb_631 rfl rfl ⟨Nat.le_of_ble_eq_true rfl, Nat.le_of_ble_eq_true rfl⟩) hP hS hX [1, 2] rfl rfl rfl rfl rfl rfl hl.1 rfl (Nat.le_of_ble_eq_true rfl) dX1_takeLikes_61 ⟨Nat.le_of_ble_eq_true rfl, Nat.le_of_ble_eq_true rfl⟩ (fun H locs hP hS => ?_)
      have hP : PD D A [bl_X1 cy A_k (A_r 0) (A_a 0) k_prideTold k_quotaTold, bl_X6 cy A_r (A_t 0) z_16.2.1 z_16.2.2.1, bl_X7 cy A_t t_bytes t_wordCodes t_length z_16.2.2.2.1 z_16.2.2.2.2.1 z_16.2.2.2.2.2.1 z_16.2.2.2.2.2.2.1 z_16.2.2.2.2.2.2.2.1 t_end z_16.2.2.2.2.2.2.2.2, bl_X0 cy A_a a_name a_courage a_weight a_medals a_stood a_fled a_liked a_votes a_count a_living a_pride a_quota a_melted a_lost] H := hP
      exact j64 z_16.2.1 z_16.2.2.1 z_16.2.2.2.1 z_16.2.2.2.2.1 z_16.2.2.2.2.2.1 z_16.2.2.2.2.2.2.1 z_16.2.2.2.2.2.2.2.1 z_16.2.2.2.2.2.2.2.2 a_liked x1 s0 z_16.1 _ _ hP hS ls (lv_sub hl [1, 2, 0] rfl) h
    · have h := it c_15 h
      refine lv_iconst (v := (-1)) hx hb dX1_takeLikes_50 (by decide) ?_
      refine lv_goto (tgt := 64) hx hb dX1_takeLikes_51 (by decide) ?_
      exact j64 r_fault r_place t_kind t_start t_value t_word t_name t_at a_liked x1 s0 (-1) _ _ hP hS ls (lv_sub hl [1, 2, 0] rfl) h
  unfold f_X1_takeLikes at h
  refine lv_aload_n hx hb dX1_takeLikes_0 rfl (lv_at hl 0 rfl) ?_
  refine xget (i := 0) (j := 0) (k := 0) (T := TX1) hx hb ht tb_iX1 hown hX hP.1 rfl rfl rfl (by decide) tb_281 rfl dX1_takeLikes_1 ?_
  refine xget (i := 1) (j := 0) (k := 0) (T := TX6) hx hb ht tb_iX6 hown hX hP.1 rfl rfl rfl (by decide) tb_261 rfl dX1_takeLikes_4 ?_
  obtain ⟨z_17, e_z_17, h⟩ := bi h
  refine efVv (rest := []) ⟨hx, hb, hml, hown, ht⟩ (c_X7_next l D cy fu A_t t_bytes t_wordCodes t_length t_kind t_start t_value t_word t_name t_end t_at z_17 e_z_17 _ rfl _ rfl) (cV ht mv_X7_next tb_630 rfl rfl ⟨Nat.le_of_ble_eq_true rfl, Nat.le_of_ble_eq_true rfl⟩) hP hS hX [2] rfl rfl rfl rfl rfl rfl hl.1 rfl (Nat.le_of_ble_eq_true rfl) dX1_takeLikes_7 ⟨Nat.le_of_ble_eq_true rfl, Nat.le_of_ble_eq_true rfl⟩ (fun H locs hP hS => ?_)
  have hP : PD D A [bl_X1 cy A_k (A_r 0) (A_a 0) k_prideTold k_quotaTold, bl_X6 cy A_r (A_t 0) r_fault r_place, bl_X7 cy A_t t_bytes t_wordCodes t_length z_17.1 z_17.2.1 z_17.2.2.1 z_17.2.2.2.1 z_17.2.2.2.2.1 t_end z_17.2.2.2.2.2, bl_X0 cy A_a a_name a_courage a_weight a_medals a_stood a_fled a_liked a_votes a_count a_living a_pride a_quota a_melted a_lost] H := hP
  refine lv_aload_n hx hb dX1_takeLikes_10 rfl (lv_at hl 0 rfl) ?_
  refine xget (i := 0) (j := 0) (k := 0) (T := TX1) hx hb ht tb_iX1 hown hX hP.1 rfl rfl rfl (by decide) tb_281 rfl dX1_takeLikes_11 ?_
  refine lv_aload_n hx hb dX1_takeLikes_14 rfl (lv_at hl 0 rfl) ?_
  refine xget (i := 0) (j := 0) (k := 1) (T := TX1) hx hb ht tb_iX1 hown hX hP.1 rfl rfl rfl (by decide) tb_282 rfl dX1_takeLikes_15 ?_
  refine lv_iconst (v := (-1)) hx hb dX1_takeLikes_18 (by decide) ?_
  obtain ⟨z_18, e_z_18, h⟩ := bi h
  refine efVi (rest := []) ⟨hx, hb, hml, hown, ht⟩ (c_X6_takeMan l D cy fu A_r r_fault r_place A_t t_bytes t_wordCodes t_length z_17.1 z_17.2.1 z_17.2.2.1 z_17.2.2.2.1 z_17.2.2.2.2.1 t_end z_17.2.2.2.2.2 A_a a_name a_courage a_weight a_medals a_stood a_fled a_liked a_votes a_count a_living a_pride a_quota a_melted a_lost (-1) z_18 e_z_18 _ rfl _ rfl) (cV ht mv_X6_takeMan tb_674 rfl rfl ⟨Nat.le_of_ble_eq_true rfl, Nat.le_of_ble_eq_true rfl⟩) hP hS hX [1, 2, 3] rfl rfl rfl rfl rfl rfl hl.1 rfl (Nat.le_of_ble_eq_true rfl) dX1_takeLikes_19 ⟨Nat.le_of_ble_eq_true rfl, Nat.le_of_ble_eq_true rfl⟩ (fun H locs hP hS => ?_)
  have hP : PD D A [bl_X1 cy A_k (A_r 0) (A_a 0) k_prideTold k_quotaTold, bl_X6 cy A_r (A_t 0) z_18.2.1 z_18.2.2.1, bl_X7 cy A_t t_bytes t_wordCodes t_length z_18.2.2.2.1 z_18.2.2.2.2.1 z_18.2.2.2.2.2.1 z_18.2.2.2.2.2.2.1 z_18.2.2.2.2.2.2.2.1 t_end z_18.2.2.2.2.2.2.2.2, bl_X0 cy A_a a_name a_courage a_weight a_medals a_stood a_fled a_liked a_votes a_count a_living a_pride a_quota a_melted a_lost] H := hP
  refine lv_istore_n (lv' := [(1, .int z_18.1), (0, .ref (A_k 0))]) hx hb dX1_takeLikes_22 rfl hl (by decide) rfl (fun ls hl => ?_)
  refine lv_iload_n hx hb dX1_takeLikes_23 rfl (lv_at hl 0 rfl) ?_
  refine lv_iconst (v := (-1)) hx hb dX1_takeLikes_24 (by decide) ?_
  refine lv_icmp_ne (tgt := 32) hx hb dX1_takeLikes_25 (by decide) (fun c_19 => ?_) (fun c_19 => ?_)
  · have h := ie c_19 h
    refine lv_aload_n hx hb dX1_takeLikes_32 rfl (lv_at hl 1 rfl) ?_
    refine xget (i := 0) (j := 0) (k := 0) (T := TX1) hx hb ht tb_iX1 hown hX hP.1 rfl rfl rfl (by decide) tb_281 rfl dX1_takeLikes_33 ?_
    refine lv_aload_n hx hb dX1_takeLikes_36 rfl (lv_at hl 1 rfl) ?_
    refine xget (i := 0) (j := 0) (k := 1) (T := TX1) hx hb ht tb_iX1 hown hX hP.1 rfl rfl rfl (by decide) tb_282 rfl dX1_takeLikes_37 ?_
    refine lv_iload_n hx hb dX1_takeLikes_40 rfl (lv_at hl 0 rfl) ?_
    obtain ⟨z_20, e_z_20, h⟩ := bi h
    refine efVi (rest := []) ⟨hx, hb, hml, hown, ht⟩ (c_X6_takeMan l D cy fu A_r z_18.2.1 z_18.2.2.1 A_t t_bytes t_wordCodes t_length z_18.2.2.2.1 z_18.2.2.2.2.1 z_18.2.2.2.2.2.1 z_18.2.2.2.2.2.2.1 z_18.2.2.2.2.2.2.2.1 t_end z_18.2.2.2.2.2.2.2.2 A_a a_name a_courage a_weight a_medals a_stood a_fled a_liked a_votes a_count a_living a_pride a_quota a_melted a_lost z_18.1 z_20 e_z_20 _ rfl _ rfl) (cV ht mv_X6_takeMan tb_674 rfl rfl ⟨Nat.le_of_ble_eq_true rfl, Nat.le_of_ble_eq_true rfl⟩) hP hS hX [1, 2, 3] rfl rfl rfl rfl rfl rfl hl.1 rfl (Nat.le_of_ble_eq_true rfl) dX1_takeLikes_41 ⟨Nat.le_of_ble_eq_true rfl, Nat.le_of_ble_eq_true rfl⟩ (fun H locs hP hS => ?_)
    have hP : PD D A [bl_X1 cy A_k (A_r 0) (A_a 0) k_prideTold k_quotaTold, bl_X6 cy A_r (A_t 0) z_20.2.1 z_20.2.2.1, bl_X7 cy A_t t_bytes t_wordCodes t_length z_20.2.2.2.1 z_20.2.2.2.2.1 z_20.2.2.2.2.2.1 z_20.2.2.2.2.2.2.1 z_20.2.2.2.2.2.2.2.1 t_end z_20.2.2.2.2.2.2.2.2, bl_X0 cy A_a a_name a_courage a_weight a_medals a_stood a_fled a_liked a_votes a_count a_living a_pride a_quota a_melted a_lost] H := hP
    exact j44 z_20.2.1 z_20.2.2.1 z_20.2.2.2.1 z_20.2.2.2.2.1 z_20.2.2.2.2.2.1 z_20.2.2.2.2.2.2.1 z_20.2.2.2.2.2.2.2.1 z_20.2.2.2.2.2.2.2.2 a_liked z_18.1 z_20.1 _ _ hP hS ls (lv_sub hl [1, 0] rfl) h
  · have h := it c_19 h
    refine lv_iconst (v := (-1)) hx hb dX1_takeLikes_28 (by decide) ?_
    refine lv_goto (tgt := 44) hx hb dX1_takeLikes_29 (by decide) ?_
    exact j44 z_18.2.1 z_18.2.2.1 z_18.2.2.2.1 z_18.2.2.2.2.1 z_18.2.2.2.2.2.1 z_18.2.2.2.2.2.2.1 z_18.2.2.2.2.2.2.2.1 z_18.2.2.2.2.2.2.2.2 a_liked z_18.1 (-1) _ _ hP hS ls (lv_sub hl [1, 0] rfl) h
theorem dX1_readDraft_0 : decode cX1_readDraft 0 = .ok (.aload_n 0, 1) := by decide +kernel
theorem dX1_readDraft_1 : decode cX1_readDraft 1 = .ok (.getfield 22, 3) := by decide +kernel
theorem dX1_readDraft_4 : decode cX1_readDraft 4 = .ok (.invokevirtual 26, 3) := by decide +kernel
theorem dX1_readDraft_7 : decode cX1_readDraft 7 = .ok (.aload_n 0, 1) := by decide +kernel
theorem dX1_readDraft_8 : decode cX1_readDraft 8 = .ok (.iconst 0, 1) := by decide +kernel
theorem dX1_readDraft_9 : decode cX1_readDraft 9 = .ok (.putfield 9, 3) := by decide +kernel
theorem dX1_readDraft_12 : decode cX1_readDraft 12 = .ok (.aload_n 0, 1) := by decide +kernel
theorem dX1_readDraft_13 : decode cX1_readDraft 13 = .ok (.iconst 0, 1) := by decide +kernel
theorem dX1_readDraft_14 : decode cX1_readDraft 14 = .ok (.putfield 15, 3) := by decide +kernel
theorem dX1_readDraft_17 : decode cX1_readDraft 17 = .ok (.iconst 1, 1) := by decide +kernel
theorem dX1_readDraft_18 : decode cX1_readDraft 18 = .ok (.istore_n 1, 1) := by decide +kernel
theorem dX1_readDraft_19 : decode cX1_readDraft 19 = .ok (.iconst 0, 1) := by decide +kernel
theorem dX1_readDraft_20 : decode cX1_readDraft 20 = .ok (.istore_n 2, 1) := by decide +kernel
theorem dX1_readDraft_21 : decode cX1_readDraft 21 = .ok (.iload_n 2, 1) := by decide +kernel
theorem dX1_readDraft_22 : decode cX1_readDraft 22 = .ok (.sipush 900, 3) := by decide +kernel
theorem dX1_readDraft_25 : decode cX1_readDraft 25 = .ok (.if_icmp .gt 118, 3) := by decide +kernel
theorem dX1_readDraft_28 : decode cX1_readDraft 28 = .ok (.iload_n 1, 1) := by decide +kernel
theorem dX1_readDraft_29 : decode cX1_readDraft 29 = .ok (.ifCond .eq 114, 3) := by decide +kernel
theorem dX1_readDraft_32 : decode cX1_readDraft 32 = .ok (.aload_n 0, 1) := by decide +kernel
theorem dX1_readDraft_33 : decode cX1_readDraft 33 = .ok (.getfield 18, 3) := by decide +kernel
theorem dX1_readDraft_36 : decode cX1_readDraft 36 = .ok (.invokevirtual 31, 3) := by decide +kernel
theorem dX1_readDraft_39 : decode cX1_readDraft 39 = .ok (.ifCond .ne 104, 3) := by decide +kernel
theorem dX1_readDraft_42 : decode cX1_readDraft 42 = .ok (.aload_n 0, 1) := by decide +kernel
theorem dX1_readDraft_43 : decode cX1_readDraft 43 = .ok (.getfield 18, 3) := by decide +kernel
theorem dX1_readDraft_46 : decode cX1_readDraft 46 = .ok (.getfield 37, 3) := by decide +kernel
theorem dX1_readDraft_49 : decode cX1_readDraft 49 = .ok (.getfield 41, 3) := by decide +kernel
theorem dX1_readDraft_52 : decode cX1_readDraft 52 = .ok (.tableswitch 76 0 6 #[44, 52, 60, 76, 76, 76, 68], 44) := by decide +kernel
theorem dX1_readDraft_96 : decode cX1_readDraft 96 = .ok (.aload_n 0, 1) := by decide +kernel
theorem dX1_readDraft_97 : decode cX1_readDraft 97 = .ok (.invokevirtual 47, 3) := by decide +kernel
theorem dX1_readDraft_100 : decode cX1_readDraft 100 = .ok (.istore_n 1, 1) := by decide +kernel
theorem dX1_readDraft_101 : decode cX1_readDraft 101 = .ok (.goto 36, 3) := by decide +kernel
theorem dX1_readDraft_104 : decode cX1_readDraft 104 = .ok (.aload_n 0, 1) := by decide +kernel
theorem dX1_readDraft_105 : decode cX1_readDraft 105 = .ok (.invokevirtual 50, 3) := by decide +kernel
theorem dX1_readDraft_108 : decode cX1_readDraft 108 = .ok (.istore_n 1, 1) := by decide +kernel
theorem dX1_readDraft_109 : decode cX1_readDraft 109 = .ok (.goto 28, 3) := by decide +kernel
theorem dX1_readDraft_112 : decode cX1_readDraft 112 = .ok (.aload_n 0, 1) := by decide +kernel
theorem dX1_readDraft_113 : decode cX1_readDraft 113 = .ok (.invokevirtual 53, 3) := by decide +kernel
theorem dX1_readDraft_116 : decode cX1_readDraft 116 = .ok (.istore_n 1, 1) := by decide +kernel
theorem dX1_readDraft_117 : decode cX1_readDraft 117 = .ok (.goto 20, 3) := by decide +kernel
theorem dX1_readDraft_120 : decode cX1_readDraft 120 = .ok (.aload_n 0, 1) := by decide +kernel
theorem dX1_readDraft_121 : decode cX1_readDraft 121 = .ok (.invokevirtual 56, 3) := by decide +kernel
theorem dX1_readDraft_124 : decode cX1_readDraft 124 = .ok (.istore_n 1, 1) := by decide +kernel
theorem dX1_readDraft_125 : decode cX1_readDraft 125 = .ok (.goto 12, 3) := by decide +kernel
theorem dX1_readDraft_128 : decode cX1_readDraft 128 = .ok (.aload_n 0, 1) := by decide +kernel
theorem dX1_readDraft_129 : decode cX1_readDraft 129 = .ok (.getfield 18, 3) := by decide +kernel
theorem dX1_readDraft_132 : decode cX1_readDraft 132 = .ok (.iconst 2, 1) := by decide +kernel
theorem dX1_readDraft_133 : decode cX1_readDraft 133 = .ok (.invokevirtual 59, 3) := by decide +kernel
theorem dX1_readDraft_136 : decode cX1_readDraft 136 = .ok (.istore_n 1, 1) := by decide +kernel
theorem dX1_readDraft_137 : decode cX1_readDraft 137 = .ok (.iinc 2 1, 3) := by decide +kernel
theorem dX1_readDraft_140 : decode cX1_readDraft 140 = .ok (.goto (-119), 3) := by decide +kernel
theorem dX1_readDraft_143 : decode cX1_readDraft 143 = .ok (.iload_n 1, 1) := by decide +kernel
theorem dX1_readDraft_144 : decode cX1_readDraft 144 = .ok (.ireturn, 1) := by decide +kernel
theorem mv_X1_readDraft : MV yX1_readDraft RX1 cX1_readDraft 3 (some .boolean) 0 := ⟨tb_609, tb_607, tb_608, tb_10, by decide +kernel, by decide +kernel, by decide +kernel⟩
def f_X1_readDraft_j128 (fu : Nat) (t_bytes : Nat → Int32) (t_wordCodes : Nat → Int64) (t_end : Int32) (k21 : Int32 → Int32 → Int32 → Int32 → Int32 → Int32 → Int32 → Int32 → Int64 → Int32 → (Nat → Int64) → (Nat → Int32) → (Nat → Int32) → (Nat → Int32) → (Nat → Int32) → (Nat → Int32) → (Nat → Int32) → Int32 → Int32 → Int32 → Int32 → Int32 → Int32 → Int32 → Int32 → (Option (Int32 × Int32 × Int32 × Int32 × Int32 × Int32 × Int32 × Int32 × Int32 × Int64 × Int32 × (Nat → Int64) × (Nat → Int32) × (Nat → Int32) × (Nat → Int32) × (Nat → Int32) × (Nat → Int32) × (Nat → Int32) × Int32 × Int32 × Int32 × Int32 × Int32 × Int32))) (k_prideTold : Int32) (k_quotaTold : Int32) (r_fault : Int32) (r_place : Int32) (t_kind : Int32) (t_start : Int32) (t_value : Int32) (t_word : Int32) (t_name : Int64) (t_at : Int32) (a_name : Nat → Int64) (a_courage : Nat → Int32) (a_weight : Nat → Int32) (a_medals : Nat → Int32) (a_stood : Nat → Int32) (a_fled : Nat → Int32) (a_liked : Nat → Int32) (a_count : Int32) (a_living : Int32) (a_pride : Int32) (a_quota : Int32) (a_melted : Int32) (a_lost : Int32) (x2 : Int32) : Option (Int32 × Int32 × Int32 × Int32 × Int32 × Int32 × Int32 × Int32 × Int32 × Int64 × Int32 × (Nat → Int64) × (Nat → Int32) × (Nat → Int32) × (Nat → Int32) × (Nat → Int32) × (Nat → Int32) × (Nat → Int32) × Int32 × Int32 × Int32 × Int32 × Int32 × Int32) := (f_X6_fail fu r_fault r_place t_kind t_start 2).bind fun z_26 => bnd (x2 + 1) fun x2_27 => k21 k_prideTold k_quotaTold z_26.2.1 z_26.2.2 t_kind t_start t_value t_word t_name t_at a_name a_courage a_weight a_medals a_stood a_fled a_liked a_count a_living a_pride a_quota a_melted a_lost z_26.1 x2_27
def f_X1_readDraft_b21 (fu : Nat) (t_bytes : Nat → Int32) (t_wordCodes : Nat → Int64) (t_end : Int32) (k21 : Int32 → Int32 → Int32 → Int32 → Int32 → Int32 → Int32 → Int32 → Int64 → Int32 → (Nat → Int64) → (Nat → Int32) → (Nat → Int32) → (Nat → Int32) → (Nat → Int32) → (Nat → Int32) → (Nat → Int32) → Int32 → Int32 → Int32 → Int32 → Int32 → Int32 → Int32 → Int32 → (Option (Int32 × Int32 × Int32 × Int32 × Int32 × Int32 × Int32 × Int32 × Int32 × Int64 × Int32 × (Nat → Int64) × (Nat → Int32) × (Nat → Int32) × (Nat → Int32) × (Nat → Int32) × (Nat → Int32) × (Nat → Int32) × Int32 × Int32 × Int32 × Int32 × Int32 × Int32))) (k_prideTold : Int32) (k_quotaTold : Int32) (r_fault : Int32) (r_place : Int32) (t_kind : Int32) (t_start : Int32) (t_value : Int32) (t_word : Int32) (t_name : Int64) (t_at : Int32) (a_name : Nat → Int64) (a_courage : Nat → Int32) (a_weight : Nat → Int32) (a_medals : Nat → Int32) (a_stood : Nat → Int32) (a_fled : Nat → Int32) (a_liked : Nat → Int32) (a_count : Int32) (a_living : Int32) (a_pride : Int32) (a_quota : Int32) (a_melted : Int32) (a_lost : Int32) (x1 : Int32) (x2 : Int32) : Option (Int32 × Int32 × Int32 × Int32 × Int32 × Int32 × Int32 × Int32 × Int32 × Int64 × Int32 × (Nat → Int64) × (Nat → Int32) × (Nat → Int32) × (Nat → Int32) × (Nat → Int32) × (Nat → Int32) × (Nat → Int32) × Int32 × Int32 × Int32 × Int32 × Int32 × Int32) := (if 900 < x2 then (bz x1).bind fun _ => some (x1, k_prideTold, k_quotaTold, r_fault, r_place, t_kind, t_start, t_value, t_word, t_name, t_at, a_name, a_courage, a_weight, a_medals, a_stood, a_fled, a_liked, a_count, a_living, a_pride, a_quota, a_melted, a_lost) else (if x1 = 0 then (bz x1).bind fun _ => some (x1, k_prideTold, k_quotaTold, r_fault, r_place, t_kind, t_start, t_value, t_word, t_name, t_at, a_name, a_courage, a_weight, a_medals, a_stood, a_fled, a_liked, a_count, a_living, a_pride, a_quota, a_melted, a_lost) else (f_X6_atEnd fu t_kind).bind fun z_32 => (if z_32 = 0 then (if t_word = 0 then (f_X1_takePride fu k_prideTold r_fault r_place t_bytes t_wordCodes t_kind t_start t_value t_word t_name t_end t_at a_pride).bind fun z_36 => bnd (x2 + 1) fun x2_37 => k21 z_36.2.1 k_quotaTold z_36.2.2.1 z_36.2.2.2.1 z_36.2.2.2.2.1 z_36.2.2.2.2.2.1 z_36.2.2.2.2.2.2.1 z_36.2.2.2.2.2.2.2.1 z_36.2.2.2.2.2.2.2.2.1 z_36.2.2.2.2.2.2.2.2.2.1 a_name a_courage a_weight a_medals a_stood a_fled a_liked a_count a_living z_36.2.2.2.2.2.2.2.2.2.2 a_quota a_melted a_lost z_36.1 x2_37 else (if t_word = 1 then (f_X1_takeQuota fu k_quotaTold r_fault r_place t_bytes t_wordCodes t_kind t_start t_value t_word t_name t_end t_at a_quota).bind fun z_39 => bnd (x2 + 1) fun x2_40 => k21 k_prideTold z_39.2.1 z_39.2.2.1 z_39.2.2.2.1 z_39.2.2.2.2.1 z_39.2.2.2.2.2.1 z_39.2.2.2.2.2.2.1 z_39.2.2.2.2.2.2.2.1 z_39.2.2.2.2.2.2.2.2.1 z_39.2.2.2.2.2.2.2.2.2.1 a_name a_courage a_weight a_medals a_stood a_fled a_liked a_count a_living a_pride z_39.2.2.2.2.2.2.2.2.2.2 a_melted a_lost z_39.1 x2_40 else (if t_word = 2 then (f_X1_takeNewMan fu r_fault r_place t_bytes t_wordCodes t_kind t_start t_value t_word t_name t_end t_at a_name a_courage a_weight a_medals a_stood a_fled a_liked a_count a_living).bind fun z_42 => bnd (x2 + 1) fun x2_43 => k21 k_prideTold k_quotaTold z_42.2.1 z_42.2.2.1 z_42.2.2.2.1 z_42.2.2.2.2.1 z_42.2.2.2.2.2.1 z_42.2.2.2.2.2.2.1 z_42.2.2.2.2.2.2.2.1 z_42.2.2.2.2.2.2.2.2.1 z_42.2.2.2.2.2.2.2.2.2.1 z_42.2.2.2.2.2.2.2.2.2.2.1 z_42.2.2.2.2.2.2.2.2.2.2.2.1 z_42.2.2.2.2.2.2.2.2.2.2.2.2.1 z_42.2.2.2.2.2.2.2.2.2.2.2.2.2.1 z_42.2.2.2.2.2.2.2.2.2.2.2.2.2.2.1 z_42.2.2.2.2.2.2.2.2.2.2.2.2.2.2.2.1 z_42.2.2.2.2.2.2.2.2.2.2.2.2.2.2.2.2.1 z_42.2.2.2.2.2.2.2.2.2.2.2.2.2.2.2.2.2 a_pride a_quota a_melted a_lost z_42.1 x2_43 else (if t_word = 3 then f_X1_readDraft_j128 fu t_bytes t_wordCodes t_end k21 k_prideTold k_quotaTold r_fault r_place t_kind t_start t_value t_word t_name t_at a_name a_courage a_weight a_medals a_stood a_fled a_liked a_count a_living a_pride a_quota a_melted a_lost x2 else (if t_word = 4 then f_X1_readDraft_j128 fu t_bytes t_wordCodes t_end k21 k_prideTold k_quotaTold r_fault r_place t_kind t_start t_value t_word t_name t_at a_name a_courage a_weight a_medals a_stood a_fled a_liked a_count a_living a_pride a_quota a_melted a_lost x2 else (if t_word = 5 then f_X1_readDraft_j128 fu t_bytes t_wordCodes t_end k21 k_prideTold k_quotaTold r_fault r_place t_kind t_start t_value t_word t_name t_at a_name a_courage a_weight a_medals a_stood a_fled a_liked a_count a_living a_pride a_quota a_melted a_lost x2 else (if t_word = 6 then (f_X1_takeLikes fu r_fault r_place t_bytes t_wordCodes t_kind t_start t_value t_word t_name t_end t_at a_name a_liked a_count).bind fun z_48 => bnd (x2 + 1) fun x2_49 => k21 k_prideTold k_quotaTold z_48.2.1 z_48.2.2.1 z_48.2.2.2.1 z_48.2.2.2.2.1 z_48.2.2.2.2.2.1 z_48.2.2.2.2.2.2.1 z_48.2.2.2.2.2.2.2.1 z_48.2.2.2.2.2.2.2.2.1 a_name a_courage a_weight a_medals a_stood a_fled z_48.2.2.2.2.2.2.2.2.2 a_count a_living a_pride a_quota a_melted a_lost z_48.1 x2_49 else f_X1_readDraft_j128 fu t_bytes t_wordCodes t_end k21 k_prideTold k_quotaTold r_fault r_place t_kind t_start t_value t_word t_name t_at a_name a_courage a_weight a_medals a_stood a_fled a_liked a_count a_living a_pride a_quota a_melted a_lost x2))))))) else (bz x1).bind fun _ => some (x1, k_prideTold, k_quotaTold, r_fault, r_place, t_kind, t_start, t_value, t_word, t_name, t_at, a_name, a_courage, a_weight, a_medals, a_stood, a_fled, a_liked, a_count, a_living, a_pride, a_quota, a_melted, a_lost))))
def f_X1_readDraft_l21 (fu : Nat) (t_bytes : Nat → Int32) (t_wordCodes : Nat → Int64) (t_end : Int32) : Nat → Int32 → Int32 → Int32 → Int32 → Int32 → Int32 → Int32 → Int32 → Int64 → Int32 → (Nat → Int64) → (Nat → Int32) → (Nat → Int32) → (Nat → Int32) → (Nat → Int32) → (Nat → Int32) → (Nat → Int32) → Int32 → Int32 → Int32 → Int32 → Int32 → Int32 → Int32 → Int32 → (Option (Int32 × Int32 × Int32 × Int32 × Int32 × Int32 × Int32 × Int32 × Int32 × Int64 × Int32 × (Nat → Int64) × (Nat → Int32) × (Nat → Int32) × (Nat → Int32) × (Nat → Int32) × (Nat → Int32) × (Nat → Int32) × Int32 × Int32 × Int32 × Int32 × Int32 × Int32))
  | 0, _, _, _, _, _, _, _, _, _, _, _, _, _, _, _, _, _, _, _, _, _, _, _, _, _ => none
  | n + 1, k_prideTold, k_quotaTold, r_fault, r_place, t_kind, t_start, t_value, t_word, t_name, t_at, a_name, a_courage, a_weight, a_medals, a_stood, a_fled, a_liked, a_count, a_living, a_pride, a_quota, a_melted, a_lost, x1, x2 => f_X1_readDraft_b21 fu t_bytes t_wordCodes t_end (f_X1_readDraft_l21 fu t_bytes t_wordCodes t_end n) k_prideTold k_quotaTold r_fault r_place t_kind t_start t_value t_word t_name t_at a_name a_courage a_weight a_medals a_stood a_fled a_liked a_count a_living a_pride a_quota a_melted a_lost x1 x2
def f_X1_readDraft (fu : Nat) (k_prideTold : Int32) (k_quotaTold : Int32) (r_fault : Int32) (r_place : Int32) (t_bytes : Nat → Int32) (t_wordCodes : Nat → Int64) (t_kind : Int32) (t_start : Int32) (t_value : Int32) (t_word : Int32) (t_name : Int64) (t_end : Int32) (t_at : Int32) (a_name : Nat → Int64) (a_courage : Nat → Int32) (a_weight : Nat → Int32) (a_medals : Nat → Int32) (a_stood : Nat → Int32) (a_fled : Nat → Int32) (a_liked : Nat → Int32) (a_count : Int32) (a_living : Int32) (a_pride : Int32) (a_quota : Int32) (a_melted : Int32) (a_lost : Int32) : Option (Int32 × Int32 × Int32 × Int32 × Int32 × Int32 × Int32 × Int32 × Int32 × Int64 × Int32 × (Nat → Int64) × (Nat → Int32) × (Nat → Int32) × (Nat → Int32) × (Nat → Int32) × (Nat → Int32) × (Nat → Int32) × Int32 × Int32 × Int32 × Int32 × Int32 × Int32) := (f_X0_clear fu a_name a_courage a_weight a_medals a_stood a_fled a_count a_living a_pride a_quota a_melted a_lost).bind fun z_50 => f_X1_readDraft_l21 fu t_bytes t_wordCodes t_end fu 0 0 r_fault r_place t_kind t_start t_value t_word t_name t_at z_50.1 z_50.2.1 z_50.2.2.1 z_50.2.2.2.1 z_50.2.2.2.2.1 z_50.2.2.2.2.2.1 a_liked z_50.2.2.2.2.2.2.1 z_50.2.2.2.2.2.2.2.1 z_50.2.2.2.2.2.2.2.2.1 z_50.2.2.2.2.2.2.2.2.2.1 z_50.2.2.2.2.2.2.2.2.2.2.1 z_50.2.2.2.2.2.2.2.2.2.2.2 1 0
abbrev rm_X1_readDraft : Room := { frames := 5, cells := 0, slots := 0, locals := 115 }
set_option maxHeartbeats 4000000 in
set_option maxRecDepth 100000 in
theorem c_X1_readDraft (l : Launch) (D : va_G) (cy : Nat → ClassId) (fu : Nat) (A_k : Nat → Nat) (k_prideTold : Int32) (k_quotaTold : Int32) (A_r : Nat → Nat) (r_fault : Int32) (r_place : Int32) (A_t : Nat → Nat) (t_bytes : Nat → Int32) (t_wordCodes : Nat → Int64) (t_length : Int32) (t_kind : Int32) (t_start : Int32) (t_value : Int32) (t_word : Int32) (t_name : Int64) (t_end : Int32) (t_at : Int32) (A_a : Nat → Nat) (a_name : Nat → Int64) (a_courage : Nat → Int32) (a_weight : Nat → Int32) (a_medals : Nat → Int32) (a_stood : Nat → Int32) (a_fled : Nat → Int32) (a_liked : Nat → Int32) (a_votes : Nat → Int32) (a_count : Int32) (a_living : Int32) (a_pride : Int32) (a_quota : Int32) (a_melted : Int32) (a_lost : Int32) (res : Int32 × Int32 × Int32 × Int32 × Int32 × Int32 × Int32 × Int32 × Int32 × Int64 × Int32 × (Nat → Int64) × (Nat → Int32) × (Nat → Int32) × (Nat → Int32) × (Nat → Int32) × (Nat → Int32) × (Nat → Int32) × Int32 × Int32 × Int32 × Int32 × Int32 × Int32) (h : f_X1_readDraft fu k_prideTold k_quotaTold r_fault r_place t_bytes t_wordCodes t_kind t_start t_value t_word t_name t_end t_at a_name a_courage a_weight a_medals a_stood a_fled a_liked a_count a_living a_pride a_quota a_melted a_lost = some res) (A : Nat → Prop) (hA : A = adr [bl_X1 cy A_k (A_r 0) (A_a 0) k_prideTold k_quotaTold, bl_X6 cy A_r (A_t 0) r_fault r_place, bl_X7 cy A_t t_bytes t_wordCodes t_length t_kind t_start t_value t_word t_name t_end t_at, bl_X0 cy A_a a_name a_courage a_weight a_medals a_stood a_fled a_liked a_votes a_count a_living a_pride a_quota a_melted a_lost]) (W1 : List va_W) (hW1 : W1 = [bl_X1 cy A_k (A_r 0) (A_a 0) res.2.1 res.2.2.1, bl_X6 cy A_r (A_t 0) res.2.2.2.1 res.2.2.2.2.1, bl_X7 cy A_t t_bytes t_wordCodes t_length res.2.2.2.2.2.1 res.2.2.2.2.2.2.1 res.2.2.2.2.2.2.2.1 res.2.2.2.2.2.2.2.2.1 res.2.2.2.2.2.2.2.2.2.1 t_end res.2.2.2.2.2.2.2.2.2.2.1, bl_X0 cy A_a res.2.2.2.2.2.2.2.2.2.2.2.1 res.2.2.2.2.2.2.2.2.2.2.2.2.1 res.2.2.2.2.2.2.2.2.2.2.2.2.2.1 res.2.2.2.2.2.2.2.2.2.2.2.2.2.2.1 res.2.2.2.2.2.2.2.2.2.2.2.2.2.2.2.1 res.2.2.2.2.2.2.2.2.2.2.2.2.2.2.2.2.1 res.2.2.2.2.2.2.2.2.2.2.2.2.2.2.2.2.2.1 a_votes res.2.2.2.2.2.2.2.2.2.2.2.2.2.2.2.2.2.2.1 res.2.2.2.2.2.2.2.2.2.2.2.2.2.2.2.2.2.2.2.1 res.2.2.2.2.2.2.2.2.2.2.2.2.2.2.2.2.2.2.2.2.1 res.2.2.2.2.2.2.2.2.2.2.2.2.2.2.2.2.2.2.2.2.2.1 res.2.2.2.2.2.2.2.2.2.2.2.2.2.2.2.2.2.2.2.2.2.2.1 res.2.2.2.2.2.2.2.2.2.2.2.2.2.2.2.2.2.2.2.2.2.2.2]) : Met l yX1_readDraft (WW yX1_readDraft cX1_readDraft 3 (some .boolean)) rm_X1_readDraft (Ed D cy [.ref (A_k 0)] [bl_X1 cy A_k (A_r 0) (A_a 0) k_prideTold k_quotaTold, bl_X6 cy A_r (A_t 0) r_fault r_place, bl_X7 cy A_t t_bytes t_wordCodes t_length t_kind t_start t_value t_word t_name t_end t_at, bl_X0 cy A_a a_name a_courage a_weight a_medals a_stood a_fled a_liked a_votes a_count a_living a_pride a_quota a_melted a_lost]) (Qei D res.1 A W1) 0 0 A := by
  refine Met.ofW (cc := cX1_readDraft) (maxL := 3) (ret := (some .boolean)) (by decide) rfl ?_
  intro p e s m args below meth c s₁ B hml hv
  obtain ⟨hargs, hP, hX, hD0⟩ := hv
  have hx := B.exec
  have hb := B.bytes
  have hr := B.returns
  have ht : ∀ w ∈ lw_gd, w.before args s = true := fun w hw => atoms_spec (ws := WW yX1_readDraft cX1_readDraft 3 (some .boolean)) B.pre w (List.mem_cons_of_mem _ hw)
  have hown : s.vm.findClass RX1 = some m.cls := findClass_of_methodNamed B.named
  have hlocks := B.notSynchronized
  have hP : PD D A [bl_X1 cy A_k (A_r 0) (A_a 0) k_prideTold k_quotaTold, bl_X6 cy A_r (A_t 0) r_fault r_place, bl_X7 cy A_t t_bytes t_wordCodes t_length t_kind t_start t_value t_word t_name t_end t_at, bl_X0 cy A_a a_name a_courage a_weight a_medals a_stood a_fled a_liked a_votes a_count a_living a_pride a_quota a_melted a_lost] s.heap := ⟨hP, by rw [hA]; exact hD0.own⟩
  have hS : va_S A s.heap s.heap [] := va_S.rf
  obtain ⟨ls, hl, hent⟩ := ent (m := m) (n := 3) hargs (Nat.le_of_ble_eq_true rfl) (lv := [(0, .ref (A_k 0))]) rfl
  rw [hent]
  clear hent
  have l21 : ∀ (n21 : Nat) (k_prideTold : Int32) (k_quotaTold : Int32) (r_fault : Int32) (r_place : Int32) (t_kind : Int32) (t_start : Int32) (t_value : Int32) (t_word : Int32) (t_name : Int64) (t_at : Int32) (a_name : Nat → Int64) (a_courage : Nat → Int32) (a_weight : Nat → Int32) (a_medals : Nat → Int32) (a_stood : Nat → Int32) (a_fled : Nat → Int32) (a_liked : Nat → Int32) (a_count : Int32) (a_living : Int32) (a_pride : Int32) (a_quota : Int32) (a_melted : Int32) (a_lost : Int32) (x1 : Int32) (x2 : Int32) (H : Heap) (locs : List Loc) (_ : PD D A [bl_X1 cy A_k (A_r 0) (A_a 0) k_prideTold k_quotaTold, bl_X6 cy A_r (A_t 0) r_fault r_place, bl_X7 cy A_t t_bytes t_wordCodes t_length t_kind t_start t_value t_word t_name t_end t_at, bl_X0 cy A_a a_name a_courage a_weight a_medals a_stood a_fled a_liked a_votes a_count a_living a_pride a_quota a_melted a_lost] H) (_ : va_S A s.heap H locs) (ls : Array Slot), lv_has ls 3 [(0, .ref (A_k 0)), (1, .int x1), (2, .int x2)] → f_X1_readDraft_l21 fu t_bytes t_wordCodes t_end n21 k_prideTold k_quotaTold r_fault r_place t_kind t_start t_value t_word t_name t_at a_name a_courage a_weight a_medals a_stood a_fled a_liked a_count a_living a_pride a_quota a_melted a_lost x1 x2 = some res → W p l e (headSpec (WW yX1_readDraft cX1_readDraft 3 (some .boolean)) rm_X1_readDraft).room s m args below meth c H locs 0 0 (MQ below (Qei D res.1 A W1) args s 0 0 A) (F0 m 21 ls []) := by
    intro n21
    induction n21 with
    | zero => intro k_prideTold k_quotaTold r_fault r_place t_kind t_start t_value t_word t_name t_at a_name a_courage a_weight a_medals a_stood a_fled a_liked a_count a_living a_pride a_quota a_melted a_lost x1 x2 H locs hP hS ls hl h; cases h
    | succ n21 ih21 =>
      have j128 : ∀ (k_prideTold : Int32) (k_quotaTold : Int32) (r_fault : Int32) (r_place : Int32) (t_kind : Int32) (t_start : Int32) (t_value : Int32) (t_word : Int32) (t_name : Int64) (t_at : Int32) (a_name : Nat → Int64) (a_courage : Nat → Int32) (a_weight : Nat → Int32) (a_medals : Nat → Int32) (a_stood : Nat → Int32) (a_fled : Nat → Int32) (a_liked : Nat → Int32) (a_count : Int32) (a_living : Int32) (a_pride : Int32) (a_quota : Int32) (a_melted : Int32) (a_lost : Int32) (x2 : Int32) (H : Heap) (locs : List Loc) (_ : PD D A [bl_X1 cy A_k (A_r 0) (A_a 0) k_prideTold k_quotaTold, bl_X6 cy A_r (A_t 0) r_fault r_place, bl_X7 cy A_t t_bytes t_wordCodes t_length t_kind t_start t_value t_word t_name t_end t_at, bl_X0 cy A_a a_name a_courage a_weight a_medals a_stood a_fled a_liked a_votes a_count a_living a_pride a_quota a_melted a_lost] H) (_ : va_S A s.heap H locs) (ls : Array Slot), lv_has ls 3 [(0, .ref (A_k 0)), (2, .int x2)] → f_X1_readDraft_j128 fu t_bytes t_wordCodes t_end (f_X1_readDraft_l21 fu t_bytes t_wordCodes t_end n21) k_prideTold k_quotaTold r_fault r_place t_kind t_start t_value t_word t_name t_at a_name a_courage a_weight a_medals a_stood a_fled a_liked a_count a_living a_pride a_quota a_melted a_lost x2 = some res → W p l e (headSpec (WW yX1_readDraft cX1_readDraft 3 (some .boolean)) rm_X1_readDraft).room s m args below meth c H locs 0 0 (MQ below (Qei D res.1 A W1) args s 0 0 A) (F0 m 128 ls []) := by
        intro k_prideTold k_quotaTold r_fault r_place t_kind t_start t_value t_word t_name t_at a_name a_courage a_weight a_medals a_stood a_fled a_liked a_count a_living a_pride a_quota a_melted a_lost x2 H locs hP hS ls hl h
        unfold f_X1_readDraft_j128 at h
        refine lv_aload_n hx hb dX1_readDraft_128 rfl (lv_at hl 0 rfl) ?_
        refine xget (i := 0) (j := 0) (k := 0) (T := TX1) hx hb ht tb_iX1 hown hX hP.1 rfl rfl rfl (by decide) tb_281 rfl dX1_readDraft_129 ?_
        refine lv_iconst (v := 2) hx hb dX1_readDraft_132 (by decide) ?_
        obtain ⟨z_26, e_z_26, h⟩ := bi h
        refine efVi (rest := []) ⟨hx, hb, hml, hown, ht⟩ (c_X6_fail l D cy fu A_r r_fault r_place A_t t_bytes t_wordCodes t_length t_kind t_start t_value t_word t_name t_end t_at 2 z_26 e_z_26 _ rfl _ rfl) (cV ht mv_X6_fail tb_626 rfl rfl ⟨Nat.le_of_ble_eq_true rfl, Nat.le_of_ble_eq_true rfl⟩) hP hS hX [1, 2] rfl rfl rfl rfl rfl rfl hl.1 rfl (Nat.le_of_ble_eq_true rfl) dX1_readDraft_133 ⟨Nat.le_of_ble_eq_true rfl, Nat.le_of_ble_eq_true rfl⟩ (fun H locs hP hS => ?_)
        have hP : PD D A [bl_X1 cy A_k (A_r 0) (A_a 0) k_prideTold k_quotaTold, bl_X6 cy A_r (A_t 0) z_26.2.1 z_26.2.2, bl_X7 cy A_t t_bytes t_wordCodes t_length t_kind t_start t_value t_word t_name t_end t_at, bl_X0 cy A_a a_name a_courage a_weight a_medals a_stood a_fled a_liked a_votes a_count a_living a_pride a_quota a_melted a_lost] H := hP
        refine lv_istore_n (lv' := [(1, .int z_26.1), (0, .ref (A_k 0)), (2, .int x2)]) hx hb dX1_readDraft_136 rfl hl (by decide) rfl (fun ls hl => ?_)
        obtain ⟨x2_27, e_x2_27⟩ : ∃ y : Int32, y = x2 + 1 := ⟨_, rfl⟩
        have h := bn e_x2_27 h
        refine lv_iinc (v := x2_27) (lv' := [(2, .int x2_27), (1, .int z_26.1), (0, .ref (A_k 0))]) hx hb dX1_readDraft_137 hl (k := 2) rfl (by rw [e_x2_27]; rfl) (by decide) rfl (fun ls hl => ?_)
        refine lv_goto (tgt := 21) hx hb dX1_readDraft_140 (by decide) ?_
        exact ih21 k_prideTold k_quotaTold z_26.2.1 z_26.2.2 t_kind t_start t_value t_word t_name t_at a_name a_courage a_weight a_medals a_stood a_fled a_liked a_count a_living a_pride a_quota a_melted a_lost z_26.1 x2_27 _ _ hP hS ls (lv_sub hl [2, 1, 0] rfl) h
      intro k_prideTold k_quotaTold r_fault r_place t_kind t_start t_value t_word t_name t_at a_name a_courage a_weight a_medals a_stood a_fled a_liked a_count a_living a_pride a_quota a_melted a_lost x1 x2 H locs hP hS ls hl h
      have h : f_X1_readDraft_b21 fu t_bytes t_wordCodes t_end (f_X1_readDraft_l21 fu t_bytes t_wordCodes t_end n21) k_prideTold k_quotaTold r_fault r_place t_kind t_start t_value t_word t_name t_at a_name a_courage a_weight a_medals a_stood a_fled a_liked a_count a_living a_pride a_quota a_melted a_lost x1 x2 = some res := h
      unfold f_X1_readDraft_b21 at h
      refine lv_iload_n hx hb dX1_readDraft_21 rfl (lv_at hl 2 rfl) ?_
      refine lv_sipush (v := 900) hx hb dX1_readDraft_22 (by decide) ?_
      refine lv_icmp_gt (tgt := 143) hx hb dX1_readDraft_25 (by decide) (fun c_28 => ?_) (fun c_28 => ?_)
      · have h := it c_28 h
        refine lv_iload_n hx hb dX1_readDraft_143 rfl (lv_at hl 1 rfl) ?_
        obtain ⟨b_29, e_b_29, h⟩ := bi h
        obtain ⟨-, n_b_29, -⟩ := bz_ok e_b_29
        cases h
        subst hW1
        exact W.zret hx hb hr n_b_29 (fun _ ht9 _ => ⟨⟨_, (), rfl, rfl, hPt ht9 hP.1⟩, hS.F ht9⟩) hS.2.2 dX1_readDraft_144
      · have h := ie c_28 h
        refine lv_iload_n hx hb dX1_readDraft_28 rfl (lv_at hl 1 rfl) ?_
        refine lv_if_eq (tgt := 143) hx hb dX1_readDraft_29 (by decide) (fun c_30 => ?_) (fun c_30 => ?_)
        · have h := it c_30 h
          refine lv_iload_n hx hb dX1_readDraft_143 rfl (lv_at hl 1 rfl) ?_
          obtain ⟨b_31, e_b_31, h⟩ := bi h
          obtain ⟨-, n_b_31, -⟩ := bz_ok e_b_31
          cases h
          subst hW1
          exact W.zret hx hb hr n_b_31 (fun _ ht9 _ => ⟨⟨_, (), rfl, rfl, hPt ht9 hP.1⟩, hS.F ht9⟩) hS.2.2 dX1_readDraft_144
        · have h := ie c_30 h
          refine lv_aload_n hx hb dX1_readDraft_32 rfl (lv_at hl 0 rfl) ?_
          refine xget (i := 0) (j := 0) (k := 0) (T := TX1) hx hb ht tb_iX1 hown hX hP.1 rfl rfl rfl (by decide) tb_281 rfl dX1_readDraft_33 ?_
          obtain ⟨z_32, e_z_32, h⟩ := bi h
          refine roVi (rest := []) ⟨hx, hb, hml, hown, ht⟩ (c_X6_atEnd l D cy fu A_r r_fault r_place A_t t_bytes t_wordCodes t_length t_kind t_start t_value t_word t_name t_end t_at z_32 e_z_32) (cV ht mv_X6_atEnd tb_618 rfl rfl ⟨Nat.le_of_ble_eq_true rfl, Nat.le_of_ble_eq_true rfl⟩) (P_sub hP.1 [1, 2] rfl) hX rfl rfl rfl hl.1 rfl (Nat.le_of_ble_eq_true rfl) dX1_readDraft_36 ⟨Nat.le_of_ble_eq_true rfl, Nat.le_of_ble_eq_true rfl⟩ ?_
          refine lv_if_ne (tgt := 143) hx hb dX1_readDraft_39 (by decide) (fun c_33 => ?_) (fun c_33 => ?_)
          · have h := ie c_33 h
            refine lv_iload_n hx hb dX1_readDraft_143 rfl (lv_at hl 1 rfl) ?_
            obtain ⟨b_34, e_b_34, h⟩ := bi h
            obtain ⟨-, n_b_34, -⟩ := bz_ok e_b_34
            cases h
            subst hW1
            exact W.zret hx hb hr n_b_34 (fun _ ht9 _ => ⟨⟨_, (), rfl, rfl, hPt ht9 hP.1⟩, hS.F ht9⟩) hS.2.2 dX1_readDraft_144
          · have h := it c_33 h
            refine lv_aload_n hx hb dX1_readDraft_42 rfl (lv_at hl 0 rfl) ?_
            refine xget (i := 0) (j := 0) (k := 0) (T := TX1) hx hb ht tb_iX1 hown hX hP.1 rfl rfl rfl (by decide) tb_281 rfl dX1_readDraft_43 ?_
            refine xget (i := 1) (j := 0) (k := 0) (T := TX6) hx hb ht tb_iX6 hown hX hP.1 rfl rfl rfl (by decide) tb_261 rfl dX1_readDraft_46 ?_
            refine xget (i := 2) (j := 0) (k := 6) (T := TX7) hx hb ht tb_iX7 hown hX hP.1 rfl rfl rfl (by decide) tb_230 rfl dX1_readDraft_49 ?_
            by_cases c_35 : t_word = 0
            · have h := it c_35 h
              refine lv_tableIn (tgt := 96) hx hb dX1_readDraft_52 (by rw [c_35]; decide) (by rw [c_35]; decide) (by rw [c_35]; rfl) (by decide) ?_
              refine lv_aload_n hx hb dX1_readDraft_96 rfl (lv_at hl 0 rfl) ?_
              obtain ⟨z_36, e_z_36, h⟩ := bi h
              refine efVi (rest := []) ⟨hx, hb, hml, hown, ht⟩ (c_X1_takePride l D cy fu A_k k_prideTold k_quotaTold A_r r_fault r_place A_t t_bytes t_wordCodes t_length t_kind t_start t_value t_word t_name t_end t_at A_a a_name a_courage a_weight a_medals a_stood a_fled a_liked a_votes a_count a_living a_pride a_quota a_melted a_lost z_36 e_z_36 _ rfl _ rfl) (cV ht mv_X1_takePride tb_622 rfl rfl ⟨Nat.le_of_ble_eq_true rfl, Nat.le_of_ble_eq_true rfl⟩) hP hS hX [0, 1, 2, 3] rfl rfl rfl rfl rfl rfl hl.1 rfl (Nat.le_of_ble_eq_true rfl) dX1_readDraft_97 ⟨Nat.le_of_ble_eq_true rfl, Nat.le_of_ble_eq_true rfl⟩ (fun H locs hP hS => ?_)
              have hP : PD D A [bl_X1 cy A_k (A_r 0) (A_a 0) z_36.2.1 k_quotaTold, bl_X6 cy A_r (A_t 0) z_36.2.2.1 z_36.2.2.2.1, bl_X7 cy A_t t_bytes t_wordCodes t_length z_36.2.2.2.2.1 z_36.2.2.2.2.2.1 z_36.2.2.2.2.2.2.1 z_36.2.2.2.2.2.2.2.1 z_36.2.2.2.2.2.2.2.2.1 t_end z_36.2.2.2.2.2.2.2.2.2.1, bl_X0 cy A_a a_name a_courage a_weight a_medals a_stood a_fled a_liked a_votes a_count a_living z_36.2.2.2.2.2.2.2.2.2.2 a_quota a_melted a_lost] H := hP
              refine lv_istore_n (lv' := [(1, .int z_36.1), (0, .ref (A_k 0)), (2, .int x2)]) hx hb dX1_readDraft_100 rfl hl (by decide) rfl (fun ls hl => ?_)
              refine lv_goto (tgt := 137) hx hb dX1_readDraft_101 (by decide) ?_
              obtain ⟨x2_37, e_x2_37⟩ : ∃ y : Int32, y = x2 + 1 := ⟨_, rfl⟩
              have h := bn e_x2_37 h
              refine lv_iinc (v := x2_37) (lv' := [(2, .int x2_37), (1, .int z_36.1), (0, .ref (A_k 0))]) hx hb dX1_readDraft_137 hl (k := 2) rfl (by rw [e_x2_37]; rfl) (by decide) rfl (fun ls hl => ?_)
              refine lv_goto (tgt := 21) hx hb dX1_readDraft_140 (by decide) ?_
              exact ih21 z_36.2.1 k_quotaTold z_36.2.2.1 z_36.2.2.2.1 z_36.2.2.2.2.1 z_36.2.2.2.2.2.1 z_36.2.2.2.2.2.2.1 z_36.2.2.2.2.2.2.2.1 z_36.2.2.2.2.2.2.2.2.1 z_36.2.2.2.2.2.2.2.2.2.1 a_name a_courage a_weight a_medals a_stood a_fled a_liked a_count a_living z_36.2.2.2.2.2.2.2.2.2.2 a_quota a_melted a_lost z_36.1 x2_37 _ _ hP hS ls (lv_sub hl [2, 1, 0] rfl) h
            have h := ie c_35 h
            by_cases c_38 : t_word = 1
            · have h := it c_38 h
              refine lv_tableIn (tgt := 104) hx hb dX1_readDraft_52 (by rw [c_38]; decide) (by rw [c_38]; decide) (by rw [c_38]; rfl) (by decide) ?_
              refine lv_aload_n hx hb dX1_readDraft_104 rfl (lv_at hl 0 rfl) ?_
              obtain ⟨z_39, e_z_39, h⟩ := bi h
              refine efVi (rest := []) ⟨hx, hb, hml, hown, ht⟩ (c_X1_takeQuota l D cy fu A_k k_prideTold k_quotaTold A_r r_fault r_place A_t t_bytes t_wordCodes t_length t_kind t_start t_value t_word t_name t_end t_at A_a a_name a_courage a_weight a_medals a_stood a_fled a_liked a_votes a_count a_living a_pride a_quota a_melted a_lost z_39 e_z_39 _ rfl _ rfl) (cV ht mv_X1_takeQuota tb_645 rfl rfl ⟨Nat.le_of_ble_eq_true rfl, Nat.le_of_ble_eq_true rfl⟩) hP hS hX [0, 1, 2, 3] rfl rfl rfl rfl rfl rfl hl.1 rfl (Nat.le_of_ble_eq_true rfl) dX1_readDraft_105 ⟨Nat.le_of_ble_eq_true rfl, Nat.le_of_ble_eq_true rfl⟩ (fun H locs hP hS => ?_)
              have hP : PD D A [bl_X1 cy A_k (A_r 0) (A_a 0) k_prideTold z_39.2.1, bl_X6 cy A_r (A_t 0) z_39.2.2.1 z_39.2.2.2.1, bl_X7 cy A_t t_bytes t_wordCodes t_length z_39.2.2.2.2.1 z_39.2.2.2.2.2.1 z_39.2.2.2.2.2.2.1 z_39.2.2.2.2.2.2.2.1 z_39.2.2.2.2.2.2.2.2.1 t_end z_39.2.2.2.2.2.2.2.2.2.1, bl_X0 cy A_a a_name a_courage a_weight a_medals a_stood a_fled a_liked a_votes a_count a_living a_pride z_39.2.2.2.2.2.2.2.2.2.2 a_melted a_lost] H := hP
              refine lv_istore_n (lv' := [(1, .int z_39.1), (0, .ref (A_k 0)), (2, .int x2)]) hx hb dX1_readDraft_108 rfl hl (by decide) rfl (fun ls hl => ?_)
              refine lv_goto (tgt := 137) hx hb dX1_readDraft_109 (by decide) ?_
              obtain ⟨x2_40, e_x2_40⟩ : ∃ y : Int32, y = x2 + 1 := ⟨_, rfl⟩
              have h := bn e_x2_40 h
              refine lv_iinc (v := x2_40) (lv' := [(2, .int x2_40), (1, .int z_39.1), (0, .ref (A_k 0))]) hx hb dX1_readDraft_137 hl (k := 2) rfl (by rw [e_x2_40]; rfl) (by decide) rfl (fun ls hl => ?_)
              refine lv_goto (tgt := 21) hx hb dX1_readDraft_140 (by decide) ?_
              exact ih21 k_prideTold z_39.2.1 z_39.2.2.1 z_39.2.2.2.1 z_39.2.2.2.2.1 z_39.2.2.2.2.2.1 z_39.2.2.2.2.2.2.1 z_39.2.2.2.2.2.2.2.1 z_39.2.2.2.2.2.2.2.2.1 z_39.2.2.2.2.2.2.2.2.2.1 a_name a_courage a_weight a_medals a_stood a_fled a_liked a_count a_living a_pride z_39.2.2.2.2.2.2.2.2.2.2 a_melted a_lost z_39.1 x2_40 _ _ hP hS ls (lv_sub hl [2, 1, 0] rfl) h
            have h := ie c_38 h
            by_cases c_41 : t_word = 2
            · have h := it c_41 h
              refine lv_tableIn (tgt := 112) hx hb dX1_readDraft_52 (by rw [c_41]; decide) (by rw [c_41]; decide) (by rw [c_41]; rfl) (by decide) ?_
              refine lv_aload_n hx hb dX1_readDraft_112 rfl (lv_at hl 0 rfl) ?_
              obtain ⟨z_42, e_z_42, h⟩ := bi h
              refine efVi (rest := []) ⟨hx, hb, hml, hown, ht⟩ (c_X1_takeNewMan l D cy fu A_k k_prideTold k_quotaTold A_r r_fault r_place A_t t_bytes t_wordCodes t_length t_kind t_start t_value t_word t_name t_end t_at A_a a_name a_courage a_weight a_medals a_stood a_fled a_liked a_votes a_count a_living a_pride a_quota a_melted a_lost z_42 e_z_42 _ rfl _ rfl) (cV ht mv_X1_takeNewMan tb_649 rfl rfl ⟨Nat.le_of_ble_eq_true rfl, Nat.le_of_ble_eq_true rfl⟩) hP hS hX [0, 1, 2, 3] rfl rfl rfl rfl rfl rfl hl.1 rfl (Nat.le_of_ble_eq_true rfl) dX1_readDraft_113 ⟨Nat.le_of_ble_eq_true rfl, Nat.le_of_ble_eq_true rfl⟩ (fun H locs hP hS => ?_)
              have hP : PD D A [bl_X1 cy A_k (A_r 0) (A_a 0) k_prideTold k_quotaTold, bl_X6 cy A_r (A_t 0) z_42.2.1 z_42.2.2.1, bl_X7 cy A_t t_bytes t_wordCodes t_length z_42.2.2.2.1 z_42.2.2.2.2.1 z_42.2.2.2.2.2.1 z_42.2.2.2.2.2.2.1 z_42.2.2.2.2.2.2.2.1 t_end z_42.2.2.2.2.2.2.2.2.1, bl_X0 cy A_a z_42.2.2.2.2.2.2.2.2.2.1 z_42.2.2.2.2.2.2.2.2.2.2.1 z_42.2.2.2.2.2.2.2.2.2.2.2.1 z_42.2.2.2.2.2.2.2.2.2.2.2.2.1 z_42.2.2.2.2.2.2.2.2.2.2.2.2.2.1 z_42.2.2.2.2.2.2.2.2.2.2.2.2.2.2.1 z_42.2.2.2.2.2.2.2.2.2.2.2.2.2.2.2.1 a_votes z_42.2.2.2.2.2.2.2.2.2.2.2.2.2.2.2.2.1 z_42.2.2.2.2.2.2.2.2.2.2.2.2.2.2.2.2.2 a_pride a_quota a_melted a_lost] H := hP
              refine lv_istore_n (lv' := [(1, .int z_42.1), (0, .ref (A_k 0)), (2, .int x2)]) hx hb dX1_readDraft_116 rfl hl (by decide) rfl (fun ls hl => ?_)
              refine lv_goto (tgt := 137) hx hb dX1_readDraft_117 (by decide) ?_
              obtain ⟨x2_43, e_x2_43⟩ : ∃ y : Int32, y = x2 + 1 := ⟨_, rfl⟩
              have h := bn e_x2_43 h
              refine lv_iinc (v := x2_43) (lv' := [(2, .int x2_43), (1, .int z_42.1), (0, .ref (A_k 0))]) hx hb dX1_readDraft_137 hl (k := 2) rfl (by rw [e_x2_43]; rfl) (by decide) rfl (fun ls hl => ?_)
              refine lv_goto (tgt := 21) hx hb dX1_readDraft_140 (by decide) ?_
              exact ih21 k_prideTold k_quotaTold z_42.2.1 z_42.2.2.1 z_42.2.2.2.1 z_42.2.2.2.2.1 z_42.2.2.2.2.2.1 z_42.2.2.2.2.2.2.1 z_42.2.2.2.2.2.2.2.1 z_42.2.2.2.2.2.2.2.2.1 z_42.2.2.2.2.2.2.2.2.2.1 z_42.2.2.2.2.2.2.2.2.2.2.1 z_42.2.2.2.2.2.2.2.2.2.2.2.1 z_42.2.2.2.2.2.2.2.2.2.2.2.2.1 z_42.2.2.2.2.2.2.2.2.2.2.2.2.2.1 z_42.2.2.2.2.2.2.2.2.2.2.2.2.2.2.1 z_42.2.2.2.2.2.2.2.2.2.2.2.2.2.2.2.1 z_42.2.2.2.2.2.2.2.2.2.2.2.2.2.2.2.2.1 z_42.2.2.2.2.2.2.2.2.2.2.2.2.2.2.2.2.2 a_pride a_quota a_melted a_lost z_42.1 x2_43 _ _ hP hS ls (lv_sub hl [2, 1, 0] rfl) h
            have h := ie c_41 h
            by_cases c_44 : t_word = 3
            · have h := it c_44 h
              refine lv_tableIn (tgt := 128) hx hb dX1_readDraft_52 (by rw [c_44]; decide) (by rw [c_44]; decide) (by rw [c_44]; rfl) (by decide) ?_
              exact j128 k_prideTold k_quotaTold r_fault r_place t_kind t_start t_value t_word t_name t_at a_name a_courage a_weight a_medals a_stood a_fled a_liked a_count a_living a_pride a_quota a_melted a_lost x2 _ _ hP hS ls (lv_sub hl [0, 2] rfl) h
            have h := ie c_44 h
            by_cases c_45 : t_word = 4
            · have h := it c_45 h
              refine lv_tableIn (tgt := 128) hx hb dX1_readDraft_52 (by rw [c_45]; decide) (by rw [c_45]; decide) (by rw [c_45]; rfl) (by decide) ?_
              exact j128 k_prideTold k_quotaTold r_fault r_place t_kind t_start t_value t_word t_name t_at a_name a_courage a_weight a_medals a_stood a_fled a_liked a_count a_living a_pride a_quota a_melted a_lost x2 _ _ hP hS ls (lv_sub hl [0, 2] rfl) h
            have h := ie c_45 h
            by_cases c_46 : t_word = 5
            · have h := it c_46 h
              refine lv_tableIn (tgt := 128) hx hb dX1_readDraft_52 (by rw [c_46]; decide) (by rw [c_46]; decide) (by rw [c_46]; rfl) (by decide) ?_
              exact j128 k_prideTold k_quotaTold r_fault r_place t_kind t_start t_value t_word t_name t_at a_name a_courage a_weight a_medals a_stood a_fled a_liked a_count a_living a_pride a_quota a_melted a_lost x2 _ _ hP hS ls (lv_sub hl [0, 2] rfl) h
            have h := ie c_46 h
            by_cases c_47 : t_word = 6
            · have h := it c_47 h
              refine lv_tableIn (tgt := 120) hx hb dX1_readDraft_52 (by rw [c_47]; decide) (by rw [c_47]; decide) (by rw [c_47]; rfl) (by decide) ?_
              refine lv_aload_n hx hb dX1_readDraft_120 rfl (lv_at hl 0 rfl) ?_
              obtain ⟨z_48, e_z_48, h⟩ := bi h
              refine efVi (rest := []) ⟨hx, hb, hml, hown, ht⟩ (c_X1_takeLikes l D cy fu A_k k_prideTold k_quotaTold A_r r_fault r_place A_t t_bytes t_wordCodes t_length t_kind t_start t_value t_word t_name t_end t_at A_a a_name a_courage a_weight a_medals a_stood a_fled a_liked a_votes a_count a_living a_pride a_quota a_melted a_lost z_48 e_z_48 _ rfl _ rfl) (cV ht mv_X1_takeLikes tb_670 rfl rfl ⟨Nat.le_of_ble_eq_true rfl, Nat.le_of_ble_eq_true rfl⟩) hP hS hX [0, 1, 2, 3] rfl rfl rfl rfl rfl rfl hl.1 rfl (Nat.le_of_ble_eq_true rfl) dX1_readDraft_121 ⟨Nat.le_of_ble_eq_true rfl, Nat.le_of_ble_eq_true rfl⟩ (fun H locs hP hS => ?_)
              have hP : PD D A [bl_X1 cy A_k (A_r 0) (A_a 0) k_prideTold k_quotaTold, bl_X6 cy A_r (A_t 0) z_48.2.1 z_48.2.2.1, bl_X7 cy A_t t_bytes t_wordCodes t_length z_48.2.2.2.1 z_48.2.2.2.2.1 z_48.2.2.2.2.2.1 z_48.2.2.2.2.2.2.1 z_48.2.2.2.2.2.2.2.1 t_end z_48.2.2.2.2.2.2.2.2.1, bl_X0 cy A_a a_name a_courage a_weight a_medals a_stood a_fled z_48.2.2.2.2.2.2.2.2.2 a_votes a_count a_living a_pride a_quota a_melted a_lost] H := hP
              refine lv_istore_n (lv' := [(1, .int z_48.1), (0, .ref (A_k 0)), (2, .int x2)]) hx hb dX1_readDraft_124 rfl hl (by decide) rfl (fun ls hl => ?_)
              refine lv_goto (tgt := 137) hx hb dX1_readDraft_125 (by decide) ?_
              obtain ⟨x2_49, e_x2_49⟩ : ∃ y : Int32, y = x2 + 1 := ⟨_, rfl⟩
              have h := bn e_x2_49 h
              refine lv_iinc (v := x2_49) (lv' := [(2, .int x2_49), (1, .int z_48.1), (0, .ref (A_k 0))]) hx hb dX1_readDraft_137 hl (k := 2) rfl (by rw [e_x2_49]; rfl) (by decide) rfl (fun ls hl => ?_)
              refine lv_goto (tgt := 21) hx hb dX1_readDraft_140 (by decide) ?_
              exact ih21 k_prideTold k_quotaTold z_48.2.1 z_48.2.2.1 z_48.2.2.2.1 z_48.2.2.2.2.1 z_48.2.2.2.2.2.1 z_48.2.2.2.2.2.2.1 z_48.2.2.2.2.2.2.2.1 z_48.2.2.2.2.2.2.2.2.1 a_name a_courage a_weight a_medals a_stood a_fled z_48.2.2.2.2.2.2.2.2.2 a_count a_living a_pride a_quota a_melted a_lost z_48.1 x2_49 _ _ hP hS ls (lv_sub hl [2, 1, 0] rfl) h
            have h := ie c_47 h
            refine lv_tableOut (tgt := 128) hx hb dX1_readDraft_52 (by have n_c_35 := lv_neT (a := 0) c_35 rfl; have n_c_38 := lv_neT (a := 1) c_38 rfl; have n_c_41 := lv_neT (a := 2) c_41 rfl; have n_c_44 := lv_neT (a := 3) c_44 rfl; have n_c_45 := lv_neT (a := 4) c_45 rfl; have n_c_46 := lv_neT (a := 5) c_46 rfl; have n_c_47 := lv_neT (a := 6) c_47 rfl; omega) (by decide) ?_
            exact j128 k_prideTold k_quotaTold r_fault r_place t_kind t_start t_value t_word t_name t_at a_name a_courage a_weight a_medals a_stood a_fled a_liked a_count a_living a_pride a_quota a_melted a_lost x2 _ _ hP hS ls (lv_sub hl [0, 2] rfl) h
  unfold f_X1_readDraft at h
  refine lv_aload_n hx hb dX1_readDraft_0 rfl (lv_at hl 0 rfl) ?_
  refine xget (i := 0) (j := 0) (k := 1) (T := TX1) hx hb ht tb_iX1 hown hX hP.1 rfl rfl rfl (by decide) tb_282 rfl dX1_readDraft_1 ?_
  obtain ⟨z_50, e_z_50, h⟩ := bi h
  refine efVv (rest := []) ⟨hx, hb, hml, hown, ht⟩ (c_X0_clear l D cy fu A_a a_name a_courage a_weight a_medals a_stood a_fled a_liked a_votes a_count a_living a_pride a_quota a_melted a_lost z_50 e_z_50 _ rfl _ rfl) (cV ht mv_X0_clear tb_610 rfl rfl ⟨Nat.le_of_ble_eq_true rfl, Nat.le_of_ble_eq_true rfl⟩) hP hS hX [3] rfl rfl rfl rfl rfl rfl hl.1 rfl (Nat.le_of_ble_eq_true rfl) dX1_readDraft_4 ⟨Nat.le_of_ble_eq_true rfl, Nat.le_of_ble_eq_true rfl⟩ (fun H locs hP hS => ?_)
  have hP : PD D A [bl_X1 cy A_k (A_r 0) (A_a 0) k_prideTold k_quotaTold, bl_X6 cy A_r (A_t 0) r_fault r_place, bl_X7 cy A_t t_bytes t_wordCodes t_length t_kind t_start t_value t_word t_name t_end t_at, bl_X0 cy A_a z_50.1 z_50.2.1 z_50.2.2.1 z_50.2.2.2.1 z_50.2.2.2.2.1 z_50.2.2.2.2.2.1 a_liked a_votes z_50.2.2.2.2.2.2.1 z_50.2.2.2.2.2.2.2.1 z_50.2.2.2.2.2.2.2.2.1 z_50.2.2.2.2.2.2.2.2.2.1 z_50.2.2.2.2.2.2.2.2.2.2.1 z_50.2.2.2.2.2.2.2.2.2.2.2] H := hP
  refine lv_aload_n hx hb dX1_readDraft_7 rfl (lv_at hl 0 rfl) ?_
  refine lv_iconst (v := 0) hx hb dX1_readDraft_8 (by decide) ?_
  refine xput (i := 0) (j := 0) (k := 2) (T := TX1) tyX1 tyX1_ok nmX1 hx hb ht tb_iX1 hown hX hP hS rfl rfl rfl (by decide) tb_283 rfl rfl rfl (Nat.le_of_ble_eq_true rfl) dX1_readDraft_9 (fun H locs hP hS => ?_)
  have hP : PD D A [bl_X1 cy A_k (A_r 0) (A_a 0) 0 k_quotaTold, bl_X6 cy A_r (A_t 0) r_fault r_place, bl_X7 cy A_t t_bytes t_wordCodes t_length t_kind t_start t_value t_word t_name t_end t_at, bl_X0 cy A_a z_50.1 z_50.2.1 z_50.2.2.1 z_50.2.2.2.1 z_50.2.2.2.2.1 z_50.2.2.2.2.2.1 a_liked a_votes z_50.2.2.2.2.2.2.1 z_50.2.2.2.2.2.2.2.1 z_50.2.2.2.2.2.2.2.2.1 z_50.2.2.2.2.2.2.2.2.2.1 z_50.2.2.2.2.2.2.2.2.2.2.1 z_50.2.2.2.2.2.2.2.2.2.2.2] H := hP
  refine lv_aload_n hx hb dX1_readDraft_12 rfl (lv_at hl 0 rfl) ?_
  refine lv_iconst (v := 0) hx hb dX1_readDraft_13 (by decide) ?_
  refine xput (i := 0) (j := 0) (k := 3) (T := TX1) tyX1 tyX1_ok nmX1 hx hb ht tb_iX1 hown hX hP hS rfl rfl rfl (by decide) tb_284 rfl rfl rfl (Nat.le_of_ble_eq_true rfl) dX1_readDraft_14 (fun H locs hP hS => ?_)
  have hP : PD D A [bl_X1 cy A_k (A_r 0) (A_a 0) 0 0, bl_X6 cy A_r (A_t 0) r_fault r_place, bl_X7 cy A_t t_bytes t_wordCodes t_length t_kind t_start t_value t_word t_name t_end t_at, bl_X0 cy A_a z_50.1 z_50.2.1 z_50.2.2.1 z_50.2.2.2.1 z_50.2.2.2.2.1 z_50.2.2.2.2.2.1 a_liked a_votes z_50.2.2.2.2.2.2.1 z_50.2.2.2.2.2.2.2.1 z_50.2.2.2.2.2.2.2.2.1 z_50.2.2.2.2.2.2.2.2.2.1 z_50.2.2.2.2.2.2.2.2.2.2.1 z_50.2.2.2.2.2.2.2.2.2.2.2] H := hP
  refine lv_iconst (v := 1) hx hb dX1_readDraft_17 (by decide) ?_
  refine lv_istore_n (lv' := [(1, .int 1), (0, .ref (A_k 0))]) hx hb dX1_readDraft_18 rfl hl (by decide) rfl (fun ls hl => ?_)
  refine lv_iconst (v := 0) hx hb dX1_readDraft_19 (by decide) ?_
  refine lv_istore_n (lv' := [(2, .int 0), (1, .int 1), (0, .ref (A_k 0))]) hx hb dX1_readDraft_20 rfl hl (by decide) rfl (fun ls hl => ?_)
  exact l21 fu 0 0 r_fault r_place t_kind t_start t_value t_word t_name t_at z_50.1 z_50.2.1 z_50.2.2.1 z_50.2.2.2.1 z_50.2.2.2.2.1 z_50.2.2.2.2.2.1 a_liked z_50.2.2.2.2.2.2.1 z_50.2.2.2.2.2.2.2.1 z_50.2.2.2.2.2.2.2.2.1 z_50.2.2.2.2.2.2.2.2.2.1 z_50.2.2.2.2.2.2.2.2.2.2.1 z_50.2.2.2.2.2.2.2.2.2.2.2 1 0 _ _ hP hS ls (lv_sub hl [2, 1, 0] rfl) h

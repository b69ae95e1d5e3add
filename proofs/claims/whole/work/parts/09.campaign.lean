theorem dX2_begin_0 : decode cX2_begin 0 = .ok (.aload_n 0, 1) := by decide +kernel
theorem dX2_begin_1 : decode cX2_begin 1 = .ok (.iload_n 1, 1) := by decide +kernel
theorem dX2_begin_2 : decode cX2_begin 2 = .ok (.putfield 15, 3) := by decide +kernel
theorem dX2_begin_5 : decode cX2_begin 5 = .ok (.aload_n 0, 1) := by decide +kernel
theorem dX2_begin_6 : decode cX2_begin 6 = .ok (.iconst 1, 1) := by decide +kernel
theorem dX2_begin_7 : decode cX2_begin 7 = .ok (.putfield 19, 3) := by decide +kernel
theorem dX2_begin_10 : decode cX2_begin 10 = .ok (.aload_n 0, 1) := by decide +kernel
theorem dX2_begin_11 : decode cX2_begin 11 = .ok (.iconst 0, 1) := by decide +kernel
theorem dX2_begin_12 : decode cX2_begin 12 = .ok (.putfield 23, 3) := by decide +kernel
theorem dX2_begin_15 : decode cX2_begin 15 = .ok (.aload_n 0, 1) := by decide +kernel
theorem dX2_begin_16 : decode cX2_begin 16 = .ok (.iconst 0, 1) := by decide +kernel
theorem dX2_begin_17 : decode cX2_begin 17 = .ok (.putfield 26, 3) := by decide +kernel
theorem dX2_begin_20 : decode cX2_begin 20 = .ok (.aload_n 0, 1) := by decide +kernel
theorem dX2_begin_21 : decode cX2_begin 21 = .ok (.iconst 0, 1) := by decide +kernel
theorem dX2_begin_22 : decode cX2_begin 22 = .ok (.putfield 29, 3) := by decide +kernel
theorem dX2_begin_25 : decode cX2_begin 25 = .ok (.aload_n 0, 1) := by decide +kernel
theorem dX2_begin_26 : decode cX2_begin 26 = .ok (.iconst 0, 1) := by decide +kernel
theorem dX2_begin_27 : decode cX2_begin 27 = .ok (.putfield 32, 3) := by decide +kernel
theorem dX2_begin_30 : decode cX2_begin 30 = .ok (.aload_n 0, 1) := by decide +kernel
theorem dX2_begin_31 : decode cX2_begin 31 = .ok (.iconst 0, 1) := by decide +kernel
theorem dX2_begin_32 : decode cX2_begin 32 = .ok (.putfield 35, 3) := by decide +kernel
theorem dX2_begin_35 : decode cX2_begin 35 = .ok (.aload_n 0, 1) := by decide +kernel
theorem dX2_begin_36 : decode cX2_begin 36 = .ok (.iconst 0, 1) := by decide +kernel
theorem dX2_begin_37 : decode cX2_begin 37 = .ok (.putfield 38, 3) := by decide +kernel
theorem dX2_begin_40 : decode cX2_begin 40 = .ok (.return_, 1) := by decide +kernel
theorem mv_X2_begin : MV yX2_begin RX2 cX2_begin 2 none 1 := ⟨tb_1161, tb_1160, ts_32, tb_12, by decide +kernel, by decide +kernel, by decide +kernel⟩
def f_X2_begin (fu : Nat) (c_drawn : Int32) (c_fought : Int32) (c_steps : Int32) (c_missed : Int32) (c_stood : Int32) (c_fled : Int32) (c_pinned : Int32) (c_left : Int32) (x1 : Int32) : Option (Int32 × Int32 × Int32 × Int32 × Int32 × Int32 × Int32 × Int32) := some (x1, 1, 0, 0, 0, 0, 0, 0)
abbrev rm_X2_begin : Room := { frames := 0, cells := 0, slots := 0, locals := 0 }
set_option maxHeartbeats 4000000 in
set_option maxRecDepth 100000 in
theorem c_X2_begin (l : Launch) (D : va_G) (cy : Nat → ClassId) (fu : Nat) (A_c : Nat → Nat) (c_roundsLeft : Nat → Int32) (c_drawn : Int32) (c_fought : Int32) (c_steps : Int32) (c_missed : Int32) (c_stood : Int32) (c_fled : Int32) (c_pinned : Int32) (c_left : Int32) (A_a : Nat → Nat) (a_name : Nat → Int64) (a_courage : Nat → Int32) (a_weight : Nat → Int32) (a_medals : Nat → Int32) (a_stood : Nat → Int32) (a_fled : Nat → Int32) (a_liked : Nat → Int32) (a_votes : Nat → Int32) (a_count : Int32) (a_living : Int32) (a_pride : Int32) (a_quota : Int32) (a_melted : Int32) (a_lost : Int32) (A_w : Nat → Nat) (w_deed : Nat → Int32) (w_man : Nat → Int32) (w_other : Nat → Int32) (w_sign : Nat → Int32) (w_number : Nat → Int32) (w_mate : Nat → Int32) (w_there : Int32) (w_rows : Int32) (w_steps : Int32) (x1 : Int32) (res : Int32 × Int32 × Int32 × Int32 × Int32 × Int32 × Int32 × Int32) (h : f_X2_begin fu c_drawn c_fought c_steps c_missed c_stood c_fled c_pinned c_left x1 = some res) (A : Nat → Prop) (hA : A = adr [bl_X2 cy A_c (A_a 0) (A_w 0) c_roundsLeft c_drawn c_fought c_steps c_missed c_stood c_fled c_pinned c_left, bl_X0 cy A_a a_name a_courage a_weight a_medals a_stood a_fled a_liked a_votes a_count a_living a_pride a_quota a_melted a_lost, bl_X9 cy A_w w_deed w_man w_other w_sign w_number w_mate w_there w_rows w_steps]) (W1 : List va_W) (hW1 : W1 = [bl_X2 cy A_c (A_a 0) (A_w 0) c_roundsLeft res.1 res.2.1 res.2.2.1 res.2.2.2.1 res.2.2.2.2.1 res.2.2.2.2.2.1 res.2.2.2.2.2.2.1 res.2.2.2.2.2.2.2, bl_X0 cy A_a a_name a_courage a_weight a_medals a_stood a_fled a_liked a_votes a_count a_living a_pride a_quota a_melted a_lost, bl_X9 cy A_w w_deed w_man w_other w_sign w_number w_mate w_there w_rows w_steps]) : Met l yX2_begin (WW yX2_begin cX2_begin 2 none) rm_X2_begin (Ed D cy [.ref (A_c 0), .int x1] [bl_X2 cy A_c (A_a 0) (A_w 0) c_roundsLeft c_drawn c_fought c_steps c_missed c_stood c_fled c_pinned c_left, bl_X0 cy A_a a_name a_courage a_weight a_medals a_stood a_fled a_liked a_votes a_count a_living a_pride a_quota a_melted a_lost, bl_X9 cy A_w w_deed w_man w_other w_sign w_number w_mate w_there w_rows w_steps]) (Qev D A W1) 0 0 A := by
  refine Met.ofW (cc := cX2_begin) (maxL := 2) (ret := none) (by decide) rfl ?_
  intro p e s m args below meth c s₁ B hml hv
  obtain ⟨hargs, hP, hX, hD0⟩ := hv
  have hx := B.exec
  have hb := B.bytes
  have hr := B.returns
  have ht : ∀ w ∈ lw_gd, w.before args s = true := fun w hw => atoms_spec (ws := WW yX2_begin cX2_begin 2 none) B.pre w (List.mem_cons_of_mem _ hw)
  have hown : s.vm.findClass RX2 = some m.cls := findClass_of_methodNamed B.named
  have hlocks := B.notSynchronized
  have hP : PD D A [bl_X2 cy A_c (A_a 0) (A_w 0) c_roundsLeft c_drawn c_fought c_steps c_missed c_stood c_fled c_pinned c_left, bl_X0 cy A_a a_name a_courage a_weight a_medals a_stood a_fled a_liked a_votes a_count a_living a_pride a_quota a_melted a_lost, bl_X9 cy A_w w_deed w_man w_other w_sign w_number w_mate w_there w_rows w_steps] s.heap := ⟨hP, by rw [hA]; exact hD0.own⟩
  have hS : va_S A s.heap s.heap [] := va_S.rf
  obtain ⟨ls, hl, hent⟩ := ent (m := m) (n := 2) hargs (Nat.le_of_ble_eq_true rfl) (lv := [(0, .ref (A_c 0)), (1, .int x1)]) rfl
  rw [hent]
  clear hent
  unfold f_X2_begin at h
  refine lv_aload_n hx hb dX2_begin_0 rfl (lv_at hl 0 rfl) ?_
  refine lv_iload_n hx hb dX2_begin_1 rfl (lv_at hl 1 rfl) ?_
  refine xput (i := 0) (j := 0) (k := 3) (T := TX2) tyX2 tyX2_ok nmX2 hx hb ht tb_iX2 hown hX hP hS rfl rfl rfl (by decide) tb_327 rfl rfl rfl (Nat.le_of_ble_eq_true rfl) dX2_begin_2 (fun H locs hP hS => ?_)
  have hP : PD D A [bl_X2 cy A_c (A_a 0) (A_w 0) c_roundsLeft x1 c_fought c_steps c_missed c_stood c_fled c_pinned c_left, bl_X0 cy A_a a_name a_courage a_weight a_medals a_stood a_fled a_liked a_votes a_count a_living a_pride a_quota a_melted a_lost, bl_X9 cy A_w w_deed w_man w_other w_sign w_number w_mate w_there w_rows w_steps] H := hP
  refine lv_aload_n hx hb dX2_begin_5 rfl (lv_at hl 0 rfl) ?_
  refine lv_iconst (v := 1) hx hb dX2_begin_6 (by decide) ?_
  refine xput (i := 0) (j := 0) (k := 4) (T := TX2) tyX2 tyX2_ok nmX2 hx hb ht tb_iX2 hown hX hP hS rfl rfl rfl (by decide) tb_328 rfl rfl rfl (Nat.le_of_ble_eq_true rfl) dX2_begin_7 (fun H locs hP hS => ?_)
  have hP : PD D A [bl_X2 cy A_c (A_a 0) (A_w 0) c_roundsLeft x1 1 c_steps c_missed c_stood c_fled c_pinned c_left, bl_X0 cy A_a a_name a_courage a_weight a_medals a_stood a_fled a_liked a_votes a_count a_living a_pride a_quota a_melted a_lost, bl_X9 cy A_w w_deed w_man w_other w_sign w_number w_mate w_there w_rows w_steps] H := hP
  refine lv_aload_n hx hb dX2_begin_10 rfl (lv_at hl 0 rfl) ?_
  refine lv_iconst (v := 0) hx hb dX2_begin_11 (by decide) ?_
  refine xput (i := 0) (j := 0) (k := 5) (T := TX2) tyX2 tyX2_ok nmX2 hx hb ht tb_iX2 hown hX hP hS rfl rfl rfl (by decide) tb_330 rfl rfl rfl (Nat.le_of_ble_eq_true rfl) dX2_begin_12 (fun H locs hP hS => ?_)
  have hP : PD D A [bl_X2 cy A_c (A_a 0) (A_w 0) c_roundsLeft x1 1 0 c_missed c_stood c_fled c_pinned c_left, bl_X0 cy A_a a_name a_courage a_weight a_medals a_stood a_fled a_liked a_votes a_count a_living a_pride a_quota a_melted a_lost, bl_X9 cy A_w w_deed w_man w_other w_sign w_number w_mate w_there w_rows w_steps] H := hP
  refine lv_aload_n hx hb dX2_begin_15 rfl (lv_at hl 0 rfl) ?_
  refine lv_iconst (v := 0) hx hb dX2_begin_16 (by decide) ?_
  refine xput (i := 0) (j := 0) (k := 6) (T := TX2) tyX2 tyX2_ok nmX2 hx hb ht tb_iX2 hown hX hP hS rfl rfl rfl (by decide) tb_332 rfl rfl rfl (Nat.le_of_ble_eq_true rfl) dX2_begin_17 (fun H locs hP hS => ?_)
  have hP : PD D A [bl_X2 cy A_c (A_a 0) (A_w 0) c_roundsLeft x1 1 0 0 c_stood c_fled c_pinned c_left, bl_X0 cy A_a a_name a_courage a_weight a_medals a_stood a_fled a_liked a_votes a_count a_living a_pride a_quota a_melted a_lost, bl_X9 cy A_w w_deed w_man w_other w_sign w_number w_mate w_there w_rows w_steps] H := hP
  refine lv_aload_n hx hb dX2_begin_20 rfl (lv_at hl 0 rfl) ?_
  refine lv_iconst (v := 0) hx hb dX2_begin_21 (by decide) ?_
  refine xput (i := 0) (j := 0) (k := 7) (T := TX2) tyX2 tyX2_ok nmX2 hx hb ht tb_iX2 hown hX hP hS rfl rfl rfl (by decide) tb_333 rfl rfl rfl (Nat.le_of_ble_eq_true rfl) dX2_begin_22 (fun H locs hP hS => ?_)
  have hP : PD D A [bl_X2 cy A_c (A_a 0) (A_w 0) c_roundsLeft x1 1 0 0 0 c_fled c_pinned c_left, bl_X0 cy A_a a_name a_courage a_weight a_medals a_stood a_fled a_liked a_votes a_count a_living a_pride a_quota a_melted a_lost, bl_X9 cy A_w w_deed w_man w_other w_sign w_number w_mate w_there w_rows w_steps] H := hP
  refine lv_aload_n hx hb dX2_begin_25 rfl (lv_at hl 0 rfl) ?_
  refine lv_iconst (v := 0) hx hb dX2_begin_26 (by decide) ?_
  refine xput (i := 0) (j := 0) (k := 8) (T := TX2) tyX2 tyX2_ok nmX2 hx hb ht tb_iX2 hown hX hP hS rfl rfl rfl (by decide) tb_334 rfl rfl rfl (Nat.le_of_ble_eq_true rfl) dX2_begin_27 (fun H locs hP hS => ?_)
  have hP : PD D A [bl_X2 cy A_c (A_a 0) (A_w 0) c_roundsLeft x1 1 0 0 0 0 c_pinned c_left, bl_X0 cy A_a a_name a_courage a_weight a_medals a_stood a_fled a_liked a_votes a_count a_living a_pride a_quota a_melted a_lost, bl_X9 cy A_w w_deed w_man w_other w_sign w_number w_mate w_there w_rows w_steps] H := hP
  refine lv_aload_n hx hb dX2_begin_30 rfl (lv_at hl 0 rfl) ?_
  refine lv_iconst (v := 0) hx hb dX2_begin_31 (by decide) ?_
  refine xput (i := 0) (j := 0) (k := 9) (T := TX2) tyX2 tyX2_ok nmX2 hx hb ht tb_iX2 hown hX hP hS rfl rfl rfl (by decide) tb_335 rfl rfl rfl (Nat.le_of_ble_eq_true rfl) dX2_begin_32 (fun H locs hP hS => ?_)
  have hP : PD D A [bl_X2 cy A_c (A_a 0) (A_w 0) c_roundsLeft x1 1 0 0 0 0 0 c_left, bl_X0 cy A_a a_name a_courage a_weight a_medals a_stood a_fled a_liked a_votes a_count a_living a_pride a_quota a_melted a_lost, bl_X9 cy A_w w_deed w_man w_other w_sign w_number w_mate w_there w_rows w_steps] H := hP
  refine lv_aload_n hx hb dX2_begin_35 rfl (lv_at hl 0 rfl) ?_
  refine lv_iconst (v := 0) hx hb dX2_begin_36 (by decide) ?_
  refine xput (i := 0) (j := 0) (k := 10) (T := TX2) tyX2 tyX2_ok nmX2 hx hb ht tb_iX2 hown hX hP hS rfl rfl rfl (by decide) tb_336 rfl rfl rfl (Nat.le_of_ble_eq_true rfl) dX2_begin_37 (fun H locs hP hS => ?_)
  have hP : PD D A [bl_X2 cy A_c (A_a 0) (A_w 0) c_roundsLeft x1 1 0 0 0 0 0 0, bl_X0 cy A_a a_name a_courage a_weight a_medals a_stood a_fled a_liked a_votes a_count a_living a_pride a_quota a_melted a_lost, bl_X9 cy A_w w_deed w_man w_other w_sign w_number w_mate w_there w_rows w_steps] H := hP
  cases h
  subst hW1
  exact W.vret hx hb hr (fun _ ht9 _ => ⟨⟨(), rfl, trivial, hPt ht9 hP.1⟩, hS.F ht9⟩) hS.2.2 dX2_begin_40
theorem dX2_behindEnd_0 : decode cX2_behindEnd 0 = .ok (.aload_n 0, 1) := by decide +kernel
theorem dX2_behindEnd_1 : decode cX2_behindEnd 1 = .ok (.getfield 45, 3) := by decide +kernel
theorem dX2_behindEnd_4 : decode cX2_behindEnd 4 = .ok (.getfield 73, 3) := by decide +kernel
theorem dX2_behindEnd_7 : decode cX2_behindEnd 7 = .ok (.iload_n 1, 1) := by decide +kernel
theorem dX2_behindEnd_8 : decode cX2_behindEnd 8 = .ok (.iaload, 1) := by decide +kernel
theorem dX2_behindEnd_9 : decode cX2_behindEnd 9 = .ok (.istore_n 2, 1) := by decide +kernel
theorem dX2_behindEnd_10 : decode cX2_behindEnd 10 = .ok (.iload_n 2, 1) := by decide +kernel
theorem dX2_behindEnd_11 : decode cX2_behindEnd 11 = .ok (.iconst 0, 1) := by decide +kernel
theorem dX2_behindEnd_12 : decode cX2_behindEnd 12 = .ok (.bipush 59, 2) := by decide +kernel
theorem dX2_behindEnd_14 : decode cX2_behindEnd 14 = .ok (.invokestatic 59, 3) := by decide +kernel
theorem dX2_behindEnd_17 : decode cX2_behindEnd 17 = .ok (.ifCond .eq 17, 3) := by decide +kernel
theorem dX2_behindEnd_20 : decode cX2_behindEnd 20 = .ok (.aload_n 0, 1) := by decide +kernel
theorem dX2_behindEnd_21 : decode cX2_behindEnd 21 = .ok (.getfield 45, 3) := by decide +kernel
theorem dX2_behindEnd_24 : decode cX2_behindEnd 24 = .ok (.getfield 63, 3) := by decide +kernel
theorem dX2_behindEnd_27 : decode cX2_behindEnd 27 = .ok (.iload_n 2, 1) := by decide +kernel
theorem dX2_behindEnd_28 : decode cX2_behindEnd 28 = .ok (.iaload, 1) := by decide +kernel
theorem dX2_behindEnd_29 : decode cX2_behindEnd 29 = .ok (.bipush 16, 2) := by decide +kernel
theorem dX2_behindEnd_31 : decode cX2_behindEnd 31 = .ok (.if_icmp .eq 7, 3) := by decide +kernel
theorem dX2_behindEnd_34 : decode cX2_behindEnd 34 = .ok (.iload_n 1, 1) := by decide +kernel
theorem dX2_behindEnd_35 : decode cX2_behindEnd 35 = .ok (.iconst 1, 1) := by decide +kernel
theorem dX2_behindEnd_36 : decode cX2_behindEnd 36 = .ok (.iadd, 1) := by decide +kernel
theorem dX2_behindEnd_37 : decode cX2_behindEnd 37 = .ok (.ireturn, 1) := by decide +kernel
theorem dX2_behindEnd_38 : decode cX2_behindEnd 38 = .ok (.aload_n 0, 1) := by decide +kernel
theorem dX2_behindEnd_39 : decode cX2_behindEnd 39 = .ok (.getfield 9, 3) := by decide +kernel
theorem dX2_behindEnd_42 : decode cX2_behindEnd 42 = .ok (.iload_n 2, 1) := by decide +kernel
theorem dX2_behindEnd_43 : decode cX2_behindEnd 43 = .ok (.dup2, 1) := by decide +kernel
theorem dX2_behindEnd_44 : decode cX2_behindEnd 44 = .ok (.iaload, 1) := by decide +kernel
theorem dX2_behindEnd_45 : decode cX2_behindEnd 45 = .ok (.iconst 1, 1) := by decide +kernel
theorem dX2_behindEnd_46 : decode cX2_behindEnd 46 = .ok (.isub, 1) := by decide +kernel
theorem dX2_behindEnd_47 : decode cX2_behindEnd 47 = .ok (.iastore, 1) := by decide +kernel
theorem dX2_behindEnd_48 : decode cX2_behindEnd 48 = .ok (.aload_n 0, 1) := by decide +kernel
theorem dX2_behindEnd_49 : decode cX2_behindEnd 49 = .ok (.getfield 9, 3) := by decide +kernel
theorem dX2_behindEnd_52 : decode cX2_behindEnd 52 = .ok (.iload_n 2, 1) := by decide +kernel
theorem dX2_behindEnd_53 : decode cX2_behindEnd 53 = .ok (.iaload, 1) := by decide +kernel
theorem dX2_behindEnd_54 : decode cX2_behindEnd 54 = .ok (.ifCond .le 9, 3) := by decide +kernel
theorem dX2_behindEnd_57 : decode cX2_behindEnd 57 = .ok (.iload_n 2, 1) := by decide +kernel
theorem dX2_behindEnd_58 : decode cX2_behindEnd 58 = .ok (.iconst 1, 1) := by decide +kernel
theorem dX2_behindEnd_59 : decode cX2_behindEnd 59 = .ok (.iadd, 1) := by decide +kernel
theorem dX2_behindEnd_60 : decode cX2_behindEnd 60 = .ok (.goto 6, 3) := by decide +kernel
theorem dX2_behindEnd_63 : decode cX2_behindEnd 63 = .ok (.iload_n 1, 1) := by decide +kernel
theorem dX2_behindEnd_64 : decode cX2_behindEnd 64 = .ok (.iconst 1, 1) := by decide +kernel
theorem dX2_behindEnd_65 : decode cX2_behindEnd 65 = .ok (.iadd, 1) := by decide +kernel
theorem dX2_behindEnd_66 : decode cX2_behindEnd 66 = .ok (.ireturn, 1) := by decide +kernel
theorem mv_X2_behindEnd : MV yX2_behindEnd RX2 cX2_behindEnd 3 (some .int) 1 := ⟨tb_1167, tb_1166, ts_33, tb_12, by decide +kernel, by decide +kernel, by decide +kernel⟩
def f_X2_behindEnd (fu : Nat) (c_roundsLeft : Nat → Int32) (w_deed : Nat → Int32) (w_mate : Nat → Int32) (x1 : Int32) : Option (Int32 × (Nat → Int32)) := (rdI w_mate 60 x1).bind fun y_10 => (f_X11_within fu y_10 0 59).bind fun z_11 => (if z_11 = 0 then some (x1 + 1, c_roundsLeft) else (rdI w_deed 60 y_10).bind fun y_13 => (if y_13 = 16 then (rdI c_roundsLeft 60 y_10).bind fun y_15 => (wrI c_roundsLeft 60 y_10 (y_15 - 1)).bind fun c_roundsLeft_16 => (rdI c_roundsLeft_16 60 y_10).bind fun y_17 => (if y_17 ≤ 0 then some (x1 + 1, c_roundsLeft_16) else some (y_10 + 1, c_roundsLeft_16)) else some (x1 + 1, c_roundsLeft)))
abbrev rm_X2_behindEnd : Room := { frames := 1, cells := 0, slots := 0, locals := 22 }
set_option maxHeartbeats 4000000 in
set_option maxRecDepth 100000 in
theorem c_X2_behindEnd (l : Launch) (D : va_G) (cy : Nat → ClassId) (fu : Nat) (A_c : Nat → Nat) (c_roundsLeft : Nat → Int32) (c_drawn : Int32) (c_fought : Int32) (c_steps : Int32) (c_missed : Int32) (c_stood : Int32) (c_fled : Int32) (c_pinned : Int32) (c_left : Int32) (A_a : Nat → Nat) (a_name : Nat → Int64) (a_courage : Nat → Int32) (a_weight : Nat → Int32) (a_medals : Nat → Int32) (a_stood : Nat → Int32) (a_fled : Nat → Int32) (a_liked : Nat → Int32) (a_votes : Nat → Int32) (a_count : Int32) (a_living : Int32) (a_pride : Int32) (a_quota : Int32) (a_melted : Int32) (a_lost : Int32) (A_w : Nat → Nat) (w_deed : Nat → Int32) (w_man : Nat → Int32) (w_other : Nat → Int32) (w_sign : Nat → Int32) (w_number : Nat → Int32) (w_mate : Nat → Int32) (w_there : Int32) (w_rows : Int32) (w_steps : Int32) (x1 : Int32) (res : Int32 × (Nat → Int32)) (h : f_X2_behindEnd fu c_roundsLeft w_deed w_mate x1 = some res) (A : Nat → Prop) (hA : A = adr [bl_X2 cy A_c (A_a 0) (A_w 0) c_roundsLeft c_drawn c_fought c_steps c_missed c_stood c_fled c_pinned c_left, bl_X0 cy A_a a_name a_courage a_weight a_medals a_stood a_fled a_liked a_votes a_count a_living a_pride a_quota a_melted a_lost, bl_X9 cy A_w w_deed w_man w_other w_sign w_number w_mate w_there w_rows w_steps]) (W1 : List va_W) (hW1 : W1 = [bl_X2 cy A_c (A_a 0) (A_w 0) res.2 c_drawn c_fought c_steps c_missed c_stood c_fled c_pinned c_left, bl_X0 cy A_a a_name a_courage a_weight a_medals a_stood a_fled a_liked a_votes a_count a_living a_pride a_quota a_melted a_lost, bl_X9 cy A_w w_deed w_man w_other w_sign w_number w_mate w_there w_rows w_steps]) : Met l yX2_behindEnd (WW yX2_behindEnd cX2_behindEnd 3 (some .int)) rm_X2_behindEnd (Ed D cy [.ref (A_c 0), .int x1] [bl_X2 cy A_c (A_a 0) (A_w 0) c_roundsLeft c_drawn c_fought c_steps c_missed c_stood c_fled c_pinned c_left, bl_X0 cy A_a a_name a_courage a_weight a_medals a_stood a_fled a_liked a_votes a_count a_living a_pride a_quota a_melted a_lost, bl_X9 cy A_w w_deed w_man w_other w_sign w_number w_mate w_there w_rows w_steps]) (Qei D res.1 A W1) 0 0 A := by
  refine Met.ofW (cc := cX2_behindEnd) (maxL := 3) (ret := (some .int)) (by decide) rfl ?_
  intro p e s m args below meth c s₁ B hml hv
  obtain ⟨hargs, hP, hX, hD0⟩ := hv
  have hx := B.exec
  have hb := B.bytes
  have hr := B.returns
  have ht : ∀ w ∈ lw_gd, w.before args s = true := fun w hw => atoms_spec (ws := WW yX2_behindEnd cX2_behindEnd 3 (some .int)) B.pre w (List.mem_cons_of_mem _ hw)
  have hown : s.vm.findClass RX2 = some m.cls := findClass_of_methodNamed B.named
  have hlocks := B.notSynchronized
  have hP : PD D A [bl_X2 cy A_c (A_a 0) (A_w 0) c_roundsLeft c_drawn c_fought c_steps c_missed c_stood c_fled c_pinned c_left, bl_X0 cy A_a a_name a_courage a_weight a_medals a_stood a_fled a_liked a_votes a_count a_living a_pride a_quota a_melted a_lost, bl_X9 cy A_w w_deed w_man w_other w_sign w_number w_mate w_there w_rows w_steps] s.heap := ⟨hP, by rw [hA]; exact hD0.own⟩
  have hS : va_S A s.heap s.heap [] := va_S.rf
  obtain ⟨ls, hl, hent⟩ := ent (m := m) (n := 3) hargs (Nat.le_of_ble_eq_true rfl) (lv := [(0, .ref (A_c 0)), (1, .int x1)]) rfl
  rw [hent]
  clear hent
  unfold f_X2_behindEnd at h
  refine lv_aload_n hx hb dX2_behindEnd_0 rfl (lv_at hl 0 rfl) ?_
  refine xget (i := 0) (j := 0) (k := 2) (T := TX2) hx hb ht tb_iX2 hown hX hP.1 rfl rfl rfl (by decide) tb_326 rfl dX2_behindEnd_1 ?_
  refine xget (i := 2) (j := 0) (k := 5) (T := TX9) hx hb ht tb_iX9 hown hX hP.1 rfl rfl rfl (by decide) tb_127 rfl dX2_behindEnd_4 ?_
  refine lv_iload_n hx hb dX2_behindEnd_7 rfl (lv_at hl 1 rfl) ?_
  obtain ⟨y_10, e_y_10, h⟩ := bi h
  refine xiald (i0 := 2) (j0 := 6) hx hb hX hP.1 rfl rfl e_y_10 dX2_behindEnd_8 ?_
  refine lv_istore_n (lv' := [(2, .int y_10), (0, .ref (A_c 0)), (1, .int x1)]) hx hb dX2_behindEnd_9 rfl hl (by decide) rfl (fun ls hl => ?_)
  refine lv_iload_n hx hb dX2_behindEnd_10 rfl (lv_at hl 0 rfl) ?_
  refine lv_iconst (v := 0) hx hb dX2_behindEnd_11 (by decide) ?_
  refine lv_bipush (v := 59) hx hb dX2_behindEnd_12 (by decide) ?_
  obtain ⟨z_11, e_z_11, h⟩ := bi h
  refine roNi (rest := []) ⟨hx, hb, hml, hown, ht⟩ (c_X11_within l D cy fu  y_10 0 59 z_11 e_z_11) (cN ht hX ms_X11_within (List.mem_of_getElem? (i := 12) rfl) rfl rfl ⟨Nat.le_of_ble_eq_true rfl, Nat.le_of_ble_eq_true rfl⟩) (P_sub hP.1 [] rfl) hX rfl hl.1 rfl (Nat.le_of_ble_eq_true rfl) dX2_behindEnd_14 ⟨Nat.le_of_ble_eq_true rfl, Nat.le_of_ble_eq_true rfl⟩ ?_
  refine lv_if_eq (tgt := 34) hx hb dX2_behindEnd_17 (by decide) (fun c_12 => ?_) (fun c_12 => ?_)
  · have h := it c_12 h
    refine lv_iload_n hx hb dX2_behindEnd_34 rfl (lv_at hl 2 rfl) ?_
    refine lv_iconst (v := 1) hx hb dX2_behindEnd_35 (by decide) ?_
    refine lv_iadd hx hb dX2_behindEnd_36 ?_
    cases h
    subst hW1
    exact W.iret hx hb hr (fun _ ht9 _ => ⟨⟨_, (), rfl, rfl, hPt ht9 hP.1⟩, hS.F ht9⟩) hS.2.2 dX2_behindEnd_37
  · have h := ie c_12 h
    refine lv_aload_n hx hb dX2_behindEnd_20 rfl (lv_at hl 1 rfl) ?_
    refine xget (i := 0) (j := 0) (k := 2) (T := TX2) hx hb ht tb_iX2 hown hX hP.1 rfl rfl rfl (by decide) tb_326 rfl dX2_behindEnd_21 ?_
    refine xget (i := 2) (j := 0) (k := 0) (T := TX9) hx hb ht tb_iX9 hown hX hP.1 rfl rfl rfl (by decide) tb_113 rfl dX2_behindEnd_24 ?_
    refine lv_iload_n hx hb dX2_behindEnd_27 rfl (lv_at hl 0 rfl) ?_
    obtain ⟨y_13, e_y_13, h⟩ := bi h
    refine xiald (i0 := 2) (j0 := 1) hx hb hX hP.1 rfl rfl e_y_13 dX2_behindEnd_28 ?_
    refine lv_bipush (v := 16) hx hb dX2_behindEnd_29 (by decide) ?_
    refine lv_icmp_eq (tgt := 38) hx hb dX2_behindEnd_31 (by decide) (fun c_14 => ?_) (fun c_14 => ?_)
    · have h := it c_14 h
      refine lv_aload_n hx hb dX2_behindEnd_38 rfl (lv_at hl 1 rfl) ?_
      refine xget (i := 0) (j := 0) (k := 0) (T := TX2) hx hb ht tb_iX2 hown hX hP.1 rfl rfl rfl (by decide) tb_324 rfl dX2_behindEnd_39 ?_
      refine lv_iload_n hx hb dX2_behindEnd_42 rfl (lv_at hl 0 rfl) ?_
      refine lv_dup2_11 hx hb dX2_behindEnd_43 rfl rfl ?_
      obtain ⟨y_15, e_y_15, h⟩ := bi h
      refine xiald (i0 := 0) (j0 := 1) hx hb hX hP.1 rfl rfl e_y_15 dX2_behindEnd_44 ?_
      refine lv_iconst (v := 1) hx hb dX2_behindEnd_45 (by decide) ?_
      refine lv_isub hx hb dX2_behindEnd_46 ?_
      obtain ⟨c_roundsLeft_16, e_c_roundsLeft_16, h⟩ := bi h
      refine xiast (i0 := 0) (j0 := 1) hx hb hX hP hS rfl rfl e_c_roundsLeft_16 dX2_behindEnd_47 (fun H locs hP hS => ?_)
      have hP : PD D A [bl_X2 cy A_c (A_a 0) (A_w 0) c_roundsLeft_16 c_drawn c_fought c_steps c_missed c_stood c_fled c_pinned c_left, bl_X0 cy A_a a_name a_courage a_weight a_medals a_stood a_fled a_liked a_votes a_count a_living a_pride a_quota a_melted a_lost, bl_X9 cy A_w w_deed w_man w_other w_sign w_number w_mate w_there w_rows w_steps] H := hP
      refine lv_aload_n hx hb dX2_behindEnd_48 rfl (lv_at hl 1 rfl) ?_
      refine xget (i := 0) (j := 0) (k := 0) (T := TX2) hx hb ht tb_iX2 hown hX hP.1 rfl rfl rfl (by decide) tb_324 rfl dX2_behindEnd_49 ?_
      refine lv_iload_n hx hb dX2_behindEnd_52 rfl (lv_at hl 0 rfl) ?_
      obtain ⟨y_17, e_y_17, h⟩ := bi h
      refine xiald (i0 := 0) (j0 := 1) hx hb hX hP.1 rfl rfl e_y_17 dX2_behindEnd_53 ?_
      refine lv_if_le (tgt := 63) hx hb dX2_behindEnd_54 (by decide) (fun c_18 => ?_) (fun c_18 => ?_)
      · have h := it c_18 h
        refine lv_iload_n hx hb dX2_behindEnd_63 rfl (lv_at hl 2 rfl) ?_
        refine lv_iconst (v := 1) hx hb dX2_behindEnd_64 (by decide) ?_
        refine lv_iadd hx hb dX2_behindEnd_65 ?_
        cases h
        subst hW1
        exact W.iret hx hb hr (fun _ ht9 _ => ⟨⟨_, (), rfl, rfl, hPt ht9 hP.1⟩, hS.F ht9⟩) hS.2.2 dX2_behindEnd_66
      · have h := ie c_18 h
        refine lv_iload_n hx hb dX2_behindEnd_57 rfl (lv_at hl 0 rfl) ?_
        refine lv_iconst (v := 1) hx hb dX2_behindEnd_58 (by decide) ?_
        refine lv_iadd hx hb dX2_behindEnd_59 ?_
        refine lv_goto (tgt := 66) hx hb dX2_behindEnd_60 (by decide) ?_
        cases h
        subst hW1
        exact W.iret hx hb hr (fun _ ht9 _ => ⟨⟨_, (), rfl, rfl, hPt ht9 hP.1⟩, hS.F ht9⟩) hS.2.2 dX2_behindEnd_66
    · have h := ie c_14 h
      refine lv_iload_n hx hb dX2_behindEnd_34 rfl (lv_at hl 2 rfl) ?_
      refine lv_iconst (v := 1) hx hb dX2_behindEnd_35 (by decide) ?_
      refine lv_iadd hx hb dX2_behindEnd_36 ?_
      cases h
      subst hW1
      exact W.iret hx hb hr (fun _ ht9 _ => ⟨⟨_, (), rfl, rfl, hPt ht9 hP.1⟩, hS.F ht9⟩) hS.2.2 dX2_behindEnd_37
theorem dX2_faceDanger_0 : decode cX2_faceDanger 0 = .ok (.aload_n 0, 1) := by decide +kernel
theorem dX2_faceDanger_1 : decode cX2_faceDanger 1 = .ok (.getfield 41, 3) := by decide +kernel
theorem dX2_faceDanger_4 : decode cX2_faceDanger 4 = .ok (.iload_n 1, 1) := by decide +kernel
theorem dX2_faceDanger_5 : decode cX2_faceDanger 5 = .ok (.invokevirtual 115, 3) := by decide +kernel
theorem dX2_faceDanger_8 : decode cX2_faceDanger 8 = .ok (.ifCond .ne 14, 3) := by decide +kernel
theorem dX2_faceDanger_11 : decode cX2_faceDanger 11 = .ok (.aload_n 0, 1) := by decide +kernel
theorem dX2_faceDanger_12 : decode cX2_faceDanger 12 = .ok (.dup, 1) := by decide +kernel
theorem dX2_faceDanger_13 : decode cX2_faceDanger 13 = .ok (.getfield 26, 3) := by decide +kernel
theorem dX2_faceDanger_16 : decode cX2_faceDanger 16 = .ok (.iconst 1, 1) := by decide +kernel
theorem dX2_faceDanger_17 : decode cX2_faceDanger 17 = .ok (.iadd, 1) := by decide +kernel
theorem dX2_faceDanger_18 : decode cX2_faceDanger 18 = .ok (.putfield 26, 3) := by decide +kernel
theorem dX2_faceDanger_21 : decode cX2_faceDanger 21 = .ok (.return_, 1) := by decide +kernel
theorem dX2_faceDanger_22 : decode cX2_faceDanger 22 = .ok (.aload_n 0, 1) := by decide +kernel
theorem dX2_faceDanger_23 : decode cX2_faceDanger 23 = .ok (.getfield 41, 3) := by decide +kernel
theorem dX2_faceDanger_26 : decode cX2_faceDanger 26 = .ok (.iload_n 1, 1) := by decide +kernel
theorem dX2_faceDanger_27 : decode cX2_faceDanger 27 = .ok (.iload_n 2, 1) := by decide +kernel
theorem dX2_faceDanger_28 : decode cX2_faceDanger 28 = .ok (.invokevirtual 118, 3) := by decide +kernel
theorem dX2_faceDanger_31 : decode cX2_faceDanger 31 = .ok (.istore_n 3, 1) := by decide +kernel
theorem dX2_faceDanger_32 : decode cX2_faceDanger 32 = .ok (.iload_n 3, 1) := by decide +kernel
theorem dX2_faceDanger_33 : decode cX2_faceDanger 33 = .ok (.bipush 9, 2) := by decide +kernel
theorem dX2_faceDanger_35 : decode cX2_faceDanger 35 = .ok (.if_icmp .ne 14, 3) := by decide +kernel
theorem dX2_faceDanger_38 : decode cX2_faceDanger 38 = .ok (.aload_n 0, 1) := by decide +kernel
theorem dX2_faceDanger_39 : decode cX2_faceDanger 39 = .ok (.dup, 1) := by decide +kernel
theorem dX2_faceDanger_40 : decode cX2_faceDanger 40 = .ok (.getfield 32, 3) := by decide +kernel
theorem dX2_faceDanger_43 : decode cX2_faceDanger 43 = .ok (.iconst 1, 1) := by decide +kernel
theorem dX2_faceDanger_44 : decode cX2_faceDanger 44 = .ok (.iadd, 1) := by decide +kernel
theorem dX2_faceDanger_45 : decode cX2_faceDanger 45 = .ok (.putfield 32, 3) := by decide +kernel
theorem dX2_faceDanger_48 : decode cX2_faceDanger 48 = .ok (.return_, 1) := by decide +kernel
theorem dX2_faceDanger_49 : decode cX2_faceDanger 49 = .ok (.aload_n 0, 1) := by decide +kernel
theorem dX2_faceDanger_50 : decode cX2_faceDanger 50 = .ok (.dup, 1) := by decide +kernel
theorem dX2_faceDanger_51 : decode cX2_faceDanger 51 = .ok (.getfield 29, 3) := by decide +kernel
theorem dX2_faceDanger_54 : decode cX2_faceDanger 54 = .ok (.iconst 1, 1) := by decide +kernel
theorem dX2_faceDanger_55 : decode cX2_faceDanger 55 = .ok (.iadd, 1) := by decide +kernel
theorem dX2_faceDanger_56 : decode cX2_faceDanger 56 = .ok (.putfield 29, 3) := by decide +kernel
theorem dX2_faceDanger_59 : decode cX2_faceDanger 59 = .ok (.iload_n 3, 1) := by decide +kernel
theorem dX2_faceDanger_60 : decode cX2_faceDanger 60 = .ok (.bipush 8, 2) := by decide +kernel
theorem dX2_faceDanger_62 : decode cX2_faceDanger 62 = .ok (.if_icmp .eq 13, 3) := by decide +kernel
theorem dX2_faceDanger_65 : decode cX2_faceDanger 65 = .ok (.aload_n 0, 1) := by decide +kernel
theorem dX2_faceDanger_66 : decode cX2_faceDanger 66 = .ok (.dup, 1) := by decide +kernel
theorem dX2_faceDanger_67 : decode cX2_faceDanger 67 = .ok (.getfield 35, 3) := by decide +kernel
theorem dX2_faceDanger_70 : decode cX2_faceDanger 70 = .ok (.iconst 1, 1) := by decide +kernel
theorem dX2_faceDanger_71 : decode cX2_faceDanger 71 = .ok (.iadd, 1) := by decide +kernel
theorem dX2_faceDanger_72 : decode cX2_faceDanger 72 = .ok (.putfield 35, 3) := by decide +kernel
theorem dX2_faceDanger_75 : decode cX2_faceDanger 75 = .ok (.return_, 1) := by decide +kernel
theorem mv_X2_faceDanger : MV yX2_faceDanger RX2 cX2_faceDanger 4 none 2 := ⟨tb_1175, tb_1174, ts_35, tb_12, by decide +kernel, by decide +kernel, by decide +kernel⟩
def f_X2_faceDanger (fu : Nat) (c_missed : Int32) (c_stood : Int32) (c_fled : Int32) (c_pinned : Int32) (a_courage : Nat → Int32) (a_weight : Nat → Int32) (a_medals : Nat → Int32) (a_stood : Nat → Int32) (a_fled : Nat → Int32) (a_liked : Nat → Int32) (a_votes : Nat → Int32) (a_count : Int32) (a_living : Int32) (a_pride : Int32) (a_melted : Int32) (a_lost : Int32) (x1 : Int32) (x2 : Int32) : Option (Int32 × Int32 × Int32 × Int32 × (Nat → Int32) × (Nat → Int32) × (Nat → Int32) × (Nat → Int32) × Int32 × Int32) := (f_X0_lives fu a_count a_living x1).bind fun z_10 => (if z_10 = 0 then bnd (c_missed + 1) fun c_missed_18 => some (c_missed_18, c_stood, c_fled, c_pinned, a_medals, a_stood, a_fled, a_votes, a_melted, a_lost) else (f_X0_endure fu a_courage a_weight a_medals a_stood a_fled a_liked a_votes a_count a_living a_pride a_melted a_lost x1 x2).bind fun z_12 => (if z_12.1 = 9 then bnd (c_fled + 1) fun c_fled_17 => some (c_missed, c_stood, c_fled_17, c_pinned, z_12.2.1, z_12.2.2.1, z_12.2.2.2.1, z_12.2.2.2.2.1, z_12.2.2.2.2.2.1, z_12.2.2.2.2.2.2) else bnd (c_stood + 1) fun c_stood_14 => (if z_12.1 = 8 then some (c_missed, c_stood_14, c_fled, c_pinned, z_12.2.1, z_12.2.2.1, z_12.2.2.2.1, z_12.2.2.2.2.1, z_12.2.2.2.2.2.1, z_12.2.2.2.2.2.2) else bnd (c_pinned + 1) fun c_pinned_16 => some (c_missed, c_stood_14, c_fled, c_pinned_16, z_12.2.1, z_12.2.2.1, z_12.2.2.2.1, z_12.2.2.2.2.1, z_12.2.2.2.2.2.1, z_12.2.2.2.2.2.2))))
abbrev rm_X2_faceDanger : Room := { frames := 3, cells := 0, slots := 0, locals := 73 }
set_option maxHeartbeats 4000000 in
set_option maxRecDepth 100000 in
theorem c_X2_faceDanger (l : Launch) (D : va_G) (cy : Nat → ClassId) (fu : Nat) (A_c : Nat → Nat) (c_roundsLeft : Nat → Int32) (c_drawn : Int32) (c_fought : Int32) (c_steps : Int32) (c_missed : Int32) (c_stood : Int32) (c_fled : Int32) (c_pinned : Int32) (c_left : Int32) (A_a : Nat → Nat) (a_name : Nat → Int64) (a_courage : Nat → Int32) (a_weight : Nat → Int32) (a_medals : Nat → Int32) (a_stood : Nat → Int32) (a_fled : Nat → Int32) (a_liked : Nat → Int32) (a_votes : Nat → Int32) (a_count : Int32) (a_living : Int32) (a_pride : Int32) (a_quota : Int32) (a_melted : Int32) (a_lost : Int32) (A_w : Nat → Nat) (w_deed : Nat → Int32) (w_man : Nat → Int32) (w_other : Nat → Int32) (w_sign : Nat → Int32) (w_number : Nat → Int32) (w_mate : Nat → Int32) (w_there : Int32) (w_rows : Int32) (w_steps : Int32) (x1 : Int32) (x2 : Int32) (res : Int32 × Int32 × Int32 × Int32 × (Nat → Int32) × (Nat → Int32) × (Nat → Int32) × (Nat → Int32) × Int32 × Int32) (h : f_X2_faceDanger fu c_missed c_stood c_fled c_pinned a_courage a_weight a_medals a_stood a_fled a_liked a_votes a_count a_living a_pride a_melted a_lost x1 x2 = some res) (A : Nat → Prop) (hA : A = adr [bl_X2 cy A_c (A_a 0) (A_w 0) c_roundsLeft c_drawn c_fought c_steps c_missed c_stood c_fled c_pinned c_left, bl_X0 cy A_a a_name a_courage a_weight a_medals a_stood a_fled a_liked a_votes a_count a_living a_pride a_quota a_melted a_lost, bl_X9 cy A_w w_deed w_man w_other w_sign w_number w_mate w_there w_rows w_steps]) (W1 : List va_W) (hW1 : W1 = [bl_X2 cy A_c (A_a 0) (A_w 0) c_roundsLeft c_drawn c_fought c_steps res.1 res.2.1 res.2.2.1 res.2.2.2.1 c_left, bl_X0 cy A_a a_name a_courage a_weight res.2.2.2.2.1 res.2.2.2.2.2.1 res.2.2.2.2.2.2.1 a_liked res.2.2.2.2.2.2.2.1 a_count a_living a_pride a_quota res.2.2.2.2.2.2.2.2.1 res.2.2.2.2.2.2.2.2.2, bl_X9 cy A_w w_deed w_man w_other w_sign w_number w_mate w_there w_rows w_steps]) : Met l yX2_faceDanger (WW yX2_faceDanger cX2_faceDanger 4 none) rm_X2_faceDanger (Ed D cy [.ref (A_c 0), .int x1, .int x2] [bl_X2 cy A_c (A_a 0) (A_w 0) c_roundsLeft c_drawn c_fought c_steps c_missed c_stood c_fled c_pinned c_left, bl_X0 cy A_a a_name a_courage a_weight a_medals a_stood a_fled a_liked a_votes a_count a_living a_pride a_quota a_melted a_lost, bl_X9 cy A_w w_deed w_man w_other w_sign w_number w_mate w_there w_rows w_steps]) (Qev D A W1) 0 0 A := by
  refine Met.ofW (cc := cX2_faceDanger) (maxL := 4) (ret := none) (by decide) rfl ?_
  intro p e s m args below meth c s₁ B hml hv
  obtain ⟨hargs, hP, hX, hD0⟩ := hv
  have hx := B.exec
  have hb := B.bytes
  have hr := B.returns
  have ht : ∀ w ∈ lw_gd, w.before args s = true := fun w hw => atoms_spec (ws := WW yX2_faceDanger cX2_faceDanger 4 none) B.pre w (List.mem_cons_of_mem _ hw)
  have hown : s.vm.findClass RX2 = some m.cls := findClass_of_methodNamed B.named
  have hlocks := B.notSynchronized
  have hP : PD D A [bl_X2 cy A_c (A_a 0) (A_w 0) c_roundsLeft c_drawn c_fought c_steps c_missed c_stood c_fled c_pinned c_left, bl_X0 cy A_a a_name a_courage a_weight a_medals a_stood a_fled a_liked a_votes a_count a_living a_pride a_quota a_melted a_lost, bl_X9 cy A_w w_deed w_man w_other w_sign w_number w_mate w_there w_rows w_steps] s.heap := ⟨hP, by rw [hA]; exact hD0.own⟩
  have hS : va_S A s.heap s.heap [] := va_S.rf
  obtain ⟨ls, hl, hent⟩ := ent (m := m) (n := 4) hargs (Nat.le_of_ble_eq_true rfl) (lv := [(0, .ref (A_c 0)), (1, .int x1), (2, .int x2)]) rfl
  rw [hent]
  clear hent
  unfold f_X2_faceDanger at h
  refine lv_aload_n hx hb dX2_faceDanger_0 rfl (lv_at hl 0 rfl) ?_
  refine xget (i := 0) (j := 0) (k := 1) (T := TX2) hx hb ht tb_iX2 hown hX hP.1 rfl rfl rfl (by decide) tb_325 rfl dX2_faceDanger_1 ?_
  refine lv_iload_n hx hb dX2_faceDanger_4 rfl (lv_at hl 1 rfl) ?_
  obtain ⟨z_10, e_z_10, h⟩ := bi h
  refine roVi (rest := []) ⟨hx, hb, hml, hown, ht⟩ (c_X0_lives l D cy fu A_a a_name a_courage a_weight a_medals a_stood a_fled a_liked a_votes a_count a_living a_pride a_quota a_melted a_lost x1 z_10 e_z_10) (cV ht mv_X0_lives tb_1176 rfl rfl ⟨Nat.le_of_ble_eq_true rfl, Nat.le_of_ble_eq_true rfl⟩) (P_sub hP.1 [1] rfl) hX rfl rfl rfl hl.1 rfl (Nat.le_of_ble_eq_true rfl) dX2_faceDanger_5 ⟨Nat.le_of_ble_eq_true rfl, Nat.le_of_ble_eq_true rfl⟩ ?_
  refine lv_if_ne (tgt := 22) hx hb dX2_faceDanger_8 (by decide) (fun c_11 => ?_) (fun c_11 => ?_)
  · have h := ie c_11 h
    refine lv_aload_n hx hb dX2_faceDanger_22 rfl (lv_at hl 0 rfl) ?_
    refine xget (i := 0) (j := 0) (k := 1) (T := TX2) hx hb ht tb_iX2 hown hX hP.1 rfl rfl rfl (by decide) tb_325 rfl dX2_faceDanger_23 ?_
    refine lv_iload_n hx hb dX2_faceDanger_26 rfl (lv_at hl 1 rfl) ?_
    refine lv_iload_n hx hb dX2_faceDanger_27 rfl (lv_at hl 2 rfl) ?_
    obtain ⟨z_12, e_z_12, h⟩ := bi h
    refine efVi (rest := []) ⟨hx, hb, hml, hown, ht⟩ (c_X0_endure l D cy fu A_a a_name a_courage a_weight a_medals a_stood a_fled a_liked a_votes a_count a_living a_pride a_quota a_melted a_lost x1 x2 z_12 e_z_12 _ rfl _ rfl) (cV ht mv_X0_endure tb_1177 rfl rfl ⟨Nat.le_of_ble_eq_true rfl, Nat.le_of_ble_eq_true rfl⟩) hP hS hX [1] rfl rfl rfl rfl rfl rfl hl.1 rfl (Nat.le_of_ble_eq_true rfl) dX2_faceDanger_28 ⟨Nat.le_of_ble_eq_true rfl, Nat.le_of_ble_eq_true rfl⟩ (fun H locs hP hS => ?_)
    have hP : PD D A [bl_X2 cy A_c (A_a 0) (A_w 0) c_roundsLeft c_drawn c_fought c_steps c_missed c_stood c_fled c_pinned c_left, bl_X0 cy A_a a_name a_courage a_weight z_12.2.1 z_12.2.2.1 z_12.2.2.2.1 a_liked z_12.2.2.2.2.1 a_count a_living a_pride a_quota z_12.2.2.2.2.2.1 z_12.2.2.2.2.2.2, bl_X9 cy A_w w_deed w_man w_other w_sign w_number w_mate w_there w_rows w_steps] H := hP
    refine lv_istore_n (lv' := [(3, .int z_12.1), (0, .ref (A_c 0)), (1, .int x1), (2, .int x2)]) hx hb dX2_faceDanger_31 rfl hl (by decide) rfl (fun ls hl => ?_)
    refine lv_iload_n hx hb dX2_faceDanger_32 rfl (lv_at hl 0 rfl) ?_
    refine lv_bipush (v := 9) hx hb dX2_faceDanger_33 (by decide) ?_
    refine lv_icmp_ne (tgt := 49) hx hb dX2_faceDanger_35 (by decide) (fun c_13 => ?_) (fun c_13 => ?_)
    · have h := ie c_13 h
      refine lv_aload_n hx hb dX2_faceDanger_49 rfl (lv_at hl 1 rfl) ?_
      refine lv_dup hx hb dX2_faceDanger_50 rfl ?_
      refine xget (i := 0) (j := 0) (k := 7) (T := TX2) hx hb ht tb_iX2 hown hX hP.1 rfl rfl rfl (by decide) tb_333 rfl dX2_faceDanger_51 ?_
      refine lv_iconst (v := 1) hx hb dX2_faceDanger_54 (by decide) ?_
      refine lv_iadd hx hb dX2_faceDanger_55 ?_
      refine lv_topi (fun c_stood_14 e_c_stood_14 => ?_)
      have h := bn e_c_stood_14 h
      refine xput (i := 0) (j := 0) (k := 7) (T := TX2) tyX2 tyX2_ok nmX2 hx hb ht tb_iX2 hown hX hP hS rfl rfl rfl (by decide) tb_333 rfl rfl rfl (Nat.le_of_ble_eq_true rfl) dX2_faceDanger_56 (fun H locs hP hS => ?_)
      have hP : PD D A [bl_X2 cy A_c (A_a 0) (A_w 0) c_roundsLeft c_drawn c_fought c_steps c_missed c_stood_14 c_fled c_pinned c_left, bl_X0 cy A_a a_name a_courage a_weight z_12.2.1 z_12.2.2.1 z_12.2.2.2.1 a_liked z_12.2.2.2.2.1 a_count a_living a_pride a_quota z_12.2.2.2.2.2.1 z_12.2.2.2.2.2.2, bl_X9 cy A_w w_deed w_man w_other w_sign w_number w_mate w_there w_rows w_steps] H := hP
      refine lv_iload_n hx hb dX2_faceDanger_59 rfl (lv_at hl 0 rfl) ?_
      refine lv_bipush (v := 8) hx hb dX2_faceDanger_60 (by decide) ?_
      refine lv_icmp_eq (tgt := 75) hx hb dX2_faceDanger_62 (by decide) (fun c_15 => ?_) (fun c_15 => ?_)
      · have h := it c_15 h
        cases h
        subst hW1
        exact W.vret hx hb hr (fun _ ht9 _ => ⟨⟨(), rfl, trivial, hPt ht9 hP.1⟩, hS.F ht9⟩) hS.2.2 dX2_faceDanger_75
      · have h := ie c_15 h
        refine lv_aload_n hx hb dX2_faceDanger_65 rfl (lv_at hl 1 rfl) ?_
        refine lv_dup hx hb dX2_faceDanger_66 rfl ?_
        refine xget (i := 0) (j := 0) (k := 9) (T := TX2) hx hb ht tb_iX2 hown hX hP.1 rfl rfl rfl (by decide) tb_335 rfl dX2_faceDanger_67 ?_
        refine lv_iconst (v := 1) hx hb dX2_faceDanger_70 (by decide) ?_
        refine lv_iadd hx hb dX2_faceDanger_71 ?_
        refine lv_topi (fun c_pinned_16 e_c_pinned_16 => ?_)
        have h := bn e_c_pinned_16 h
        refine xput (i := 0) (j := 0) (k := 9) (T := TX2) tyX2 tyX2_ok nmX2 hx hb ht tb_iX2 hown hX hP hS rfl rfl rfl (by decide) tb_335 rfl rfl rfl (Nat.le_of_ble_eq_true rfl) dX2_faceDanger_72 (fun H locs hP hS => ?_)
        have hP : PD D A [bl_X2 cy A_c (A_a 0) (A_w 0) c_roundsLeft c_drawn c_fought c_steps c_missed c_stood_14 c_fled c_pinned_16 c_left, bl_X0 cy A_a a_name a_courage a_weight z_12.2.1 z_12.2.2.1 z_12.2.2.2.1 a_liked z_12.2.2.2.2.1 a_count a_living a_pride a_quota z_12.2.2.2.2.2.1 z_12.2.2.2.2.2.2, bl_X9 cy A_w w_deed w_man w_other w_sign w_number w_mate w_there w_rows w_steps] H := hP
        cases h
        subst hW1
        exact W.vret hx hb hr (fun _ ht9 _ => ⟨⟨(), rfl, trivial, hPt ht9 hP.1⟩, hS.F ht9⟩) hS.2.2 dX2_faceDanger_75
    · have h := it c_13 h
      refine lv_aload_n hx hb dX2_faceDanger_38 rfl (lv_at hl 1 rfl) ?_
      refine lv_dup hx hb dX2_faceDanger_39 rfl ?_
      refine xget (i := 0) (j := 0) (k := 8) (T := TX2) hx hb ht tb_iX2 hown hX hP.1 rfl rfl rfl (by decide) tb_334 rfl dX2_faceDanger_40 ?_
      refine lv_iconst (v := 1) hx hb dX2_faceDanger_43 (by decide) ?_
      refine lv_iadd hx hb dX2_faceDanger_44 ?_
      refine lv_topi (fun c_fled_17 e_c_fled_17 => ?_)
      have h := bn e_c_fled_17 h
      refine xput (i := 0) (j := 0) (k := 8) (T := TX2) tyX2 tyX2_ok nmX2 hx hb ht tb_iX2 hown hX hP hS rfl rfl rfl (by decide) tb_334 rfl rfl rfl (Nat.le_of_ble_eq_true rfl) dX2_faceDanger_45 (fun H locs hP hS => ?_)
      have hP : PD D A [bl_X2 cy A_c (A_a 0) (A_w 0) c_roundsLeft c_drawn c_fought c_steps c_missed c_stood c_fled_17 c_pinned c_left, bl_X0 cy A_a a_name a_courage a_weight z_12.2.1 z_12.2.2.1 z_12.2.2.2.1 a_liked z_12.2.2.2.2.1 a_count a_living a_pride a_quota z_12.2.2.2.2.2.1 z_12.2.2.2.2.2.2, bl_X9 cy A_w w_deed w_man w_other w_sign w_number w_mate w_there w_rows w_steps] H := hP
      cases h
      subst hW1
      exact W.vret hx hb hr (fun _ ht9 _ => ⟨⟨(), rfl, trivial, hPt ht9 hP.1⟩, hS.F ht9⟩) hS.2.2 dX2_faceDanger_48
  · have h := it c_11 h
    refine lv_aload_n hx hb dX2_faceDanger_11 rfl (lv_at hl 0 rfl) ?_
    refine lv_dup hx hb dX2_faceDanger_12 rfl ?_
    refine xget (i := 0) (j := 0) (k := 6) (T := TX2) hx hb ht tb_iX2 hown hX hP.1 rfl rfl rfl (by decide) tb_332 rfl dX2_faceDanger_13 ?_
    refine lv_iconst (v := 1) hx hb dX2_faceDanger_16 (by decide) ?_
    refine lv_iadd hx hb dX2_faceDanger_17 ?_
    refine lv_topi (fun c_missed_18 e_c_missed_18 => ?_)
    have h := bn e_c_missed_18 h
    refine xput (i := 0) (j := 0) (k := 6) (T := TX2) tyX2 tyX2_ok nmX2 hx hb ht tb_iX2 hown hX hP hS rfl rfl rfl (by decide) tb_332 rfl rfl rfl (Nat.le_of_ble_eq_true rfl) dX2_faceDanger_18 (fun H locs hP hS => ?_)
    have hP : PD D A [bl_X2 cy A_c (A_a 0) (A_w 0) c_roundsLeft c_drawn c_fought c_steps c_missed_18 c_stood c_fled c_pinned c_left, bl_X0 cy A_a a_name a_courage a_weight a_medals a_stood a_fled a_liked a_votes a_count a_living a_pride a_quota a_melted a_lost, bl_X9 cy A_w w_deed w_man w_other w_sign w_number w_mate w_there w_rows w_steps] H := hP
    cases h
    subst hW1
    exact W.vret hx hb hr (fun _ ht9 _ => ⟨⟨(), rfl, trivial, hPt ht9 hP.1⟩, hS.F ht9⟩) hS.2.2 dX2_faceDanger_21
theorem dX2_countMiss_0 : decode cX2_countMiss 0 = .ok (.iload_n 1, 1) := by decide +kernel
theorem dX2_countMiss_1 : decode cX2_countMiss 1 = .ok (.ifCond .ne 13, 3) := by decide +kernel
theorem dX2_countMiss_4 : decode cX2_countMiss 4 = .ok (.aload_n 0, 1) := by decide +kernel
theorem dX2_countMiss_5 : decode cX2_countMiss 5 = .ok (.dup, 1) := by decide +kernel
theorem dX2_countMiss_6 : decode cX2_countMiss 6 = .ok (.getfield 26, 3) := by decide +kernel
theorem dX2_countMiss_9 : decode cX2_countMiss 9 = .ok (.iconst 1, 1) := by decide +kernel
theorem dX2_countMiss_10 : decode cX2_countMiss 10 = .ok (.iadd, 1) := by decide +kernel
theorem dX2_countMiss_11 : decode cX2_countMiss 11 = .ok (.putfield 26, 3) := by decide +kernel
theorem dX2_countMiss_14 : decode cX2_countMiss 14 = .ok (.return_, 1) := by decide +kernel
theorem mv_X2_countMiss : MV yX2_countMiss RX2 cX2_countMiss 2 none 1 := ⟨tb_1182, tb_1181, ts_36, tb_12, by decide +kernel, by decide +kernel, by decide +kernel⟩
def f_X2_countMiss (fu : Nat) (c_missed : Int32) (x1 : Int32) : Option (Int32) := (if x1 = 0 then bnd (c_missed + 1) fun c_missed_4 => some (c_missed_4) else some (c_missed))
abbrev rm_X2_countMiss : Room := { frames := 0, cells := 0, slots := 0, locals := 0 }
set_option maxHeartbeats 4000000 in
set_option maxRecDepth 100000 in
theorem c_X2_countMiss (l : Launch) (D : va_G) (cy : Nat → ClassId) (fu : Nat) (A_c : Nat → Nat) (c_roundsLeft : Nat → Int32) (c_drawn : Int32) (c_fought : Int32) (c_steps : Int32) (c_missed : Int32) (c_stood : Int32) (c_fled : Int32) (c_pinned : Int32) (c_left : Int32) (A_a : Nat → Nat) (a_name : Nat → Int64) (a_courage : Nat → Int32) (a_weight : Nat → Int32) (a_medals : Nat → Int32) (a_stood : Nat → Int32) (a_fled : Nat → Int32) (a_liked : Nat → Int32) (a_votes : Nat → Int32) (a_count : Int32) (a_living : Int32) (a_pride : Int32) (a_quota : Int32) (a_melted : Int32) (a_lost : Int32) (A_w : Nat → Nat) (w_deed : Nat → Int32) (w_man : Nat → Int32) (w_other : Nat → Int32) (w_sign : Nat → Int32) (w_number : Nat → Int32) (w_mate : Nat → Int32) (w_there : Int32) (w_rows : Int32) (w_steps : Int32) (x1 : Int32) (res : Int32) (h : f_X2_countMiss fu c_missed x1 = some res) (A : Nat → Prop) (hA : A = adr [bl_X2 cy A_c (A_a 0) (A_w 0) c_roundsLeft c_drawn c_fought c_steps c_missed c_stood c_fled c_pinned c_left, bl_X0 cy A_a a_name a_courage a_weight a_medals a_stood a_fled a_liked a_votes a_count a_living a_pride a_quota a_melted a_lost, bl_X9 cy A_w w_deed w_man w_other w_sign w_number w_mate w_there w_rows w_steps]) (W1 : List va_W) (hW1 : W1 = [bl_X2 cy A_c (A_a 0) (A_w 0) c_roundsLeft c_drawn c_fought c_steps res c_stood c_fled c_pinned c_left, bl_X0 cy A_a a_name a_courage a_weight a_medals a_stood a_fled a_liked a_votes a_count a_living a_pride a_quota a_melted a_lost, bl_X9 cy A_w w_deed w_man w_other w_sign w_number w_mate w_there w_rows w_steps]) : Met l yX2_countMiss (WW yX2_countMiss cX2_countMiss 2 none) rm_X2_countMiss (Ed D cy [.ref (A_c 0), .int x1] [bl_X2 cy A_c (A_a 0) (A_w 0) c_roundsLeft c_drawn c_fought c_steps c_missed c_stood c_fled c_pinned c_left, bl_X0 cy A_a a_name a_courage a_weight a_medals a_stood a_fled a_liked a_votes a_count a_living a_pride a_quota a_melted a_lost, bl_X9 cy A_w w_deed w_man w_other w_sign w_number w_mate w_there w_rows w_steps]) (Qev D A W1) 0 0 A := by
  refine Met.ofW (cc := cX2_countMiss) (maxL := 2) (ret := none) (by decide) rfl ?_
  intro p e s m args below meth c s₁ B hml hv
  obtain ⟨hargs, hP, hX, hD0⟩ := hv
  have hx := B.exec
  have hb := B.bytes
  have hr := B.returns
  have ht : ∀ w ∈ lw_gd, w.before args s = true := fun w hw => atoms_spec (ws := WW yX2_countMiss cX2_countMiss 2 none) B.pre w (List.mem_cons_of_mem _ hw)
  have hown : s.vm.findClass RX2 = some m.cls := findClass_of_methodNamed B.named
  have hlocks := B.notSynchronized
  have hP : PD D A [bl_X2 cy A_c (A_a 0) (A_w 0) c_roundsLeft c_drawn c_fought c_steps c_missed c_stood c_fled c_pinned c_left, bl_X0 cy A_a a_name a_courage a_weight a_medals a_stood a_fled a_liked a_votes a_count a_living a_pride a_quota a_melted a_lost, bl_X9 cy A_w w_deed w_man w_other w_sign w_number w_mate w_there w_rows w_steps] s.heap := ⟨hP, by rw [hA]; exact hD0.own⟩
  have hS : va_S A s.heap s.heap [] := va_S.rf
  obtain ⟨ls, hl, hent⟩ := ent (m := m) (n := 2) hargs (Nat.le_of_ble_eq_true rfl) (lv := [(0, .ref (A_c 0)), (1, .int x1)]) rfl
  rw [hent]
  clear hent
  unfold f_X2_countMiss at h
  refine lv_iload_n hx hb dX2_countMiss_0 rfl (lv_at hl 1 rfl) ?_
  refine lv_if_ne (tgt := 14) hx hb dX2_countMiss_1 (by decide) (fun c_3 => ?_) (fun c_3 => ?_)
  · have h := ie c_3 h
    cases h
    subst hW1
    exact W.vret hx hb hr (fun _ ht9 _ => ⟨⟨(), rfl, trivial, hPt ht9 hP.1⟩, hS.F ht9⟩) hS.2.2 dX2_countMiss_14
  · have h := it c_3 h
    refine lv_aload_n hx hb dX2_countMiss_4 rfl (lv_at hl 0 rfl) ?_
    refine lv_dup hx hb dX2_countMiss_5 rfl ?_
    refine xget (i := 0) (j := 0) (k := 6) (T := TX2) hx hb ht tb_iX2 hown hX hP.1 rfl rfl rfl (by decide) tb_332 rfl dX2_countMiss_6 ?_
    refine lv_iconst (v := 1) hx hb dX2_countMiss_9 (by decide) ?_
    refine lv_iadd hx hb dX2_countMiss_10 ?_
    refine lv_topi (fun c_missed_4 e_c_missed_4 => ?_)
    have h := bn e_c_missed_4 h
    refine xput (i := 0) (j := 0) (k := 6) (T := TX2) tyX2 tyX2_ok nmX2 hx hb ht tb_iX2 hown hX hP hS rfl rfl rfl (by decide) tb_332 rfl rfl rfl (Nat.le_of_ble_eq_true rfl) dX2_countMiss_11 (fun H locs hP hS => ?_)
    have hP : PD D A [bl_X2 cy A_c (A_a 0) (A_w 0) c_roundsLeft c_drawn c_fought c_steps c_missed_4 c_stood c_fled c_pinned c_left, bl_X0 cy A_a a_name a_courage a_weight a_medals a_stood a_fled a_liked a_votes a_count a_living a_pride a_quota a_melted a_lost, bl_X9 cy A_w w_deed w_man w_other w_sign w_number w_mate w_there w_rows w_steps] H := hP
    cases h
    subst hW1
    exact W.vret hx hb hr (fun _ ht9 _ => ⟨⟨(), rfl, trivial, hPt ht9 hP.1⟩, hS.F ht9⟩) hS.2.2 dX2_countMiss_14
theorem dX2_drawBy_0 : decode cX2_drawBy 0 = .ok (.aload_n 0, 1) := by decide +kernel
theorem dX2_drawBy_1 : decode cX2_drawBy 1 = .ok (.aload_n 0, 1) := by decide +kernel
theorem dX2_drawBy_2 : decode cX2_drawBy 2 = .ok (.getfield 15, 3) := by decide +kernel
theorem dX2_drawBy_5 : decode cX2_drawBy 5 = .ok (.sipush 3109, 3) := by decide +kernel
theorem dX2_drawBy_8 : decode cX2_drawBy 8 = .ok (.imul, 1) := by decide +kernel
theorem dX2_drawBy_9 : decode cX2_drawBy 9 = .ok (.sipush 11321, 3) := by decide +kernel
theorem dX2_drawBy_12 : decode cX2_drawBy 12 = .ok (.iadd, 1) := by decide +kernel
theorem dX2_drawBy_13 : decode cX2_drawBy 13 = .ok (.ldc 122, 2) := by decide +kernel
theorem dX2_drawBy_15 : decode cX2_drawBy 15 = .ok (.irem, 1) := by decide +kernel
theorem dX2_drawBy_16 : decode cX2_drawBy 16 = .ok (.putfield 15, 3) := by decide +kernel
theorem dX2_drawBy_19 : decode cX2_drawBy 19 = .ok (.iload_n 1, 1) := by decide +kernel
theorem dX2_drawBy_20 : decode cX2_drawBy 20 = .ok (.ifCond .le 15, 3) := by decide +kernel
theorem dX2_drawBy_23 : decode cX2_drawBy 23 = .ok (.aload_n 0, 1) := by decide +kernel
theorem dX2_drawBy_24 : decode cX2_drawBy 24 = .ok (.getfield 15, 3) := by decide +kernel
theorem dX2_drawBy_27 : decode cX2_drawBy 27 = .ok (.bipush 8, 2) := by decide +kernel
theorem dX2_drawBy_29 : decode cX2_drawBy 29 = .ok (.idiv, 1) := by decide +kernel
theorem dX2_drawBy_30 : decode cX2_drawBy 30 = .ok (.iload_n 1, 1) := by decide +kernel
theorem dX2_drawBy_31 : decode cX2_drawBy 31 = .ok (.irem, 1) := by decide +kernel
theorem dX2_drawBy_32 : decode cX2_drawBy 32 = .ok (.goto 4, 3) := by decide +kernel
theorem dX2_drawBy_35 : decode cX2_drawBy 35 = .ok (.iconst 0, 1) := by decide +kernel
theorem dX2_drawBy_36 : decode cX2_drawBy 36 = .ok (.ireturn, 1) := by decide +kernel
theorem mv_X2_drawBy : MV yX2_drawBy RX2 cX2_drawBy 2 (some .int) 1 := ⟨tb_1188, tb_1187, ts_37, tb_12, by decide +kernel, by decide +kernel, by decide +kernel⟩
def f_X2_drawBy (fu : Nat) (c_drawn : Int32) (x1 : Int32) : Option (Int32 × Int32) := bnd (((c_drawn * 3109) + 11321) - ((c_drawn * 3109) + 11321) / 65536 * 65536) fun c_drawn_4 => (if x1 ≤ 0 then some (0, c_drawn_4) else (nzI x1).bind fun y_6 => some ((c_drawn_4 / 8) - (c_drawn_4 / 8) / x1 * x1, c_drawn_4))
abbrev rm_X2_drawBy : Room := { frames := 0, cells := 0, slots := 0, locals := 0 }
set_option maxHeartbeats 4000000 in
set_option maxRecDepth 100000 in
theorem c_X2_drawBy (l : Launch) (D : va_G) (cy : Nat → ClassId) (fu : Nat) (A_c : Nat → Nat) (c_roundsLeft : Nat → Int32) (c_drawn : Int32) (c_fought : Int32) (c_steps : Int32) (c_missed : Int32) (c_stood : Int32) (c_fled : Int32) (c_pinned : Int32) (c_left : Int32) (A_a : Nat → Nat) (a_name : Nat → Int64) (a_courage : Nat → Int32) (a_weight : Nat → Int32) (a_medals : Nat → Int32) (a_stood : Nat → Int32) (a_fled : Nat → Int32) (a_liked : Nat → Int32) (a_votes : Nat → Int32) (a_count : Int32) (a_living : Int32) (a_pride : Int32) (a_quota : Int32) (a_melted : Int32) (a_lost : Int32) (A_w : Nat → Nat) (w_deed : Nat → Int32) (w_man : Nat → Int32) (w_other : Nat → Int32) (w_sign : Nat → Int32) (w_number : Nat → Int32) (w_mate : Nat → Int32) (w_there : Int32) (w_rows : Int32) (w_steps : Int32) (x1 : Int32) (res : Int32 × Int32) (h : f_X2_drawBy fu c_drawn x1 = some res) (A : Nat → Prop) (hA : A = adr [bl_X2 cy A_c (A_a 0) (A_w 0) c_roundsLeft c_drawn c_fought c_steps c_missed c_stood c_fled c_pinned c_left, bl_X0 cy A_a a_name a_courage a_weight a_medals a_stood a_fled a_liked a_votes a_count a_living a_pride a_quota a_melted a_lost, bl_X9 cy A_w w_deed w_man w_other w_sign w_number w_mate w_there w_rows w_steps]) (W1 : List va_W) (hW1 : W1 = [bl_X2 cy A_c (A_a 0) (A_w 0) c_roundsLeft res.2 c_fought c_steps c_missed c_stood c_fled c_pinned c_left, bl_X0 cy A_a a_name a_courage a_weight a_medals a_stood a_fled a_liked a_votes a_count a_living a_pride a_quota a_melted a_lost, bl_X9 cy A_w w_deed w_man w_other w_sign w_number w_mate w_there w_rows w_steps]) : Met l yX2_drawBy (WW yX2_drawBy cX2_drawBy 2 (some .int)) rm_X2_drawBy (Ed D cy [.ref (A_c 0), .int x1] [bl_X2 cy A_c (A_a 0) (A_w 0) c_roundsLeft c_drawn c_fought c_steps c_missed c_stood c_fled c_pinned c_left, bl_X0 cy A_a a_name a_courage a_weight a_medals a_stood a_fled a_liked a_votes a_count a_living a_pride a_quota a_melted a_lost, bl_X9 cy A_w w_deed w_man w_other w_sign w_number w_mate w_there w_rows w_steps]) (Qei D res.1 A W1) 0 0 A := by
  refine Met.ofW (cc := cX2_drawBy) (maxL := 2) (ret := (some .int)) (by decide) rfl ?_
  intro p e s m args below meth c s₁ B hml hv
  obtain ⟨hargs, hP, hX, hD0⟩ := hv
  have hx := B.exec
  have hb := B.bytes
  have hr := B.returns
  have ht : ∀ w ∈ lw_gd, w.before args s = true := fun w hw => atoms_spec (ws := WW yX2_drawBy cX2_drawBy 2 (some .int)) B.pre w (List.mem_cons_of_mem _ hw)
  have hown : s.vm.findClass RX2 = some m.cls := findClass_of_methodNamed B.named
  have hlocks := B.notSynchronized
  have hP : PD D A [bl_X2 cy A_c (A_a 0) (A_w 0) c_roundsLeft c_drawn c_fought c_steps c_missed c_stood c_fled c_pinned c_left, bl_X0 cy A_a a_name a_courage a_weight a_medals a_stood a_fled a_liked a_votes a_count a_living a_pride a_quota a_melted a_lost, bl_X9 cy A_w w_deed w_man w_other w_sign w_number w_mate w_there w_rows w_steps] s.heap := ⟨hP, by rw [hA]; exact hD0.own⟩
  have hS : va_S A s.heap s.heap [] := va_S.rf
  obtain ⟨ls, hl, hent⟩ := ent (m := m) (n := 2) hargs (Nat.le_of_ble_eq_true rfl) (lv := [(0, .ref (A_c 0)), (1, .int x1)]) rfl
  rw [hent]
  clear hent
  unfold f_X2_drawBy at h
  refine lv_aload_n hx hb dX2_drawBy_0 rfl (lv_at hl 0 rfl) ?_
  refine lv_aload_n hx hb dX2_drawBy_1 rfl (lv_at hl 0 rfl) ?_
  refine xget (i := 0) (j := 0) (k := 3) (T := TX2) hx hb ht tb_iX2 hown hX hP.1 rfl rfl rfl (by decide) tb_327 rfl dX2_drawBy_2 ?_
  refine lv_sipush (v := 3109) hx hb dX2_drawBy_5 (by decide) ?_
  refine lv_imul hx hb dX2_drawBy_8 ?_
  refine lv_sipush (v := 11321) hx hb dX2_drawBy_9 (by decide) ?_
  refine lv_iadd hx hb dX2_drawBy_12 ?_
  refine lv_ldc (v := 65536) hx hb hown (ht _ tb_1189) dX2_drawBy_13 ?_
  refine lv_irem hx hb dX2_drawBy_15 (by decide) ?_
  refine lv_topi (fun c_drawn_4 e_c_drawn_4 => ?_)
  have h := bn e_c_drawn_4 h
  refine xput (i := 0) (j := 0) (k := 3) (T := TX2) tyX2 tyX2_ok nmX2 hx hb ht tb_iX2 hown hX hP hS rfl rfl rfl (by decide) tb_327 rfl rfl rfl (Nat.le_of_ble_eq_true rfl) dX2_drawBy_16 (fun H locs hP hS => ?_)
  have hP : PD D A [bl_X2 cy A_c (A_a 0) (A_w 0) c_roundsLeft c_drawn_4 c_fought c_steps c_missed c_stood c_fled c_pinned c_left, bl_X0 cy A_a a_name a_courage a_weight a_medals a_stood a_fled a_liked a_votes a_count a_living a_pride a_quota a_melted a_lost, bl_X9 cy A_w w_deed w_man w_other w_sign w_number w_mate w_there w_rows w_steps] H := hP
  refine lv_iload_n hx hb dX2_drawBy_19 rfl (lv_at hl 1 rfl) ?_
  refine lv_if_le (tgt := 35) hx hb dX2_drawBy_20 (by decide) (fun c_5 => ?_) (fun c_5 => ?_)
  · have h := it c_5 h
    refine lv_iconst (v := 0) hx hb dX2_drawBy_35 (by decide) ?_
    cases h
    subst hW1
    exact W.iret hx hb hr (fun _ ht9 _ => ⟨⟨_, (), rfl, rfl, hPt ht9 hP.1⟩, hS.F ht9⟩) hS.2.2 dX2_drawBy_36
  · have h := ie c_5 h
    refine lv_aload_n hx hb dX2_drawBy_23 rfl (lv_at hl 0 rfl) ?_
    refine xget (i := 0) (j := 0) (k := 3) (T := TX2) hx hb ht tb_iX2 hown hX hP.1 rfl rfl rfl (by decide) tb_327 rfl dX2_drawBy_24 ?_
    refine lv_bipush (v := 8) hx hb dX2_drawBy_27 (by decide) ?_
    refine lv_idiv hx hb dX2_drawBy_29 (by decide) ?_
    refine lv_iload_n hx hb dX2_drawBy_30 rfl (lv_at hl 1 rfl) ?_
    obtain ⟨y_6, e_y_6, h⟩ := bi h
    refine lv_irem hx hb dX2_drawBy_31 (nzI_ok e_y_6).1 ?_
    refine lv_goto (tgt := 36) hx hb dX2_drawBy_32 (by decide) ?_
    cases h
    subst hW1
    exact W.iret hx hb hr (fun _ ht9 _ => ⟨⟨_, (), rfl, rfl, hPt ht9 hP.1⟩, hS.F ht9⟩) hS.2.2 dX2_drawBy_36
theorem dX2_testHolds_0 : decode cX2_testHolds 0 = .ok (.aload_n 0, 1) := by decide +kernel
theorem dX2_testHolds_1 : decode cX2_testHolds 1 = .ok (.getfield 45, 3) := by decide +kernel
theorem dX2_testHolds_4 : decode cX2_testHolds 4 = .ok (.getfield 76, 3) := by decide +kernel
theorem dX2_testHolds_7 : decode cX2_testHolds 7 = .ok (.iload_n 1, 1) := by decide +kernel
theorem dX2_testHolds_8 : decode cX2_testHolds 8 = .ok (.iaload, 1) := by decide +kernel
theorem dX2_testHolds_9 : decode cX2_testHolds 9 = .ok (.istore_n 2, 1) := by decide +kernel
theorem dX2_testHolds_10 : decode cX2_testHolds 10 = .ok (.aload_n 0, 1) := by decide +kernel
theorem dX2_testHolds_11 : decode cX2_testHolds 11 = .ok (.getfield 41, 3) := by decide +kernel
theorem dX2_testHolds_14 : decode cX2_testHolds 14 = .ok (.iload_n 2, 1) := by decide +kernel
theorem dX2_testHolds_15 : decode cX2_testHolds 15 = .ok (.invokevirtual 123, 3) := by decide +kernel
theorem dX2_testHolds_18 : decode cX2_testHolds 18 = .ok (.ifCond .ne 5, 3) := by decide +kernel
theorem dX2_testHolds_21 : decode cX2_testHolds 21 = .ok (.iconst 0, 1) := by decide +kernel
theorem dX2_testHolds_22 : decode cX2_testHolds 22 = .ok (.ireturn, 1) := by decide +kernel
theorem dX2_testHolds_23 : decode cX2_testHolds 23 = .ok (.aload_n 0, 1) := by decide +kernel
theorem dX2_testHolds_24 : decode cX2_testHolds 24 = .ok (.getfield 41, 3) := by decide +kernel
theorem dX2_testHolds_27 : decode cX2_testHolds 27 = .ok (.getfield 126, 3) := by decide +kernel
theorem dX2_testHolds_30 : decode cX2_testHolds 30 = .ok (.iload_n 2, 1) := by decide +kernel
theorem dX2_testHolds_31 : decode cX2_testHolds 31 = .ok (.iaload, 1) := by decide +kernel
theorem dX2_testHolds_32 : decode cX2_testHolds 32 = .ok (.istore_n 3, 1) := by decide +kernel
theorem dX2_testHolds_33 : decode cX2_testHolds 33 = .ok (.aload_n 0, 1) := by decide +kernel
theorem dX2_testHolds_34 : decode cX2_testHolds 34 = .ok (.getfield 45, 3) := by decide +kernel
theorem dX2_testHolds_37 : decode cX2_testHolds 37 = .ok (.getfield 86, 3) := by decide +kernel
theorem dX2_testHolds_40 : decode cX2_testHolds 40 = .ok (.iload_n 1, 1) := by decide +kernel
theorem dX2_testHolds_41 : decode cX2_testHolds 41 = .ok (.iaload, 1) := by decide +kernel
theorem dX2_testHolds_42 : decode cX2_testHolds 42 = .ok (.bipush 13, 2) := by decide +kernel
theorem dX2_testHolds_44 : decode cX2_testHolds 44 = .ok (.if_icmp .ne 15, 3) := by decide +kernel
theorem dX2_testHolds_47 : decode cX2_testHolds 47 = .ok (.aload_n 0, 1) := by decide +kernel
theorem dX2_testHolds_48 : decode cX2_testHolds 48 = .ok (.getfield 41, 3) := by decide +kernel
theorem dX2_testHolds_51 : decode cX2_testHolds 51 = .ok (.iload_n 2, 1) := by decide +kernel
theorem dX2_testHolds_52 : decode cX2_testHolds 52 = .ok (.invokevirtual 129, 3) := by decide +kernel
theorem dX2_testHolds_55 : decode cX2_testHolds 55 = .ok (.istore_n 3, 1) := by decide +kernel
theorem dX2_testHolds_56 : decode cX2_testHolds 56 = .ok (.goto 27, 3) := by decide +kernel
theorem dX2_testHolds_59 : decode cX2_testHolds 59 = .ok (.aload_n 0, 1) := by decide +kernel
theorem dX2_testHolds_60 : decode cX2_testHolds 60 = .ok (.getfield 45, 3) := by decide +kernel
theorem dX2_testHolds_63 : decode cX2_testHolds 63 = .ok (.getfield 86, 3) := by decide +kernel
theorem dX2_testHolds_66 : decode cX2_testHolds 66 = .ok (.iload_n 1, 1) := by decide +kernel
theorem dX2_testHolds_67 : decode cX2_testHolds 67 = .ok (.iaload, 1) := by decide +kernel
theorem dX2_testHolds_68 : decode cX2_testHolds 68 = .ok (.bipush 15, 2) := by decide +kernel
theorem dX2_testHolds_70 : decode cX2_testHolds 70 = .ok (.if_icmp .ne 13, 3) := by decide +kernel
theorem dX2_testHolds_73 : decode cX2_testHolds 73 = .ok (.aload_n 0, 1) := by decide +kernel
theorem dX2_testHolds_74 : decode cX2_testHolds 74 = .ok (.getfield 41, 3) := by decide +kernel
theorem dX2_testHolds_77 : decode cX2_testHolds 77 = .ok (.getfield 132, 3) := by decide +kernel
theorem dX2_testHolds_80 : decode cX2_testHolds 80 = .ok (.iload_n 2, 1) := by decide +kernel
theorem dX2_testHolds_81 : decode cX2_testHolds 81 = .ok (.iaload, 1) := by decide +kernel
theorem dX2_testHolds_82 : decode cX2_testHolds 82 = .ok (.istore_n 3, 1) := by decide +kernel
theorem dX2_testHolds_83 : decode cX2_testHolds 83 = .ok (.aload_n 0, 1) := by decide +kernel
theorem dX2_testHolds_84 : decode cX2_testHolds 84 = .ok (.getfield 45, 3) := by decide +kernel
theorem dX2_testHolds_87 : decode cX2_testHolds 87 = .ok (.getfield 134, 3) := by decide +kernel
theorem dX2_testHolds_90 : decode cX2_testHolds 90 = .ok (.iload_n 1, 1) := by decide +kernel
theorem dX2_testHolds_91 : decode cX2_testHolds 91 = .ok (.iaload, 1) := by decide +kernel
theorem dX2_testHolds_92 : decode cX2_testHolds 92 = .ok (.lookupswitch 66 #[(60, 28), (62, 47)], 28) := by decide +kernel
theorem dX2_testHolds_120 : decode cX2_testHolds 120 = .ok (.iload_n 3, 1) := by decide +kernel
theorem dX2_testHolds_121 : decode cX2_testHolds 121 = .ok (.aload_n 0, 1) := by decide +kernel
theorem dX2_testHolds_122 : decode cX2_testHolds 122 = .ok (.getfield 45, 3) := by decide +kernel
theorem dX2_testHolds_125 : decode cX2_testHolds 125 = .ok (.getfield 79, 3) := by decide +kernel
theorem dX2_testHolds_128 : decode cX2_testHolds 128 = .ok (.iload_n 1, 1) := by decide +kernel
theorem dX2_testHolds_129 : decode cX2_testHolds 129 = .ok (.iaload, 1) := by decide +kernel
theorem dX2_testHolds_130 : decode cX2_testHolds 130 = .ok (.if_icmp .ge 7, 3) := by decide +kernel
theorem dX2_testHolds_133 : decode cX2_testHolds 133 = .ok (.iconst 1, 1) := by decide +kernel
theorem dX2_testHolds_134 : decode cX2_testHolds 134 = .ok (.goto 4, 3) := by decide +kernel
theorem dX2_testHolds_137 : decode cX2_testHolds 137 = .ok (.iconst 0, 1) := by decide +kernel
theorem dX2_testHolds_138 : decode cX2_testHolds 138 = .ok (.ireturn, 1) := by decide +kernel
theorem dX2_testHolds_139 : decode cX2_testHolds 139 = .ok (.iload_n 3, 1) := by decide +kernel
theorem dX2_testHolds_140 : decode cX2_testHolds 140 = .ok (.aload_n 0, 1) := by decide +kernel
theorem dX2_testHolds_141 : decode cX2_testHolds 141 = .ok (.getfield 45, 3) := by decide +kernel
theorem dX2_testHolds_144 : decode cX2_testHolds 144 = .ok (.getfield 79, 3) := by decide +kernel
theorem dX2_testHolds_147 : decode cX2_testHolds 147 = .ok (.iload_n 1, 1) := by decide +kernel
theorem dX2_testHolds_148 : decode cX2_testHolds 148 = .ok (.iaload, 1) := by decide +kernel
theorem dX2_testHolds_149 : decode cX2_testHolds 149 = .ok (.if_icmp .le 7, 3) := by decide +kernel
theorem dX2_testHolds_152 : decode cX2_testHolds 152 = .ok (.iconst 1, 1) := by decide +kernel
theorem dX2_testHolds_153 : decode cX2_testHolds 153 = .ok (.goto 4, 3) := by decide +kernel
theorem dX2_testHolds_156 : decode cX2_testHolds 156 = .ok (.iconst 0, 1) := by decide +kernel
theorem dX2_testHolds_157 : decode cX2_testHolds 157 = .ok (.ireturn, 1) := by decide +kernel
theorem dX2_testHolds_158 : decode cX2_testHolds 158 = .ok (.iload_n 3, 1) := by decide +kernel
theorem dX2_testHolds_159 : decode cX2_testHolds 159 = .ok (.aload_n 0, 1) := by decide +kernel
theorem dX2_testHolds_160 : decode cX2_testHolds 160 = .ok (.getfield 45, 3) := by decide +kernel
theorem dX2_testHolds_163 : decode cX2_testHolds 163 = .ok (.getfield 79, 3) := by decide +kernel
theorem dX2_testHolds_166 : decode cX2_testHolds 166 = .ok (.iload_n 1, 1) := by decide +kernel
theorem dX2_testHolds_167 : decode cX2_testHolds 167 = .ok (.iaload, 1) := by decide +kernel
theorem dX2_testHolds_168 : decode cX2_testHolds 168 = .ok (.if_icmp .ne 7, 3) := by decide +kernel
theorem dX2_testHolds_171 : decode cX2_testHolds 171 = .ok (.iconst 1, 1) := by decide +kernel
theorem dX2_testHolds_172 : decode cX2_testHolds 172 = .ok (.goto 4, 3) := by decide +kernel
theorem dX2_testHolds_175 : decode cX2_testHolds 175 = .ok (.iconst 0, 1) := by decide +kernel
theorem dX2_testHolds_176 : decode cX2_testHolds 176 = .ok (.ireturn, 1) := by decide +kernel
theorem mv_X2_testHolds : MV yX2_testHolds RX2 cX2_testHolds 4 (some .boolean) 1 := ⟨tb_1193, tb_1192, ts_38, tb_12, by decide +kernel, by decide +kernel, by decide +kernel⟩
def f_X2_testHolds_j83 (fu : Nat) (a_courage : Nat → Int32) (a_medals : Nat → Int32) (a_fled : Nat → Int32) (a_count : Int32) (a_pride : Int32) (w_man : Nat → Int32) (w_other : Nat → Int32) (w_sign : Nat → Int32) (w_number : Nat → Int32) (x1 : Int32) (x3 : Int32) : Option (Int32) := (rdI w_sign 60 x1).bind fun y_20 => (if y_20 = 60 then (rdI w_number 60 x1).bind fun y_22 => (if y_22 ≤ x3 then some (0) else some (1)) else (if y_20 = 62 then (rdI w_number 60 x1).bind fun y_25 => (if x3 ≤ y_25 then some (0) else some (1)) else (rdI w_number 60 x1).bind fun y_27 => (if x3 = y_27 then some (1) else some (0))))
def f_X2_testHolds (fu : Nat) (a_courage : Nat → Int32) (a_medals : Nat → Int32) (a_fled : Nat → Int32) (a_count : Int32) (a_pride : Int32) (w_man : Nat → Int32) (w_other : Nat → Int32) (w_sign : Nat → Int32) (w_number : Nat → Int32) (x1 : Int32) : Option (Int32) := (rdI w_man 60 x1).bind fun y_29 => (f_X0_isMan fu a_count y_29).bind fun z_30 => (if z_30 = 0 then some (0) else (rdI a_medals 8 y_29).bind fun y_32 => (rdI w_other 60 x1).bind fun y_33 => (if y_33 = 13 then (f_X0_bravery fu a_courage a_medals a_count a_pride y_29).bind fun z_38 => f_X2_testHolds_j83 fu a_courage a_medals a_fled a_count a_pride w_man w_other w_sign w_number x1 z_38 else (rdI w_other 60 x1).bind fun y_35 => (if y_35 = 15 then (rdI a_fled 8 y_29).bind fun y_37 => f_X2_testHolds_j83 fu a_courage a_medals a_fled a_count a_pride w_man w_other w_sign w_number x1 y_37 else f_X2_testHolds_j83 fu a_courage a_medals a_fled a_count a_pride w_man w_other w_sign w_number x1 y_32)))
abbrev rm_X2_testHolds : Room := { frames := 2, cells := 0, slots := 0, locals := 44 }
set_option maxHeartbeats 4000000 in
set_option maxRecDepth 100000 in
theorem c_X2_testHolds (l : Launch) (D : va_G) (cy : Nat → ClassId) (fu : Nat) (A_c : Nat → Nat) (c_roundsLeft : Nat → Int32) (c_drawn : Int32) (c_fought : Int32) (c_steps : Int32) (c_missed : Int32) (c_stood : Int32) (c_fled : Int32) (c_pinned : Int32) (c_left : Int32) (A_a : Nat → Nat) (a_name : Nat → Int64) (a_courage : Nat → Int32) (a_weight : Nat → Int32) (a_medals : Nat → Int32) (a_stood : Nat → Int32) (a_fled : Nat → Int32) (a_liked : Nat → Int32) (a_votes : Nat → Int32) (a_count : Int32) (a_living : Int32) (a_pride : Int32) (a_quota : Int32) (a_melted : Int32) (a_lost : Int32) (A_w : Nat → Nat) (w_deed : Nat → Int32) (w_man : Nat → Int32) (w_other : Nat → Int32) (w_sign : Nat → Int32) (w_number : Nat → Int32) (w_mate : Nat → Int32) (w_there : Int32) (w_rows : Int32) (w_steps : Int32) (x1 : Int32) (res : Int32) (h : f_X2_testHolds fu a_courage a_medals a_fled a_count a_pride w_man w_other w_sign w_number x1 = some res) : Met l yX2_testHolds (WW yX2_testHolds cX2_testHolds 4 (some .boolean)) rm_X2_testHolds (Rd D cy [.ref (A_c 0), .int x1] [bl_X2 cy A_c (A_a 0) (A_w 0) c_roundsLeft c_drawn c_fought c_steps c_missed c_stood c_fled c_pinned c_left, bl_X0 cy A_a a_name a_courage a_weight a_medals a_stood a_fled a_liked a_votes a_count a_living a_pride a_quota a_melted a_lost, bl_X9 cy A_w w_deed w_man w_other w_sign w_number w_mate w_there w_rows w_steps]) (vp_Si (fun v => v = res)) 0 0 (fun _ => False) := by
  refine Met.ofW (cc := cX2_testHolds) (maxL := 4) (ret := (some .boolean)) (by decide) rfl ?_
  intro p e s m args below meth c s₁ B hml hv
  obtain ⟨hargs, hP, hX⟩ := hv
  have hx := B.exec
  have hb := B.bytes
  have hr := B.returns
  have ht : ∀ w ∈ lw_gd, w.before args s = true := fun w hw => atoms_spec (ws := WW yX2_testHolds cX2_testHolds 4 (some .boolean)) B.pre w (List.mem_cons_of_mem _ hw)
  have hown : s.vm.findClass RX2 = some m.cls := findClass_of_methodNamed B.named
  have hlocks := B.notSynchronized
  have hP : PB D [bl_X2 cy A_c (A_a 0) (A_w 0) c_roundsLeft c_drawn c_fought c_steps c_missed c_stood c_fled c_pinned c_left, bl_X0 cy A_a a_name a_courage a_weight a_medals a_stood a_fled a_liked a_votes a_count a_living a_pride a_quota a_melted a_lost, bl_X9 cy A_w w_deed w_man w_other w_sign w_number w_mate w_there w_rows w_steps] s.heap := hP
  obtain ⟨ls, hl, hent⟩ := ent (m := m) (n := 4) hargs (Nat.le_of_ble_eq_true rfl) (lv := [(0, .ref (A_c 0)), (1, .int x1)]) rfl
  rw [hent]
  clear hent
  have j83 : ∀ (x3 : Int32) (ls : Array Slot), lv_has ls 4 [(0, .ref (A_c 0)), (1, .int x1), (3, .int x3)] → f_X2_testHolds_j83 fu a_courage a_medals a_fled a_count a_pride w_man w_other w_sign w_number x1 x3 = some res → W p l e (headSpec (WW yX2_testHolds cX2_testHolds 4 (some .boolean)) rm_X2_testHolds).room s m args below meth c s.heap [] 0 0 (MQ below (vp_Si (fun v => v = res)) args s 0 0 (fun _ => False)) (F0 m 83 ls []) := by
    intro x3 ls hl h
    unfold f_X2_testHolds_j83 at h
    refine lv_aload_n hx hb dX2_testHolds_83 rfl (lv_at hl 0 rfl) ?_
    refine xget (i := 0) (j := 0) (k := 2) (T := TX2) hx hb ht tb_iX2 hown hX hP rfl rfl rfl (by decide) tb_326 rfl dX2_testHolds_84 ?_
    refine xget (i := 2) (j := 0) (k := 3) (T := TX9) hx hb ht tb_iX9 hown hX hP rfl rfl rfl (by decide) tb_122 rfl dX2_testHolds_87 ?_
    refine lv_iload_n hx hb dX2_testHolds_90 rfl (lv_at hl 1 rfl) ?_
    obtain ⟨y_20, e_y_20, h⟩ := bi h
    refine xiald (i0 := 2) (j0 := 4) hx hb hX hP rfl rfl e_y_20 dX2_testHolds_91 ?_
    by_cases c_21 : y_20 = 60
    · have h := it c_21 h
      refine lv_lookup (tgt := 120) (off := 28) hx hb dX2_testHolds_92 rfl (by rw [c_21]; try rfl) (by decide) ?_
      refine lv_iload_n hx hb dX2_testHolds_120 rfl (lv_at hl 2 rfl) ?_
      refine lv_aload_n hx hb dX2_testHolds_121 rfl (lv_at hl 0 rfl) ?_
      refine xget (i := 0) (j := 0) (k := 2) (T := TX2) hx hb ht tb_iX2 hown hX hP rfl rfl rfl (by decide) tb_326 rfl dX2_testHolds_122 ?_
      refine xget (i := 2) (j := 0) (k := 4) (T := TX9) hx hb ht tb_iX9 hown hX hP rfl rfl rfl (by decide) tb_124 rfl dX2_testHolds_125 ?_
      refine lv_iload_n hx hb dX2_testHolds_128 rfl (lv_at hl 1 rfl) ?_
      obtain ⟨y_22, e_y_22, h⟩ := bi h
      refine xiald (i0 := 2) (j0 := 5) hx hb hX hP rfl rfl e_y_22 dX2_testHolds_129 ?_
      refine lv_icmp_ge (tgt := 137) hx hb dX2_testHolds_130 (by decide) (fun c_23 => ?_) (fun c_23 => ?_)
      · have h := it c_23 h
        refine lv_iconst (v := 0) hx hb dX2_testHolds_137 (by decide) ?_
        cases h
        exact W.zret hx hb hr rfl (fun _ ht9 _ => ⟨_, rfl, rfl, ht9⟩) (fun _ hq => by cases hq) dX2_testHolds_138
      · have h := ie c_23 h
        refine lv_iconst (v := 1) hx hb dX2_testHolds_133 (by decide) ?_
        refine lv_goto (tgt := 138) hx hb dX2_testHolds_134 (by decide) ?_
        cases h
        exact W.zret hx hb hr rfl (fun _ ht9 _ => ⟨_, rfl, rfl, ht9⟩) (fun _ hq => by cases hq) dX2_testHolds_138
    have h := ie c_21 h
    by_cases c_24 : y_20 = 62
    · have h := it c_24 h
      refine lv_lookup (tgt := 139) (off := 47) hx hb dX2_testHolds_92 rfl (by rw [c_24]; try rfl) (by decide) ?_
      refine lv_iload_n hx hb dX2_testHolds_139 rfl (lv_at hl 2 rfl) ?_
      refine lv_aload_n hx hb dX2_testHolds_140 rfl (lv_at hl 0 rfl) ?_
      refine xget (i := 0) (j := 0) (k := 2) (T := TX2) hx hb ht tb_iX2 hown hX hP rfl rfl rfl (by decide) tb_326 rfl dX2_testHolds_141 ?_
      refine xget (i := 2) (j := 0) (k := 4) (T := TX9) hx hb ht tb_iX9 hown hX hP rfl rfl rfl (by decide) tb_124 rfl dX2_testHolds_144 ?_
      refine lv_iload_n hx hb dX2_testHolds_147 rfl (lv_at hl 1 rfl) ?_
      obtain ⟨y_25, e_y_25, h⟩ := bi h
      refine xiald (i0 := 2) (j0 := 5) hx hb hX hP rfl rfl e_y_25 dX2_testHolds_148 ?_
      refine lv_icmp_le (tgt := 156) hx hb dX2_testHolds_149 (by decide) (fun c_26 => ?_) (fun c_26 => ?_)
      · have h := it c_26 h
        refine lv_iconst (v := 0) hx hb dX2_testHolds_156 (by decide) ?_
        cases h
        exact W.zret hx hb hr rfl (fun _ ht9 _ => ⟨_, rfl, rfl, ht9⟩) (fun _ hq => by cases hq) dX2_testHolds_157
      · have h := ie c_26 h
        refine lv_iconst (v := 1) hx hb dX2_testHolds_152 (by decide) ?_
        refine lv_goto (tgt := 157) hx hb dX2_testHolds_153 (by decide) ?_
        cases h
        exact W.zret hx hb hr rfl (fun _ ht9 _ => ⟨_, rfl, rfl, ht9⟩) (fun _ hq => by cases hq) dX2_testHolds_157
    have h := ie c_24 h
    refine lv_lookup (tgt := 158) (off := 66) hx hb dX2_testHolds_92 rfl (show Op.lookupswitch.offset [(60, 28), (62, 47)] 66 (Int32.toInt y_20) = 66 from by rw [lv_osw (k := 60) (a := 60) c_21 rfl, lv_osw (k := 62) (a := 62) c_24 rfl]; try rfl) (by decide) ?_
    refine lv_iload_n hx hb dX2_testHolds_158 rfl (lv_at hl 2 rfl) ?_
    refine lv_aload_n hx hb dX2_testHolds_159 rfl (lv_at hl 0 rfl) ?_
    refine xget (i := 0) (j := 0) (k := 2) (T := TX2) hx hb ht tb_iX2 hown hX hP rfl rfl rfl (by decide) tb_326 rfl dX2_testHolds_160 ?_
    refine xget (i := 2) (j := 0) (k := 4) (T := TX9) hx hb ht tb_iX9 hown hX hP rfl rfl rfl (by decide) tb_124 rfl dX2_testHolds_163 ?_
    refine lv_iload_n hx hb dX2_testHolds_166 rfl (lv_at hl 1 rfl) ?_
    obtain ⟨y_27, e_y_27, h⟩ := bi h
    refine xiald (i0 := 2) (j0 := 5) hx hb hX hP rfl rfl e_y_27 dX2_testHolds_167 ?_
    refine lv_icmp_ne (tgt := 175) hx hb dX2_testHolds_168 (by decide) (fun c_28 => ?_) (fun c_28 => ?_)
    · have h := ie c_28 h
      refine lv_iconst (v := 0) hx hb dX2_testHolds_175 (by decide) ?_
      cases h
      exact W.zret hx hb hr rfl (fun _ ht9 _ => ⟨_, rfl, rfl, ht9⟩) (fun _ hq => by cases hq) dX2_testHolds_176
    · have h := it c_28 h
      refine lv_iconst (v := 1) hx hb dX2_testHolds_171 (by decide) ?_
      refine lv_goto (tgt := 176) hx hb dX2_testHolds_172 (by decide) ?_
      cases h
      exact W.zret hx hb hr rfl (fun _ ht9 _ => ⟨_, rfl, rfl, ht9⟩) (fun _ hq => by cases hq) dX2_testHolds_176
  unfold f_X2_testHolds at h
  refine lv_aload_n hx hb dX2_testHolds_0 rfl (lv_at hl 0 rfl) ?_
  refine xget (i := 0) (j := 0) (k := 2) (T := TX2) hx hb ht tb_iX2 hown hX hP rfl rfl rfl (by decide) tb_326 rfl dX2_testHolds_1 ?_
  refine xget (i := 2) (j := 0) (k := 1) (T := TX9) hx hb ht tb_iX9 hown hX hP rfl rfl rfl (by decide) tb_115 rfl dX2_testHolds_4 ?_
  refine lv_iload_n hx hb dX2_testHolds_7 rfl (lv_at hl 1 rfl) ?_
  obtain ⟨y_29, e_y_29, h⟩ := bi h
  refine xiald (i0 := 2) (j0 := 2) hx hb hX hP rfl rfl e_y_29 dX2_testHolds_8 ?_
  refine lv_istore_n (lv' := [(2, .int y_29), (0, .ref (A_c 0)), (1, .int x1)]) hx hb dX2_testHolds_9 rfl hl (by decide) rfl (fun ls hl => ?_)
  refine lv_aload_n hx hb dX2_testHolds_10 rfl (lv_at hl 1 rfl) ?_
  refine xget (i := 0) (j := 0) (k := 1) (T := TX2) hx hb ht tb_iX2 hown hX hP rfl rfl rfl (by decide) tb_325 rfl dX2_testHolds_11 ?_
  refine lv_iload_n hx hb dX2_testHolds_14 rfl (lv_at hl 0 rfl) ?_
  obtain ⟨z_30, e_z_30, h⟩ := bi h
  refine roVi (rest := []) ⟨hx, hb, hml, hown, ht⟩ (c_X0_isMan l D cy fu A_a a_name a_courage a_weight a_medals a_stood a_fled a_liked a_votes a_count a_living a_pride a_quota a_melted a_lost y_29 z_30 e_z_30) (cV ht mv_X0_isMan tb_1194 rfl rfl ⟨Nat.le_of_ble_eq_true rfl, Nat.le_of_ble_eq_true rfl⟩) (P_sub hP [1] rfl) hX rfl rfl rfl hl.1 rfl (Nat.le_of_ble_eq_true rfl) dX2_testHolds_15 ⟨Nat.le_of_ble_eq_true rfl, Nat.le_of_ble_eq_true rfl⟩ ?_
  refine lv_if_ne (tgt := 23) hx hb dX2_testHolds_18 (by decide) (fun c_31 => ?_) (fun c_31 => ?_)
  · have h := ie c_31 h
    refine lv_aload_n hx hb dX2_testHolds_23 rfl (lv_at hl 1 rfl) ?_
    refine xget (i := 0) (j := 0) (k := 1) (T := TX2) hx hb ht tb_iX2 hown hX hP rfl rfl rfl (by decide) tb_325 rfl dX2_testHolds_24 ?_
    refine xget (i := 1) (j := 0) (k := 3) (T := TX0) hx hb ht tb_iX0 hown hX hP rfl rfl rfl (by decide) tb_46 rfl dX2_testHolds_27 ?_
    refine lv_iload_n hx hb dX2_testHolds_30 rfl (lv_at hl 0 rfl) ?_
    obtain ⟨y_32, e_y_32, h⟩ := bi h
    refine xiald (i0 := 1) (j0 := 4) hx hb hX hP rfl rfl e_y_32 dX2_testHolds_31 ?_
    refine lv_istore_n (lv' := [(3, .int y_32), (2, .int y_29), (0, .ref (A_c 0)), (1, .int x1)]) hx hb dX2_testHolds_32 rfl hl (by decide) rfl (fun ls hl => ?_)
    refine lv_aload_n hx hb dX2_testHolds_33 rfl (lv_at hl 2 rfl) ?_
    refine xget (i := 0) (j := 0) (k := 2) (T := TX2) hx hb ht tb_iX2 hown hX hP rfl rfl rfl (by decide) tb_326 rfl dX2_testHolds_34 ?_
    refine xget (i := 2) (j := 0) (k := 2) (T := TX9) hx hb ht tb_iX9 hown hX hP rfl rfl rfl (by decide) tb_118 rfl dX2_testHolds_37 ?_
    refine lv_iload_n hx hb dX2_testHolds_40 rfl (lv_at hl 3 rfl) ?_
    obtain ⟨y_33, e_y_33, h⟩ := bi h
    refine xiald (i0 := 2) (j0 := 3) hx hb hX hP rfl rfl e_y_33 dX2_testHolds_41 ?_
    refine lv_bipush (v := 13) hx hb dX2_testHolds_42 (by decide) ?_
    refine lv_icmp_ne (tgt := 59) hx hb dX2_testHolds_44 (by decide) (fun c_34 => ?_) (fun c_34 => ?_)
    · have h := ie c_34 h
      refine lv_aload_n hx hb dX2_testHolds_59 rfl (lv_at hl 2 rfl) ?_
      refine xget (i := 0) (j := 0) (k := 2) (T := TX2) hx hb ht tb_iX2 hown hX hP rfl rfl rfl (by decide) tb_326 rfl dX2_testHolds_60 ?_
      refine xget (i := 2) (j := 0) (k := 2) (T := TX9) hx hb ht tb_iX9 hown hX hP rfl rfl rfl (by decide) tb_118 rfl dX2_testHolds_63 ?_
      refine lv_iload_n hx hb dX2_testHolds_66 rfl (lv_at hl 3 rfl) ?_
      obtain ⟨y_35, e_y_35, h⟩ := bi h
      refine xiald (i0 := 2) (j0 := 3) hx hb hX hP rfl rfl e_y_35 dX2_testHolds_67 ?_
      refine lv_bipush (v := 15) hx hb dX2_testHolds_68 (by decide) ?_
      refine lv_icmp_ne (tgt := 83) hx hb dX2_testHolds_70 (by decide) (fun c_36 => ?_) (fun c_36 => ?_)
      · have h := ie c_36 h
        exact j83 y_32 ls (lv_sub hl [2, 3, 0] rfl) h
      · have h := it c_36 h
        refine lv_aload_n hx hb dX2_testHolds_73 rfl (lv_at hl 2 rfl) ?_
        refine xget (i := 0) (j := 0) (k := 1) (T := TX2) hx hb ht tb_iX2 hown hX hP rfl rfl rfl (by decide) tb_325 rfl dX2_testHolds_74 ?_
        refine xget (i := 1) (j := 0) (k := 5) (T := TX0) hx hb ht tb_iX0 hown hX hP rfl rfl rfl (by decide) tb_51 rfl dX2_testHolds_77 ?_
        refine lv_iload_n hx hb dX2_testHolds_80 rfl (lv_at hl 1 rfl) ?_
        obtain ⟨y_37, e_y_37, h⟩ := bi h
        refine xiald (i0 := 1) (j0 := 6) hx hb hX hP rfl rfl e_y_37 dX2_testHolds_81 ?_
        refine lv_istore_n (lv' := [(3, .int y_37), (2, .int y_29), (0, .ref (A_c 0)), (1, .int x1)]) hx hb dX2_testHolds_82 rfl hl (by decide) rfl (fun ls hl => ?_)
        exact j83 y_37 ls (lv_sub hl [2, 3, 0] rfl) h
    · have h := it c_34 h
      refine lv_aload_n hx hb dX2_testHolds_47 rfl (lv_at hl 2 rfl) ?_
      refine xget (i := 0) (j := 0) (k := 1) (T := TX2) hx hb ht tb_iX2 hown hX hP rfl rfl rfl (by decide) tb_325 rfl dX2_testHolds_48 ?_
      refine lv_iload_n hx hb dX2_testHolds_51 rfl (lv_at hl 1 rfl) ?_
      obtain ⟨z_38, e_z_38, h⟩ := bi h
      refine roVi (rest := []) ⟨hx, hb, hml, hown, ht⟩ (c_X0_bravery l D cy fu A_a a_name a_courage a_weight a_medals a_stood a_fled a_liked a_votes a_count a_living a_pride a_quota a_melted a_lost y_29 z_38 e_z_38) (cV ht mv_X0_bravery tb_1195 rfl rfl ⟨Nat.le_of_ble_eq_true rfl, Nat.le_of_ble_eq_true rfl⟩) (P_sub hP [1] rfl) hX rfl rfl rfl hl.1 rfl (Nat.le_of_ble_eq_true rfl) dX2_testHolds_52 ⟨Nat.le_of_ble_eq_true rfl, Nat.le_of_ble_eq_true rfl⟩ ?_
      refine lv_istore_n (lv' := [(3, .int z_38), (2, .int y_29), (0, .ref (A_c 0)), (1, .int x1)]) hx hb dX2_testHolds_55 rfl hl (by decide) rfl (fun ls hl => ?_)
      refine lv_goto (tgt := 83) hx hb dX2_testHolds_56 (by decide) ?_
      exact j83 z_38 ls (lv_sub hl [2, 3, 0] rfl) h
  · have h := it c_31 h
    refine lv_iconst (v := 0) hx hb dX2_testHolds_21 (by decide) ?_
    cases h
    exact W.zret hx hb hr rfl (fun _ ht9 _ => ⟨_, rfl, rfl, ht9⟩) (fun _ hq => by cases hq) dX2_testHolds_22
theorem dX2_behindStep_0 : decode cX2_behindStep 0 = .ok (.aload_n 0, 1) := by decide +kernel
theorem dX2_behindStep_1 : decode cX2_behindStep 1 = .ok (.getfield 45, 3) := by decide +kernel
theorem dX2_behindStep_4 : decode cX2_behindStep 4 = .ok (.getfield 76, 3) := by decide +kernel
theorem dX2_behindStep_7 : decode cX2_behindStep 7 = .ok (.iload_n 1, 1) := by decide +kernel
theorem dX2_behindStep_8 : decode cX2_behindStep 8 = .ok (.iaload, 1) := by decide +kernel
theorem dX2_behindStep_9 : decode cX2_behindStep 9 = .ok (.istore_n 2, 1) := by decide +kernel
theorem dX2_behindStep_10 : decode cX2_behindStep 10 = .ok (.aload_n 0, 1) := by decide +kernel
theorem dX2_behindStep_11 : decode cX2_behindStep 11 = .ok (.getfield 45, 3) := by decide +kernel
theorem dX2_behindStep_14 : decode cX2_behindStep 14 = .ok (.getfield 63, 3) := by decide +kernel
theorem dX2_behindStep_17 : decode cX2_behindStep 17 = .ok (.iload_n 1, 1) := by decide +kernel
theorem dX2_behindStep_18 : decode cX2_behindStep 18 = .ok (.iaload, 1) := by decide +kernel
theorem dX2_behindStep_19 : decode cX2_behindStep 19 = .ok (.tableswitch 219 7 16 #[53, 70, 94, 109, 124, 175, 219, 219, 219, 201], 53) := by decide +kernel
theorem dX2_behindStep_72 : decode cX2_behindStep 72 = .ok (.aload_n 0, 1) := by decide +kernel
theorem dX2_behindStep_73 : decode cX2_behindStep 73 = .ok (.iload_n 2, 1) := by decide +kernel
theorem dX2_behindStep_74 : decode cX2_behindStep 74 = .ok (.aload_n 0, 1) := by decide +kernel
theorem dX2_behindStep_75 : decode cX2_behindStep 75 = .ok (.getfield 45, 3) := by decide +kernel
theorem dX2_behindStep_78 : decode cX2_behindStep 78 = .ok (.getfield 79, 3) := by decide +kernel
theorem dX2_behindStep_81 : decode cX2_behindStep 81 = .ok (.iload_n 1, 1) := by decide +kernel
theorem dX2_behindStep_82 : decode cX2_behindStep 82 = .ok (.iaload, 1) := by decide +kernel
theorem dX2_behindStep_83 : decode cX2_behindStep 83 = .ok (.invokevirtual 82, 3) := by decide +kernel
theorem dX2_behindStep_86 : decode cX2_behindStep 86 = .ok (.goto 160, 3) := by decide +kernel
theorem dX2_behindStep_89 : decode cX2_behindStep 89 = .ok (.aload_n 0, 1) := by decide +kernel
theorem dX2_behindStep_90 : decode cX2_behindStep 90 = .ok (.aload_n 0, 1) := by decide +kernel
theorem dX2_behindStep_91 : decode cX2_behindStep 91 = .ok (.getfield 41, 3) := by decide +kernel
theorem dX2_behindStep_94 : decode cX2_behindStep 94 = .ok (.iload_n 2, 1) := by decide +kernel
theorem dX2_behindStep_95 : decode cX2_behindStep 95 = .ok (.aload_n 0, 1) := by decide +kernel
theorem dX2_behindStep_96 : decode cX2_behindStep 96 = .ok (.getfield 45, 3) := by decide +kernel
theorem dX2_behindStep_99 : decode cX2_behindStep 99 = .ok (.getfield 86, 3) := by decide +kernel
theorem dX2_behindStep_102 : decode cX2_behindStep 102 = .ok (.iload_n 1, 1) := by decide +kernel
theorem dX2_behindStep_103 : decode cX2_behindStep 103 = .ok (.iaload, 1) := by decide +kernel
theorem dX2_behindStep_104 : decode cX2_behindStep 104 = .ok (.invokevirtual 89, 3) := by decide +kernel
theorem dX2_behindStep_107 : decode cX2_behindStep 107 = .ok (.invokevirtual 95, 3) := by decide +kernel
theorem dX2_behindStep_110 : decode cX2_behindStep 110 = .ok (.goto 136, 3) := by decide +kernel
theorem dX2_behindStep_113 : decode cX2_behindStep 113 = .ok (.aload_n 0, 1) := by decide +kernel
theorem dX2_behindStep_114 : decode cX2_behindStep 114 = .ok (.aload_n 0, 1) := by decide +kernel
theorem dX2_behindStep_115 : decode cX2_behindStep 115 = .ok (.getfield 41, 3) := by decide +kernel
theorem dX2_behindStep_118 : decode cX2_behindStep 118 = .ok (.iload_n 2, 1) := by decide +kernel
theorem dX2_behindStep_119 : decode cX2_behindStep 119 = .ok (.invokevirtual 99, 3) := by decide +kernel
theorem dX2_behindStep_122 : decode cX2_behindStep 122 = .ok (.invokevirtual 95, 3) := by decide +kernel
theorem dX2_behindStep_125 : decode cX2_behindStep 125 = .ok (.goto 121, 3) := by decide +kernel
theorem dX2_behindStep_128 : decode cX2_behindStep 128 = .ok (.aload_n 0, 1) := by decide +kernel
theorem dX2_behindStep_129 : decode cX2_behindStep 129 = .ok (.aload_n 0, 1) := by decide +kernel
theorem dX2_behindStep_130 : decode cX2_behindStep 130 = .ok (.getfield 41, 3) := by decide +kernel
theorem dX2_behindStep_133 : decode cX2_behindStep 133 = .ok (.iload_n 2, 1) := by decide +kernel
theorem dX2_behindStep_134 : decode cX2_behindStep 134 = .ok (.invokevirtual 103, 3) := by decide +kernel
theorem dX2_behindStep_137 : decode cX2_behindStep 137 = .ok (.invokevirtual 95, 3) := by decide +kernel
theorem dX2_behindStep_140 : decode cX2_behindStep 140 = .ok (.goto 106, 3) := by decide +kernel
theorem dX2_behindStep_143 : decode cX2_behindStep 143 = .ok (.aload_n 0, 1) := by decide +kernel
theorem dX2_behindStep_144 : decode cX2_behindStep 144 = .ok (.getfield 41, 3) := by decide +kernel
theorem dX2_behindStep_147 : decode cX2_behindStep 147 = .ok (.getfield 106, 3) := by decide +kernel
theorem dX2_behindStep_150 : decode cX2_behindStep 150 = .ok (.ifCond .le 31, 3) := by decide +kernel
theorem dX2_behindStep_153 : decode cX2_behindStep 153 = .ok (.aload_n 0, 1) := by decide +kernel
theorem dX2_behindStep_154 : decode cX2_behindStep 154 = .ok (.aload_n 0, 1) := by decide +kernel
theorem dX2_behindStep_155 : decode cX2_behindStep 155 = .ok (.getfield 41, 3) := by decide +kernel
theorem dX2_behindStep_158 : decode cX2_behindStep 158 = .ok (.getfield 106, 3) := by decide +kernel
theorem dX2_behindStep_161 : decode cX2_behindStep 161 = .ok (.invokevirtual 109, 3) := by decide +kernel
theorem dX2_behindStep_164 : decode cX2_behindStep 164 = .ok (.istore_n 2, 1) := by decide +kernel
theorem dX2_behindStep_165 : decode cX2_behindStep 165 = .ok (.aload_n 0, 1) := by decide +kernel
theorem dX2_behindStep_166 : decode cX2_behindStep 166 = .ok (.iload_n 2, 1) := by decide +kernel
theorem dX2_behindStep_167 : decode cX2_behindStep 167 = .ok (.iconst 1, 1) := by decide +kernel
theorem dX2_behindStep_168 : decode cX2_behindStep 168 = .ok (.aload_n 0, 1) := by decide +kernel
theorem dX2_behindStep_169 : decode cX2_behindStep 169 = .ok (.bipush 20, 2) := by decide +kernel
theorem dX2_behindStep_171 : decode cX2_behindStep 171 = .ok (.invokevirtual 109, 3) := by decide +kernel
theorem dX2_behindStep_174 : decode cX2_behindStep 174 = .ok (.iadd, 1) := by decide +kernel
theorem dX2_behindStep_175 : decode cX2_behindStep 175 = .ok (.invokevirtual 82, 3) := by decide +kernel
theorem dX2_behindStep_178 : decode cX2_behindStep 178 = .ok (.goto 68, 3) := by decide +kernel
theorem dX2_behindStep_181 : decode cX2_behindStep 181 = .ok (.aload_n 0, 1) := by decide +kernel
theorem dX2_behindStep_182 : decode cX2_behindStep 182 = .ok (.dup, 1) := by decide +kernel
theorem dX2_behindStep_183 : decode cX2_behindStep 183 = .ok (.getfield 26, 3) := by decide +kernel
theorem dX2_behindStep_186 : decode cX2_behindStep 186 = .ok (.iconst 1, 1) := by decide +kernel
theorem dX2_behindStep_187 : decode cX2_behindStep 187 = .ok (.iadd, 1) := by decide +kernel
theorem dX2_behindStep_188 : decode cX2_behindStep 188 = .ok (.putfield 26, 3) := by decide +kernel
theorem dX2_behindStep_191 : decode cX2_behindStep 191 = .ok (.goto 55, 3) := by decide +kernel
theorem dX2_behindStep_194 : decode cX2_behindStep 194 = .ok (.aload_n 0, 1) := by decide +kernel
theorem dX2_behindStep_195 : decode cX2_behindStep 195 = .ok (.iload_n 1, 1) := by decide +kernel
theorem dX2_behindStep_196 : decode cX2_behindStep 196 = .ok (.invokevirtual 112, 3) := by decide +kernel
theorem dX2_behindStep_199 : decode cX2_behindStep 199 = .ok (.ifCond .eq 9, 3) := by decide +kernel
theorem dX2_behindStep_202 : decode cX2_behindStep 202 = .ok (.iload_n 1, 1) := by decide +kernel
theorem dX2_behindStep_203 : decode cX2_behindStep 203 = .ok (.iconst 1, 1) := by decide +kernel
theorem dX2_behindStep_204 : decode cX2_behindStep 204 = .ok (.iadd, 1) := by decide +kernel
theorem dX2_behindStep_205 : decode cX2_behindStep 205 = .ok (.goto 14, 3) := by decide +kernel
theorem dX2_behindStep_208 : decode cX2_behindStep 208 = .ok (.aload_n 0, 1) := by decide +kernel
theorem dX2_behindStep_209 : decode cX2_behindStep 209 = .ok (.getfield 45, 3) := by decide +kernel
theorem dX2_behindStep_212 : decode cX2_behindStep 212 = .ok (.getfield 73, 3) := by decide +kernel
theorem dX2_behindStep_215 : decode cX2_behindStep 215 = .ok (.iload_n 1, 1) := by decide +kernel
theorem dX2_behindStep_216 : decode cX2_behindStep 216 = .ok (.iaload, 1) := by decide +kernel
theorem dX2_behindStep_217 : decode cX2_behindStep 217 = .ok (.iconst 1, 1) := by decide +kernel
theorem dX2_behindStep_218 : decode cX2_behindStep 218 = .ok (.iadd, 1) := by decide +kernel
theorem dX2_behindStep_219 : decode cX2_behindStep 219 = .ok (.ireturn, 1) := by decide +kernel
theorem dX2_behindStep_220 : decode cX2_behindStep 220 = .ok (.aload_n 0, 1) := by decide +kernel
theorem dX2_behindStep_221 : decode cX2_behindStep 221 = .ok (.getfield 9, 3) := by decide +kernel
theorem dX2_behindStep_224 : decode cX2_behindStep 224 = .ok (.iload_n 1, 1) := by decide +kernel
theorem dX2_behindStep_225 : decode cX2_behindStep 225 = .ok (.aload_n 0, 1) := by decide +kernel
theorem dX2_behindStep_226 : decode cX2_behindStep 226 = .ok (.getfield 45, 3) := by decide +kernel
theorem dX2_behindStep_229 : decode cX2_behindStep 229 = .ok (.getfield 79, 3) := by decide +kernel
theorem dX2_behindStep_232 : decode cX2_behindStep 232 = .ok (.iload_n 1, 1) := by decide +kernel
theorem dX2_behindStep_233 : decode cX2_behindStep 233 = .ok (.iaload, 1) := by decide +kernel
theorem dX2_behindStep_234 : decode cX2_behindStep 234 = .ok (.iastore, 1) := by decide +kernel
theorem dX2_behindStep_235 : decode cX2_behindStep 235 = .ok (.goto 11, 3) := by decide +kernel
theorem dX2_behindStep_238 : decode cX2_behindStep 238 = .ok (.aload_n 0, 1) := by decide +kernel
theorem dX2_behindStep_239 : decode cX2_behindStep 239 = .ok (.getfield 45, 3) := by decide +kernel
theorem dX2_behindStep_242 : decode cX2_behindStep 242 = .ok (.getfield 54, 3) := by decide +kernel
theorem dX2_behindStep_245 : decode cX2_behindStep 245 = .ok (.ireturn, 1) := by decide +kernel
theorem dX2_behindStep_246 : decode cX2_behindStep 246 = .ok (.iload_n 1, 1) := by decide +kernel
theorem dX2_behindStep_247 : decode cX2_behindStep 247 = .ok (.iconst 1, 1) := by decide +kernel
theorem dX2_behindStep_248 : decode cX2_behindStep 248 = .ok (.iadd, 1) := by decide +kernel
theorem dX2_behindStep_249 : decode cX2_behindStep 249 = .ok (.ireturn, 1) := by decide +kernel
theorem mv_X2_behindStep : MV yX2_behindStep RX2 cX2_behindStep 3 (some .int) 1 := ⟨tb_1171, tb_1170, ts_34, tb_12, by decide +kernel, by decide +kernel, by decide +kernel⟩
def f_X2_behindStep (fu : Nat) (c_roundsLeft : Nat → Int32) (c_drawn : Int32) (c_missed : Int32) (c_stood : Int32) (c_fled : Int32) (c_pinned : Int32) (a_courage : Nat → Int32) (a_weight : Nat → Int32) (a_medals : Nat → Int32) (a_stood : Nat → Int32) (a_fled : Nat → Int32) (a_liked : Nat → Int32) (a_votes : Nat → Int32) (a_count : Int32) (a_living : Int32) (a_pride : Int32) (a_melted : Int32) (a_lost : Int32) (w_deed : Nat → Int32) (w_man : Nat → Int32) (w_other : Nat → Int32) (w_sign : Nat → Int32) (w_number : Nat → Int32) (w_mate : Nat → Int32) (w_rows : Int32) (x1 : Int32) : Option (Int32 × (Nat → Int32) × Int32 × Int32 × Int32 × Int32 × Int32 × (Nat → Int32) × (Nat → Int32) × (Nat → Int32) × (Nat → Int32) × Int32 × Int32 × Int32) := (rdI w_man 60 x1).bind fun y_32 => (rdI w_deed 60 x1).bind fun y_33 => (if y_33 = 7 then (rdI w_number 60 x1).bind fun y_35 => (f_X2_faceDanger fu c_missed c_stood c_fled c_pinned a_courage a_weight a_medals a_stood a_fled a_liked a_votes a_count a_living a_pride a_melted a_lost y_32 y_35).bind fun z_36 => some (x1 + 1, c_roundsLeft, c_drawn, z_36.1, z_36.2.1, z_36.2.2.1, z_36.2.2.2.1, z_36.2.2.2.2.1, z_36.2.2.2.2.2.1, z_36.2.2.2.2.2.2.1, z_36.2.2.2.2.2.2.2.1, a_living, z_36.2.2.2.2.2.2.2.2.1, z_36.2.2.2.2.2.2.2.2.2) else (if y_33 = 8 then (rdI w_other 60 x1).bind fun y_38 => (f_X0_handOver fu a_medals a_count a_living y_32 y_38).bind fun z_39 => (f_X2_countMiss fu c_missed z_39.1).bind fun z_40 => some (x1 + 1, c_roundsLeft, c_drawn, z_40, c_stood, c_fled, c_pinned, z_39.2, a_stood, a_fled, a_votes, a_living, a_melted, a_lost) else (if y_33 = 9 then (f_X0_loseOne fu a_medals a_count a_lost y_32).bind fun z_42 => (f_X2_countMiss fu c_missed z_42.1).bind fun z_43 => some (x1 + 1, c_roundsLeft, c_drawn, z_43, c_stood, c_fled, c_pinned, z_42.2.1, a_stood, a_fled, a_votes, a_living, a_melted, z_42.2.2) else (if y_33 = 10 then (f_X0_strike fu a_count a_living y_32).bind fun z_45 => (f_X2_countMiss fu c_missed z_45.1).bind fun z_46 => some (x1 + 1, c_roundsLeft, c_drawn, z_46, c_stood, c_fled, c_pinned, a_medals, a_stood, a_fled, a_votes, z_45.2, a_melted, a_lost) else (if y_33 = 11 then (if a_count ≤ 0 then bnd (c_missed + 1) fun c_missed_49 => some (x1 + 1, c_roundsLeft, c_drawn, c_missed_49, c_stood, c_fled, c_pinned, a_medals, a_stood, a_fled, a_votes, a_living, a_melted, a_lost) else (f_X2_drawBy fu c_drawn a_count).bind fun z_50 => (f_X2_drawBy fu z_50.2 20).bind fun z_51 => (f_X2_faceDanger fu c_missed c_stood c_fled c_pinned a_courage a_weight a_medals a_stood a_fled a_liked a_votes a_count a_living a_pride a_melted a_lost z_50.1 (1 + z_51.1)).bind fun z_52 => some (x1 + 1, c_roundsLeft, z_51.2, z_52.1, z_52.2.1, z_52.2.2.1, z_52.2.2.2.1, z_52.2.2.2.2.1, z_52.2.2.2.2.2.1, z_52.2.2.2.2.2.2.1, z_52.2.2.2.2.2.2.2.1, a_living, z_52.2.2.2.2.2.2.2.2.1, z_52.2.2.2.2.2.2.2.2.2)) else (if y_33 = 12 then (f_X2_testHolds fu a_courage a_medals a_fled a_count a_pride w_man w_other w_sign w_number x1).bind fun z_54 => (if z_54 = 0 then (rdI w_mate 60 x1).bind fun y_56 => some (y_56 + 1, c_roundsLeft, c_drawn, c_missed, c_stood, c_fled, c_pinned, a_medals, a_stood, a_fled, a_votes, a_living, a_melted, a_lost) else some (x1 + 1, c_roundsLeft, c_drawn, c_missed, c_stood, c_fled, c_pinned, a_medals, a_stood, a_fled, a_votes, a_living, a_melted, a_lost)) else (if y_33 = 13 then some (w_rows, c_roundsLeft, c_drawn, c_missed, c_stood, c_fled, c_pinned, a_medals, a_stood, a_fled, a_votes, a_living, a_melted, a_lost) else (if y_33 = 14 then some (w_rows, c_roundsLeft, c_drawn, c_missed, c_stood, c_fled, c_pinned, a_medals, a_stood, a_fled, a_votes, a_living, a_melted, a_lost) else (if y_33 = 15 then some (w_rows, c_roundsLeft, c_drawn, c_missed, c_stood, c_fled, c_pinned, a_medals, a_stood, a_fled, a_votes, a_living, a_melted, a_lost) else (if y_33 = 16 then (rdI w_number 60 x1).bind fun y_61 => (wrI c_roundsLeft 60 x1 y_61).bind fun c_roundsLeft_62 => some (x1 + 1, c_roundsLeft_62, c_drawn, c_missed, c_stood, c_fled, c_pinned, a_medals, a_stood, a_fled, a_votes, a_living, a_melted, a_lost) else some (w_rows, c_roundsLeft, c_drawn, c_missed, c_stood, c_fled, c_pinned, a_medals, a_stood, a_fled, a_votes, a_living, a_melted, a_lost)))))))))))
abbrev rm_X2_behindStep : Room := { frames := 4, cells := 0, slots := 0, locals := 96 }
set_option maxHeartbeats 4000000 in
set_option maxRecDepth 100000 in
theorem c_X2_behindStep (l : Launch) (D : va_G) (cy : Nat → ClassId) (fu : Nat) (A_c : Nat → Nat) (c_roundsLeft : Nat → Int32) (c_drawn : Int32) (c_fought : Int32) (c_steps : Int32) (c_missed : Int32) (c_stood : Int32) (c_fled : Int32) (c_pinned : Int32) (c_left : Int32) (A_a : Nat → Nat) (a_name : Nat → Int64) (a_courage : Nat → Int32) (a_weight : Nat → Int32) (a_medals : Nat → Int32) (a_stood : Nat → Int32) (a_fled : Nat → Int32) (a_liked : Nat → Int32) (a_votes : Nat → Int32) (a_count : Int32) (a_living : Int32) (a_pride : Int32) (a_quota : Int32) (a_melted : Int32) (a_lost : Int32) (A_w : Nat → Nat) (w_deed : Nat → Int32) (w_man : Nat → Int32) (w_other : Nat → Int32) (w_sign : Nat → Int32) (w_number : Nat → Int32) (w_mate : Nat → Int32) (w_there : Int32) (w_rows : Int32) (w_steps : Int32) (x1 : Int32) (res : Int32 × (Nat → Int32) × Int32 × Int32 × Int32 × Int32 × Int32 × (Nat → Int32) × (Nat → Int32) × (Nat → Int32) × (Nat → Int32) × Int32 × Int32 × Int32) (h : f_X2_behindStep fu c_roundsLeft c_drawn c_missed c_stood c_fled c_pinned a_courage a_weight a_medals a_stood a_fled a_liked a_votes a_count a_living a_pride a_melted a_lost w_deed w_man w_other w_sign w_number w_mate w_rows x1 = some res) (A : Nat → Prop) (hA : A = adr [bl_X2 cy A_c (A_a 0) (A_w 0) c_roundsLeft c_drawn c_fought c_steps c_missed c_stood c_fled c_pinned c_left, bl_X0 cy A_a a_name a_courage a_weight a_medals a_stood a_fled a_liked a_votes a_count a_living a_pride a_quota a_melted a_lost, bl_X9 cy A_w w_deed w_man w_other w_sign w_number w_mate w_there w_rows w_steps]) (W1 : List va_W) (hW1 : W1 = [bl_X2 cy A_c (A_a 0) (A_w 0) res.2.1 res.2.2.1 c_fought c_steps res.2.2.2.1 res.2.2.2.2.1 res.2.2.2.2.2.1 res.2.2.2.2.2.2.1 c_left, bl_X0 cy A_a a_name a_courage a_weight res.2.2.2.2.2.2.2.1 res.2.2.2.2.2.2.2.2.1 res.2.2.2.2.2.2.2.2.2.1 a_liked res.2.2.2.2.2.2.2.2.2.2.1 a_count res.2.2.2.2.2.2.2.2.2.2.2.1 a_pride a_quota res.2.2.2.2.2.2.2.2.2.2.2.2.1 res.2.2.2.2.2.2.2.2.2.2.2.2.2, bl_X9 cy A_w w_deed w_man w_other w_sign w_number w_mate w_there w_rows w_steps]) : Met l yX2_behindStep (WW yX2_behindStep cX2_behindStep 3 (some .int)) rm_X2_behindStep (Ed D cy [.ref (A_c 0), .int x1] [bl_X2 cy A_c (A_a 0) (A_w 0) c_roundsLeft c_drawn c_fought c_steps c_missed c_stood c_fled c_pinned c_left, bl_X0 cy A_a a_name a_courage a_weight a_medals a_stood a_fled a_liked a_votes a_count a_living a_pride a_quota a_melted a_lost, bl_X9 cy A_w w_deed w_man w_other w_sign w_number w_mate w_there w_rows w_steps]) (Qei D res.1 A W1) 0 0 A := by
  refine Met.ofW (cc := cX2_behindStep) (maxL := 3) (ret := (some .int)) (by decide) rfl ?_
  intro p e s m args below meth c s₁ B hml hv
  obtain ⟨hargs, hP, hX, hD0⟩ := hv
  have hx := B.exec
  have hb := B.bytes
  have hr := B.returns
  have ht : ∀ w ∈ lw_gd, w.before args s = true := fun w hw => atoms_spec (ws := WW yX2_behindStep cX2_behindStep 3 (some .int)) B.pre w (List.mem_cons_of_mem _ hw)
  have hown : s.vm.findClass RX2 = some m.cls := findClass_of_methodNamed B.named
  have hlocks := B.notSynchronized
  have hP : PD D A [bl_X2 cy A_c (A_a 0) (A_w 0) c_roundsLeft c_drawn c_fought c_steps c_missed c_stood c_fled c_pinned c_left, bl_X0 cy A_a a_name a_courage a_weight a_medals a_stood a_fled a_liked a_votes a_count a_living a_pride a_quota a_melted a_lost, bl_X9 cy A_w w_deed w_man w_other w_sign w_number w_mate w_there w_rows w_steps] s.heap := ⟨hP, by rw [hA]; exact hD0.own⟩
  have hS : va_S A s.heap s.heap [] := va_S.rf
  obtain ⟨ls, hl, hent⟩ := ent (m := m) (n := 3) hargs (Nat.le_of_ble_eq_true rfl) (lv := [(0, .ref (A_c 0)), (1, .int x1)]) rfl
  rw [hent]
  clear hent
  unfold f_X2_behindStep at h
  refine lv_aload_n hx hb dX2_behindStep_0 rfl (lv_at hl 0 rfl) ?_
  refine xget (i := 0) (j := 0) (k := 2) (T := TX2) hx hb ht tb_iX2 hown hX hP.1 rfl rfl rfl (by decide) tb_326 rfl dX2_behindStep_1 ?_
  refine xget (i := 2) (j := 0) (k := 1) (T := TX9) hx hb ht tb_iX9 hown hX hP.1 rfl rfl rfl (by decide) tb_115 rfl dX2_behindStep_4 ?_
  refine lv_iload_n hx hb dX2_behindStep_7 rfl (lv_at hl 1 rfl) ?_
  obtain ⟨y_32, e_y_32, h⟩ := bi h
  refine xiald (i0 := 2) (j0 := 2) hx hb hX hP.1 rfl rfl e_y_32 dX2_behindStep_8 ?_
  refine lv_istore_n (lv' := [(2, .int y_32), (0, .ref (A_c 0)), (1, .int x1)]) hx hb dX2_behindStep_9 rfl hl (by decide) rfl (fun ls hl => ?_)
  refine lv_aload_n hx hb dX2_behindStep_10 rfl (lv_at hl 1 rfl) ?_
  refine xget (i := 0) (j := 0) (k := 2) (T := TX2) hx hb ht tb_iX2 hown hX hP.1 rfl rfl rfl (by decide) tb_326 rfl dX2_behindStep_11 ?_
  refine xget (i := 2) (j := 0) (k := 0) (T := TX9) hx hb ht tb_iX9 hown hX hP.1 rfl rfl rfl (by decide) tb_113 rfl dX2_behindStep_14 ?_
  refine lv_iload_n hx hb dX2_behindStep_17 rfl (lv_at hl 2 rfl) ?_
  obtain ⟨y_33, e_y_33, h⟩ := bi h
  refine xiald (i0 := 2) (j0 := 1) hx hb hX hP.1 rfl rfl e_y_33 dX2_behindStep_18 ?_
  by_cases c_34 : y_33 = 7
  · have h := it c_34 h
    refine lv_tableIn (tgt := 72) hx hb dX2_behindStep_19 (by rw [c_34]; decide) (by rw [c_34]; decide) (by rw [c_34]; rfl) (by decide) ?_
    refine lv_aload_n hx hb dX2_behindStep_72 rfl (lv_at hl 1 rfl) ?_
    refine lv_iload_n hx hb dX2_behindStep_73 rfl (lv_at hl 0 rfl) ?_
    refine lv_aload_n hx hb dX2_behindStep_74 rfl (lv_at hl 1 rfl) ?_
    refine xget (i := 0) (j := 0) (k := 2) (T := TX2) hx hb ht tb_iX2 hown hX hP.1 rfl rfl rfl (by decide) tb_326 rfl dX2_behindStep_75 ?_
    refine xget (i := 2) (j := 0) (k := 4) (T := TX9) hx hb ht tb_iX9 hown hX hP.1 rfl rfl rfl (by decide) tb_124 rfl dX2_behindStep_78 ?_
    refine lv_iload_n hx hb dX2_behindStep_81 rfl (lv_at hl 2 rfl) ?_
    obtain ⟨y_35, e_y_35, h⟩ := bi h
    refine xiald (i0 := 2) (j0 := 5) hx hb hX hP.1 rfl rfl e_y_35 dX2_behindStep_82 ?_
    obtain ⟨z_36, e_z_36, h⟩ := bi h
    refine efVv (rest := []) ⟨hx, hb, hml, hown, ht⟩ (c_X2_faceDanger l D cy fu A_c c_roundsLeft c_drawn c_fought c_steps c_missed c_stood c_fled c_pinned c_left A_a a_name a_courage a_weight a_medals a_stood a_fled a_liked a_votes a_count a_living a_pride a_quota a_melted a_lost A_w w_deed w_man w_other w_sign w_number w_mate w_there w_rows w_steps y_32 y_35 z_36 e_z_36 _ rfl _ rfl) (cV ht mv_X2_faceDanger tb_1172 rfl rfl ⟨Nat.le_of_ble_eq_true rfl, Nat.le_of_ble_eq_true rfl⟩) hP hS hX [0, 1, 2] rfl rfl rfl rfl rfl rfl hl.1 rfl (Nat.le_of_ble_eq_true rfl) dX2_behindStep_83 ⟨Nat.le_of_ble_eq_true rfl, Nat.le_of_ble_eq_true rfl⟩ (fun H locs hP hS => ?_)
    have hP : PD D A [bl_X2 cy A_c (A_a 0) (A_w 0) c_roundsLeft c_drawn c_fought c_steps z_36.1 z_36.2.1 z_36.2.2.1 z_36.2.2.2.1 c_left, bl_X0 cy A_a a_name a_courage a_weight z_36.2.2.2.2.1 z_36.2.2.2.2.2.1 z_36.2.2.2.2.2.2.1 a_liked z_36.2.2.2.2.2.2.2.1 a_count a_living a_pride a_quota z_36.2.2.2.2.2.2.2.2.1 z_36.2.2.2.2.2.2.2.2.2, bl_X9 cy A_w w_deed w_man w_other w_sign w_number w_mate w_there w_rows w_steps] H := hP
    refine lv_goto (tgt := 246) hx hb dX2_behindStep_86 (by decide) ?_
    refine lv_iload_n hx hb dX2_behindStep_246 rfl (lv_at hl 2 rfl) ?_
    refine lv_iconst (v := 1) hx hb dX2_behindStep_247 (by decide) ?_
    refine lv_iadd hx hb dX2_behindStep_248 ?_
    cases h
    subst hW1
    exact W.iret hx hb hr (fun _ ht9 _ => ⟨⟨_, (), rfl, rfl, hPt ht9 hP.1⟩, hS.F ht9⟩) hS.2.2 dX2_behindStep_249
  have h := ie c_34 h
  by_cases c_37 : y_33 = 8
  · have h := it c_37 h
    refine lv_tableIn (tgt := 89) hx hb dX2_behindStep_19 (by rw [c_37]; decide) (by rw [c_37]; decide) (by rw [c_37]; rfl) (by decide) ?_
    refine lv_aload_n hx hb dX2_behindStep_89 rfl (lv_at hl 1 rfl) ?_
    refine lv_aload_n hx hb dX2_behindStep_90 rfl (lv_at hl 1 rfl) ?_
    refine xget (i := 0) (j := 0) (k := 1) (T := TX2) hx hb ht tb_iX2 hown hX hP.1 rfl rfl rfl (by decide) tb_325 rfl dX2_behindStep_91 ?_
    refine lv_iload_n hx hb dX2_behindStep_94 rfl (lv_at hl 0 rfl) ?_
    refine lv_aload_n hx hb dX2_behindStep_95 rfl (lv_at hl 1 rfl) ?_
    refine xget (i := 0) (j := 0) (k := 2) (T := TX2) hx hb ht tb_iX2 hown hX hP.1 rfl rfl rfl (by decide) tb_326 rfl dX2_behindStep_96 ?_
    refine xget (i := 2) (j := 0) (k := 2) (T := TX9) hx hb ht tb_iX9 hown hX hP.1 rfl rfl rfl (by decide) tb_118 rfl dX2_behindStep_99 ?_
    refine lv_iload_n hx hb dX2_behindStep_102 rfl (lv_at hl 2 rfl) ?_
    obtain ⟨y_38, e_y_38, h⟩ := bi h
    refine xiald (i0 := 2) (j0 := 3) hx hb hX hP.1 rfl rfl e_y_38 dX2_behindStep_103 ?_
    obtain ⟨z_39, e_z_39, h⟩ := bi h
    refine efVi (rest := [.ref (A_c 0)]) ⟨hx, hb, hml, hown, ht⟩ (c_X0_handOver l D cy fu A_a a_name a_courage a_weight a_medals a_stood a_fled a_liked a_votes a_count a_living a_pride a_quota a_melted a_lost y_32 y_38 z_39 e_z_39 _ rfl _ rfl) (cV ht mv_X0_handOver tb_1178 rfl rfl ⟨Nat.le_of_ble_eq_true rfl, Nat.le_of_ble_eq_true rfl⟩) hP hS hX [1] rfl rfl rfl rfl rfl rfl hl.1 rfl (Nat.le_of_ble_eq_true rfl) dX2_behindStep_104 ⟨Nat.le_of_ble_eq_true rfl, Nat.le_of_ble_eq_true rfl⟩ (fun H locs hP hS => ?_)
    have hP : PD D A [bl_X2 cy A_c (A_a 0) (A_w 0) c_roundsLeft c_drawn c_fought c_steps c_missed c_stood c_fled c_pinned c_left, bl_X0 cy A_a a_name a_courage a_weight z_39.2 a_stood a_fled a_liked a_votes a_count a_living a_pride a_quota a_melted a_lost, bl_X9 cy A_w w_deed w_man w_other w_sign w_number w_mate w_there w_rows w_steps] H := hP
    obtain ⟨z_40, e_z_40, h⟩ := bi h
    refine efVv (rest := []) ⟨hx, hb, hml, hown, ht⟩ (c_X2_countMiss l D cy fu A_c c_roundsLeft c_drawn c_fought c_steps c_missed c_stood c_fled c_pinned c_left A_a a_name a_courage a_weight z_39.2 a_stood a_fled a_liked a_votes a_count a_living a_pride a_quota a_melted a_lost A_w w_deed w_man w_other w_sign w_number w_mate w_there w_rows w_steps z_39.1 z_40 e_z_40 _ rfl _ rfl) (cV ht mv_X2_countMiss tb_1179 rfl rfl ⟨Nat.le_of_ble_eq_true rfl, Nat.le_of_ble_eq_true rfl⟩) hP hS hX [0, 1, 2] rfl rfl rfl rfl rfl rfl hl.1 rfl (Nat.le_of_ble_eq_true rfl) dX2_behindStep_107 ⟨Nat.le_of_ble_eq_true rfl, Nat.le_of_ble_eq_true rfl⟩ (fun H locs hP hS => ?_)
    have hP : PD D A [bl_X2 cy A_c (A_a 0) (A_w 0) c_roundsLeft c_drawn c_fought c_steps z_40 c_stood c_fled c_pinned c_left, bl_X0 cy A_a a_name a_courage a_weight z_39.2 a_stood a_fled a_liked a_votes a_count a_living a_pride a_quota a_melted a_lost, bl_X9 cy A_w w_deed w_man w_other w_sign w_number w_mate w_there w_rows w_steps] H := hP
    refine lv_goto (tgt := 246) hx hb dX2_behindStep_110 (by decide) ?_
    refine lv_iload_n hx hb dX2_behindStep_246 rfl (lv_at hl 2 rfl) ?_
    refine lv_iconst (v := 1) hx hb dX2_behindStep_247 (by decide) ?_
    refine lv_iadd hx hb dX2_behindStep_248 ?_
    cases h
    subst hW1
    exact W.iret hx hb hr (fun _ ht9 _ => ⟨⟨_, (), rfl, rfl, hPt ht9 hP.1⟩, hS.F ht9⟩) hS.2.2 dX2_behindStep_249
  have h := ie c_37 h
  by_cases c_41 : y_33 = 9
  · have h := it c_41 h
    refine lv_tableIn (tgt := 113) hx hb dX2_behindStep_19 (by rw [c_41]; decide) (by rw [c_41]; decide) (by rw [c_41]; rfl) (by decide) ?_
    refine lv_aload_n hx hb dX2_behindStep_113 rfl (lv_at hl 1 rfl) ?_
    refine lv_aload_n hx hb dX2_behindStep_114 rfl (lv_at hl 1 rfl) ?_
    refine xget (i := 0) (j := 0) (k := 1) (T := TX2) hx hb ht tb_iX2 hown hX hP.1 rfl rfl rfl (by decide) tb_325 rfl dX2_behindStep_115 ?_
    refine lv_iload_n hx hb dX2_behindStep_118 rfl (lv_at hl 0 rfl) ?_
    obtain ⟨z_42, e_z_42, h⟩ := bi h
    refine efVi (rest := [.ref (A_c 0)]) ⟨hx, hb, hml, hown, ht⟩ (c_X0_loseOne l D cy fu A_a a_name a_courage a_weight a_medals a_stood a_fled a_liked a_votes a_count a_living a_pride a_quota a_melted a_lost y_32 z_42 e_z_42 _ rfl _ rfl) (cV ht mv_X0_loseOne tb_1183 rfl rfl ⟨Nat.le_of_ble_eq_true rfl, Nat.le_of_ble_eq_true rfl⟩) hP hS hX [1] rfl rfl rfl rfl rfl rfl hl.1 rfl (Nat.le_of_ble_eq_true rfl) dX2_behindStep_119 ⟨Nat.le_of_ble_eq_true rfl, Nat.le_of_ble_eq_true rfl⟩ (fun H locs hP hS => ?_)
    have hP : PD D A [bl_X2 cy A_c (A_a 0) (A_w 0) c_roundsLeft c_drawn c_fought c_steps c_missed c_stood c_fled c_pinned c_left, bl_X0 cy A_a a_name a_courage a_weight z_42.2.1 a_stood a_fled a_liked a_votes a_count a_living a_pride a_quota a_melted z_42.2.2, bl_X9 cy A_w w_deed w_man w_other w_sign w_number w_mate w_there w_rows w_steps] H := hP
    obtain ⟨z_43, e_z_43, h⟩ := bi h
    refine efVv (rest := []) ⟨hx, hb, hml, hown, ht⟩ (c_X2_countMiss l D cy fu A_c c_roundsLeft c_drawn c_fought c_steps c_missed c_stood c_fled c_pinned c_left A_a a_name a_courage a_weight z_42.2.1 a_stood a_fled a_liked a_votes a_count a_living a_pride a_quota a_melted z_42.2.2 A_w w_deed w_man w_other w_sign w_number w_mate w_there w_rows w_steps z_42.1 z_43 e_z_43 _ rfl _ rfl) (cV ht mv_X2_countMiss tb_1179 rfl rfl ⟨Nat.le_of_ble_eq_true rfl, Nat.le_of_ble_eq_true rfl⟩) hP hS hX [0, 1, 2] rfl rfl rfl rfl rfl rfl hl.1 rfl (Nat.le_of_ble_eq_true rfl) dX2_behindStep_122 ⟨Nat.le_of_ble_eq_true rfl, Nat.le_of_ble_eq_true rfl⟩ (fun H locs hP hS => ?_)
    have hP : PD D A [bl_X2 cy A_c (A_a 0) (A_w 0) c_roundsLeft c_drawn c_fought c_steps z_43 c_stood c_fled c_pinned c_left, bl_X0 cy A_a a_name a_courage a_weight z_42.2.1 a_stood a_fled a_liked a_votes a_count a_living a_pride a_quota a_melted z_42.2.2, bl_X9 cy A_w w_deed w_man w_other w_sign w_number w_mate w_there w_rows w_steps] H := hP
    refine lv_goto (tgt := 246) hx hb dX2_behindStep_125 (by decide) ?_
    refine lv_iload_n hx hb dX2_behindStep_246 rfl (lv_at hl 2 rfl) ?_
    refine lv_iconst (v := 1) hx hb dX2_behindStep_247 (by decide) ?_
    refine lv_iadd hx hb dX2_behindStep_248 ?_
    cases h
    subst hW1
    exact W.iret hx hb hr (fun _ ht9 _ => ⟨⟨_, (), rfl, rfl, hPt ht9 hP.1⟩, hS.F ht9⟩) hS.2.2 dX2_behindStep_249
  have h := ie c_41 h
  by_cases c_44 : y_33 = 10
  · have h := it c_44 h
    refine lv_tableIn (tgt := 128) hx hb dX2_behindStep_19 (by rw [c_44]; decide) (by rw [c_44]; decide) (by rw [c_44]; rfl) (by decide) ?_
    refine lv_aload_n hx hb dX2_behindStep_128 rfl (lv_at hl 1 rfl) ?_
    refine lv_aload_n hx hb dX2_behindStep_129 rfl (lv_at hl 1 rfl) ?_
    refine xget (i := 0) (j := 0) (k := 1) (T := TX2) hx hb ht tb_iX2 hown hX hP.1 rfl rfl rfl (by decide) tb_325 rfl dX2_behindStep_130 ?_
    refine lv_iload_n hx hb dX2_behindStep_133 rfl (lv_at hl 0 rfl) ?_
    obtain ⟨z_45, e_z_45, h⟩ := bi h
    refine efVi (rest := [.ref (A_c 0)]) ⟨hx, hb, hml, hown, ht⟩ (c_X0_strike l D cy fu A_a a_name a_courage a_weight a_medals a_stood a_fled a_liked a_votes a_count a_living a_pride a_quota a_melted a_lost y_32 z_45 e_z_45 _ rfl _ rfl) (cV ht mv_X0_strike tb_1184 rfl rfl ⟨Nat.le_of_ble_eq_true rfl, Nat.le_of_ble_eq_true rfl⟩) hP hS hX [1] rfl rfl rfl rfl rfl rfl hl.1 rfl (Nat.le_of_ble_eq_true rfl) dX2_behindStep_134 ⟨Nat.le_of_ble_eq_true rfl, Nat.le_of_ble_eq_true rfl⟩ (fun H locs hP hS => ?_)
    have hP : PD D A [bl_X2 cy A_c (A_a 0) (A_w 0) c_roundsLeft c_drawn c_fought c_steps c_missed c_stood c_fled c_pinned c_left, bl_X0 cy A_a a_name a_courage a_weight a_medals a_stood a_fled a_liked a_votes a_count z_45.2 a_pride a_quota a_melted a_lost, bl_X9 cy A_w w_deed w_man w_other w_sign w_number w_mate w_there w_rows w_steps] H := hP
    obtain ⟨z_46, e_z_46, h⟩ := bi h
    refine efVv (rest := []) ⟨hx, hb, hml, hown, ht⟩ (c_X2_countMiss l D cy fu A_c c_roundsLeft c_drawn c_fought c_steps c_missed c_stood c_fled c_pinned c_left A_a a_name a_courage a_weight a_medals a_stood a_fled a_liked a_votes a_count z_45.2 a_pride a_quota a_melted a_lost A_w w_deed w_man w_other w_sign w_number w_mate w_there w_rows w_steps z_45.1 z_46 e_z_46 _ rfl _ rfl) (cV ht mv_X2_countMiss tb_1179 rfl rfl ⟨Nat.le_of_ble_eq_true rfl, Nat.le_of_ble_eq_true rfl⟩) hP hS hX [0, 1, 2] rfl rfl rfl rfl rfl rfl hl.1 rfl (Nat.le_of_ble_eq_true rfl) dX2_behindStep_137 ⟨Nat.le_of_ble_eq_true rfl, Nat.le_of_ble_eq_true rfl⟩ (fun H locs hP hS => ?_)
    have hP : PD D A [bl_X2 cy A_c (A_a 0) (A_w 0) c_roundsLeft c_drawn c_fought c_steps z_46 c_stood c_fled c_pinned c_left, bl_X0 cy A_a a_name a_courage a_weight a_medals a_stood a_fled a_liked a_votes a_count z_45.2 a_pride a_quota a_melted a_lost, bl_X9 cy A_w w_deed w_man w_other w_sign w_number w_mate w_there w_rows w_steps] H := hP
    refine lv_goto (tgt := 246) hx hb dX2_behindStep_140 (by decide) ?_
    refine lv_iload_n hx hb dX2_behindStep_246 rfl (lv_at hl 2 rfl) ?_
    refine lv_iconst (v := 1) hx hb dX2_behindStep_247 (by decide) ?_
    refine lv_iadd hx hb dX2_behindStep_248 ?_
    cases h
    subst hW1
    exact W.iret hx hb hr (fun _ ht9 _ => ⟨⟨_, (), rfl, rfl, hPt ht9 hP.1⟩, hS.F ht9⟩) hS.2.2 dX2_behindStep_249
  have h := ie c_44 h
  by_cases c_47 : y_33 = 11
  · have h := it c_47 h
    refine lv_tableIn (tgt := 143) hx hb dX2_behindStep_19 (by rw [c_47]; decide) (by rw [c_47]; decide) (by rw [c_47]; rfl) (by decide) ?_
    refine lv_aload_n hx hb dX2_behindStep_143 rfl (lv_at hl 1 rfl) ?_
    refine xget (i := 0) (j := 0) (k := 1) (T := TX2) hx hb ht tb_iX2 hown hX hP.1 rfl rfl rfl (by decide) tb_325 rfl dX2_behindStep_144 ?_
    refine xget (i := 1) (j := 0) (k := 8) (T := TX0) hx hb ht tb_iX0 hown hX hP.1 rfl rfl rfl (by decide) tb_59 rfl dX2_behindStep_147 ?_
    refine lv_if_le (tgt := 181) hx hb dX2_behindStep_150 (by decide) (fun c_48 => ?_) (fun c_48 => ?_)
    · have h := it c_48 h
      refine lv_aload_n hx hb dX2_behindStep_181 rfl (lv_at hl 1 rfl) ?_
      refine lv_dup hx hb dX2_behindStep_182 rfl ?_
      refine xget (i := 0) (j := 0) (k := 6) (T := TX2) hx hb ht tb_iX2 hown hX hP.1 rfl rfl rfl (by decide) tb_332 rfl dX2_behindStep_183 ?_
      refine lv_iconst (v := 1) hx hb dX2_behindStep_186 (by decide) ?_
      refine lv_iadd hx hb dX2_behindStep_187 ?_
      refine lv_topi (fun c_missed_49 e_c_missed_49 => ?_)
      have h := bn e_c_missed_49 h
      refine xput (i := 0) (j := 0) (k := 6) (T := TX2) tyX2 tyX2_ok nmX2 hx hb ht tb_iX2 hown hX hP hS rfl rfl rfl (by decide) tb_332 rfl rfl rfl (Nat.le_of_ble_eq_true rfl) dX2_behindStep_188 (fun H locs hP hS => ?_)
      have hP : PD D A [bl_X2 cy A_c (A_a 0) (A_w 0) c_roundsLeft c_drawn c_fought c_steps c_missed_49 c_stood c_fled c_pinned c_left, bl_X0 cy A_a a_name a_courage a_weight a_medals a_stood a_fled a_liked a_votes a_count a_living a_pride a_quota a_melted a_lost, bl_X9 cy A_w w_deed w_man w_other w_sign w_number w_mate w_there w_rows w_steps] H := hP
      refine lv_goto (tgt := 246) hx hb dX2_behindStep_191 (by decide) ?_
      refine lv_iload_n hx hb dX2_behindStep_246 rfl (lv_at hl 2 rfl) ?_
      refine lv_iconst (v := 1) hx hb dX2_behindStep_247 (by decide) ?_
      refine lv_iadd hx hb dX2_behindStep_248 ?_
      cases h
      subst hW1
      exact W.iret hx hb hr (fun _ ht9 _ => ⟨⟨_, (), rfl, rfl, hPt ht9 hP.1⟩, hS.F ht9⟩) hS.2.2 dX2_behindStep_249
    · have h := ie c_48 h
      refine lv_aload_n hx hb dX2_behindStep_153 rfl (lv_at hl 1 rfl) ?_
      refine lv_aload_n hx hb dX2_behindStep_154 rfl (lv_at hl 1 rfl) ?_
      refine xget (i := 0) (j := 0) (k := 1) (T := TX2) hx hb ht tb_iX2 hown hX hP.1 rfl rfl rfl (by decide) tb_325 rfl dX2_behindStep_155 ?_
      refine xget (i := 1) (j := 0) (k := 8) (T := TX0) hx hb ht tb_iX0 hown hX hP.1 rfl rfl rfl (by decide) tb_59 rfl dX2_behindStep_158 ?_
      obtain ⟨z_50, e_z_50, h⟩ := bi h
      refine efVi (rest := []) ⟨hx, hb, hml, hown, ht⟩ (c_X2_drawBy l D cy fu A_c c_roundsLeft c_drawn c_fought c_steps c_missed c_stood c_fled c_pinned c_left A_a a_name a_courage a_weight a_medals a_stood a_fled a_liked a_votes a_count a_living a_pride a_quota a_melted a_lost A_w w_deed w_man w_other w_sign w_number w_mate w_there w_rows w_steps a_count z_50 e_z_50 _ rfl _ rfl) (cV ht mv_X2_drawBy tb_1185 rfl rfl ⟨Nat.le_of_ble_eq_true rfl, Nat.le_of_ble_eq_true rfl⟩) hP hS hX [0, 1, 2] rfl rfl rfl rfl rfl rfl hl.1 rfl (Nat.le_of_ble_eq_true rfl) dX2_behindStep_161 ⟨Nat.le_of_ble_eq_true rfl, Nat.le_of_ble_eq_true rfl⟩ (fun H locs hP hS => ?_)
      have hP : PD D A [bl_X2 cy A_c (A_a 0) (A_w 0) c_roundsLeft z_50.2 c_fought c_steps c_missed c_stood c_fled c_pinned c_left, bl_X0 cy A_a a_name a_courage a_weight a_medals a_stood a_fled a_liked a_votes a_count a_living a_pride a_quota a_melted a_lost, bl_X9 cy A_w w_deed w_man w_other w_sign w_number w_mate w_there w_rows w_steps] H := hP
      refine lv_istore_n (lv' := [(2, .int z_50.1), (0, .ref (A_c 0)), (1, .int x1)]) hx hb dX2_behindStep_164 rfl hl (by decide) rfl (fun ls hl => ?_)
      refine lv_aload_n hx hb dX2_behindStep_165 rfl (lv_at hl 1 rfl) ?_
      refine lv_iload_n hx hb dX2_behindStep_166 rfl (lv_at hl 0 rfl) ?_
      refine lv_iconst (v := 1) hx hb dX2_behindStep_167 (by decide) ?_
      refine lv_aload_n hx hb dX2_behindStep_168 rfl (lv_at hl 1 rfl) ?_
      refine lv_bipush (v := 20) hx hb dX2_behindStep_169 (by decide) ?_
      obtain ⟨z_51, e_z_51, h⟩ := bi h
      refine efVi (rest := [.int 1, .int z_50.1, .ref (A_c 0)]) ⟨hx, hb, hml, hown, ht⟩ (c_X2_drawBy l D cy fu A_c c_roundsLeft z_50.2 c_fought c_steps c_missed c_stood c_fled c_pinned c_left A_a a_name a_courage a_weight a_medals a_stood a_fled a_liked a_votes a_count a_living a_pride a_quota a_melted a_lost A_w w_deed w_man w_other w_sign w_number w_mate w_there w_rows w_steps 20 z_51 e_z_51 _ rfl _ rfl) (cV ht mv_X2_drawBy tb_1185 rfl rfl ⟨Nat.le_of_ble_eq_true rfl, Nat.le_of_ble_eq_true rfl⟩) hP hS hX [0, 1, 2] rfl rfl rfl rfl rfl rfl hl.1 rfl (Nat.le_of_ble_eq_true rfl) dX2_behindStep_171 ⟨Nat.le_of_ble_eq_true rfl, Nat.le_of_ble_eq_true rfl⟩ (fun H locs hP hS => ?_)
      have hP : PD D A [bl_X2 cy A_c (A_a 0) (A_w 0) c_roundsLeft z_51.2 c_fought c_steps c_missed c_stood c_fled c_pinned c_left, bl_X0 cy A_a a_name a_courage a_weight a_medals a_stood a_fled a_liked a_votes a_count a_living a_pride a_quota a_melted a_lost, bl_X9 cy A_w w_deed w_man w_other w_sign w_number w_mate w_there w_rows w_steps] H := hP
      refine lv_iadd hx hb dX2_behindStep_174 ?_
      obtain ⟨z_52, e_z_52, h⟩ := bi h
      refine efVv (rest := []) ⟨hx, hb, hml, hown, ht⟩ (c_X2_faceDanger l D cy fu A_c c_roundsLeft z_51.2 c_fought c_steps c_missed c_stood c_fled c_pinned c_left A_a a_name a_courage a_weight a_medals a_stood a_fled a_liked a_votes a_count a_living a_pride a_quota a_melted a_lost A_w w_deed w_man w_other w_sign w_number w_mate w_there w_rows w_steps z_50.1 (1 + z_51.1) z_52 e_z_52 _ rfl _ rfl) (cV ht mv_X2_faceDanger tb_1172 rfl rfl ⟨Nat.le_of_ble_eq_true rfl, Nat.le_of_ble_eq_true rfl⟩) hP hS hX [0, 1, 2] rfl rfl rfl rfl rfl rfl hl.1 rfl (Nat.le_of_ble_eq_true rfl) dX2_behindStep_175 ⟨Nat.le_of_ble_eq_true rfl, Nat.le_of_ble_eq_true rfl⟩ (fun H locs hP hS => ?_)
      have hP : PD D A [bl_X2 cy A_c (A_a 0) (A_w 0) c_roundsLeft z_51.2 c_fought c_steps z_52.1 z_52.2.1 z_52.2.2.1 z_52.2.2.2.1 c_left, bl_X0 cy A_a a_name a_courage a_weight z_52.2.2.2.2.1 z_52.2.2.2.2.2.1 z_52.2.2.2.2.2.2.1 a_liked z_52.2.2.2.2.2.2.2.1 a_count a_living a_pride a_quota z_52.2.2.2.2.2.2.2.2.1 z_52.2.2.2.2.2.2.2.2.2, bl_X9 cy A_w w_deed w_man w_other w_sign w_number w_mate w_there w_rows w_steps] H := hP
      refine lv_goto (tgt := 246) hx hb dX2_behindStep_178 (by decide) ?_
      refine lv_iload_n hx hb dX2_behindStep_246 rfl (lv_at hl 2 rfl) ?_
      refine lv_iconst (v := 1) hx hb dX2_behindStep_247 (by decide) ?_
      refine lv_iadd hx hb dX2_behindStep_248 ?_
      cases h
      subst hW1
      exact W.iret hx hb hr (fun _ ht9 _ => ⟨⟨_, (), rfl, rfl, hPt ht9 hP.1⟩, hS.F ht9⟩) hS.2.2 dX2_behindStep_249
  have h := ie c_47 h
  by_cases c_53 : y_33 = 12
  · have h := it c_53 h
    refine lv_tableIn (tgt := 194) hx hb dX2_behindStep_19 (by rw [c_53]; decide) (by rw [c_53]; decide) (by rw [c_53]; rfl) (by decide) ?_
    refine lv_aload_n hx hb dX2_behindStep_194 rfl (lv_at hl 1 rfl) ?_
    refine lv_iload_n hx hb dX2_behindStep_195 rfl (lv_at hl 2 rfl) ?_
    obtain ⟨z_54, e_z_54, h⟩ := bi h
    refine roVi (rest := []) ⟨hx, hb, hml, hown, ht⟩ (c_X2_testHolds l D cy fu A_c c_roundsLeft c_drawn c_fought c_steps c_missed c_stood c_fled c_pinned c_left A_a a_name a_courage a_weight a_medals a_stood a_fled a_liked a_votes a_count a_living a_pride a_quota a_melted a_lost A_w w_deed w_man w_other w_sign w_number w_mate w_there w_rows w_steps x1 z_54 e_z_54) (cV ht mv_X2_testHolds tb_1190 rfl rfl ⟨Nat.le_of_ble_eq_true rfl, Nat.le_of_ble_eq_true rfl⟩) (P_sub hP.1 [0, 1, 2] rfl) hX rfl rfl rfl hl.1 rfl (Nat.le_of_ble_eq_true rfl) dX2_behindStep_196 ⟨Nat.le_of_ble_eq_true rfl, Nat.le_of_ble_eq_true rfl⟩ ?_
    refine lv_if_eq (tgt := 208) hx hb dX2_behindStep_199 (by decide) (fun c_55 => ?_) (fun c_55 => ?_)
    · have h := it c_55 h
      refine lv_aload_n hx hb dX2_behindStep_208 rfl (lv_at hl 1 rfl) ?_
      refine xget (i := 0) (j := 0) (k := 2) (T := TX2) hx hb ht tb_iX2 hown hX hP.1 rfl rfl rfl (by decide) tb_326 rfl dX2_behindStep_209 ?_
      refine xget (i := 2) (j := 0) (k := 5) (T := TX9) hx hb ht tb_iX9 hown hX hP.1 rfl rfl rfl (by decide) tb_127 rfl dX2_behindStep_212 ?_
      refine lv_iload_n hx hb dX2_behindStep_215 rfl (lv_at hl 2 rfl) ?_
      obtain ⟨y_56, e_y_56, h⟩ := bi h
      refine xiald (i0 := 2) (j0 := 6) hx hb hX hP.1 rfl rfl e_y_56 dX2_behindStep_216 ?_
      refine lv_iconst (v := 1) hx hb dX2_behindStep_217 (by decide) ?_
      refine lv_iadd hx hb dX2_behindStep_218 ?_
      cases h
      subst hW1
      exact W.iret hx hb hr (fun _ ht9 _ => ⟨⟨_, (), rfl, rfl, hPt ht9 hP.1⟩, hS.F ht9⟩) hS.2.2 dX2_behindStep_219
    · have h := ie c_55 h
      refine lv_iload_n hx hb dX2_behindStep_202 rfl (lv_at hl 2 rfl) ?_
      refine lv_iconst (v := 1) hx hb dX2_behindStep_203 (by decide) ?_
      refine lv_iadd hx hb dX2_behindStep_204 ?_
      refine lv_goto (tgt := 219) hx hb dX2_behindStep_205 (by decide) ?_
      cases h
      subst hW1
      exact W.iret hx hb hr (fun _ ht9 _ => ⟨⟨_, (), rfl, rfl, hPt ht9 hP.1⟩, hS.F ht9⟩) hS.2.2 dX2_behindStep_219
  have h := ie c_53 h
  by_cases c_57 : y_33 = 13
  · have h := it c_57 h
    refine lv_tableIn (tgt := 238) hx hb dX2_behindStep_19 (by rw [c_57]; decide) (by rw [c_57]; decide) (by rw [c_57]; rfl) (by decide) ?_
    refine lv_aload_n hx hb dX2_behindStep_238 rfl (lv_at hl 1 rfl) ?_
    refine xget (i := 0) (j := 0) (k := 2) (T := TX2) hx hb ht tb_iX2 hown hX hP.1 rfl rfl rfl (by decide) tb_326 rfl dX2_behindStep_239 ?_
    refine xget (i := 2) (j := 0) (k := 7) (T := TX9) hx hb ht tb_iX9 hown hX hP.1 rfl rfl rfl (by decide) tb_132 rfl dX2_behindStep_242 ?_
    cases h
    subst hW1
    exact W.iret hx hb hr (fun _ ht9 _ => ⟨⟨_, (), rfl, rfl, hPt ht9 hP.1⟩, hS.F ht9⟩) hS.2.2 dX2_behindStep_245
  have h := ie c_57 h
  by_cases c_58 : y_33 = 14
  · have h := it c_58 h
    refine lv_tableIn (tgt := 238) hx hb dX2_behindStep_19 (by rw [c_58]; decide) (by rw [c_58]; decide) (by rw [c_58]; rfl) (by decide) ?_
    refine lv_aload_n hx hb dX2_behindStep_238 rfl (lv_at hl 1 rfl) ?_
    refine xget (i := 0) (j := 0) (k := 2) (T := TX2) hx hb ht tb_iX2 hown hX hP.1 rfl rfl rfl (by decide) tb_326 rfl dX2_behindStep_239 ?_
    refine xget (i := 2) (j := 0) (k := 7) (T := TX9) hx hb ht tb_iX9 hown hX hP.1 rfl rfl rfl (by decide) tb_132 rfl dX2_behindStep_242 ?_
    cases h
    subst hW1
    exact W.iret hx hb hr (fun _ ht9 _ => ⟨⟨_, (), rfl, rfl, hPt ht9 hP.1⟩, hS.F ht9⟩) hS.2.2 dX2_behindStep_245
  have h := ie c_58 h
  by_cases c_59 : y_33 = 15
  · have h := it c_59 h
    refine lv_tableIn (tgt := 238) hx hb dX2_behindStep_19 (by rw [c_59]; decide) (by rw [c_59]; decide) (by rw [c_59]; rfl) (by decide) ?_
    refine lv_aload_n hx hb dX2_behindStep_238 rfl (lv_at hl 1 rfl) ?_
    refine xget (i := 0) (j := 0) (k := 2) (T := TX2) hx hb ht tb_iX2 hown hX hP.1 rfl rfl rfl (by decide) tb_326 rfl dX2_behindStep_239 ?_
    refine xget (i := 2) (j := 0) (k := 7) (T := TX9) hx hb ht tb_iX9 hown hX hP.1 rfl rfl rfl (by decide) tb_132 rfl dX2_behindStep_242 ?_
    cases h
    subst hW1
    exact W.iret hx hb hr (fun _ ht9 _ => ⟨⟨_, (), rfl, rfl, hPt ht9 hP.1⟩, hS.F ht9⟩) hS.2.2 dX2_behindStep_245
  have h := ie c_59 h
  by_cases c_60 : y_33 = 16
  · have h := it c_60 h
    refine lv_tableIn (tgt := 220) hx hb dX2_behindStep_19 (by rw [c_60]; decide) (by rw [c_60]; decide) (by rw [c_60]; rfl) (by decide) ?_
    refine lv_aload_n hx hb dX2_behindStep_220 rfl (lv_at hl 1 rfl) ?_
    refine xget (i := 0) (j := 0) (k := 0) (T := TX2) hx hb ht tb_iX2 hown hX hP.1 rfl rfl rfl (by decide) tb_324 rfl dX2_behindStep_221 ?_
    refine lv_iload_n hx hb dX2_behindStep_224 rfl (lv_at hl 2 rfl) ?_
    refine lv_aload_n hx hb dX2_behindStep_225 rfl (lv_at hl 1 rfl) ?_
    refine xget (i := 0) (j := 0) (k := 2) (T := TX2) hx hb ht tb_iX2 hown hX hP.1 rfl rfl rfl (by decide) tb_326 rfl dX2_behindStep_226 ?_
    refine xget (i := 2) (j := 0) (k := 4) (T := TX9) hx hb ht tb_iX9 hown hX hP.1 rfl rfl rfl (by decide) tb_124 rfl dX2_behindStep_229 ?_
    refine lv_iload_n hx hb dX2_behindStep_232 rfl (lv_at hl 2 rfl) ?_
    obtain ⟨y_61, e_y_61, h⟩ := bi h
    refine xiald (i0 := 2) (j0 := 5) hx hb hX hP.1 rfl rfl e_y_61 dX2_behindStep_233 ?_
    obtain ⟨c_roundsLeft_62, e_c_roundsLeft_62, h⟩ := bi h
    refine xiast (i0 := 0) (j0 := 1) hx hb hX hP hS rfl rfl e_c_roundsLeft_62 dX2_behindStep_234 (fun H locs hP hS => ?_)
    have hP : PD D A [bl_X2 cy A_c (A_a 0) (A_w 0) c_roundsLeft_62 c_drawn c_fought c_steps c_missed c_stood c_fled c_pinned c_left, bl_X0 cy A_a a_name a_courage a_weight a_medals a_stood a_fled a_liked a_votes a_count a_living a_pride a_quota a_melted a_lost, bl_X9 cy A_w w_deed w_man w_other w_sign w_number w_mate w_there w_rows w_steps] H := hP
    refine lv_goto (tgt := 246) hx hb dX2_behindStep_235 (by decide) ?_
    refine lv_iload_n hx hb dX2_behindStep_246 rfl (lv_at hl 2 rfl) ?_
    refine lv_iconst (v := 1) hx hb dX2_behindStep_247 (by decide) ?_
    refine lv_iadd hx hb dX2_behindStep_248 ?_
    cases h
    subst hW1
    exact W.iret hx hb hr (fun _ ht9 _ => ⟨⟨_, (), rfl, rfl, hPt ht9 hP.1⟩, hS.F ht9⟩) hS.2.2 dX2_behindStep_249
  have h := ie c_60 h
  refine lv_tableOut (tgt := 238) hx hb dX2_behindStep_19 (by have n_c_34 := lv_neT (a := 7) c_34 rfl; have n_c_37 := lv_neT (a := 8) c_37 rfl; have n_c_41 := lv_neT (a := 9) c_41 rfl; have n_c_44 := lv_neT (a := 10) c_44 rfl; have n_c_47 := lv_neT (a := 11) c_47 rfl; have n_c_53 := lv_neT (a := 12) c_53 rfl; have n_c_57 := lv_neT (a := 13) c_57 rfl; have n_c_58 := lv_neT (a := 14) c_58 rfl; have n_c_59 := lv_neT (a := 15) c_59 rfl; have n_c_60 := lv_neT (a := 16) c_60 rfl; omega) (by decide) ?_
  refine lv_aload_n hx hb dX2_behindStep_238 rfl (lv_at hl 1 rfl) ?_
  refine xget (i := 0) (j := 0) (k := 2) (T := TX2) hx hb ht tb_iX2 hown hX hP.1 rfl rfl rfl (by decide) tb_326 rfl dX2_behindStep_239 ?_
  refine xget (i := 2) (j := 0) (k := 7) (T := TX9) hx hb ht tb_iX9 hown hX hP.1 rfl rfl rfl (by decide) tb_132 rfl dX2_behindStep_242 ?_
  cases h
  subst hW1
  exact W.iret hx hb hr (fun _ ht9 _ => ⟨⟨_, (), rfl, rfl, hPt ht9 hP.1⟩, hS.F ht9⟩) hS.2.2 dX2_behindStep_245
theorem dX2_fight_0 : decode cX2_fight 0 = .ok (.aload_n 0, 1) := by decide +kernel
theorem dX2_fight_1 : decode cX2_fight 1 = .ok (.iload_n 1, 1) := by decide +kernel
theorem dX2_fight_2 : decode cX2_fight 2 = .ok (.invokevirtual 49, 3) := by decide +kernel
theorem dX2_fight_5 : decode cX2_fight 5 = .ok (.iconst 0, 1) := by decide +kernel
theorem dX2_fight_6 : decode cX2_fight 6 = .ok (.istore_n 2, 1) := by decide +kernel
theorem dX2_fight_7 : decode cX2_fight 7 = .ok (.iconst 0, 1) := by decide +kernel
theorem dX2_fight_8 : decode cX2_fight 8 = .ok (.istore_n 3, 1) := by decide +kernel
theorem dX2_fight_9 : decode cX2_fight 9 = .ok (.iload_n 3, 1) := by decide +kernel
theorem dX2_fight_10 : decode cX2_fight 10 = .ok (.ldc 53, 2) := by decide +kernel
theorem dX2_fight_12 : decode cX2_fight 12 = .ok (.if_icmp .ge 84, 3) := by decide +kernel
theorem dX2_fight_15 : decode cX2_fight 15 = .ok (.iload_n 2, 1) := by decide +kernel
theorem dX2_fight_16 : decode cX2_fight 16 = .ok (.iconst 0, 1) := by decide +kernel
theorem dX2_fight_17 : decode cX2_fight 17 = .ok (.aload_n 0, 1) := by decide +kernel
theorem dX2_fight_18 : decode cX2_fight 18 = .ok (.getfield 45, 3) := by decide +kernel
theorem dX2_fight_21 : decode cX2_fight 21 = .ok (.getfield 54, 3) := by decide +kernel
theorem dX2_fight_24 : decode cX2_fight 24 = .ok (.iconst 1, 1) := by decide +kernel
theorem dX2_fight_25 : decode cX2_fight 25 = .ok (.isub, 1) := by decide +kernel
theorem dX2_fight_26 : decode cX2_fight 26 = .ok (.invokestatic 59, 3) := by decide +kernel
theorem dX2_fight_29 : decode cX2_fight 29 = .ok (.ifCond .eq 67, 3) := by decide +kernel
theorem dX2_fight_32 : decode cX2_fight 32 = .ok (.aload_n 0, 1) := by decide +kernel
theorem dX2_fight_33 : decode cX2_fight 33 = .ok (.getfield 45, 3) := by decide +kernel
theorem dX2_fight_36 : decode cX2_fight 36 = .ok (.getfield 63, 3) := by decide +kernel
theorem dX2_fight_39 : decode cX2_fight 39 = .ok (.iload_n 2, 1) := by decide +kernel
theorem dX2_fight_40 : decode cX2_fight 40 = .ok (.iaload, 1) := by decide +kernel
theorem dX2_fight_41 : decode cX2_fight 41 = .ok (.bipush 17, 2) := by decide +kernel
theorem dX2_fight_43 : decode cX2_fight 43 = .ok (.if_icmp .ne 12, 3) := by decide +kernel
theorem dX2_fight_46 : decode cX2_fight 46 = .ok (.aload_n 0, 1) := by decide +kernel
theorem dX2_fight_47 : decode cX2_fight 47 = .ok (.iload_n 2, 1) := by decide +kernel
theorem dX2_fight_48 : decode cX2_fight 48 = .ok (.invokevirtual 66, 3) := by decide +kernel
theorem dX2_fight_51 : decode cX2_fight 51 = .ok (.istore_n 2, 1) := by decide +kernel
theorem dX2_fight_52 : decode cX2_fight 52 = .ok (.goto 38, 3) := by decide +kernel
theorem dX2_fight_55 : decode cX2_fight 55 = .ok (.aload_n 0, 1) := by decide +kernel
theorem dX2_fight_56 : decode cX2_fight 56 = .ok (.getfield 23, 3) := by decide +kernel
theorem dX2_fight_59 : decode cX2_fight 59 = .ok (.sipush 300, 3) := by decide +kernel
theorem dX2_fight_62 : decode cX2_fight 62 = .ok (.if_icmp .ge 22, 3) := by decide +kernel
theorem dX2_fight_65 : decode cX2_fight 65 = .ok (.aload_n 0, 1) := by decide +kernel
theorem dX2_fight_66 : decode cX2_fight 66 = .ok (.dup, 1) := by decide +kernel
theorem dX2_fight_67 : decode cX2_fight 67 = .ok (.getfield 23, 3) := by decide +kernel
theorem dX2_fight_70 : decode cX2_fight 70 = .ok (.iconst 1, 1) := by decide +kernel
theorem dX2_fight_71 : decode cX2_fight 71 = .ok (.iadd, 1) := by decide +kernel
theorem dX2_fight_72 : decode cX2_fight 72 = .ok (.putfield 23, 3) := by decide +kernel
theorem dX2_fight_75 : decode cX2_fight 75 = .ok (.aload_n 0, 1) := by decide +kernel
theorem dX2_fight_76 : decode cX2_fight 76 = .ok (.iload_n 2, 1) := by decide +kernel
theorem dX2_fight_77 : decode cX2_fight 77 = .ok (.invokevirtual 70, 3) := by decide +kernel
theorem dX2_fight_80 : decode cX2_fight 80 = .ok (.istore_n 2, 1) := by decide +kernel
theorem dX2_fight_81 : decode cX2_fight 81 = .ok (.goto 9, 3) := by decide +kernel
theorem dX2_fight_84 : decode cX2_fight 84 = .ok (.aload_n 0, 1) := by decide +kernel
theorem dX2_fight_85 : decode cX2_fight 85 = .ok (.iconst 1, 1) := by decide +kernel
theorem dX2_fight_86 : decode cX2_fight 86 = .ok (.putfield 38, 3) := by decide +kernel
theorem dX2_fight_89 : decode cX2_fight 89 = .ok (.return_, 1) := by decide +kernel
theorem dX2_fight_90 : decode cX2_fight 90 = .ok (.iinc 3 1, 3) := by decide +kernel
theorem dX2_fight_93 : decode cX2_fight 93 = .ok (.goto (-84), 3) := by decide +kernel
theorem dX2_fight_96 : decode cX2_fight 96 = .ok (.return_, 1) := by decide +kernel
theorem mv_X2_fight : MV yX2_fight RX2 cX2_fight 4 none 1 := ⟨tb_1157, tb_1155, tb_1156, tb_12, by decide +kernel, by decide +kernel, by decide +kernel⟩
def f_X2_fight_b9 (fu : Nat) (a_courage : Nat → Int32) (a_weight : Nat → Int32) (a_liked : Nat → Int32) (a_count : Int32) (a_pride : Int32) (w_deed : Nat → Int32) (w_man : Nat → Int32) (w_other : Nat → Int32) (w_sign : Nat → Int32) (w_number : Nat → Int32) (w_mate : Nat → Int32) (w_rows : Int32) (x1 : Int32) (k9 : (Nat → Int32) → Int32 → Int32 → Int32 → Int32 → Int32 → Int32 → Int32 → Int32 → (Nat → Int32) → (Nat → Int32) → (Nat → Int32) → (Nat → Int32) → Int32 → Int32 → Int32 → Int32 → Int32 → (Option ((Nat → Int32) × Int32 × Int32 × Int32 × Int32 × Int32 × Int32 × Int32 × Int32 × (Nat → Int32) × (Nat → Int32) × (Nat → Int32) × (Nat → Int32) × Int32 × Int32 × Int32))) (c_roundsLeft : Nat → Int32) (c_drawn : Int32) (c_fought : Int32) (c_steps : Int32) (c_missed : Int32) (c_stood : Int32) (c_fled : Int32) (c_pinned : Int32) (c_left : Int32) (a_medals : Nat → Int32) (a_stood : Nat → Int32) (a_fled : Nat → Int32) (a_votes : Nat → Int32) (a_living : Int32) (a_melted : Int32) (a_lost : Int32) (x2 : Int32) (x3 : Int32) : Option ((Nat → Int32) × Int32 × Int32 × Int32 × Int32 × Int32 × Int32 × Int32 × Int32 × (Nat → Int32) × (Nat → Int32) × (Nat → Int32) × (Nat → Int32) × Int32 × Int32 × Int32) := (if 1000000 ≤ x3 then some (c_roundsLeft, c_drawn, c_fought, c_steps, c_missed, c_stood, c_fled, c_pinned, c_left, a_medals, a_stood, a_fled, a_votes, a_living, a_melted, a_lost) else (f_X11_within fu x2 0 (w_rows - 1)).bind fun z_14 => (if z_14 = 0 then some (c_roundsLeft, c_drawn, c_fought, c_steps, c_missed, c_stood, c_fled, c_pinned, c_left, a_medals, a_stood, a_fled, a_votes, a_living, a_melted, a_lost) else (rdI w_deed 60 x2).bind fun y_16 => (if y_16 = 17 then (f_X2_behindEnd fu c_roundsLeft w_deed w_mate x2).bind fun z_22 => bnd (x3 + 1) fun x3_23 => k9 z_22.2 c_drawn c_fought c_steps c_missed c_stood c_fled c_pinned c_left a_medals a_stood a_fled a_votes a_living a_melted a_lost z_22.1 x3_23 else (if 300 ≤ c_steps then some (c_roundsLeft, c_drawn, c_fought, c_steps, c_missed, c_stood, c_fled, c_pinned, 1, a_medals, a_stood, a_fled, a_votes, a_living, a_melted, a_lost) else bnd (c_steps + 1) fun c_steps_19 => (f_X2_behindStep fu c_roundsLeft c_drawn c_missed c_stood c_fled c_pinned a_courage a_weight a_medals a_stood a_fled a_liked a_votes a_count a_living a_pride a_melted a_lost w_deed w_man w_other w_sign w_number w_mate w_rows x2).bind fun z_20 => bnd (x3 + 1) fun x3_21 => k9 z_20.2.1 z_20.2.2.1 c_fought c_steps_19 z_20.2.2.2.1 z_20.2.2.2.2.1 z_20.2.2.2.2.2.1 z_20.2.2.2.2.2.2.1 c_left z_20.2.2.2.2.2.2.2.1 z_20.2.2.2.2.2.2.2.2.1 z_20.2.2.2.2.2.2.2.2.2.1 z_20.2.2.2.2.2.2.2.2.2.2.1 z_20.2.2.2.2.2.2.2.2.2.2.2.1 z_20.2.2.2.2.2.2.2.2.2.2.2.2.1 z_20.2.2.2.2.2.2.2.2.2.2.2.2.2 z_20.1 x3_21))))
def f_X2_fight_l9 (fu : Nat) (a_courage : Nat → Int32) (a_weight : Nat → Int32) (a_liked : Nat → Int32) (a_count : Int32) (a_pride : Int32) (w_deed : Nat → Int32) (w_man : Nat → Int32) (w_other : Nat → Int32) (w_sign : Nat → Int32) (w_number : Nat → Int32) (w_mate : Nat → Int32) (w_rows : Int32) (x1 : Int32) : Nat → (Nat → Int32) → Int32 → Int32 → Int32 → Int32 → Int32 → Int32 → Int32 → Int32 → (Nat → Int32) → (Nat → Int32) → (Nat → Int32) → (Nat → Int32) → Int32 → Int32 → Int32 → Int32 → Int32 → (Option ((Nat → Int32) × Int32 × Int32 × Int32 × Int32 × Int32 × Int32 × Int32 × Int32 × (Nat → Int32) × (Nat → Int32) × (Nat → Int32) × (Nat → Int32) × Int32 × Int32 × Int32))
  | 0, _, _, _, _, _, _, _, _, _, _, _, _, _, _, _, _, _, _ => none
  | n + 1, c_roundsLeft, c_drawn, c_fought, c_steps, c_missed, c_stood, c_fled, c_pinned, c_left, a_medals, a_stood, a_fled, a_votes, a_living, a_melted, a_lost, x2, x3 => f_X2_fight_b9 fu a_courage a_weight a_liked a_count a_pride w_deed w_man w_other w_sign w_number w_mate w_rows x1 (f_X2_fight_l9 fu a_courage a_weight a_liked a_count a_pride w_deed w_man w_other w_sign w_number w_mate w_rows x1 n) c_roundsLeft c_drawn c_fought c_steps c_missed c_stood c_fled c_pinned c_left a_medals a_stood a_fled a_votes a_living a_melted a_lost x2 x3
def f_X2_fight (fu : Nat) (c_roundsLeft : Nat → Int32) (c_drawn : Int32) (c_fought : Int32) (c_steps : Int32) (c_missed : Int32) (c_stood : Int32) (c_fled : Int32) (c_pinned : Int32) (c_left : Int32) (a_courage : Nat → Int32) (a_weight : Nat → Int32) (a_medals : Nat → Int32) (a_stood : Nat → Int32) (a_fled : Nat → Int32) (a_liked : Nat → Int32) (a_votes : Nat → Int32) (a_count : Int32) (a_living : Int32) (a_pride : Int32) (a_melted : Int32) (a_lost : Int32) (w_deed : Nat → Int32) (w_man : Nat → Int32) (w_other : Nat → Int32) (w_sign : Nat → Int32) (w_number : Nat → Int32) (w_mate : Nat → Int32) (w_rows : Int32) (x1 : Int32) : Option ((Nat → Int32) × Int32 × Int32 × Int32 × Int32 × Int32 × Int32 × Int32 × Int32 × (Nat → Int32) × (Nat → Int32) × (Nat → Int32) × (Nat → Int32) × Int32 × Int32 × Int32) := (f_X2_begin fu c_drawn c_fought c_steps c_missed c_stood c_fled c_pinned c_left x1).bind fun z_24 => f_X2_fight_l9 fu a_courage a_weight a_liked a_count a_pride w_deed w_man w_other w_sign w_number w_mate w_rows x1 fu c_roundsLeft z_24.1 z_24.2.1 z_24.2.2.1 z_24.2.2.2.1 z_24.2.2.2.2.1 z_24.2.2.2.2.2.1 z_24.2.2.2.2.2.2.1 z_24.2.2.2.2.2.2.2 a_medals a_stood a_fled a_votes a_living a_melted a_lost 0 0
abbrev rm_X2_fight : Room := { frames := 5, cells := 0, slots := 0, locals := 118 }
set_option maxHeartbeats 4000000 in
set_option maxRecDepth 100000 in
theorem c_X2_fight (l : Launch) (D : va_G) (cy : Nat → ClassId) (fu : Nat) (A_c : Nat → Nat) (c_roundsLeft : Nat → Int32) (c_drawn : Int32) (c_fought : Int32) (c_steps : Int32) (c_missed : Int32) (c_stood : Int32) (c_fled : Int32) (c_pinned : Int32) (c_left : Int32) (A_a : Nat → Nat) (a_name : Nat → Int64) (a_courage : Nat → Int32) (a_weight : Nat → Int32) (a_medals : Nat → Int32) (a_stood : Nat → Int32) (a_fled : Nat → Int32) (a_liked : Nat → Int32) (a_votes : Nat → Int32) (a_count : Int32) (a_living : Int32) (a_pride : Int32) (a_quota : Int32) (a_melted : Int32) (a_lost : Int32) (A_w : Nat → Nat) (w_deed : Nat → Int32) (w_man : Nat → Int32) (w_other : Nat → Int32) (w_sign : Nat → Int32) (w_number : Nat → Int32) (w_mate : Nat → Int32) (w_there : Int32) (w_rows : Int32) (w_steps : Int32) (x1 : Int32) (res : (Nat → Int32) × Int32 × Int32 × Int32 × Int32 × Int32 × Int32 × Int32 × Int32 × (Nat → Int32) × (Nat → Int32) × (Nat → Int32) × (Nat → Int32) × Int32 × Int32 × Int32) (h : f_X2_fight fu c_roundsLeft c_drawn c_fought c_steps c_missed c_stood c_fled c_pinned c_left a_courage a_weight a_medals a_stood a_fled a_liked a_votes a_count a_living a_pride a_melted a_lost w_deed w_man w_other w_sign w_number w_mate w_rows x1 = some res) (A : Nat → Prop) (hA : A = adr [bl_X2 cy A_c (A_a 0) (A_w 0) c_roundsLeft c_drawn c_fought c_steps c_missed c_stood c_fled c_pinned c_left, bl_X0 cy A_a a_name a_courage a_weight a_medals a_stood a_fled a_liked a_votes a_count a_living a_pride a_quota a_melted a_lost, bl_X9 cy A_w w_deed w_man w_other w_sign w_number w_mate w_there w_rows w_steps]) (W1 : List va_W) (hW1 : W1 = [bl_X2 cy A_c (A_a 0) (A_w 0) res.1 res.2.1 res.2.2.1 res.2.2.2.1 res.2.2.2.2.1 res.2.2.2.2.2.1 res.2.2.2.2.2.2.1 res.2.2.2.2.2.2.2.1 res.2.2.2.2.2.2.2.2.1, bl_X0 cy A_a a_name a_courage a_weight res.2.2.2.2.2.2.2.2.2.1 res.2.2.2.2.2.2.2.2.2.2.1 res.2.2.2.2.2.2.2.2.2.2.2.1 a_liked res.2.2.2.2.2.2.2.2.2.2.2.2.1 a_count res.2.2.2.2.2.2.2.2.2.2.2.2.2.1 a_pride a_quota res.2.2.2.2.2.2.2.2.2.2.2.2.2.2.1 res.2.2.2.2.2.2.2.2.2.2.2.2.2.2.2, bl_X9 cy A_w w_deed w_man w_other w_sign w_number w_mate w_there w_rows w_steps]) : Met l yX2_fight (WW yX2_fight cX2_fight 4 none) rm_X2_fight (Ed D cy [.ref (A_c 0), .int x1] [bl_X2 cy A_c (A_a 0) (A_w 0) c_roundsLeft c_drawn c_fought c_steps c_missed c_stood c_fled c_pinned c_left, bl_X0 cy A_a a_name a_courage a_weight a_medals a_stood a_fled a_liked a_votes a_count a_living a_pride a_quota a_melted a_lost, bl_X9 cy A_w w_deed w_man w_other w_sign w_number w_mate w_there w_rows w_steps]) (Qev D A W1) 0 0 A := by
  refine Met.ofW (cc := cX2_fight) (maxL := 4) (ret := none) (by decide) rfl ?_
  intro p e s m args below meth c s₁ B hml hv
  obtain ⟨hargs, hP, hX, hD0⟩ := hv
  have hx := B.exec
  have hb := B.bytes
  have hr := B.returns
  have ht : ∀ w ∈ lw_gd, w.before args s = true := fun w hw => atoms_spec (ws := WW yX2_fight cX2_fight 4 none) B.pre w (List.mem_cons_of_mem _ hw)
  have hown : s.vm.findClass RX2 = some m.cls := findClass_of_methodNamed B.named
  have hlocks := B.notSynchronized
  have hP : PD D A [bl_X2 cy A_c (A_a 0) (A_w 0) c_roundsLeft c_drawn c_fought c_steps c_missed c_stood c_fled c_pinned c_left, bl_X0 cy A_a a_name a_courage a_weight a_medals a_stood a_fled a_liked a_votes a_count a_living a_pride a_quota a_melted a_lost, bl_X9 cy A_w w_deed w_man w_other w_sign w_number w_mate w_there w_rows w_steps] s.heap := ⟨hP, by rw [hA]; exact hD0.own⟩
  have hS : va_S A s.heap s.heap [] := va_S.rf
  obtain ⟨ls, hl, hent⟩ := ent (m := m) (n := 4) hargs (Nat.le_of_ble_eq_true rfl) (lv := [(0, .ref (A_c 0)), (1, .int x1)]) rfl
  rw [hent]
  clear hent
  have l9 : ∀ (n9 : Nat) (c_roundsLeft : Nat → Int32) (c_drawn : Int32) (c_fought : Int32) (c_steps : Int32) (c_missed : Int32) (c_stood : Int32) (c_fled : Int32) (c_pinned : Int32) (c_left : Int32) (a_medals : Nat → Int32) (a_stood : Nat → Int32) (a_fled : Nat → Int32) (a_votes : Nat → Int32) (a_living : Int32) (a_melted : Int32) (a_lost : Int32) (x2 : Int32) (x3 : Int32) (H : Heap) (locs : List Loc) (_ : PD D A [bl_X2 cy A_c (A_a 0) (A_w 0) c_roundsLeft c_drawn c_fought c_steps c_missed c_stood c_fled c_pinned c_left, bl_X0 cy A_a a_name a_courage a_weight a_medals a_stood a_fled a_liked a_votes a_count a_living a_pride a_quota a_melted a_lost, bl_X9 cy A_w w_deed w_man w_other w_sign w_number w_mate w_there w_rows w_steps] H) (_ : va_S A s.heap H locs) (ls : Array Slot), lv_has ls 4 [(0, .ref (A_c 0)), (2, .int x2), (3, .int x3)] → f_X2_fight_l9 fu a_courage a_weight a_liked a_count a_pride w_deed w_man w_other w_sign w_number w_mate w_rows x1 n9 c_roundsLeft c_drawn c_fought c_steps c_missed c_stood c_fled c_pinned c_left a_medals a_stood a_fled a_votes a_living a_melted a_lost x2 x3 = some res → W p l e (headSpec (WW yX2_fight cX2_fight 4 none) rm_X2_fight).room s m args below meth c H locs 0 0 (MQ below (Qev D A W1) args s 0 0 A) (F0 m 9 ls []) := by
    intro n9
    induction n9 with
    | zero => intro c_roundsLeft c_drawn c_fought c_steps c_missed c_stood c_fled c_pinned c_left a_medals a_stood a_fled a_votes a_living a_melted a_lost x2 x3 H locs hP hS ls hl h; cases h
    | succ n9 ih9 =>
      intro c_roundsLeft c_drawn c_fought c_steps c_missed c_stood c_fled c_pinned c_left a_medals a_stood a_fled a_votes a_living a_melted a_lost x2 x3 H locs hP hS ls hl h
      have h : f_X2_fight_b9 fu a_courage a_weight a_liked a_count a_pride w_deed w_man w_other w_sign w_number w_mate w_rows x1 (f_X2_fight_l9 fu a_courage a_weight a_liked a_count a_pride w_deed w_man w_other w_sign w_number w_mate w_rows x1 n9) c_roundsLeft c_drawn c_fought c_steps c_missed c_stood c_fled c_pinned c_left a_medals a_stood a_fled a_votes a_living a_melted a_lost x2 x3 = some res := h
      unfold f_X2_fight_b9 at h
      refine lv_iload_n hx hb dX2_fight_9 rfl (lv_at hl 2 rfl) ?_
      refine lv_ldc (v := 1000000) hx hb hown (ht _ tb_1162) dX2_fight_10 ?_
      refine lv_icmp_ge (tgt := 96) hx hb dX2_fight_12 (by decide) (fun c_13 => ?_) (fun c_13 => ?_)
      · have h := it c_13 h
        cases h
        subst hW1
        exact W.vret hx hb hr (fun _ ht9 _ => ⟨⟨(), rfl, trivial, hPt ht9 hP.1⟩, hS.F ht9⟩) hS.2.2 dX2_fight_96
      · have h := ie c_13 h
        refine lv_iload_n hx hb dX2_fight_15 rfl (lv_at hl 1 rfl) ?_
        refine lv_iconst (v := 0) hx hb dX2_fight_16 (by decide) ?_
        refine lv_aload_n hx hb dX2_fight_17 rfl (lv_at hl 0 rfl) ?_
        refine xget (i := 0) (j := 0) (k := 2) (T := TX2) hx hb ht tb_iX2 hown hX hP.1 rfl rfl rfl (by decide) tb_326 rfl dX2_fight_18 ?_
        refine xget (i := 2) (j := 0) (k := 7) (T := TX9) hx hb ht tb_iX9 hown hX hP.1 rfl rfl rfl (by decide) tb_132 rfl dX2_fight_21 ?_
        refine lv_iconst (v := 1) hx hb dX2_fight_24 (by decide) ?_
        refine lv_isub hx hb dX2_fight_25 ?_
        obtain ⟨z_14, e_z_14, h⟩ := bi h
        refine roNi (rest := []) ⟨hx, hb, hml, hown, ht⟩ (c_X11_within l D cy fu  x2 0 (w_rows - 1) z_14 e_z_14) (cN ht hX ms_X11_within (List.mem_of_getElem? (i := 12) rfl) rfl rfl ⟨Nat.le_of_ble_eq_true rfl, Nat.le_of_ble_eq_true rfl⟩) (P_sub hP.1 [] rfl) hX rfl hl.1 rfl (Nat.le_of_ble_eq_true rfl) dX2_fight_26 ⟨Nat.le_of_ble_eq_true rfl, Nat.le_of_ble_eq_true rfl⟩ ?_
        refine lv_if_eq (tgt := 96) hx hb dX2_fight_29 (by decide) (fun c_15 => ?_) (fun c_15 => ?_)
        · have h := it c_15 h
          cases h
          subst hW1
          exact W.vret hx hb hr (fun _ ht9 _ => ⟨⟨(), rfl, trivial, hPt ht9 hP.1⟩, hS.F ht9⟩) hS.2.2 dX2_fight_96
        · have h := ie c_15 h
          refine lv_aload_n hx hb dX2_fight_32 rfl (lv_at hl 0 rfl) ?_
          refine xget (i := 0) (j := 0) (k := 2) (T := TX2) hx hb ht tb_iX2 hown hX hP.1 rfl rfl rfl (by decide) tb_326 rfl dX2_fight_33 ?_
          refine xget (i := 2) (j := 0) (k := 0) (T := TX9) hx hb ht tb_iX9 hown hX hP.1 rfl rfl rfl (by decide) tb_113 rfl dX2_fight_36 ?_
          refine lv_iload_n hx hb dX2_fight_39 rfl (lv_at hl 1 rfl) ?_
          obtain ⟨y_16, e_y_16, h⟩ := bi h
          refine xiald (i0 := 2) (j0 := 1) hx hb hX hP.1 rfl rfl e_y_16 dX2_fight_40 ?_
          refine lv_bipush (v := 17) hx hb dX2_fight_41 (by decide) ?_
          refine lv_icmp_ne (tgt := 55) hx hb dX2_fight_43 (by decide) (fun c_17 => ?_) (fun c_17 => ?_)
          · have h := ie c_17 h
            refine lv_aload_n hx hb dX2_fight_55 rfl (lv_at hl 0 rfl) ?_
            refine xget (i := 0) (j := 0) (k := 5) (T := TX2) hx hb ht tb_iX2 hown hX hP.1 rfl rfl rfl (by decide) tb_330 rfl dX2_fight_56 ?_
            refine lv_sipush (v := 300) hx hb dX2_fight_59 (by decide) ?_
            refine lv_icmp_ge (tgt := 84) hx hb dX2_fight_62 (by decide) (fun c_18 => ?_) (fun c_18 => ?_)
            · have h := it c_18 h
              refine lv_aload_n hx hb dX2_fight_84 rfl (lv_at hl 0 rfl) ?_
              refine lv_iconst (v := 1) hx hb dX2_fight_85 (by decide) ?_
              refine xput (i := 0) (j := 0) (k := 10) (T := TX2) tyX2 tyX2_ok nmX2 hx hb ht tb_iX2 hown hX hP hS rfl rfl rfl (by decide) tb_336 rfl rfl rfl (Nat.le_of_ble_eq_true rfl) dX2_fight_86 (fun H locs hP hS => ?_)
              have hP : PD D A [bl_X2 cy A_c (A_a 0) (A_w 0) c_roundsLeft c_drawn c_fought c_steps c_missed c_stood c_fled c_pinned 1, bl_X0 cy A_a a_name a_courage a_weight a_medals a_stood a_fled a_liked a_votes a_count a_living a_pride a_quota a_melted a_lost, bl_X9 cy A_w w_deed w_man w_other w_sign w_number w_mate w_there w_rows w_steps] H := hP
              cases h
              subst hW1
              exact W.vret hx hb hr (fun _ ht9 _ => ⟨⟨(), rfl, trivial, hPt ht9 hP.1⟩, hS.F ht9⟩) hS.2.2 dX2_fight_89
            · have h := ie c_18 h
              refine lv_aload_n hx hb dX2_fight_65 rfl (lv_at hl 0 rfl) ?_
              refine lv_dup hx hb dX2_fight_66 rfl ?_
              refine xget (i := 0) (j := 0) (k := 5) (T := TX2) hx hb ht tb_iX2 hown hX hP.1 rfl rfl rfl (by decide) tb_330 rfl dX2_fight_67 ?_
              refine lv_iconst (v := 1) hx hb dX2_fight_70 (by decide) ?_
              refine lv_iadd hx hb dX2_fight_71 ?_
              refine lv_topi (fun c_steps_19 e_c_steps_19 => ?_)
              have h := bn e_c_steps_19 h
              refine xput (i := 0) (j := 0) (k := 5) (T := TX2) tyX2 tyX2_ok nmX2 hx hb ht tb_iX2 hown hX hP hS rfl rfl rfl (by decide) tb_330 rfl rfl rfl (Nat.le_of_ble_eq_true rfl) dX2_fight_72 (fun H locs hP hS => ?_)
              have hP : PD D A [bl_X2 cy A_c (A_a 0) (A_w 0) c_roundsLeft c_drawn c_fought c_steps_19 c_missed c_stood c_fled c_pinned c_left, bl_X0 cy A_a a_name a_courage a_weight a_medals a_stood a_fled a_liked a_votes a_count a_living a_pride a_quota a_melted a_lost, bl_X9 cy A_w w_deed w_man w_other w_sign w_number w_mate w_there w_rows w_steps] H := hP
              refine lv_aload_n hx hb dX2_fight_75 rfl (lv_at hl 0 rfl) ?_
              refine lv_iload_n hx hb dX2_fight_76 rfl (lv_at hl 1 rfl) ?_
              obtain ⟨z_20, e_z_20, h⟩ := bi h
              refine efVi (rest := []) ⟨hx, hb, hml, hown, ht⟩ (c_X2_behindStep l D cy fu A_c c_roundsLeft c_drawn c_fought c_steps_19 c_missed c_stood c_fled c_pinned c_left A_a a_name a_courage a_weight a_medals a_stood a_fled a_liked a_votes a_count a_living a_pride a_quota a_melted a_lost A_w w_deed w_man w_other w_sign w_number w_mate w_there w_rows w_steps x2 z_20 e_z_20 _ rfl _ rfl) (cV ht mv_X2_behindStep tb_1168 rfl rfl ⟨Nat.le_of_ble_eq_true rfl, Nat.le_of_ble_eq_true rfl⟩) hP hS hX [0, 1, 2] rfl rfl rfl rfl rfl rfl hl.1 rfl (Nat.le_of_ble_eq_true rfl) dX2_fight_77 ⟨Nat.le_of_ble_eq_true rfl, Nat.le_of_ble_eq_true rfl⟩ (fun H locs hP hS => ?_)
              have hP : PD D A [bl_X2 cy A_c (A_a 0) (A_w 0) z_20.2.1 z_20.2.2.1 c_fought c_steps_19 z_20.2.2.2.1 z_20.2.2.2.2.1 z_20.2.2.2.2.2.1 z_20.2.2.2.2.2.2.1 c_left, bl_X0 cy A_a a_name a_courage a_weight z_20.2.2.2.2.2.2.2.1 z_20.2.2.2.2.2.2.2.2.1 z_20.2.2.2.2.2.2.2.2.2.1 a_liked z_20.2.2.2.2.2.2.2.2.2.2.1 a_count z_20.2.2.2.2.2.2.2.2.2.2.2.1 a_pride a_quota z_20.2.2.2.2.2.2.2.2.2.2.2.2.1 z_20.2.2.2.2.2.2.2.2.2.2.2.2.2, bl_X9 cy A_w w_deed w_man w_other w_sign w_number w_mate w_there w_rows w_steps] H := hP
              refine lv_istore_n (lv' := [(2, .int z_20.1), (0, .ref (A_c 0)), (3, .int x3)]) hx hb dX2_fight_80 rfl hl (by decide) rfl (fun ls hl => ?_)
              refine lv_goto (tgt := 90) hx hb dX2_fight_81 (by decide) ?_
              obtain ⟨x3_21, e_x3_21⟩ : ∃ y : Int32, y = x3 + 1 := ⟨_, rfl⟩
              have h := bn e_x3_21 h
              refine lv_iinc (v := x3_21) (lv' := [(3, .int x3_21), (2, .int z_20.1), (0, .ref (A_c 0))]) hx hb dX2_fight_90 hl (k := 2) rfl (by rw [e_x3_21]; rfl) (by decide) rfl (fun ls hl => ?_)
              refine lv_goto (tgt := 9) hx hb dX2_fight_93 (by decide) ?_
              exact ih9 z_20.2.1 z_20.2.2.1 c_fought c_steps_19 z_20.2.2.2.1 z_20.2.2.2.2.1 z_20.2.2.2.2.2.1 z_20.2.2.2.2.2.2.1 c_left z_20.2.2.2.2.2.2.2.1 z_20.2.2.2.2.2.2.2.2.1 z_20.2.2.2.2.2.2.2.2.2.1 z_20.2.2.2.2.2.2.2.2.2.2.1 z_20.2.2.2.2.2.2.2.2.2.2.2.1 z_20.2.2.2.2.2.2.2.2.2.2.2.2.1 z_20.2.2.2.2.2.2.2.2.2.2.2.2.2 z_20.1 x3_21 _ _ hP hS ls (lv_sub hl [2, 1, 0] rfl) h
          · have h := it c_17 h
            refine lv_aload_n hx hb dX2_fight_46 rfl (lv_at hl 0 rfl) ?_
            refine lv_iload_n hx hb dX2_fight_47 rfl (lv_at hl 1 rfl) ?_
            obtain ⟨z_22, e_z_22, h⟩ := bi h
            refine efVi (rest := []) ⟨hx, hb, hml, hown, ht⟩ (c_X2_behindEnd l D cy fu A_c c_roundsLeft c_drawn c_fought c_steps c_missed c_stood c_fled c_pinned c_left A_a a_name a_courage a_weight a_medals a_stood a_fled a_liked a_votes a_count a_living a_pride a_quota a_melted a_lost A_w w_deed w_man w_other w_sign w_number w_mate w_there w_rows w_steps x2 z_22 e_z_22 _ rfl _ rfl) (cV ht mv_X2_behindEnd tb_1164 rfl rfl ⟨Nat.le_of_ble_eq_true rfl, Nat.le_of_ble_eq_true rfl⟩) hP hS hX [0, 1, 2] rfl rfl rfl rfl rfl rfl hl.1 rfl (Nat.le_of_ble_eq_true rfl) dX2_fight_48 ⟨Nat.le_of_ble_eq_true rfl, Nat.le_of_ble_eq_true rfl⟩ (fun H locs hP hS => ?_)
            have hP : PD D A [bl_X2 cy A_c (A_a 0) (A_w 0) z_22.2 c_drawn c_fought c_steps c_missed c_stood c_fled c_pinned c_left, bl_X0 cy A_a a_name a_courage a_weight a_medals a_stood a_fled a_liked a_votes a_count a_living a_pride a_quota a_melted a_lost, bl_X9 cy A_w w_deed w_man w_other w_sign w_number w_mate w_there w_rows w_steps] H := hP
            refine lv_istore_n (lv' := [(2, .int z_22.1), (0, .ref (A_c 0)), (3, .int x3)]) hx hb dX2_fight_51 rfl hl (by decide) rfl (fun ls hl => ?_)
            refine lv_goto (tgt := 90) hx hb dX2_fight_52 (by decide) ?_
            obtain ⟨x3_23, e_x3_23⟩ : ∃ y : Int32, y = x3 + 1 := ⟨_, rfl⟩
            have h := bn e_x3_23 h
            refine lv_iinc (v := x3_23) (lv' := [(3, .int x3_23), (2, .int z_22.1), (0, .ref (A_c 0))]) hx hb dX2_fight_90 hl (k := 2) rfl (by rw [e_x3_23]; rfl) (by decide) rfl (fun ls hl => ?_)
            refine lv_goto (tgt := 9) hx hb dX2_fight_93 (by decide) ?_
            exact ih9 z_22.2 c_drawn c_fought c_steps c_missed c_stood c_fled c_pinned c_left a_medals a_stood a_fled a_votes a_living a_melted a_lost z_22.1 x3_23 _ _ hP hS ls (lv_sub hl [2, 1, 0] rfl) h
  unfold f_X2_fight at h
  refine lv_aload_n hx hb dX2_fight_0 rfl (lv_at hl 0 rfl) ?_
  refine lv_iload_n hx hb dX2_fight_1 rfl (lv_at hl 1 rfl) ?_
  obtain ⟨z_24, e_z_24, h⟩ := bi h
  refine efVv (rest := []) ⟨hx, hb, hml, hown, ht⟩ (c_X2_begin l D cy fu A_c c_roundsLeft c_drawn c_fought c_steps c_missed c_stood c_fled c_pinned c_left A_a a_name a_courage a_weight a_medals a_stood a_fled a_liked a_votes a_count a_living a_pride a_quota a_melted a_lost A_w w_deed w_man w_other w_sign w_number w_mate w_there w_rows w_steps x1 z_24 e_z_24 _ rfl _ rfl) (cV ht mv_X2_begin tb_1158 rfl rfl ⟨Nat.le_of_ble_eq_true rfl, Nat.le_of_ble_eq_true rfl⟩) hP hS hX [0, 1, 2] rfl rfl rfl rfl rfl rfl hl.1 rfl (Nat.le_of_ble_eq_true rfl) dX2_fight_2 ⟨Nat.le_of_ble_eq_true rfl, Nat.le_of_ble_eq_true rfl⟩ (fun H locs hP hS => ?_)
  have hP : PD D A [bl_X2 cy A_c (A_a 0) (A_w 0) c_roundsLeft z_24.1 z_24.2.1 z_24.2.2.1 z_24.2.2.2.1 z_24.2.2.2.2.1 z_24.2.2.2.2.2.1 z_24.2.2.2.2.2.2.1 z_24.2.2.2.2.2.2.2, bl_X0 cy A_a a_name a_courage a_weight a_medals a_stood a_fled a_liked a_votes a_count a_living a_pride a_quota a_melted a_lost, bl_X9 cy A_w w_deed w_man w_other w_sign w_number w_mate w_there w_rows w_steps] H := hP
  refine lv_iconst (v := 0) hx hb dX2_fight_5 (by decide) ?_
  refine lv_istore_n (lv' := [(2, .int 0), (0, .ref (A_c 0)), (1, .int x1)]) hx hb dX2_fight_6 rfl hl (by decide) rfl (fun ls hl => ?_)
  refine lv_iconst (v := 0) hx hb dX2_fight_7 (by decide) ?_
  refine lv_istore_n (lv' := [(3, .int 0), (2, .int 0), (0, .ref (A_c 0)), (1, .int x1)]) hx hb dX2_fight_8 rfl hl (by decide) rfl (fun ls hl => ?_)
  exact l9 fu c_roundsLeft z_24.1 z_24.2.1 z_24.2.2.1 z_24.2.2.2.1 z_24.2.2.2.2.1 z_24.2.2.2.2.2.1 z_24.2.2.2.2.2.2.1 z_24.2.2.2.2.2.2.2 a_medals a_stood a_fled a_votes a_living a_melted a_lost 0 0 _ _ hP hS ls (lv_sub hl [2, 1, 0] rfl) h
theorem dX2_report_0 : decode cX2_report 0 = .ok (.iload_n 1, 1) := by decide +kernel
theorem dX2_report_1 : decode cX2_report 1 = .ok (.tableswitch 51 0 3 #[31, 36, 41, 46], 31) := by decide +kernel
theorem dX2_report_32 : decode cX2_report 32 = .ok (.aload_n 0, 1) := by decide +kernel
theorem dX2_report_33 : decode cX2_report 33 = .ok (.getfield 26, 3) := by decide +kernel
theorem dX2_report_36 : decode cX2_report 36 = .ok (.ireturn, 1) := by decide +kernel
theorem dX2_report_37 : decode cX2_report 37 = .ok (.aload_n 0, 1) := by decide +kernel
theorem dX2_report_38 : decode cX2_report 38 = .ok (.getfield 29, 3) := by decide +kernel
theorem dX2_report_41 : decode cX2_report 41 = .ok (.ireturn, 1) := by decide +kernel
theorem dX2_report_42 : decode cX2_report 42 = .ok (.aload_n 0, 1) := by decide +kernel
theorem dX2_report_43 : decode cX2_report 43 = .ok (.getfield 32, 3) := by decide +kernel
theorem dX2_report_46 : decode cX2_report 46 = .ok (.ireturn, 1) := by decide +kernel
theorem dX2_report_47 : decode cX2_report 47 = .ok (.aload_n 0, 1) := by decide +kernel
theorem dX2_report_48 : decode cX2_report 48 = .ok (.getfield 35, 3) := by decide +kernel
theorem dX2_report_51 : decode cX2_report 51 = .ok (.ireturn, 1) := by decide +kernel
theorem dX2_report_52 : decode cX2_report 52 = .ok (.aload_n 0, 1) := by decide +kernel
theorem dX2_report_53 : decode cX2_report 53 = .ok (.getfield 38, 3) := by decide +kernel
theorem dX2_report_56 : decode cX2_report 56 = .ok (.ireturn, 1) := by decide +kernel
theorem mv_X2_report : MV yX2_report RX2 cX2_report 2 (some .int) 1 := ⟨tb_1203, tb_1201, tb_1202, tb_12, by decide +kernel, by decide +kernel, by decide +kernel⟩
def f_X2_report (fu : Nat) (c_missed : Int32) (c_stood : Int32) (c_fled : Int32) (c_pinned : Int32) (c_left : Int32) (x1 : Int32) : Option (Int32) := (if x1 = 0 then some (c_missed) else (if x1 = 1 then some (c_stood) else (if x1 = 2 then some (c_fled) else (if x1 = 3 then some (c_pinned) else some (c_left)))))
abbrev rm_X2_report : Room := { frames := 0, cells := 0, slots := 0, locals := 0 }
set_option maxHeartbeats 4000000 in
set_option maxRecDepth 100000 in
theorem c_X2_report (l : Launch) (D : va_G) (cy : Nat → ClassId) (fu : Nat) (A_c : Nat → Nat) (c_roundsLeft : Nat → Int32) (c_drawn : Int32) (c_fought : Int32) (c_steps : Int32) (c_missed : Int32) (c_stood : Int32) (c_fled : Int32) (c_pinned : Int32) (c_left : Int32) (A_a : Nat → Nat) (a_name : Nat → Int64) (a_courage : Nat → Int32) (a_weight : Nat → Int32) (a_medals : Nat → Int32) (a_stood : Nat → Int32) (a_fled : Nat → Int32) (a_liked : Nat → Int32) (a_votes : Nat → Int32) (a_count : Int32) (a_living : Int32) (a_pride : Int32) (a_quota : Int32) (a_melted : Int32) (a_lost : Int32) (A_w : Nat → Nat) (w_deed : Nat → Int32) (w_man : Nat → Int32) (w_other : Nat → Int32) (w_sign : Nat → Int32) (w_number : Nat → Int32) (w_mate : Nat → Int32) (w_there : Int32) (w_rows : Int32) (w_steps : Int32) (x1 : Int32) (res : Int32) (h : f_X2_report fu c_missed c_stood c_fled c_pinned c_left x1 = some res) : Met l yX2_report (WW yX2_report cX2_report 2 (some .int)) rm_X2_report (Rd D cy [.ref (A_c 0), .int x1] [bl_X2 cy A_c (A_a 0) (A_w 0) c_roundsLeft c_drawn c_fought c_steps c_missed c_stood c_fled c_pinned c_left, bl_X0 cy A_a a_name a_courage a_weight a_medals a_stood a_fled a_liked a_votes a_count a_living a_pride a_quota a_melted a_lost, bl_X9 cy A_w w_deed w_man w_other w_sign w_number w_mate w_there w_rows w_steps]) (vp_Si (fun v => v = res)) 0 0 (fun _ => False) := by
  refine Met.ofW (cc := cX2_report) (maxL := 2) (ret := (some .int)) (by decide) rfl ?_
  intro p e s m args below meth c s₁ B hml hv
  obtain ⟨hargs, hP, hX⟩ := hv
  have hx := B.exec
  have hb := B.bytes
  have hr := B.returns
  have ht : ∀ w ∈ lw_gd, w.before args s = true := fun w hw => atoms_spec (ws := WW yX2_report cX2_report 2 (some .int)) B.pre w (List.mem_cons_of_mem _ hw)
  have hown : s.vm.findClass RX2 = some m.cls := findClass_of_methodNamed B.named
  have hlocks := B.notSynchronized
  have hP : PB D [bl_X2 cy A_c (A_a 0) (A_w 0) c_roundsLeft c_drawn c_fought c_steps c_missed c_stood c_fled c_pinned c_left, bl_X0 cy A_a a_name a_courage a_weight a_medals a_stood a_fled a_liked a_votes a_count a_living a_pride a_quota a_melted a_lost, bl_X9 cy A_w w_deed w_man w_other w_sign w_number w_mate w_there w_rows w_steps] s.heap := hP
  obtain ⟨ls, hl, hent⟩ := ent (m := m) (n := 2) hargs (Nat.le_of_ble_eq_true rfl) (lv := [(0, .ref (A_c 0)), (1, .int x1)]) rfl
  rw [hent]
  clear hent
  unfold f_X2_report at h
  refine lv_iload_n hx hb dX2_report_0 rfl (lv_at hl 1 rfl) ?_
  by_cases c_5 : x1 = 0
  · have h := it c_5 h
    refine lv_tableIn (tgt := 32) hx hb dX2_report_1 (by rw [c_5]; decide) (by rw [c_5]; decide) (by rw [c_5]; rfl) (by decide) ?_
    refine lv_aload_n hx hb dX2_report_32 rfl (lv_at hl 0 rfl) ?_
    refine xget (i := 0) (j := 0) (k := 6) (T := TX2) hx hb ht tb_iX2 hown hX hP rfl rfl rfl (by decide) tb_332 rfl dX2_report_33 ?_
    cases h
    exact W.iret hx hb hr (fun _ ht9 _ => ⟨_, rfl, rfl, ht9⟩) (fun _ hq => by cases hq) dX2_report_36
  have h := ie c_5 h
  by_cases c_6 : x1 = 1
  · have h := it c_6 h
    refine lv_tableIn (tgt := 37) hx hb dX2_report_1 (by rw [c_6]; decide) (by rw [c_6]; decide) (by rw [c_6]; rfl) (by decide) ?_
    refine lv_aload_n hx hb dX2_report_37 rfl (lv_at hl 0 rfl) ?_
    refine xget (i := 0) (j := 0) (k := 7) (T := TX2) hx hb ht tb_iX2 hown hX hP rfl rfl rfl (by decide) tb_333 rfl dX2_report_38 ?_
    cases h
    exact W.iret hx hb hr (fun _ ht9 _ => ⟨_, rfl, rfl, ht9⟩) (fun _ hq => by cases hq) dX2_report_41
  have h := ie c_6 h
  by_cases c_7 : x1 = 2
  · have h := it c_7 h
    refine lv_tableIn (tgt := 42) hx hb dX2_report_1 (by rw [c_7]; decide) (by rw [c_7]; decide) (by rw [c_7]; rfl) (by decide) ?_
    refine lv_aload_n hx hb dX2_report_42 rfl (lv_at hl 0 rfl) ?_
    refine xget (i := 0) (j := 0) (k := 8) (T := TX2) hx hb ht tb_iX2 hown hX hP rfl rfl rfl (by decide) tb_334 rfl dX2_report_43 ?_
    cases h
    exact W.iret hx hb hr (fun _ ht9 _ => ⟨_, rfl, rfl, ht9⟩) (fun _ hq => by cases hq) dX2_report_46
  have h := ie c_7 h
  by_cases c_8 : x1 = 3
  · have h := it c_8 h
    refine lv_tableIn (tgt := 47) hx hb dX2_report_1 (by rw [c_8]; decide) (by rw [c_8]; decide) (by rw [c_8]; rfl) (by decide) ?_
    refine lv_aload_n hx hb dX2_report_47 rfl (lv_at hl 0 rfl) ?_
    refine xget (i := 0) (j := 0) (k := 9) (T := TX2) hx hb ht tb_iX2 hown hX hP rfl rfl rfl (by decide) tb_335 rfl dX2_report_48 ?_
    cases h
    exact W.iret hx hb hr (fun _ ht9 _ => ⟨_, rfl, rfl, ht9⟩) (fun _ hq => by cases hq) dX2_report_51
  have h := ie c_8 h
  refine lv_tableOut (tgt := 52) hx hb dX2_report_1 (by have n_c_5 := lv_neT (a := 0) c_5 rfl; have n_c_6 := lv_neT (a := 1) c_6 rfl; have n_c_7 := lv_neT (a := 2) c_7 rfl; have n_c_8 := lv_neT (a := 3) c_8 rfl; omega) (by decide) ?_
  refine lv_aload_n hx hb dX2_report_52 rfl (lv_at hl 0 rfl) ?_
  refine xget (i := 0) (j := 0) (k := 10) (T := TX2) hx hb ht tb_iX2 hown hX hP rfl rfl rfl (by decide) tb_336 rfl dX2_report_53 ?_
  cases h
  exact W.iret hx hb hr (fun _ ht9 _ => ⟨_, rfl, rfl, ht9⟩) (fun _ hq => by cases hq) dX2_report_56

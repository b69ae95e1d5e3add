theorem dX10_takeEnd_0 : decode cX10_takeEnd 0 = .ok (.aload_n 0, 1) := by decide +kernel
theorem dX10_takeEnd_1 : decode cX10_takeEnd 1 = .ok (.getfield 15, 3) := by decide +kernel
theorem dX10_takeEnd_4 : decode cX10_takeEnd 4 = .ok (.iconst 1, 1) := by decide +kernel
theorem dX10_takeEnd_5 : decode cX10_takeEnd 5 = .ok (.iconst 3, 1) := by decide +kernel
theorem dX10_takeEnd_6 : decode cX10_takeEnd 6 = .ok (.invokestatic 71, 3) := by decide +kernel
theorem dX10_takeEnd_9 : decode cX10_takeEnd 9 = .ok (.ifCond .ne 12, 3) := by decide +kernel
theorem dX10_takeEnd_12 : decode cX10_takeEnd 12 = .ok (.aload_n 0, 1) := by decide +kernel
theorem dX10_takeEnd_13 : decode cX10_takeEnd 13 = .ok (.getfield 19, 3) := by decide +kernel
theorem dX10_takeEnd_16 : decode cX10_takeEnd 16 = .ok (.iconst 2, 1) := by decide +kernel
theorem dX10_takeEnd_17 : decode cX10_takeEnd 17 = .ok (.invokevirtual 68, 3) := by decide +kernel
theorem dX10_takeEnd_20 : decode cX10_takeEnd 20 = .ok (.ireturn, 1) := by decide +kernel
theorem dX10_takeEnd_21 : decode cX10_takeEnd 21 = .ok (.aload_n 0, 1) := by decide +kernel
theorem dX10_takeEnd_22 : decode cX10_takeEnd 22 = .ok (.getfield 19, 3) := by decide +kernel
theorem dX10_takeEnd_25 : decode cX10_takeEnd 25 = .ok (.getfield 46, 3) := by decide +kernel
theorem dX10_takeEnd_28 : decode cX10_takeEnd 28 = .ok (.invokevirtual 75, 3) := by decide +kernel
theorem dX10_takeEnd_31 : decode cX10_takeEnd 31 = .ok (.aload_n 0, 1) := by decide +kernel
theorem dX10_takeEnd_32 : decode cX10_takeEnd 32 = .ok (.getfield 19, 3) := by decide +kernel
theorem dX10_takeEnd_35 : decode cX10_takeEnd 35 = .ok (.bipush 59, 2) := by decide +kernel
theorem dX10_takeEnd_37 : decode cX10_takeEnd 37 = .ok (.invokevirtual 78, 3) := by decide +kernel
theorem dX10_takeEnd_40 : decode cX10_takeEnd 40 = .ok (.ifCond .ne 5, 3) := by decide +kernel
theorem dX10_takeEnd_43 : decode cX10_takeEnd 43 = .ok (.iconst 0, 1) := by decide +kernel
theorem dX10_takeEnd_44 : decode cX10_takeEnd 44 = .ok (.ireturn, 1) := by decide +kernel
theorem dX10_takeEnd_45 : decode cX10_takeEnd 45 = .ok (.aload_n 0, 1) := by decide +kernel
theorem dX10_takeEnd_46 : decode cX10_takeEnd 46 = .ok (.dup, 1) := by decide +kernel
theorem dX10_takeEnd_47 : decode cX10_takeEnd 47 = .ok (.getfield 15, 3) := by decide +kernel
theorem dX10_takeEnd_50 : decode cX10_takeEnd 50 = .ok (.iconst 1, 1) := by decide +kernel
theorem dX10_takeEnd_51 : decode cX10_takeEnd 51 = .ok (.isub, 1) := by decide +kernel
theorem dX10_takeEnd_52 : decode cX10_takeEnd 52 = .ok (.putfield 15, 3) := by decide +kernel
theorem dX10_takeEnd_55 : decode cX10_takeEnd 55 = .ok (.aload_n 0, 1) := by decide +kernel
theorem dX10_takeEnd_56 : decode cX10_takeEnd 56 = .ok (.getfield 23, 3) := by decide +kernel
theorem dX10_takeEnd_59 : decode cX10_takeEnd 59 = .ok (.aload_n 0, 1) := by decide +kernel
theorem dX10_takeEnd_60 : decode cX10_takeEnd 60 = .ok (.getfield 9, 3) := by decide +kernel
theorem dX10_takeEnd_63 : decode cX10_takeEnd 63 = .ok (.aload_n 0, 1) := by decide +kernel
theorem dX10_takeEnd_64 : decode cX10_takeEnd 64 = .ok (.getfield 15, 3) := by decide +kernel
theorem dX10_takeEnd_67 : decode cX10_takeEnd 67 = .ok (.iaload, 1) := by decide +kernel
theorem dX10_takeEnd_68 : decode cX10_takeEnd 68 = .ok (.invokevirtual 81, 3) := by decide +kernel
theorem dX10_takeEnd_71 : decode cX10_takeEnd 71 = .ok (.iconst 1, 1) := by decide +kernel
theorem dX10_takeEnd_72 : decode cX10_takeEnd 72 = .ok (.ireturn, 1) := by decide +kernel
theorem mv_X10_takeEnd : MV yX10_takeEnd RX10 cX10_takeEnd 1 (some .boolean) 0 := ⟨tb_714, tb_713, ts_14, tb_11, by decide +kernel, by decide +kernel, by decide +kernel⟩
def f_X10_takeEnd (fu : Nat) (k_open : Nat → Int32) (k_depth : Int32) (r_fault : Int32) (r_place : Int32) (t_bytes : Nat → Int32) (t_wordCodes : Nat → Int64) (t_kind : Int32) (t_start : Int32) (t_value : Int32) (t_word : Int32) (t_name : Int64) (t_end : Int32) (t_at : Int32) (w_deed : Nat → Int32) (w_mate : Nat → Int32) (w_rows : Int32) : Option (Int32 × Int32 × Int32 × Int32 × Int32 × Int32 × Int32 × Int32 × Int64 × Int32 × (Nat → Int32) × (Nat → Int32) × Int32) := (f_X11_within fu k_depth 1 3).bind fun z_11 => (if z_11 = 0 then (f_X6_fail fu r_fault r_place t_kind t_start 2).bind fun z_19 => (bz z_19.1).bind fun _ => some (z_19.1, k_depth, z_19.2.1, z_19.2.2, t_kind, t_start, t_value, t_word, t_name, t_at, w_deed, w_mate, w_rows) else (f_X7_next fu t_bytes t_wordCodes t_kind t_start t_value t_word t_name t_end t_at).bind fun z_13 => (f_X6_takeSign fu r_fault r_place t_bytes t_wordCodes z_13.1 z_13.2.1 z_13.2.2.1 z_13.2.2.2.1 z_13.2.2.2.2.1 t_end z_13.2.2.2.2.2 59).bind fun z_14 => (if z_14.1 = 0 then some (0, k_depth, z_14.2.1, z_14.2.2.1, z_14.2.2.2.1, z_14.2.2.2.2.1, z_14.2.2.2.2.2.1, z_14.2.2.2.2.2.2.1, z_14.2.2.2.2.2.2.2.1, z_14.2.2.2.2.2.2.2.2, w_deed, w_mate, w_rows) else bnd (k_depth - 1) fun k_depth_16 => (rdI k_open 3 k_depth_16).bind fun y_17 => (f_X9_close fu w_deed w_mate w_rows y_17).bind fun z_18 => some (1, k_depth_16, z_14.2.1, z_14.2.2.1, z_14.2.2.2.1, z_14.2.2.2.2.1, z_14.2.2.2.2.2.1, z_14.2.2.2.2.2.2.1, z_14.2.2.2.2.2.2.2.1, z_14.2.2.2.2.2.2.2.2, z_18.1, z_18.2.1, z_18.2.2)))
abbrev rm_X10_takeEnd : Room := { frames := 3, cells := 0, slots := 0, locals := 64 }
set_option maxHeartbeats 4000000 in
set_option maxRecDepth 100000 in
theorem c_X10_takeEnd (l : Launch) (D : va_G) (cy : Nat → ClassId) (fu : Nat) (A_k : Nat → Nat) (k_open : Nat → Int32) (k_depth : Int32) (A_r : Nat → Nat) (r_fault : Int32) (r_place : Int32) (A_t : Nat → Nat) (t_bytes : Nat → Int32) (t_wordCodes : Nat → Int64) (t_length : Int32) (t_kind : Int32) (t_start : Int32) (t_value : Int32) (t_word : Int32) (t_name : Int64) (t_end : Int32) (t_at : Int32) (A_w : Nat → Nat) (w_deed : Nat → Int32) (w_man : Nat → Int32) (w_other : Nat → Int32) (w_sign : Nat → Int32) (w_number : Nat → Int32) (w_mate : Nat → Int32) (w_there : Int32) (w_rows : Int32) (w_steps : Int32) (A_a : Nat → Nat) (a_name : Nat → Int64) (a_courage : Nat → Int32) (a_weight : Nat → Int32) (a_medals : Nat → Int32) (a_stood : Nat → Int32) (a_fled : Nat → Int32) (a_liked : Nat → Int32) (a_votes : Nat → Int32) (a_count : Int32) (a_living : Int32) (a_pride : Int32) (a_quota : Int32) (a_melted : Int32) (a_lost : Int32) (res : Int32 × Int32 × Int32 × Int32 × Int32 × Int32 × Int32 × Int32 × Int64 × Int32 × (Nat → Int32) × (Nat → Int32) × Int32) (h : f_X10_takeEnd fu k_open k_depth r_fault r_place t_bytes t_wordCodes t_kind t_start t_value t_word t_name t_end t_at w_deed w_mate w_rows = some res) (A : Nat → Prop) (hA : A = adr [bl_X10 cy A_k (A_r 0) (A_w 0) (A_a 0) k_open k_depth, bl_X6 cy A_r (A_t 0) r_fault r_place, bl_X7 cy A_t t_bytes t_wordCodes t_length t_kind t_start t_value t_word t_name t_end t_at, bl_X9 cy A_w w_deed w_man w_other w_sign w_number w_mate w_there w_rows w_steps, bl_X0 cy A_a a_name a_courage a_weight a_medals a_stood a_fled a_liked a_votes a_count a_living a_pride a_quota a_melted a_lost]) (W1 : List va_W) (hW1 : W1 = [bl_X10 cy A_k (A_r 0) (A_w 0) (A_a 0) k_open res.2.1, bl_X6 cy A_r (A_t 0) res.2.2.1 res.2.2.2.1, bl_X7 cy A_t t_bytes t_wordCodes t_length res.2.2.2.2.1 res.2.2.2.2.2.1 res.2.2.2.2.2.2.1 res.2.2.2.2.2.2.2.1 res.2.2.2.2.2.2.2.2.1 t_end res.2.2.2.2.2.2.2.2.2.1, bl_X9 cy A_w res.2.2.2.2.2.2.2.2.2.2.1 w_man w_other w_sign w_number res.2.2.2.2.2.2.2.2.2.2.2.1 w_there res.2.2.2.2.2.2.2.2.2.2.2.2 w_steps, bl_X0 cy A_a a_name a_courage a_weight a_medals a_stood a_fled a_liked a_votes a_count a_living a_pride a_quota a_melted a_lost]) : Met l yX10_takeEnd (WW yX10_takeEnd cX10_takeEnd 1 (some .boolean)) rm_X10_takeEnd (Ed D cy [.ref (A_k 0)] [bl_X10 cy A_k (A_r 0) (A_w 0) (A_a 0) k_open k_depth, bl_X6 cy A_r (A_t 0) r_fault r_place, bl_X7 cy A_t t_bytes t_wordCodes t_length t_kind t_start t_value t_word t_name t_end t_at, bl_X9 cy A_w w_deed w_man w_other w_sign w_number w_mate w_there w_rows w_steps, bl_X0 cy A_a a_name a_courage a_weight a_medals a_stood a_fled a_liked a_votes a_count a_living a_pride a_quota a_melted a_lost]) (Qei D res.1 A W1) 0 0 A := by
  refine Met.ofW (cc := cX10_takeEnd) (maxL := 1) (ret := (some .boolean)) (by decide) rfl ?_
  intro p e s m args below meth c s₁ B hml hv
  obtain ⟨hargs, hP, hX, hD0⟩ := hv
  have hx := B.exec
  have hb := B.bytes
  have hr := B.returns
  have ht : ∀ w ∈ lw_gd, w.before args s = true := fun w hw => atoms_spec (ws := WW yX10_takeEnd cX10_takeEnd 1 (some .boolean)) B.pre w (List.mem_cons_of_mem _ hw)
  have hown : s.vm.findClass RX10 = some m.cls := findClass_of_methodNamed B.named
  have hlocks := B.notSynchronized
  have hP : PD D A [bl_X10 cy A_k (A_r 0) (A_w 0) (A_a 0) k_open k_depth, bl_X6 cy A_r (A_t 0) r_fault r_place, bl_X7 cy A_t t_bytes t_wordCodes t_length t_kind t_start t_value t_word t_name t_end t_at, bl_X9 cy A_w w_deed w_man w_other w_sign w_number w_mate w_there w_rows w_steps, bl_X0 cy A_a a_name a_courage a_weight a_medals a_stood a_fled a_liked a_votes a_count a_living a_pride a_quota a_melted a_lost] s.heap := ⟨hP, by rw [hA]; exact hD0.own⟩
  have hS : va_S A s.heap s.heap [] := va_S.rf
  obtain ⟨ls, hl, hent⟩ := ent (m := m) (n := 1) hargs (Nat.le_of_ble_eq_true rfl) (lv := [(0, .ref (A_k 0))]) rfl
  rw [hent]
  clear hent
  unfold f_X10_takeEnd at h
  refine lv_aload_n hx hb dX10_takeEnd_0 rfl (lv_at hl 0 rfl) ?_
  refine xget (i := 0) (j := 0) (k := 4) (T := TX10) hx hb ht tb_iX10 hown hX hP.1 rfl rfl rfl (by decide) tb_304 rfl dX10_takeEnd_1 ?_
  refine lv_iconst (v := 1) hx hb dX10_takeEnd_4 (by decide) ?_
  refine lv_iconst (v := 3) hx hb dX10_takeEnd_5 (by decide) ?_
  obtain ⟨z_11, e_z_11, h⟩ := bi h
  refine roNi (rest := []) ⟨hx, hb, hml, hown, ht⟩ (c_X11_within l D cy fu  k_depth 1 3 z_11 e_z_11) (cN ht hX ms_X11_within (List.mem_of_getElem? (i := 8) rfl) rfl rfl ⟨Nat.le_of_ble_eq_true rfl, Nat.le_of_ble_eq_true rfl⟩) (P_sub hP.1 [] rfl) hX rfl hl.1 rfl (Nat.le_of_ble_eq_true rfl) dX10_takeEnd_6 ⟨Nat.le_of_ble_eq_true rfl, Nat.le_of_ble_eq_true rfl⟩ ?_
  refine lv_if_ne (tgt := 21) hx hb dX10_takeEnd_9 (by decide) (fun c_12 => ?_) (fun c_12 => ?_)
  · have h := ie c_12 h
    refine lv_aload_n hx hb dX10_takeEnd_21 rfl (lv_at hl 0 rfl) ?_
    refine xget (i := 0) (j := 0) (k := 0) (T := TX10) hx hb ht tb_iX10 hown hX hP.1 rfl rfl rfl (by decide) tb_300 rfl dX10_takeEnd_22 ?_
    refine xget (i := 1) (j := 0) (k := 0) (T := TX6) hx hb ht tb_iX6 hown hX hP.1 rfl rfl rfl (by decide) tb_262 rfl dX10_takeEnd_25 ?_
    obtain ⟨z_13, e_z_13, h⟩ := bi h
    refine efVv (rest := []) ⟨hx, hb, hml, hown, ht⟩ (c_X7_next l D cy fu A_t t_bytes t_wordCodes t_length t_kind t_start t_value t_word t_name t_end t_at z_13 e_z_13 _ rfl _ rfl) (cV ht mv_X7_next tb_717 rfl rfl ⟨Nat.le_of_ble_eq_true rfl, Nat.le_of_ble_eq_true rfl⟩) hP hS hX [2] rfl rfl rfl rfl rfl rfl hl.1 rfl (Nat.le_of_ble_eq_true rfl) dX10_takeEnd_28 ⟨Nat.le_of_ble_eq_true rfl, Nat.le_of_ble_eq_true rfl⟩ (fun H locs hP hS => ?_)
    have hP : PD D A [bl_X10 cy A_k (A_r 0) (A_w 0) (A_a 0) k_open k_depth, bl_X6 cy A_r (A_t 0) r_fault r_place, bl_X7 cy A_t t_bytes t_wordCodes t_length z_13.1 z_13.2.1 z_13.2.2.1 z_13.2.2.2.1 z_13.2.2.2.2.1 t_end z_13.2.2.2.2.2, bl_X9 cy A_w w_deed w_man w_other w_sign w_number w_mate w_there w_rows w_steps, bl_X0 cy A_a a_name a_courage a_weight a_medals a_stood a_fled a_liked a_votes a_count a_living a_pride a_quota a_melted a_lost] H := hP
    refine lv_aload_n hx hb dX10_takeEnd_31 rfl (lv_at hl 0 rfl) ?_
    refine xget (i := 0) (j := 0) (k := 0) (T := TX10) hx hb ht tb_iX10 hown hX hP.1 rfl rfl rfl (by decide) tb_300 rfl dX10_takeEnd_32 ?_
    refine lv_bipush (v := 59) hx hb dX10_takeEnd_35 (by decide) ?_
    obtain ⟨z_14, e_z_14, h⟩ := bi h
    refine efVi (rest := []) ⟨hx, hb, hml, hown, ht⟩ (c_X6_takeSign l D cy fu A_r r_fault r_place A_t t_bytes t_wordCodes t_length z_13.1 z_13.2.1 z_13.2.2.1 z_13.2.2.2.1 z_13.2.2.2.2.1 t_end z_13.2.2.2.2.2 59 z_14 e_z_14 _ rfl _ rfl) (cV ht mv_X6_takeSign tb_718 rfl rfl ⟨Nat.le_of_ble_eq_true rfl, Nat.le_of_ble_eq_true rfl⟩) hP hS hX [1, 2] rfl rfl rfl rfl rfl rfl hl.1 rfl (Nat.le_of_ble_eq_true rfl) dX10_takeEnd_37 ⟨Nat.le_of_ble_eq_true rfl, Nat.le_of_ble_eq_true rfl⟩ (fun H locs hP hS => ?_)
    have hP : PD D A [bl_X10 cy A_k (A_r 0) (A_w 0) (A_a 0) k_open k_depth, bl_X6 cy A_r (A_t 0) z_14.2.1 z_14.2.2.1, bl_X7 cy A_t t_bytes t_wordCodes t_length z_14.2.2.2.1 z_14.2.2.2.2.1 z_14.2.2.2.2.2.1 z_14.2.2.2.2.2.2.1 z_14.2.2.2.2.2.2.2.1 t_end z_14.2.2.2.2.2.2.2.2, bl_X9 cy A_w w_deed w_man w_other w_sign w_number w_mate w_there w_rows w_steps, bl_X0 cy A_a a_name a_courage a_weight a_medals a_stood a_fled a_liked a_votes a_count a_living a_pride a_quota a_melted a_lost] H := hP
    refine lv_if_ne (tgt := 45) hx hb dX10_takeEnd_40 (by decide) (fun c_15 => ?_) (fun c_15 => ?_)
    · have h := ie c_15 h
      refine lv_aload_n hx hb dX10_takeEnd_45 rfl (lv_at hl 0 rfl) ?_
      refine lv_dup hx hb dX10_takeEnd_46 rfl ?_
      refine xget (i := 0) (j := 0) (k := 4) (T := TX10) hx hb ht tb_iX10 hown hX hP.1 rfl rfl rfl (by decide) tb_304 rfl dX10_takeEnd_47 ?_
      refine lv_iconst (v := 1) hx hb dX10_takeEnd_50 (by decide) ?_
      refine lv_isub hx hb dX10_takeEnd_51 ?_
      refine lv_topi (fun k_depth_16 e_k_depth_16 => ?_)
      have h := bn e_k_depth_16 h
      refine xput (i := 0) (j := 0) (k := 4) (T := TX10) tyX10 tyX10_ok nmX10 hx hb ht tb_iX10 hown hX hP hS rfl rfl rfl (by decide) tb_304 rfl rfl rfl (Nat.le_of_ble_eq_true rfl) dX10_takeEnd_52 (fun H locs hP hS => ?_)
      have hP : PD D A [bl_X10 cy A_k (A_r 0) (A_w 0) (A_a 0) k_open k_depth_16, bl_X6 cy A_r (A_t 0) z_14.2.1 z_14.2.2.1, bl_X7 cy A_t t_bytes t_wordCodes t_length z_14.2.2.2.1 z_14.2.2.2.2.1 z_14.2.2.2.2.2.1 z_14.2.2.2.2.2.2.1 z_14.2.2.2.2.2.2.2.1 t_end z_14.2.2.2.2.2.2.2.2, bl_X9 cy A_w w_deed w_man w_other w_sign w_number w_mate w_there w_rows w_steps, bl_X0 cy A_a a_name a_courage a_weight a_medals a_stood a_fled a_liked a_votes a_count a_living a_pride a_quota a_melted a_lost] H := hP
      refine lv_aload_n hx hb dX10_takeEnd_55 rfl (lv_at hl 0 rfl) ?_
      refine xget (i := 0) (j := 0) (k := 1) (T := TX10) hx hb ht tb_iX10 hown hX hP.1 rfl rfl rfl (by decide) tb_301 rfl dX10_takeEnd_56 ?_
      refine lv_aload_n hx hb dX10_takeEnd_59 rfl (lv_at hl 0 rfl) ?_
      refine xget (i := 0) (j := 0) (k := 3) (T := TX10) hx hb ht tb_iX10 hown hX hP.1 rfl rfl rfl (by decide) tb_303 rfl dX10_takeEnd_60 ?_
      refine lv_aload_n hx hb dX10_takeEnd_63 rfl (lv_at hl 0 rfl) ?_
      refine xget (i := 0) (j := 0) (k := 4) (T := TX10) hx hb ht tb_iX10 hown hX hP.1 rfl rfl rfl (by decide) tb_304 rfl dX10_takeEnd_64 ?_
      obtain ⟨y_17, e_y_17, h⟩ := bi h
      refine xiald (i0 := 0) (j0 := 1) hx hb hX hP.1 rfl rfl e_y_17 dX10_takeEnd_67 ?_
      obtain ⟨z_18, e_z_18, h⟩ := bi h
      refine efVv (rest := []) ⟨hx, hb, hml, hown, ht⟩ (c_X9_close l D cy fu A_w w_deed w_man w_other w_sign w_number w_mate w_there w_rows w_steps y_17 z_18 e_z_18 _ rfl _ rfl) (cV ht mv_X9_close tb_719 rfl rfl ⟨Nat.le_of_ble_eq_true rfl, Nat.le_of_ble_eq_true rfl⟩) hP hS hX [3] rfl rfl rfl rfl rfl rfl hl.1 rfl (Nat.le_of_ble_eq_true rfl) dX10_takeEnd_68 ⟨Nat.le_of_ble_eq_true rfl, Nat.le_of_ble_eq_true rfl⟩ (fun H locs hP hS => ?_)
      have hP : PD D A [bl_X10 cy A_k (A_r 0) (A_w 0) (A_a 0) k_open k_depth_16, bl_X6 cy A_r (A_t 0) z_14.2.1 z_14.2.2.1, bl_X7 cy A_t t_bytes t_wordCodes t_length z_14.2.2.2.1 z_14.2.2.2.2.1 z_14.2.2.2.2.2.1 z_14.2.2.2.2.2.2.1 z_14.2.2.2.2.2.2.2.1 t_end z_14.2.2.2.2.2.2.2.2, bl_X9 cy A_w z_18.1 w_man w_other w_sign w_number z_18.2.1 w_there z_18.2.2 w_steps, bl_X0 cy A_a a_name a_courage a_weight a_medals a_stood a_fled a_liked a_votes a_count a_living a_pride a_quota a_melted a_lost] H := hP
      refine lv_iconst (v := 1) hx hb dX10_takeEnd_71 (by decide) ?_
      cases h
      subst hW1
      exact W.zret hx hb hr rfl (fun _ ht9 _ => ⟨⟨_, (), rfl, rfl, hPt ht9 hP.1⟩, hS.F ht9⟩) hS.2.2 dX10_takeEnd_72
    · have h := it c_15 h
      refine lv_iconst (v := 0) hx hb dX10_takeEnd_43 (by decide) ?_
      cases h
      subst hW1
      exact W.zret hx hb hr rfl (fun _ ht9 _ => ⟨⟨_, (), rfl, rfl, hPt ht9 hP.1⟩, hS.F ht9⟩) hS.2.2 dX10_takeEnd_44
  · have h := it c_12 h
    refine lv_aload_n hx hb dX10_takeEnd_12 rfl (lv_at hl 0 rfl) ?_
    refine xget (i := 0) (j := 0) (k := 0) (T := TX10) hx hb ht tb_iX10 hown hX hP.1 rfl rfl rfl (by decide) tb_300 rfl dX10_takeEnd_13 ?_
    refine lv_iconst (v := 2) hx hb dX10_takeEnd_16 (by decide) ?_
    obtain ⟨z_19, e_z_19, h⟩ := bi h
    refine efVi (rest := []) ⟨hx, hb, hml, hown, ht⟩ (c_X6_fail l D cy fu A_r r_fault r_place A_t t_bytes t_wordCodes t_length t_kind t_start t_value t_word t_name t_end t_at 2 z_19 e_z_19 _ rfl _ rfl) (cV ht mv_X6_fail tb_716 rfl rfl ⟨Nat.le_of_ble_eq_true rfl, Nat.le_of_ble_eq_true rfl⟩) hP hS hX [1, 2] rfl rfl rfl rfl rfl rfl hl.1 rfl (Nat.le_of_ble_eq_true rfl) dX10_takeEnd_17 ⟨Nat.le_of_ble_eq_true rfl, Nat.le_of_ble_eq_true rfl⟩ (fun H locs hP hS => ?_)
    have hP : PD D A [bl_X10 cy A_k (A_r 0) (A_w 0) (A_a 0) k_open k_depth, bl_X6 cy A_r (A_t 0) z_19.2.1 z_19.2.2, bl_X7 cy A_t t_bytes t_wordCodes t_length t_kind t_start t_value t_word t_name t_end t_at, bl_X9 cy A_w w_deed w_man w_other w_sign w_number w_mate w_there w_rows w_steps, bl_X0 cy A_a a_name a_courage a_weight a_medals a_stood a_fled a_liked a_votes a_count a_living a_pride a_quota a_melted a_lost] H := hP
    obtain ⟨b_20, e_b_20, h⟩ := bi h
    obtain ⟨-, n_b_20, -⟩ := bz_ok e_b_20
    cases h
    subst hW1
    exact W.zret hx hb hr n_b_20 (fun _ ht9 _ => ⟨⟨_, (), rfl, rfl, hPt ht9 hP.1⟩, hS.F ht9⟩) hS.2.2 dX10_takeEnd_20
theorem dX10_holdsOthers_0 : decode cX10_holdsOthers 0 = .ok (.iload_n 0, 1) := by decide +kernel
theorem dX10_holdsOthers_1 : decode cX10_holdsOthers 1 = .ok (.bipush 12, 2) := by decide +kernel
theorem dX10_holdsOthers_3 : decode cX10_holdsOthers 3 = .ok (.if_icmp .eq 9, 3) := by decide +kernel
theorem dX10_holdsOthers_6 : decode cX10_holdsOthers 6 = .ok (.iload_n 0, 1) := by decide +kernel
theorem dX10_holdsOthers_7 : decode cX10_holdsOthers 7 = .ok (.bipush 16, 2) := by decide +kernel
theorem dX10_holdsOthers_9 : decode cX10_holdsOthers 9 = .ok (.if_icmp .ne 7, 3) := by decide +kernel
theorem dX10_holdsOthers_12 : decode cX10_holdsOthers 12 = .ok (.iconst 1, 1) := by decide +kernel
theorem dX10_holdsOthers_13 : decode cX10_holdsOthers 13 = .ok (.goto 4, 3) := by decide +kernel
theorem dX10_holdsOthers_16 : decode cX10_holdsOthers 16 = .ok (.iconst 0, 1) := by decide +kernel
theorem dX10_holdsOthers_17 : decode cX10_holdsOthers 17 = .ok (.ireturn, 1) := by decide +kernel
theorem ms_X10_holdsOthers : MS yX10_holdsOthers cX10_holdsOthers 1 (some .boolean) 1 := ⟨tb_730, tb_729, tb_11, by decide +kernel, by decide +kernel, by decide +kernel⟩
def f_X10_holdsOthers (fu : Nat) (x0 : Int32) : Option (Int32) := (if x0 = 12 then some (1) else (if x0 = 16 then some (1) else some (0)))
abbrev rm_X10_holdsOthers : Room := { frames := 0, cells := 0, slots := 0, locals := 0 }
set_option maxHeartbeats 4000000 in
set_option maxRecDepth 100000 in
theorem c_X10_holdsOthers (l : Launch) (D : va_G) (cy : Nat → ClassId) (fu : Nat) (x0 : Int32) (res : Int32) (h : f_X10_holdsOthers fu x0 = some res) : Met l yX10_holdsOthers (WW yX10_holdsOthers cX10_holdsOthers 1 (some .boolean)) rm_X10_holdsOthers (Rd D cy [.int x0] []) (vp_Si (fun v => v = res)) 0 0 (fun _ => False) := by
  refine Met.ofW (cc := cX10_holdsOthers) (maxL := 1) (ret := (some .boolean)) (by decide) rfl ?_
  intro p e s m args below meth c s₁ B hml hv
  obtain ⟨hargs, hP, hX⟩ := hv
  have hx := B.exec
  have hb := B.bytes
  have hr := B.returns
  have ht : ∀ w ∈ lw_gd, w.before args s = true := fun w hw => atoms_spec (ws := WW yX10_holdsOthers cX10_holdsOthers 1 (some .boolean)) B.pre w (List.mem_cons_of_mem _ hw)
  have hown : s.vm.findClass RX10 = some m.cls := findClass_of_methodNamed B.named
  have hlocks := B.notSynchronized
  have hP : PB D [] s.heap := hP
  obtain ⟨ls, hl, hent⟩ := ent (m := m) (n := 1) hargs (Nat.le_of_ble_eq_true rfl) (lv := [(0, .int x0)]) rfl
  rw [hent]
  clear hent
  unfold f_X10_holdsOthers at h
  refine lv_iload_n hx hb dX10_holdsOthers_0 rfl (lv_at hl 0 rfl) ?_
  refine lv_bipush (v := 12) hx hb dX10_holdsOthers_1 (by decide) ?_
  refine lv_icmp_eq (tgt := 12) hx hb dX10_holdsOthers_3 (by decide) (fun c_3 => ?_) (fun c_3 => ?_)
  · have h := it c_3 h
    refine lv_iconst (v := 1) hx hb dX10_holdsOthers_12 (by decide) ?_
    refine lv_goto (tgt := 17) hx hb dX10_holdsOthers_13 (by decide) ?_
    cases h
    exact W.zret hx hb hr rfl (fun _ ht9 _ => ⟨_, rfl, rfl, ht9⟩) (fun _ hq => by cases hq) dX10_holdsOthers_17
  · have h := ie c_3 h
    refine lv_iload_n hx hb dX10_holdsOthers_6 rfl (lv_at hl 0 rfl) ?_
    refine lv_bipush (v := 16) hx hb dX10_holdsOthers_7 (by decide) ?_
    refine lv_icmp_ne (tgt := 16) hx hb dX10_holdsOthers_9 (by decide) (fun c_4 => ?_) (fun c_4 => ?_)
    · have h := ie c_4 h
      refine lv_iconst (v := 0) hx hb dX10_holdsOthers_16 (by decide) ?_
      cases h
      exact W.zret hx hb hr rfl (fun _ ht9 _ => ⟨_, rfl, rfl, ht9⟩) (fun _ hq => by cases hq) dX10_holdsOthers_17
    · have h := it c_4 h
      refine lv_iconst (v := 1) hx hb dX10_holdsOthers_12 (by decide) ?_
      refine lv_goto (tgt := 17) hx hb dX10_holdsOthers_13 (by decide) ?_
      cases h
      exact W.zret hx hb hr rfl (fun _ ht9 _ => ⟨_, rfl, rfl, ht9⟩) (fun _ hq => by cases hq) dX10_holdsOthers_17
theorem dX10_takeBegin_0 : decode cX10_takeBegin 0 = .ok (.iload_n 1, 1) := by decide +kernel
theorem dX10_takeBegin_1 : decode cX10_takeBegin 1 = .ok (.bipush 7, 2) := by decide +kernel
theorem dX10_takeBegin_3 : decode cX10_takeBegin 3 = .ok (.bipush 11, 2) := by decide +kernel
theorem dX10_takeBegin_5 : decode cX10_takeBegin 5 = .ok (.invokestatic 71, 3) := by decide +kernel
theorem dX10_takeBegin_8 : decode cX10_takeBegin 8 = .ok (.ifCond .ne 9, 3) := by decide +kernel
theorem dX10_takeBegin_11 : decode cX10_takeBegin 11 = .ok (.iload_n 1, 1) := by decide +kernel
theorem dX10_takeBegin_12 : decode cX10_takeBegin 12 = .ok (.bipush 18, 2) := by decide +kernel
theorem dX10_takeBegin_14 : decode cX10_takeBegin 14 = .ok (.if_icmp .ne 7, 3) := by decide +kernel
theorem dX10_takeBegin_17 : decode cX10_takeBegin 17 = .ok (.iconst 1, 1) := by decide +kernel
theorem dX10_takeBegin_18 : decode cX10_takeBegin 18 = .ok (.goto 4, 3) := by decide +kernel
theorem dX10_takeBegin_21 : decode cX10_takeBegin 21 = .ok (.iconst 0, 1) := by decide +kernel
theorem dX10_takeBegin_22 : decode cX10_takeBegin 22 = .ok (.istore_n 2, 1) := by decide +kernel
theorem dX10_takeBegin_23 : decode cX10_takeBegin 23 = .ok (.iload_n 2, 1) := by decide +kernel
theorem dX10_takeBegin_24 : decode cX10_takeBegin 24 = .ok (.ifCond .ne 19, 3) := by decide +kernel
theorem dX10_takeBegin_27 : decode cX10_takeBegin 27 = .ok (.iload_n 1, 1) := by decide +kernel
theorem dX10_takeBegin_28 : decode cX10_takeBegin 28 = .ok (.invokestatic 85, 3) := by decide +kernel
theorem dX10_takeBegin_31 : decode cX10_takeBegin 31 = .ok (.ifCond .ne 12, 3) := by decide +kernel
theorem dX10_takeBegin_34 : decode cX10_takeBegin 34 = .ok (.aload_n 0, 1) := by decide +kernel
theorem dX10_takeBegin_35 : decode cX10_takeBegin 35 = .ok (.getfield 19, 3) := by decide +kernel
theorem dX10_takeBegin_38 : decode cX10_takeBegin 38 = .ok (.iconst 2, 1) := by decide +kernel
theorem dX10_takeBegin_39 : decode cX10_takeBegin 39 = .ok (.invokevirtual 68, 3) := by decide +kernel
theorem dX10_takeBegin_42 : decode cX10_takeBegin 42 = .ok (.ireturn, 1) := by decide +kernel
theorem dX10_takeBegin_43 : decode cX10_takeBegin 43 = .ok (.aload_n 0, 1) := by decide +kernel
theorem dX10_takeBegin_44 : decode cX10_takeBegin 44 = .ok (.getfield 23, 3) := by decide +kernel
theorem dX10_takeBegin_47 : decode cX10_takeBegin 47 = .ok (.getfield 88, 3) := by decide +kernel
theorem dX10_takeBegin_50 : decode cX10_takeBegin 50 = .ok (.bipush 30, 2) := by decide +kernel
theorem dX10_takeBegin_52 : decode cX10_takeBegin 52 = .ok (.if_icmp .ge 19, 3) := by decide +kernel
theorem dX10_takeBegin_55 : decode cX10_takeBegin 55 = .ok (.aload_n 0, 1) := by decide +kernel
theorem dX10_takeBegin_56 : decode cX10_takeBegin 56 = .ok (.getfield 23, 3) := by decide +kernel
theorem dX10_takeBegin_59 : decode cX10_takeBegin 59 = .ok (.getfield 91, 3) := by decide +kernel
theorem dX10_takeBegin_62 : decode cX10_takeBegin 62 = .ok (.iconst 0, 1) := by decide +kernel
theorem dX10_takeBegin_63 : decode cX10_takeBegin 63 = .ok (.bipush 59, 2) := by decide +kernel
theorem dX10_takeBegin_65 : decode cX10_takeBegin 65 = .ok (.invokestatic 71, 3) := by decide +kernel
theorem dX10_takeBegin_68 : decode cX10_takeBegin 68 = .ok (.ifCond .ne 13, 3) := by decide +kernel
theorem dX10_takeBegin_71 : decode cX10_takeBegin 71 = .ok (.aload_n 0, 1) := by decide +kernel
theorem dX10_takeBegin_72 : decode cX10_takeBegin 72 = .ok (.getfield 19, 3) := by decide +kernel
theorem dX10_takeBegin_75 : decode cX10_takeBegin 75 = .ok (.bipush 6, 2) := by decide +kernel
theorem dX10_takeBegin_77 : decode cX10_takeBegin 77 = .ok (.invokevirtual 68, 3) := by decide +kernel
theorem dX10_takeBegin_80 : decode cX10_takeBegin 80 = .ok (.ireturn, 1) := by decide +kernel
theorem dX10_takeBegin_81 : decode cX10_takeBegin 81 = .ok (.iload_n 1, 1) := by decide +kernel
theorem dX10_takeBegin_82 : decode cX10_takeBegin 82 = .ok (.invokestatic 85, 3) := by decide +kernel
theorem dX10_takeBegin_85 : decode cX10_takeBegin 85 = .ok (.ifCond .eq 25, 3) := by decide +kernel
theorem dX10_takeBegin_88 : decode cX10_takeBegin 88 = .ok (.aload_n 0, 1) := by decide +kernel
theorem dX10_takeBegin_89 : decode cX10_takeBegin 89 = .ok (.getfield 15, 3) := by decide +kernel
theorem dX10_takeBegin_92 : decode cX10_takeBegin 92 = .ok (.iconst 0, 1) := by decide +kernel
theorem dX10_takeBegin_93 : decode cX10_takeBegin 93 = .ok (.iconst 2, 1) := by decide +kernel
theorem dX10_takeBegin_94 : decode cX10_takeBegin 94 = .ok (.invokestatic 71, 3) := by decide +kernel
theorem dX10_takeBegin_97 : decode cX10_takeBegin 97 = .ok (.ifCond .ne 13, 3) := by decide +kernel
theorem dX10_takeBegin_100 : decode cX10_takeBegin 100 = .ok (.aload_n 0, 1) := by decide +kernel
theorem dX10_takeBegin_101 : decode cX10_takeBegin 101 = .ok (.getfield 19, 3) := by decide +kernel
theorem dX10_takeBegin_104 : decode cX10_takeBegin 104 = .ok (.bipush 7, 2) := by decide +kernel
theorem dX10_takeBegin_106 : decode cX10_takeBegin 106 = .ok (.invokevirtual 68, 3) := by decide +kernel
theorem dX10_takeBegin_109 : decode cX10_takeBegin 109 = .ok (.ireturn, 1) := by decide +kernel
theorem dX10_takeBegin_110 : decode cX10_takeBegin 110 = .ok (.aload_n 0, 1) := by decide +kernel
theorem dX10_takeBegin_111 : decode cX10_takeBegin 111 = .ok (.getfield 19, 3) := by decide +kernel
theorem dX10_takeBegin_114 : decode cX10_takeBegin 114 = .ok (.getfield 46, 3) := by decide +kernel
theorem dX10_takeBegin_117 : decode cX10_takeBegin 117 = .ok (.invokevirtual 75, 3) := by decide +kernel
theorem dX10_takeBegin_120 : decode cX10_takeBegin 120 = .ok (.iconst 1, 1) := by decide +kernel
theorem dX10_takeBegin_121 : decode cX10_takeBegin 121 = .ok (.ireturn, 1) := by decide +kernel
theorem mv_X10_takeBegin : MV yX10_takeBegin RX10 cX10_takeBegin 3 (some .boolean) 1 := ⟨tb_727, tb_726, ts_15, tb_11, by decide +kernel, by decide +kernel, by decide +kernel⟩
def f_X10_takeBegin_j43 (fu : Nat) (k_depth : Int32) (t_bytes : Nat → Int32) (t_wordCodes : Nat → Int64) (t_end : Int32) (w_rows : Int32) (w_steps : Int32) (x1 : Int32) (r_fault : Int32) (r_place : Int32) (t_kind : Int32) (t_start : Int32) (t_value : Int32) (t_word : Int32) (t_name : Int64) (t_at : Int32) : Option (Int32 × Int32 × Int32 × Int32 × Int32 × Int32 × Int32 × Int64 × Int32) := (if 30 ≤ w_steps then (f_X6_fail fu r_fault r_place t_kind t_start 6).bind fun z_25 => (bz z_25.1).bind fun _ => some (z_25.1, z_25.2.1, z_25.2.2, t_kind, t_start, t_value, t_word, t_name, t_at) else (f_X11_within fu w_rows 0 59).bind fun z_27 => (if z_27 = 0 then (f_X6_fail fu r_fault r_place t_kind t_start 6).bind fun z_37 => (bz z_37.1).bind fun _ => some (z_37.1, z_37.2.1, z_37.2.2, t_kind, t_start, t_value, t_word, t_name, t_at) else (f_X10_holdsOthers fu x1).bind fun z_29 => (if z_29 = 0 then (f_X7_next fu t_bytes t_wordCodes t_kind t_start t_value t_word t_name t_end t_at).bind fun z_31 => some (1, r_fault, r_place, z_31.1, z_31.2.1, z_31.2.2.1, z_31.2.2.2.1, z_31.2.2.2.2.1, z_31.2.2.2.2.2) else (f_X11_within fu k_depth 0 2).bind fun z_32 => (if z_32 = 0 then (f_X6_fail fu r_fault r_place t_kind t_start 7).bind fun z_35 => (bz z_35.1).bind fun _ => some (z_35.1, z_35.2.1, z_35.2.2, t_kind, t_start, t_value, t_word, t_name, t_at) else (f_X7_next fu t_bytes t_wordCodes t_kind t_start t_value t_word t_name t_end t_at).bind fun z_34 => some (1, r_fault, r_place, z_34.1, z_34.2.1, z_34.2.2.1, z_34.2.2.2.1, z_34.2.2.2.2.1, z_34.2.2.2.2.2)))))
def f_X10_takeBegin_j22 (fu : Nat) (k_depth : Int32) (t_bytes : Nat → Int32) (t_wordCodes : Nat → Int64) (t_end : Int32) (w_rows : Int32) (w_steps : Int32) (x1 : Int32) (r_fault : Int32) (r_place : Int32) (t_kind : Int32) (t_start : Int32) (t_value : Int32) (t_word : Int32) (t_name : Int64) (t_at : Int32) (s0 : Int32) : Option (Int32 × Int32 × Int32 × Int32 × Int32 × Int32 × Int32 × Int64 × Int32) := (if s0 = 0 then (f_X10_holdsOthers fu x1).bind fun z_40 => (if z_40 = 0 then (f_X6_fail fu r_fault r_place t_kind t_start 2).bind fun z_42 => (bz z_42.1).bind fun _ => some (z_42.1, z_42.2.1, z_42.2.2, t_kind, t_start, t_value, t_word, t_name, t_at) else f_X10_takeBegin_j43 fu k_depth t_bytes t_wordCodes t_end w_rows w_steps x1 r_fault r_place t_kind t_start t_value t_word t_name t_at) else f_X10_takeBegin_j43 fu k_depth t_bytes t_wordCodes t_end w_rows w_steps x1 r_fault r_place t_kind t_start t_value t_word t_name t_at)
def f_X10_takeBegin (fu : Nat) (k_depth : Int32) (r_fault : Int32) (r_place : Int32) (t_bytes : Nat → Int32) (t_wordCodes : Nat → Int64) (t_kind : Int32) (t_start : Int32) (t_value : Int32) (t_word : Int32) (t_name : Int64) (t_end : Int32) (t_at : Int32) (w_rows : Int32) (w_steps : Int32) (x1 : Int32) : Option (Int32 × Int32 × Int32 × Int32 × Int32 × Int32 × Int32 × Int64 × Int32) := (f_X11_within fu x1 7 11).bind fun z_44 => (if z_44 = 0 then (if x1 = 18 then f_X10_takeBegin_j22 fu k_depth t_bytes t_wordCodes t_end w_rows w_steps x1 r_fault r_place t_kind t_start t_value t_word t_name t_at 1 else f_X10_takeBegin_j22 fu k_depth t_bytes t_wordCodes t_end w_rows w_steps x1 r_fault r_place t_kind t_start t_value t_word t_name t_at 0) else f_X10_takeBegin_j22 fu k_depth t_bytes t_wordCodes t_end w_rows w_steps x1 r_fault r_place t_kind t_start t_value t_word t_name t_at 1)
abbrev rm_X10_takeBegin : Room := { frames := 2, cells := 0, slots := 0, locals := 43 }
set_option maxHeartbeats 4000000 in
set_option maxRecDepth 100000 in
theorem c_X10_takeBegin (l : Launch) (D : va_G) (cy : Nat → ClassId) (fu : Nat) (A_k : Nat → Nat) (k_open : Nat → Int32) (k_depth : Int32) (A_r : Nat → Nat) (r_fault : Int32) (r_place : Int32) (A_t : Nat → Nat) (t_bytes : Nat → Int32) (t_wordCodes : Nat → Int64) (t_length : Int32) (t_kind : Int32) (t_start : Int32) (t_value : Int32) (t_word : Int32) (t_name : Int64) (t_end : Int32) (t_at : Int32) (A_w : Nat → Nat) (w_deed : Nat → Int32) (w_man : Nat → Int32) (w_other : Nat → Int32) (w_sign : Nat → Int32) (w_number : Nat → Int32) (w_mate : Nat → Int32) (w_there : Int32) (w_rows : Int32) (w_steps : Int32) (A_a : Nat → Nat) (a_name : Nat → Int64) (a_courage : Nat → Int32) (a_weight : Nat → Int32) (a_medals : Nat → Int32) (a_stood : Nat → Int32) (a_fled : Nat → Int32) (a_liked : Nat → Int32) (a_votes : Nat → Int32) (a_count : Int32) (a_living : Int32) (a_pride : Int32) (a_quota : Int32) (a_melted : Int32) (a_lost : Int32) (x1 : Int32) (res : Int32 × Int32 × Int32 × Int32 × Int32 × Int32 × Int32 × Int64 × Int32) (h : f_X10_takeBegin fu k_depth r_fault r_place t_bytes t_wordCodes t_kind t_start t_value t_word t_name t_end t_at w_rows w_steps x1 = some res) (A : Nat → Prop) (hA : A = adr [bl_X10 cy A_k (A_r 0) (A_w 0) (A_a 0) k_open k_depth, bl_X6 cy A_r (A_t 0) r_fault r_place, bl_X7 cy A_t t_bytes t_wordCodes t_length t_kind t_start t_value t_word t_name t_end t_at, bl_X9 cy A_w w_deed w_man w_other w_sign w_number w_mate w_there w_rows w_steps, bl_X0 cy A_a a_name a_courage a_weight a_medals a_stood a_fled a_liked a_votes a_count a_living a_pride a_quota a_melted a_lost]) (W1 : List va_W) (hW1 : W1 = [bl_X10 cy A_k (A_r 0) (A_w 0) (A_a 0) k_open k_depth, bl_X6 cy A_r (A_t 0) res.2.1 res.2.2.1, bl_X7 cy A_t t_bytes t_wordCodes t_length res.2.2.2.1 res.2.2.2.2.1 res.2.2.2.2.2.1 res.2.2.2.2.2.2.1 res.2.2.2.2.2.2.2.1 t_end res.2.2.2.2.2.2.2.2, bl_X9 cy A_w w_deed w_man w_other w_sign w_number w_mate w_there w_rows w_steps, bl_X0 cy A_a a_name a_courage a_weight a_medals a_stood a_fled a_liked a_votes a_count a_living a_pride a_quota a_melted a_lost]) : Met l yX10_takeBegin (WW yX10_takeBegin cX10_takeBegin 3 (some .boolean)) rm_X10_takeBegin (Ed D cy [.ref (A_k 0), .int x1] [bl_X10 cy A_k (A_r 0) (A_w 0) (A_a 0) k_open k_depth, bl_X6 cy A_r (A_t 0) r_fault r_place, bl_X7 cy A_t t_bytes t_wordCodes t_length t_kind t_start t_value t_word t_name t_end t_at, bl_X9 cy A_w w_deed w_man w_other w_sign w_number w_mate w_there w_rows w_steps, bl_X0 cy A_a a_name a_courage a_weight a_medals a_stood a_fled a_liked a_votes a_count a_living a_pride a_quota a_melted a_lost]) (Qei D res.1 A W1) 0 0 A := by
  refine Met.ofW (cc := cX10_takeBegin) (maxL := 3) (ret := (some .boolean)) (by decide) rfl ?_
  intro p e s m args below meth c s₁ B hml hv
  obtain ⟨hargs, hP, hX, hD0⟩ := hv
  have hx := B.exec
  have hb := B.bytes
  have hr := B.returns
  have ht : ∀ w ∈ lw_gd, w.before args s = true := fun w hw => atoms_spec (ws := WW yX10_takeBegin cX10_takeBegin 3 (some .boolean)) B.pre w (List.mem_cons_of_mem _ hw)
  have hown : s.vm.findClass RX10 = some m.cls := findClass_of_methodNamed B.named
  have hlocks := B.notSynchronized
  have hP : PD D A [bl_X10 cy A_k (A_r 0) (A_w 0) (A_a 0) k_open k_depth, bl_X6 cy A_r (A_t 0) r_fault r_place, bl_X7 cy A_t t_bytes t_wordCodes t_length t_kind t_start t_value t_word t_name t_end t_at, bl_X9 cy A_w w_deed w_man w_other w_sign w_number w_mate w_there w_rows w_steps, bl_X0 cy A_a a_name a_courage a_weight a_medals a_stood a_fled a_liked a_votes a_count a_living a_pride a_quota a_melted a_lost] s.heap := ⟨hP, by rw [hA]; exact hD0.own⟩
  have hS : va_S A s.heap s.heap [] := va_S.rf
  obtain ⟨ls, hl, hent⟩ := ent (m := m) (n := 3) hargs (Nat.le_of_ble_eq_true rfl) (lv := [(0, .ref (A_k 0)), (1, .int x1)]) rfl
  rw [hent]
  clear hent
  have j43 : ∀ (r_fault : Int32) (r_place : Int32) (t_kind : Int32) (t_start : Int32) (t_value : Int32) (t_word : Int32) (t_name : Int64) (t_at : Int32) (H : Heap) (locs : List Loc) (_ : PD D A [bl_X10 cy A_k (A_r 0) (A_w 0) (A_a 0) k_open k_depth, bl_X6 cy A_r (A_t 0) r_fault r_place, bl_X7 cy A_t t_bytes t_wordCodes t_length t_kind t_start t_value t_word t_name t_end t_at, bl_X9 cy A_w w_deed w_man w_other w_sign w_number w_mate w_there w_rows w_steps, bl_X0 cy A_a a_name a_courage a_weight a_medals a_stood a_fled a_liked a_votes a_count a_living a_pride a_quota a_melted a_lost] H) (_ : va_S A s.heap H locs) (ls : Array Slot), lv_has ls 3 [(0, .ref (A_k 0)), (1, .int x1)] → f_X10_takeBegin_j43 fu k_depth t_bytes t_wordCodes t_end w_rows w_steps x1 r_fault r_place t_kind t_start t_value t_word t_name t_at = some res → W p l e (headSpec (WW yX10_takeBegin cX10_takeBegin 3 (some .boolean)) rm_X10_takeBegin).room s m args below meth c H locs 0 0 (MQ below (Qei D res.1 A W1) args s 0 0 A) (F0 m 43 ls []) := by
    intro r_fault r_place t_kind t_start t_value t_word t_name t_at H locs hP hS ls hl h
    unfold f_X10_takeBegin_j43 at h
    refine lv_aload_n hx hb dX10_takeBegin_43 rfl (lv_at hl 0 rfl) ?_
    refine xget (i := 0) (j := 0) (k := 1) (T := TX10) hx hb ht tb_iX10 hown hX hP.1 rfl rfl rfl (by decide) tb_301 rfl dX10_takeBegin_44 ?_
    refine xget (i := 3) (j := 0) (k := 8) (T := TX9) hx hb ht tb_iX9 hown hX hP.1 rfl rfl rfl (by decide) tb_135 rfl dX10_takeBegin_47 ?_
    refine lv_bipush (v := 30) hx hb dX10_takeBegin_50 (by decide) ?_
    refine lv_icmp_ge (tgt := 71) hx hb dX10_takeBegin_52 (by decide) (fun c_24 => ?_) (fun c_24 => ?_)
    · have h := it c_24 h
      refine lv_aload_n hx hb dX10_takeBegin_71 rfl (lv_at hl 0 rfl) ?_
      refine xget (i := 0) (j := 0) (k := 0) (T := TX10) hx hb ht tb_iX10 hown hX hP.1 rfl rfl rfl (by decide) tb_300 rfl dX10_takeBegin_72 ?_
      refine lv_bipush (v := 6) hx hb dX10_takeBegin_75 (by decide) ?_
      obtain ⟨z_25, e_z_25, h⟩ := bi h
      refine efVi (rest := []) ⟨hx, hb, hml, hown, ht⟩ (c_X6_fail l D cy fu A_r r_fault r_place A_t t_bytes t_wordCodes t_length t_kind t_start t_value t_word t_name t_end t_at 6 z_25 e_z_25 _ rfl _ rfl) (cV ht mv_X6_fail tb_716 rfl rfl ⟨Nat.le_of_ble_eq_true rfl, Nat.le_of_ble_eq_true rfl⟩) hP hS hX [1, 2] rfl rfl rfl rfl rfl rfl hl.1 rfl (Nat.le_of_ble_eq_true rfl) dX10_takeBegin_77 ⟨Nat.le_of_ble_eq_true rfl, Nat.le_of_ble_eq_true rfl⟩ (fun H locs hP hS => ?_)
      have hP : PD D A [bl_X10 cy A_k (A_r 0) (A_w 0) (A_a 0) k_open k_depth, bl_X6 cy A_r (A_t 0) z_25.2.1 z_25.2.2, bl_X7 cy A_t t_bytes t_wordCodes t_length t_kind t_start t_value t_word t_name t_end t_at, bl_X9 cy A_w w_deed w_man w_other w_sign w_number w_mate w_there w_rows w_steps, bl_X0 cy A_a a_name a_courage a_weight a_medals a_stood a_fled a_liked a_votes a_count a_living a_pride a_quota a_melted a_lost] H := hP
      obtain ⟨b_26, e_b_26, h⟩ := bi h
      obtain ⟨-, n_b_26, -⟩ := bz_ok e_b_26
      cases h
      subst hW1
      exact W.zret hx hb hr n_b_26 (fun _ ht9 _ => ⟨⟨_, (), rfl, rfl, hPt ht9 hP.1⟩, hS.F ht9⟩) hS.2.2 dX10_takeBegin_80
    · have h := ie c_24 h
      refine lv_aload_n hx hb dX10_takeBegin_55 rfl (lv_at hl 0 rfl) ?_
      refine xget (i := 0) (j := 0) (k := 1) (T := TX10) hx hb ht tb_iX10 hown hX hP.1 rfl rfl rfl (by decide) tb_301 rfl dX10_takeBegin_56 ?_
      refine xget (i := 3) (j := 0) (k := 7) (T := TX9) hx hb ht tb_iX9 hown hX hP.1 rfl rfl rfl (by decide) tb_133 rfl dX10_takeBegin_59 ?_
      refine lv_iconst (v := 0) hx hb dX10_takeBegin_62 (by decide) ?_
      refine lv_bipush (v := 59) hx hb dX10_takeBegin_63 (by decide) ?_
      obtain ⟨z_27, e_z_27, h⟩ := bi h
      refine roNi (rest := []) ⟨hx, hb, hml, hown, ht⟩ (c_X11_within l D cy fu  w_rows 0 59 z_27 e_z_27) (cN ht hX ms_X11_within (List.mem_of_getElem? (i := 8) rfl) rfl rfl ⟨Nat.le_of_ble_eq_true rfl, Nat.le_of_ble_eq_true rfl⟩) (P_sub hP.1 [] rfl) hX rfl hl.1 rfl (Nat.le_of_ble_eq_true rfl) dX10_takeBegin_65 ⟨Nat.le_of_ble_eq_true rfl, Nat.le_of_ble_eq_true rfl⟩ ?_
      refine lv_if_ne (tgt := 81) hx hb dX10_takeBegin_68 (by decide) (fun c_28 => ?_) (fun c_28 => ?_)
      · have h := ie c_28 h
        refine lv_iload_n hx hb dX10_takeBegin_81 rfl (lv_at hl 1 rfl) ?_
        obtain ⟨z_29, e_z_29, h⟩ := bi h
        refine roSi (rest := []) ⟨hx, hb, hml, hown, ht⟩ (c_X10_holdsOthers l D cy fu  x1 z_29 e_z_29) (cS ht ms_X10_holdsOthers tb_728 rfl rfl ⟨Nat.le_of_ble_eq_true rfl, Nat.le_of_ble_eq_true rfl⟩) (P_sub hP.1 [] rfl) hX rfl hl.1 rfl (Nat.le_of_ble_eq_true rfl) dX10_takeBegin_82 ⟨Nat.le_of_ble_eq_true rfl, Nat.le_of_ble_eq_true rfl⟩ ?_
        refine lv_if_eq (tgt := 110) hx hb dX10_takeBegin_85 (by decide) (fun c_30 => ?_) (fun c_30 => ?_)
        · have h := it c_30 h
          refine lv_aload_n hx hb dX10_takeBegin_110 rfl (lv_at hl 0 rfl) ?_
          refine xget (i := 0) (j := 0) (k := 0) (T := TX10) hx hb ht tb_iX10 hown hX hP.1 rfl rfl rfl (by decide) tb_300 rfl dX10_takeBegin_111 ?_
          refine xget (i := 1) (j := 0) (k := 0) (T := TX6) hx hb ht tb_iX6 hown hX hP.1 rfl rfl rfl (by decide) tb_262 rfl dX10_takeBegin_114 ?_
          obtain ⟨z_31, e_z_31, h⟩ := bi h
          refine efVv (rest := []) ⟨hx, hb, hml, hown, ht⟩ (c_X7_next l D cy fu A_t t_bytes t_wordCodes t_length t_kind t_start t_value t_word t_name t_end t_at z_31 e_z_31 _ rfl _ rfl) (cV ht mv_X7_next tb_717 rfl rfl ⟨Nat.le_of_ble_eq_true rfl, Nat.le_of_ble_eq_true rfl⟩) hP hS hX [2] rfl rfl rfl rfl rfl rfl hl.1 rfl (Nat.le_of_ble_eq_true rfl) dX10_takeBegin_117 ⟨Nat.le_of_ble_eq_true rfl, Nat.le_of_ble_eq_true rfl⟩ (fun H locs hP hS => ?_)
          have hP : PD D A [bl_X10 cy A_k (A_r 0) (A_w 0) (A_a 0) k_open k_depth, bl_X6 cy A_r (A_t 0) r_fault r_place, bl_X7 cy A_t t_bytes t_wordCodes t_length z_31.1 z_31.2.1 z_31.2.2.1 z_31.2.2.2.1 z_31.2.2.2.2.1 t_end z_31.2.2.2.2.2, bl_X9 cy A_w w_deed w_man w_other w_sign w_number w_mate w_there w_rows w_steps, bl_X0 cy A_a a_name a_courage a_weight a_medals a_stood a_fled a_liked a_votes a_count a_living a_pride a_quota a_melted a_lost] H := hP
          refine lv_iconst (v := 1) hx hb dX10_takeBegin_120 (by decide) ?_
          cases h
          subst hW1
          exact W.zret hx hb hr rfl (fun _ ht9 _ => ⟨⟨_, (), rfl, rfl, hPt ht9 hP.1⟩, hS.F ht9⟩) hS.2.2 dX10_takeBegin_121
        · have h := ie c_30 h
          refine lv_aload_n hx hb dX10_takeBegin_88 rfl (lv_at hl 0 rfl) ?_
          refine xget (i := 0) (j := 0) (k := 4) (T := TX10) hx hb ht tb_iX10 hown hX hP.1 rfl rfl rfl (by decide) tb_304 rfl dX10_takeBegin_89 ?_
          refine lv_iconst (v := 0) hx hb dX10_takeBegin_92 (by decide) ?_
          refine lv_iconst (v := 2) hx hb dX10_takeBegin_93 (by decide) ?_
          obtain ⟨z_32, e_z_32, h⟩ := bi h
          refine roNi (rest := []) ⟨hx, hb, hml, hown, ht⟩ (c_X11_within l D cy fu  k_depth 0 2 z_32 e_z_32) (cN ht hX ms_X11_within (List.mem_of_getElem? (i := 8) rfl) rfl rfl ⟨Nat.le_of_ble_eq_true rfl, Nat.le_of_ble_eq_true rfl⟩) (P_sub hP.1 [] rfl) hX rfl hl.1 rfl (Nat.le_of_ble_eq_true rfl) dX10_takeBegin_94 ⟨Nat.le_of_ble_eq_true rfl, Nat.le_of_ble_eq_true rfl⟩ ?_
          refine lv_if_ne (tgt := 110) hx hb dX10_takeBegin_97 (by decide) (fun c_33 => ?_) (fun c_33 => ?_)
          · have h := ie c_33 h
            refine lv_aload_n hx hb dX10_takeBegin_110 rfl (lv_at hl 0 rfl) ?_
            refine xget (i := 0) (j := 0) (k := 0) (T := TX10) hx hb ht tb_iX10 hown hX hP.1 rfl rfl rfl (by decide) tb_300 rfl dX10_takeBegin_111 ?_
            refine xget (i := 1) (j := 0) (k := 0) (T := TX6) hx hb ht tb_iX6 hown hX hP.1 rfl rfl rfl (by decide) tb_262 rfl dX10_takeBegin_114 ?_
            obtain ⟨z_34, e_z_34, h⟩ := bi h
            refine efVv (rest := []) ⟨hx, hb, hml, hown, ht⟩ (c_X7_next l D cy fu A_t t_bytes t_wordCodes t_length t_kind t_start t_value t_word t_name t_end t_at z_34 e_z_34 _ rfl _ rfl) (cV ht mv_X7_next tb_717 rfl rfl ⟨Nat.le_of_ble_eq_true rfl, Nat.le_of_ble_eq_true rfl⟩) hP hS hX [2] rfl rfl rfl rfl rfl rfl hl.1 rfl (Nat.le_of_ble_eq_true rfl) dX10_takeBegin_117 ⟨Nat.le_of_ble_eq_true rfl, Nat.le_of_ble_eq_true rfl⟩ (fun H locs hP hS => ?_)
            have hP : PD D A [bl_X10 cy A_k (A_r 0) (A_w 0) (A_a 0) k_open k_depth, bl_X6 cy A_r (A_t 0) r_fault r_place, bl_X7 cy A_t t_bytes t_wordCodes t_length z_34.1 z_34.2.1 z_34.2.2.1 z_34.2.2.2.1 z_34.2.2.2.2.1 t_end z_34.2.2.2.2.2, bl_X9 cy A_w w_deed w_man w_other w_sign w_number w_mate w_there w_rows w_steps, bl_X0 cy A_a a_name a_courage a_weight a_medals a_stood a_fled a_liked a_votes a_count a_living a_pride a_quota a_melted a_lost] H := hP
            refine lv_iconst (v := 1) hx hb dX10_takeBegin_120 (by decide) ?_
            cases h
            subst hW1
            exact W.zret hx hb hr rfl (fun _ ht9 _ => ⟨⟨_, (), rfl, rfl, hPt ht9 hP.1⟩, hS.F ht9⟩) hS.2.2 dX10_takeBegin_121
          · have h := it c_33 h
            refine lv_aload_n hx hb dX10_takeBegin_100 rfl (lv_at hl 0 rfl) ?_
            refine xget (i := 0) (j := 0) (k := 0) (T := TX10) hx hb ht tb_iX10 hown hX hP.1 rfl rfl rfl (by decide) tb_300 rfl dX10_takeBegin_101 ?_
            refine lv_bipush (v := 7) hx hb dX10_takeBegin_104 (by decide) ?_
            obtain ⟨z_35, e_z_35, h⟩ := bi h
            refine efVi (rest := []) ⟨hx, hb, hml, hown, ht⟩ (c_X6_fail l D cy fu A_r r_fault r_place A_t t_bytes t_wordCodes t_length t_kind t_start t_value t_word t_name t_end t_at 7 z_35 e_z_35 _ rfl _ rfl) (cV ht mv_X6_fail tb_716 rfl rfl ⟨Nat.le_of_ble_eq_true rfl, Nat.le_of_ble_eq_true rfl⟩) hP hS hX [1, 2] rfl rfl rfl rfl rfl rfl hl.1 rfl (Nat.le_of_ble_eq_true rfl) dX10_takeBegin_106 ⟨Nat.le_of_ble_eq_true rfl, Nat.le_of_ble_eq_true rfl⟩ (fun H locs hP hS => ?_)
            have hP : PD D A [bl_X10 cy A_k (A_r 0) (A_w 0) (A_a 0) k_open k_depth, bl_X6 cy A_r (A_t 0) z_35.2.1 z_35.2.2, bl_X7 cy A_t t_bytes t_wordCodes t_length t_kind t_start t_value t_word t_name t_end t_at, bl_X9 cy A_w w_deed w_man w_other w_sign w_number w_mate w_there w_rows w_steps, bl_X0 cy A_a a_name a_courage a_weight a_medals a_stood a_fled a_liked a_votes a_count a_living a_pride a_quota a_melted a_lost] H := hP
            obtain ⟨b_36, e_b_36, h⟩ := bi h
            obtain ⟨-, n_b_36, -⟩ := bz_ok e_b_36
            cases h
            subst hW1
            exact W.zret hx hb hr n_b_36 (fun _ ht9 _ => ⟨⟨_, (), rfl, rfl, hPt ht9 hP.1⟩, hS.F ht9⟩) hS.2.2 dX10_takeBegin_109
      · have h := it c_28 h
        refine lv_aload_n hx hb dX10_takeBegin_71 rfl (lv_at hl 0 rfl) ?_
        refine xget (i := 0) (j := 0) (k := 0) (T := TX10) hx hb ht tb_iX10 hown hX hP.1 rfl rfl rfl (by decide) tb_300 rfl dX10_takeBegin_72 ?_
        refine lv_bipush (v := 6) hx hb dX10_takeBegin_75 (by decide) ?_
        obtain ⟨z_37, e_z_37, h⟩ := bi h
        refine efVi (rest := []) ⟨hx, hb, hml, hown, ht⟩ (c_X6_fail l D cy fu A_r r_fault r_place A_t t_bytes t_wordCodes t_length t_kind t_start t_value t_word t_name t_end t_at 6 z_37 e_z_37 _ rfl _ rfl) (cV ht mv_X6_fail tb_716 rfl rfl ⟨Nat.le_of_ble_eq_true rfl, Nat.le_of_ble_eq_true rfl⟩) hP hS hX [1, 2] rfl rfl rfl rfl rfl rfl hl.1 rfl (Nat.le_of_ble_eq_true rfl) dX10_takeBegin_77 ⟨Nat.le_of_ble_eq_true rfl, Nat.le_of_ble_eq_true rfl⟩ (fun H locs hP hS => ?_)
        have hP : PD D A [bl_X10 cy A_k (A_r 0) (A_w 0) (A_a 0) k_open k_depth, bl_X6 cy A_r (A_t 0) z_37.2.1 z_37.2.2, bl_X7 cy A_t t_bytes t_wordCodes t_length t_kind t_start t_value t_word t_name t_end t_at, bl_X9 cy A_w w_deed w_man w_other w_sign w_number w_mate w_there w_rows w_steps, bl_X0 cy A_a a_name a_courage a_weight a_medals a_stood a_fled a_liked a_votes a_count a_living a_pride a_quota a_melted a_lost] H := hP
        obtain ⟨b_38, e_b_38, h⟩ := bi h
        obtain ⟨-, n_b_38, -⟩ := bz_ok e_b_38
        cases h
        subst hW1
        exact W.zret hx hb hr n_b_38 (fun _ ht9 _ => ⟨⟨_, (), rfl, rfl, hPt ht9 hP.1⟩, hS.F ht9⟩) hS.2.2 dX10_takeBegin_80
  have j22 : ∀ (r_fault : Int32) (r_place : Int32) (t_kind : Int32) (t_start : Int32) (t_value : Int32) (t_word : Int32) (t_name : Int64) (t_at : Int32) (s0 : Int32) (H : Heap) (locs : List Loc) (_ : PD D A [bl_X10 cy A_k (A_r 0) (A_w 0) (A_a 0) k_open k_depth, bl_X6 cy A_r (A_t 0) r_fault r_place, bl_X7 cy A_t t_bytes t_wordCodes t_length t_kind t_start t_value t_word t_name t_end t_at, bl_X9 cy A_w w_deed w_man w_other w_sign w_number w_mate w_there w_rows w_steps, bl_X0 cy A_a a_name a_courage a_weight a_medals a_stood a_fled a_liked a_votes a_count a_living a_pride a_quota a_melted a_lost] H) (_ : va_S A s.heap H locs) (ls : Array Slot), lv_has ls 3 [(0, .ref (A_k 0)), (1, .int x1)] → f_X10_takeBegin_j22 fu k_depth t_bytes t_wordCodes t_end w_rows w_steps x1 r_fault r_place t_kind t_start t_value t_word t_name t_at s0 = some res → W p l e (headSpec (WW yX10_takeBegin cX10_takeBegin 3 (some .boolean)) rm_X10_takeBegin).room s m args below meth c H locs 0 0 (MQ below (Qei D res.1 A W1) args s 0 0 A) (F0 m 22 ls [.int s0]) := by
    intro r_fault r_place t_kind t_start t_value t_word t_name t_at s0 H locs hP hS ls hl h
    unfold f_X10_takeBegin_j22 at h
    refine lv_istore_n (lv' := [(2, .int s0), (0, .ref (A_k 0)), (1, .int x1)]) hx hb dX10_takeBegin_22 rfl hl (by decide) rfl (fun ls hl => ?_)
    refine lv_iload_n hx hb dX10_takeBegin_23 rfl (lv_at hl 0 rfl) ?_
    refine lv_if_ne (tgt := 43) hx hb dX10_takeBegin_24 (by decide) (fun c_39 => ?_) (fun c_39 => ?_)
    · have h := ie c_39 h
      exact j43 r_fault r_place t_kind t_start t_value t_word t_name t_at _ _ hP hS ls (lv_sub hl [1, 2] rfl) h
    · have h := it c_39 h
      refine lv_iload_n hx hb dX10_takeBegin_27 rfl (lv_at hl 2 rfl) ?_
      obtain ⟨z_40, e_z_40, h⟩ := bi h
      refine roSi (rest := []) ⟨hx, hb, hml, hown, ht⟩ (c_X10_holdsOthers l D cy fu  x1 z_40 e_z_40) (cS ht ms_X10_holdsOthers tb_728 rfl rfl ⟨Nat.le_of_ble_eq_true rfl, Nat.le_of_ble_eq_true rfl⟩) (P_sub hP.1 [] rfl) hX rfl hl.1 rfl (Nat.le_of_ble_eq_true rfl) dX10_takeBegin_28 ⟨Nat.le_of_ble_eq_true rfl, Nat.le_of_ble_eq_true rfl⟩ ?_
      refine lv_if_ne (tgt := 43) hx hb dX10_takeBegin_31 (by decide) (fun c_41 => ?_) (fun c_41 => ?_)
      · have h := ie c_41 h
        exact j43 r_fault r_place t_kind t_start t_value t_word t_name t_at _ _ hP hS ls (lv_sub hl [1, 2] rfl) h
      · have h := it c_41 h
        refine lv_aload_n hx hb dX10_takeBegin_34 rfl (lv_at hl 1 rfl) ?_
        refine xget (i := 0) (j := 0) (k := 0) (T := TX10) hx hb ht tb_iX10 hown hX hP.1 rfl rfl rfl (by decide) tb_300 rfl dX10_takeBegin_35 ?_
        refine lv_iconst (v := 2) hx hb dX10_takeBegin_38 (by decide) ?_
        obtain ⟨z_42, e_z_42, h⟩ := bi h
        refine efVi (rest := []) ⟨hx, hb, hml, hown, ht⟩ (c_X6_fail l D cy fu A_r r_fault r_place A_t t_bytes t_wordCodes t_length t_kind t_start t_value t_word t_name t_end t_at 2 z_42 e_z_42 _ rfl _ rfl) (cV ht mv_X6_fail tb_716 rfl rfl ⟨Nat.le_of_ble_eq_true rfl, Nat.le_of_ble_eq_true rfl⟩) hP hS hX [1, 2] rfl rfl rfl rfl rfl rfl hl.1 rfl (Nat.le_of_ble_eq_true rfl) dX10_takeBegin_39 ⟨Nat.le_of_ble_eq_true rfl, Nat.le_of_ble_eq_true rfl⟩ (fun H locs hP hS => ?_)
        have hP : PD D A [bl_X10 cy A_k (A_r 0) (A_w 0) (A_a 0) k_open k_depth, bl_X6 cy A_r (A_t 0) z_42.2.1 z_42.2.2, bl_X7 cy A_t t_bytes t_wordCodes t_length t_kind t_start t_value t_word t_name t_end t_at, bl_X9 cy A_w w_deed w_man w_other w_sign w_number w_mate w_there w_rows w_steps, bl_X0 cy A_a a_name a_courage a_weight a_medals a_stood a_fled a_liked a_votes a_count a_living a_pride a_quota a_melted a_lost] H := hP
        obtain ⟨b_43, e_b_43, h⟩ := bi h
        obtain ⟨-, n_b_43, -⟩ := bz_ok e_b_43
        cases h
        subst hW1
        exact W.zret hx hb hr n_b_43 (fun _ ht9 _ => ⟨⟨_, (), rfl, rfl, hPt ht9 hP.1⟩, hS.F ht9⟩) hS.2.2 dX10_takeBegin_42
  unfold f_X10_takeBegin at h
  refine lv_iload_n hx hb dX10_takeBegin_0 rfl (lv_at hl 1 rfl) ?_
  refine lv_bipush (v := 7) hx hb dX10_takeBegin_1 (by decide) ?_
  refine lv_bipush (v := 11) hx hb dX10_takeBegin_3 (by decide) ?_
  obtain ⟨z_44, e_z_44, h⟩ := bi h
  refine roNi (rest := []) ⟨hx, hb, hml, hown, ht⟩ (c_X11_within l D cy fu  x1 7 11 z_44 e_z_44) (cN ht hX ms_X11_within (List.mem_of_getElem? (i := 8) rfl) rfl rfl ⟨Nat.le_of_ble_eq_true rfl, Nat.le_of_ble_eq_true rfl⟩) (P_sub hP.1 [] rfl) hX rfl hl.1 rfl (Nat.le_of_ble_eq_true rfl) dX10_takeBegin_5 ⟨Nat.le_of_ble_eq_true rfl, Nat.le_of_ble_eq_true rfl⟩ ?_
  refine lv_if_ne (tgt := 17) hx hb dX10_takeBegin_8 (by decide) (fun c_45 => ?_) (fun c_45 => ?_)
  · have h := ie c_45 h
    refine lv_iconst (v := 1) hx hb dX10_takeBegin_17 (by decide) ?_
    refine lv_goto (tgt := 22) hx hb dX10_takeBegin_18 (by decide) ?_
    exact j22 r_fault r_place t_kind t_start t_value t_word t_name t_at 1 _ _ hP hS ls (lv_sub hl [0, 1] rfl) h
  · have h := it c_45 h
    refine lv_iload_n hx hb dX10_takeBegin_11 rfl (lv_at hl 1 rfl) ?_
    refine lv_bipush (v := 18) hx hb dX10_takeBegin_12 (by decide) ?_
    refine lv_icmp_ne (tgt := 21) hx hb dX10_takeBegin_14 (by decide) (fun c_46 => ?_) (fun c_46 => ?_)
    · have h := ie c_46 h
      refine lv_iconst (v := 0) hx hb dX10_takeBegin_21 (by decide) ?_
      exact j22 r_fault r_place t_kind t_start t_value t_word t_name t_at 0 _ _ hP hS ls (lv_sub hl [0, 1] rfl) h
    · have h := it c_46 h
      refine lv_iconst (v := 1) hx hb dX10_takeBegin_17 (by decide) ?_
      refine lv_goto (tgt := 22) hx hb dX10_takeBegin_18 (by decide) ?_
      exact j22 r_fault r_place t_kind t_start t_value t_word t_name t_at 1 _ _ hP hS ls (lv_sub hl [0, 1] rfl) h
theorem dX10_takeTest_0 : decode cX10_takeTest 0 = .ok (.aload_n 0, 1) := by decide +kernel
theorem dX10_takeTest_1 : decode cX10_takeTest 1 = .ok (.getfield 19, 3) := by decide +kernel
theorem dX10_takeTest_4 : decode cX10_takeTest 4 = .ok (.getfield 46, 3) := by decide +kernel
theorem dX10_takeTest_7 : decode cX10_takeTest 7 = .ok (.getfield 50, 3) := by decide +kernel
theorem dX10_takeTest_10 : decode cX10_takeTest 10 = .ok (.istore_n 2, 1) := by decide +kernel
theorem dX10_takeTest_11 : decode cX10_takeTest 11 = .ok (.iload_n 2, 1) := by decide +kernel
theorem dX10_takeTest_12 : decode cX10_takeTest 12 = .ok (.bipush 13, 2) := by decide +kernel
theorem dX10_takeTest_14 : decode cX10_takeTest 14 = .ok (.bipush 15, 2) := by decide +kernel
theorem dX10_takeTest_16 : decode cX10_takeTest 16 = .ok (.invokestatic 71, 3) := by decide +kernel
theorem dX10_takeTest_19 : decode cX10_takeTest 19 = .ok (.ifCond .ne 12, 3) := by decide +kernel
theorem dX10_takeTest_22 : decode cX10_takeTest 22 = .ok (.aload_n 0, 1) := by decide +kernel
theorem dX10_takeTest_23 : decode cX10_takeTest 23 = .ok (.getfield 19, 3) := by decide +kernel
theorem dX10_takeTest_26 : decode cX10_takeTest 26 = .ok (.iconst 2, 1) := by decide +kernel
theorem dX10_takeTest_27 : decode cX10_takeTest 27 = .ok (.invokevirtual 68, 3) := by decide +kernel
theorem dX10_takeTest_30 : decode cX10_takeTest 30 = .ok (.ireturn, 1) := by decide +kernel
theorem dX10_takeTest_31 : decode cX10_takeTest 31 = .ok (.aload_n 0, 1) := by decide +kernel
theorem dX10_takeTest_32 : decode cX10_takeTest 32 = .ok (.getfield 23, 3) := by decide +kernel
theorem dX10_takeTest_35 : decode cX10_takeTest 35 = .ok (.getfield 111, 3) := by decide +kernel
theorem dX10_takeTest_38 : decode cX10_takeTest 38 = .ok (.iload_n 1, 1) := by decide +kernel
theorem dX10_takeTest_39 : decode cX10_takeTest 39 = .ok (.iload_n 2, 1) := by decide +kernel
theorem dX10_takeTest_40 : decode cX10_takeTest 40 = .ok (.iastore, 1) := by decide +kernel
theorem dX10_takeTest_41 : decode cX10_takeTest 41 = .ok (.aload_n 0, 1) := by decide +kernel
theorem dX10_takeTest_42 : decode cX10_takeTest 42 = .ok (.getfield 19, 3) := by decide +kernel
theorem dX10_takeTest_45 : decode cX10_takeTest 45 = .ok (.getfield 46, 3) := by decide +kernel
theorem dX10_takeTest_48 : decode cX10_takeTest 48 = .ok (.invokevirtual 75, 3) := by decide +kernel
theorem dX10_takeTest_51 : decode cX10_takeTest 51 = .ok (.aload_n 0, 1) := by decide +kernel
theorem dX10_takeTest_52 : decode cX10_takeTest 52 = .ok (.getfield 23, 3) := by decide +kernel
theorem dX10_takeTest_55 : decode cX10_takeTest 55 = .ok (.getfield 97, 3) := by decide +kernel
theorem dX10_takeTest_58 : decode cX10_takeTest 58 = .ok (.iload_n 1, 1) := by decide +kernel
theorem dX10_takeTest_59 : decode cX10_takeTest 59 = .ok (.aload_n 0, 1) := by decide +kernel
theorem dX10_takeTest_60 : decode cX10_takeTest 60 = .ok (.getfield 19, 3) := by decide +kernel
theorem dX10_takeTest_63 : decode cX10_takeTest 63 = .ok (.aload_n 0, 1) := by decide +kernel
theorem dX10_takeTest_64 : decode cX10_takeTest 64 = .ok (.getfield 27, 3) := by decide +kernel
theorem dX10_takeTest_67 : decode cX10_takeTest 67 = .ok (.iconst (-1), 1) := by decide +kernel
theorem dX10_takeTest_68 : decode cX10_takeTest 68 = .ok (.invokevirtual 100, 3) := by decide +kernel
theorem dX10_takeTest_71 : decode cX10_takeTest 71 = .ok (.iastore, 1) := by decide +kernel
theorem dX10_takeTest_72 : decode cX10_takeTest 72 = .ok (.aload_n 0, 1) := by decide +kernel
theorem dX10_takeTest_73 : decode cX10_takeTest 73 = .ok (.getfield 23, 3) := by decide +kernel
theorem dX10_takeTest_76 : decode cX10_takeTest 76 = .ok (.getfield 97, 3) := by decide +kernel
theorem dX10_takeTest_79 : decode cX10_takeTest 79 = .ok (.iload_n 1, 1) := by decide +kernel
theorem dX10_takeTest_80 : decode cX10_takeTest 80 = .ok (.iaload, 1) := by decide +kernel
theorem dX10_takeTest_81 : decode cX10_takeTest 81 = .ok (.iconst (-1), 1) := by decide +kernel
theorem dX10_takeTest_82 : decode cX10_takeTest 82 = .ok (.if_icmp .ne 5, 3) := by decide +kernel
theorem dX10_takeTest_85 : decode cX10_takeTest 85 = .ok (.iconst 0, 1) := by decide +kernel
theorem dX10_takeTest_86 : decode cX10_takeTest 86 = .ok (.ireturn, 1) := by decide +kernel
theorem dX10_takeTest_87 : decode cX10_takeTest 87 = .ok (.aload_n 0, 1) := by decide +kernel
theorem dX10_takeTest_88 : decode cX10_takeTest 88 = .ok (.getfield 19, 3) := by decide +kernel
theorem dX10_takeTest_91 : decode cX10_takeTest 91 = .ok (.bipush 60, 2) := by decide +kernel
theorem dX10_takeTest_93 : decode cX10_takeTest 93 = .ok (.invokevirtual 117, 3) := by decide +kernel
theorem dX10_takeTest_96 : decode cX10_takeTest 96 = .ok (.ifCond .ne 36, 3) := by decide +kernel
theorem dX10_takeTest_99 : decode cX10_takeTest 99 = .ok (.aload_n 0, 1) := by decide +kernel
theorem dX10_takeTest_100 : decode cX10_takeTest 100 = .ok (.getfield 19, 3) := by decide +kernel
theorem dX10_takeTest_103 : decode cX10_takeTest 103 = .ok (.bipush 62, 2) := by decide +kernel
theorem dX10_takeTest_105 : decode cX10_takeTest 105 = .ok (.invokevirtual 117, 3) := by decide +kernel
theorem dX10_takeTest_108 : decode cX10_takeTest 108 = .ok (.ifCond .ne 24, 3) := by decide +kernel
theorem dX10_takeTest_111 : decode cX10_takeTest 111 = .ok (.aload_n 0, 1) := by decide +kernel
theorem dX10_takeTest_112 : decode cX10_takeTest 112 = .ok (.getfield 19, 3) := by decide +kernel
theorem dX10_takeTest_115 : decode cX10_takeTest 115 = .ok (.bipush 61, 2) := by decide +kernel
theorem dX10_takeTest_117 : decode cX10_takeTest 117 = .ok (.invokevirtual 117, 3) := by decide +kernel
theorem dX10_takeTest_120 : decode cX10_takeTest 120 = .ok (.ifCond .ne 12, 3) := by decide +kernel
theorem dX10_takeTest_123 : decode cX10_takeTest 123 = .ok (.aload_n 0, 1) := by decide +kernel
theorem dX10_takeTest_124 : decode cX10_takeTest 124 = .ok (.getfield 19, 3) := by decide +kernel
theorem dX10_takeTest_127 : decode cX10_takeTest 127 = .ok (.iconst 2, 1) := by decide +kernel
theorem dX10_takeTest_128 : decode cX10_takeTest 128 = .ok (.invokevirtual 68, 3) := by decide +kernel
theorem dX10_takeTest_131 : decode cX10_takeTest 131 = .ok (.ireturn, 1) := by decide +kernel
theorem dX10_takeTest_132 : decode cX10_takeTest 132 = .ok (.aload_n 0, 1) := by decide +kernel
theorem dX10_takeTest_133 : decode cX10_takeTest 133 = .ok (.getfield 23, 3) := by decide +kernel
theorem dX10_takeTest_136 : decode cX10_takeTest 136 = .ok (.getfield 120, 3) := by decide +kernel
theorem dX10_takeTest_139 : decode cX10_takeTest 139 = .ok (.iload_n 1, 1) := by decide +kernel
theorem dX10_takeTest_140 : decode cX10_takeTest 140 = .ok (.aload_n 0, 1) := by decide +kernel
theorem dX10_takeTest_141 : decode cX10_takeTest 141 = .ok (.getfield 19, 3) := by decide +kernel
theorem dX10_takeTest_144 : decode cX10_takeTest 144 = .ok (.getfield 46, 3) := by decide +kernel
theorem dX10_takeTest_147 : decode cX10_takeTest 147 = .ok (.getfield 123, 3) := by decide +kernel
theorem dX10_takeTest_150 : decode cX10_takeTest 150 = .ok (.iastore, 1) := by decide +kernel
theorem dX10_takeTest_151 : decode cX10_takeTest 151 = .ok (.aload_n 0, 1) := by decide +kernel
theorem dX10_takeTest_152 : decode cX10_takeTest 152 = .ok (.getfield 19, 3) := by decide +kernel
theorem dX10_takeTest_155 : decode cX10_takeTest 155 = .ok (.getfield 46, 3) := by decide +kernel
theorem dX10_takeTest_158 : decode cX10_takeTest 158 = .ok (.invokevirtual 75, 3) := by decide +kernel
theorem dX10_takeTest_161 : decode cX10_takeTest 161 = .ok (.aload_n 0, 1) := by decide +kernel
theorem dX10_takeTest_162 : decode cX10_takeTest 162 = .ok (.getfield 23, 3) := by decide +kernel
theorem dX10_takeTest_165 : decode cX10_takeTest 165 = .ok (.getfield 104, 3) := by decide +kernel
theorem dX10_takeTest_168 : decode cX10_takeTest 168 = .ok (.iload_n 1, 1) := by decide +kernel
theorem dX10_takeTest_169 : decode cX10_takeTest 169 = .ok (.aload_n 0, 1) := by decide +kernel
theorem dX10_takeTest_170 : decode cX10_takeTest 170 = .ok (.getfield 19, 3) := by decide +kernel
theorem dX10_takeTest_173 : decode cX10_takeTest 173 = .ok (.iconst 0, 1) := by decide +kernel
theorem dX10_takeTest_174 : decode cX10_takeTest 174 = .ok (.sipush 999, 3) := by decide +kernel
theorem dX10_takeTest_177 : decode cX10_takeTest 177 = .ok (.invokevirtual 107, 3) := by decide +kernel
theorem dX10_takeTest_180 : decode cX10_takeTest 180 = .ok (.iastore, 1) := by decide +kernel
theorem dX10_takeTest_181 : decode cX10_takeTest 181 = .ok (.aload_n 0, 1) := by decide +kernel
theorem dX10_takeTest_182 : decode cX10_takeTest 182 = .ok (.getfield 23, 3) := by decide +kernel
theorem dX10_takeTest_185 : decode cX10_takeTest 185 = .ok (.getfield 104, 3) := by decide +kernel
theorem dX10_takeTest_188 : decode cX10_takeTest 188 = .ok (.iload_n 1, 1) := by decide +kernel
theorem dX10_takeTest_189 : decode cX10_takeTest 189 = .ok (.iaload, 1) := by decide +kernel
theorem dX10_takeTest_190 : decode cX10_takeTest 190 = .ok (.iconst (-1), 1) := by decide +kernel
theorem dX10_takeTest_191 : decode cX10_takeTest 191 = .ok (.if_icmp .eq 7, 3) := by decide +kernel
theorem dX10_takeTest_194 : decode cX10_takeTest 194 = .ok (.iconst 1, 1) := by decide +kernel
theorem dX10_takeTest_195 : decode cX10_takeTest 195 = .ok (.goto 4, 3) := by decide +kernel
theorem dX10_takeTest_198 : decode cX10_takeTest 198 = .ok (.iconst 0, 1) := by decide +kernel
theorem dX10_takeTest_199 : decode cX10_takeTest 199 = .ok (.ireturn, 1) := by decide +kernel
theorem mv_X10_takeTest : MV yX10_takeTest RX10 cX10_takeTest 3 (some .boolean) 1 := ⟨tb_740, tb_739, ts_17, tb_11, by decide +kernel, by decide +kernel, by decide +kernel⟩
def f_X10_takeTest_j132 (fu : Nat) (t_bytes : Nat → Int32) (t_wordCodes : Nat → Int64) (t_end : Int32) (a_name : Nat → Int64) (a_count : Int32) (x1 : Int32) (r_fault : Int32) (r_place : Int32) (t_kind : Int32) (t_start : Int32) (t_value : Int32) (t_word : Int32) (t_name : Int64) (t_at : Int32) (w_man : Nat → Int32) (w_other : Nat → Int32) (w_sign : Nat → Int32) (w_number : Nat → Int32) : Option (Int32 × Int32 × Int32 × Int32 × Int32 × Int32 × Int32 × Int64 × Int32 × (Nat → Int32) × (Nat → Int32) × (Nat → Int32) × (Nat → Int32)) := (wrI w_sign 60 x1 t_value).bind fun w_sign_25 => (f_X7_next fu t_bytes t_wordCodes t_kind t_start t_value t_word t_name t_end t_at).bind fun z_26 => (f_X6_takeNumber fu r_fault r_place t_bytes t_wordCodes z_26.1 z_26.2.1 z_26.2.2.1 z_26.2.2.2.1 z_26.2.2.2.2.1 t_end z_26.2.2.2.2.2 0 999).bind fun z_27 => (wrI w_number 60 x1 z_27.1).bind fun w_number_28 => (rdI w_number_28 60 x1).bind fun y_29 => (if y_29 = (-1) then some (0, z_27.2.1, z_27.2.2.1, z_27.2.2.2.1, z_27.2.2.2.2.1, z_27.2.2.2.2.2.1, z_27.2.2.2.2.2.2.1, z_27.2.2.2.2.2.2.2.1, z_27.2.2.2.2.2.2.2.2, w_man, w_other, w_sign_25, w_number_28) else some (1, z_27.2.1, z_27.2.2.1, z_27.2.2.2.1, z_27.2.2.2.2.1, z_27.2.2.2.2.2.1, z_27.2.2.2.2.2.2.1, z_27.2.2.2.2.2.2.2.1, z_27.2.2.2.2.2.2.2.2, w_man, w_other, w_sign_25, w_number_28))
def f_X10_takeTest (fu : Nat) (r_fault : Int32) (r_place : Int32) (t_bytes : Nat → Int32) (t_wordCodes : Nat → Int64) (t_kind : Int32) (t_start : Int32) (t_value : Int32) (t_word : Int32) (t_name : Int64) (t_end : Int32) (t_at : Int32) (w_man : Nat → Int32) (w_other : Nat → Int32) (w_sign : Nat → Int32) (w_number : Nat → Int32) (a_name : Nat → Int64) (a_count : Int32) (x1 : Int32) : Option (Int32 × Int32 × Int32 × Int32 × Int32 × Int32 × Int32 × Int64 × Int32 × (Nat → Int32) × (Nat → Int32) × (Nat → Int32) × (Nat → Int32)) := (f_X11_within fu t_word 13 15).bind fun z_31 => (if z_31 = 0 then (f_X6_fail fu r_fault r_place t_kind t_start 2).bind fun z_47 => (bz z_47.1).bind fun _ => some (z_47.1, z_47.2.1, z_47.2.2, t_kind, t_start, t_value, t_word, t_name, t_at, w_man, w_other, w_sign, w_number) else (wrI w_other 60 x1 t_word).bind fun w_other_33 => (f_X7_next fu t_bytes t_wordCodes t_kind t_start t_value t_word t_name t_end t_at).bind fun z_34 => (f_X6_takeMan fu r_fault r_place t_bytes t_wordCodes z_34.1 z_34.2.1 z_34.2.2.1 z_34.2.2.2.1 z_34.2.2.2.2.1 t_end z_34.2.2.2.2.2 a_name a_count (-1)).bind fun z_35 => (wrI w_man 60 x1 z_35.1).bind fun w_man_36 => (rdI w_man_36 60 x1).bind fun y_37 => (if y_37 = (-1) then some (0, z_35.2.1, z_35.2.2.1, z_35.2.2.2.1, z_35.2.2.2.2.1, z_35.2.2.2.2.2.1, z_35.2.2.2.2.2.2.1, z_35.2.2.2.2.2.2.2.1, z_35.2.2.2.2.2.2.2.2, w_man_36, w_other_33, w_sign, w_number) else (f_X6_isSign fu z_35.2.2.2.1 z_35.2.2.2.2.2.1 60).bind fun z_39 => (if z_39 = 0 then (f_X6_isSign fu z_35.2.2.2.1 z_35.2.2.2.2.2.1 62).bind fun z_41 => (if z_41 = 0 then (f_X6_isSign fu z_35.2.2.2.1 z_35.2.2.2.2.2.1 61).bind fun z_43 => (if z_43 = 0 then (f_X6_fail fu z_35.2.1 z_35.2.2.1 z_35.2.2.2.1 z_35.2.2.2.2.1 2).bind fun z_45 => (bz z_45.1).bind fun _ => some (z_45.1, z_45.2.1, z_45.2.2, z_35.2.2.2.1, z_35.2.2.2.2.1, z_35.2.2.2.2.2.1, z_35.2.2.2.2.2.2.1, z_35.2.2.2.2.2.2.2.1, z_35.2.2.2.2.2.2.2.2, w_man_36, w_other_33, w_sign, w_number) else f_X10_takeTest_j132 fu t_bytes t_wordCodes t_end a_name a_count x1 z_35.2.1 z_35.2.2.1 z_35.2.2.2.1 z_35.2.2.2.2.1 z_35.2.2.2.2.2.1 z_35.2.2.2.2.2.2.1 z_35.2.2.2.2.2.2.2.1 z_35.2.2.2.2.2.2.2.2 w_man_36 w_other_33 w_sign w_number) else f_X10_takeTest_j132 fu t_bytes t_wordCodes t_end a_name a_count x1 z_35.2.1 z_35.2.2.1 z_35.2.2.2.1 z_35.2.2.2.2.1 z_35.2.2.2.2.2.1 z_35.2.2.2.2.2.2.1 z_35.2.2.2.2.2.2.2.1 z_35.2.2.2.2.2.2.2.2 w_man_36 w_other_33 w_sign w_number) else f_X10_takeTest_j132 fu t_bytes t_wordCodes t_end a_name a_count x1 z_35.2.1 z_35.2.2.1 z_35.2.2.2.1 z_35.2.2.2.2.1 z_35.2.2.2.2.2.1 z_35.2.2.2.2.2.2.1 z_35.2.2.2.2.2.2.2.1 z_35.2.2.2.2.2.2.2.2 w_man_36 w_other_33 w_sign w_number)))
abbrev rm_X10_takeTest : Room := { frames := 3, cells := 0, slots := 0, locals := 66 }
set_option maxHeartbeats 4000000 in
set_option maxRecDepth 100000 in
theorem c_X10_takeTest (l : Launch) (D : va_G) (cy : Nat → ClassId) (fu : Nat) (A_k : Nat → Nat) (k_open : Nat → Int32) (k_depth : Int32) (A_r : Nat → Nat) (r_fault : Int32) (r_place : Int32) (A_t : Nat → Nat) (t_bytes : Nat → Int32) (t_wordCodes : Nat → Int64) (t_length : Int32) (t_kind : Int32) (t_start : Int32) (t_value : Int32) (t_word : Int32) (t_name : Int64) (t_end : Int32) (t_at : Int32) (A_w : Nat → Nat) (w_deed : Nat → Int32) (w_man : Nat → Int32) (w_other : Nat → Int32) (w_sign : Nat → Int32) (w_number : Nat → Int32) (w_mate : Nat → Int32) (w_there : Int32) (w_rows : Int32) (w_steps : Int32) (A_a : Nat → Nat) (a_name : Nat → Int64) (a_courage : Nat → Int32) (a_weight : Nat → Int32) (a_medals : Nat → Int32) (a_stood : Nat → Int32) (a_fled : Nat → Int32) (a_liked : Nat → Int32) (a_votes : Nat → Int32) (a_count : Int32) (a_living : Int32) (a_pride : Int32) (a_quota : Int32) (a_melted : Int32) (a_lost : Int32) (x1 : Int32) (res : Int32 × Int32 × Int32 × Int32 × Int32 × Int32 × Int32 × Int64 × Int32 × (Nat → Int32) × (Nat → Int32) × (Nat → Int32) × (Nat → Int32)) (h : f_X10_takeTest fu r_fault r_place t_bytes t_wordCodes t_kind t_start t_value t_word t_name t_end t_at w_man w_other w_sign w_number a_name a_count x1 = some res) (A : Nat → Prop) (hA : A = adr [bl_X10 cy A_k (A_r 0) (A_w 0) (A_a 0) k_open k_depth, bl_X6 cy A_r (A_t 0) r_fault r_place, bl_X7 cy A_t t_bytes t_wordCodes t_length t_kind t_start t_value t_word t_name t_end t_at, bl_X9 cy A_w w_deed w_man w_other w_sign w_number w_mate w_there w_rows w_steps, bl_X0 cy A_a a_name a_courage a_weight a_medals a_stood a_fled a_liked a_votes a_count a_living a_pride a_quota a_melted a_lost]) (W1 : List va_W) (hW1 : W1 = [bl_X10 cy A_k (A_r 0) (A_w 0) (A_a 0) k_open k_depth, bl_X6 cy A_r (A_t 0) res.2.1 res.2.2.1, bl_X7 cy A_t t_bytes t_wordCodes t_length res.2.2.2.1 res.2.2.2.2.1 res.2.2.2.2.2.1 res.2.2.2.2.2.2.1 res.2.2.2.2.2.2.2.1 t_end res.2.2.2.2.2.2.2.2.1, bl_X9 cy A_w w_deed res.2.2.2.2.2.2.2.2.2.1 res.2.2.2.2.2.2.2.2.2.2.1 res.2.2.2.2.2.2.2.2.2.2.2.1 res.2.2.2.2.2.2.2.2.2.2.2.2 w_mate w_there w_rows w_steps, bl_X0 cy A_a a_name a_courage a_weight a_medals a_stood a_fled a_liked a_votes a_count a_living a_pride a_quota a_melted a_lost]) : Met l yX10_takeTest (WW yX10_takeTest cX10_takeTest 3 (some .boolean)) rm_X10_takeTest (Ed D cy [.ref (A_k 0), .int x1] [bl_X10 cy A_k (A_r 0) (A_w 0) (A_a 0) k_open k_depth, bl_X6 cy A_r (A_t 0) r_fault r_place, bl_X7 cy A_t t_bytes t_wordCodes t_length t_kind t_start t_value t_word t_name t_end t_at, bl_X9 cy A_w w_deed w_man w_other w_sign w_number w_mate w_there w_rows w_steps, bl_X0 cy A_a a_name a_courage a_weight a_medals a_stood a_fled a_liked a_votes a_count a_living a_pride a_quota a_melted a_lost]) (Qei D res.1 A W1) 0 0 A := by
  refine Met.ofW (cc := cX10_takeTest) (maxL := 3) (ret := (some .boolean)) (by decide) rfl ?_
  intro p e s m args below meth c s₁ B hml hv
  obtain ⟨hargs, hP, hX, hD0⟩ := hv
  have hx := B.exec
  have hb := B.bytes
  have hr := B.returns
  have ht : ∀ w ∈ lw_gd, w.before args s = true := fun w hw => atoms_spec (ws := WW yX10_takeTest cX10_takeTest 3 (some .boolean)) B.pre w (List.mem_cons_of_mem _ hw)
  have hown : s.vm.findClass RX10 = some m.cls := findClass_of_methodNamed B.named
  have hlocks := B.notSynchronized
  have hP : PD D A [bl_X10 cy A_k (A_r 0) (A_w 0) (A_a 0) k_open k_depth, bl_X6 cy A_r (A_t 0) r_fault r_place, bl_X7 cy A_t t_bytes t_wordCodes t_length t_kind t_start t_value t_word t_name t_end t_at, bl_X9 cy A_w w_deed w_man w_other w_sign w_number w_mate w_there w_rows w_steps, bl_X0 cy A_a a_name a_courage a_weight a_medals a_stood a_fled a_liked a_votes a_count a_living a_pride a_quota a_melted a_lost] s.heap := ⟨hP, by rw [hA]; exact hD0.own⟩
  have hS : va_S A s.heap s.heap [] := va_S.rf
  obtain ⟨ls, hl, hent⟩ := ent (m := m) (n := 3) hargs (Nat.le_of_ble_eq_true rfl) (lv := [(0, .ref (A_k 0)), (1, .int x1)]) rfl
  rw [hent]
  clear hent
  have j132 : ∀ (r_fault : Int32) (r_place : Int32) (t_kind : Int32) (t_start : Int32) (t_value : Int32) (t_word : Int32) (t_name : Int64) (t_at : Int32) (w_man : Nat → Int32) (w_other : Nat → Int32) (w_sign : Nat → Int32) (w_number : Nat → Int32) (H : Heap) (locs : List Loc) (_ : PD D A [bl_X10 cy A_k (A_r 0) (A_w 0) (A_a 0) k_open k_depth, bl_X6 cy A_r (A_t 0) r_fault r_place, bl_X7 cy A_t t_bytes t_wordCodes t_length t_kind t_start t_value t_word t_name t_end t_at, bl_X9 cy A_w w_deed w_man w_other w_sign w_number w_mate w_there w_rows w_steps, bl_X0 cy A_a a_name a_courage a_weight a_medals a_stood a_fled a_liked a_votes a_count a_living a_pride a_quota a_melted a_lost] H) (_ : va_S A s.heap H locs) (ls : Array Slot), lv_has ls 3 [(0, .ref (A_k 0)), (1, .int x1)] → f_X10_takeTest_j132 fu t_bytes t_wordCodes t_end a_name a_count x1 r_fault r_place t_kind t_start t_value t_word t_name t_at w_man w_other w_sign w_number = some res → W p l e (headSpec (WW yX10_takeTest cX10_takeTest 3 (some .boolean)) rm_X10_takeTest).room s m args below meth c H locs 0 0 (MQ below (Qei D res.1 A W1) args s 0 0 A) (F0 m 132 ls []) := by
    intro r_fault r_place t_kind t_start t_value t_word t_name t_at w_man w_other w_sign w_number H locs hP hS ls hl h
    unfold f_X10_takeTest_j132 at h
    refine lv_aload_n hx hb dX10_takeTest_132 rfl (lv_at hl 0 rfl) ?_
    refine xget (i := 0) (j := 0) (k := 1) (T := TX10) hx hb ht tb_iX10 hown hX hP.1 rfl rfl rfl (by decide) tb_301 rfl dX10_takeTest_133 ?_
    refine xget (i := 3) (j := 0) (k := 3) (T := TX9) hx hb ht tb_iX9 hown hX hP.1 rfl rfl rfl (by decide) tb_121 rfl dX10_takeTest_136 ?_
    refine lv_iload_n hx hb dX10_takeTest_139 rfl (lv_at hl 1 rfl) ?_
    refine lv_aload_n hx hb dX10_takeTest_140 rfl (lv_at hl 0 rfl) ?_
    refine xget (i := 0) (j := 0) (k := 0) (T := TX10) hx hb ht tb_iX10 hown hX hP.1 rfl rfl rfl (by decide) tb_300 rfl dX10_takeTest_141 ?_
    refine xget (i := 1) (j := 0) (k := 0) (T := TX6) hx hb ht tb_iX6 hown hX hP.1 rfl rfl rfl (by decide) tb_262 rfl dX10_takeTest_144 ?_
    refine xget (i := 2) (j := 0) (k := 5) (T := TX7) hx hb ht tb_iX7 hown hX hP.1 rfl rfl rfl (by decide) tb_228 rfl dX10_takeTest_147 ?_
    obtain ⟨w_sign_25, e_w_sign_25, h⟩ := bi h
    refine xiast (i0 := 3) (j0 := 4) hx hb hX hP hS rfl rfl e_w_sign_25 dX10_takeTest_150 (fun H locs hP hS => ?_)
    have hP : PD D A [bl_X10 cy A_k (A_r 0) (A_w 0) (A_a 0) k_open k_depth, bl_X6 cy A_r (A_t 0) r_fault r_place, bl_X7 cy A_t t_bytes t_wordCodes t_length t_kind t_start t_value t_word t_name t_end t_at, bl_X9 cy A_w w_deed w_man w_other w_sign_25 w_number w_mate w_there w_rows w_steps, bl_X0 cy A_a a_name a_courage a_weight a_medals a_stood a_fled a_liked a_votes a_count a_living a_pride a_quota a_melted a_lost] H := hP
    refine lv_aload_n hx hb dX10_takeTest_151 rfl (lv_at hl 0 rfl) ?_
    refine xget (i := 0) (j := 0) (k := 0) (T := TX10) hx hb ht tb_iX10 hown hX hP.1 rfl rfl rfl (by decide) tb_300 rfl dX10_takeTest_152 ?_
    refine xget (i := 1) (j := 0) (k := 0) (T := TX6) hx hb ht tb_iX6 hown hX hP.1 rfl rfl rfl (by decide) tb_262 rfl dX10_takeTest_155 ?_
    obtain ⟨z_26, e_z_26, h⟩ := bi h
    refine efVv (rest := []) ⟨hx, hb, hml, hown, ht⟩ (c_X7_next l D cy fu A_t t_bytes t_wordCodes t_length t_kind t_start t_value t_word t_name t_end t_at z_26 e_z_26 _ rfl _ rfl) (cV ht mv_X7_next tb_717 rfl rfl ⟨Nat.le_of_ble_eq_true rfl, Nat.le_of_ble_eq_true rfl⟩) hP hS hX [2] rfl rfl rfl rfl rfl rfl hl.1 rfl (Nat.le_of_ble_eq_true rfl) dX10_takeTest_158 ⟨Nat.le_of_ble_eq_true rfl, Nat.le_of_ble_eq_true rfl⟩ (fun H locs hP hS => ?_)
    have hP : PD D A [bl_X10 cy A_k (A_r 0) (A_w 0) (A_a 0) k_open k_depth, bl_X6 cy A_r (A_t 0) r_fault r_place, bl_X7 cy A_t t_bytes t_wordCodes t_length z_26.1 z_26.2.1 z_26.2.2.1 z_26.2.2.2.1 z_26.2.2.2.2.1 t_end z_26.2.2.2.2.2, bl_X9 cy A_w w_deed w_man w_other w_sign_25 w_number w_mate w_there w_rows w_steps, bl_X0 cy A_a a_name a_courage a_weight a_medals a_stood a_fled a_liked a_votes a_count a_living a_pride a_quota a_melted a_lost] H := hP
    refine lv_aload_n hx hb dX10_takeTest_161 rfl (lv_at hl 0 rfl) ?_
    refine xget (i := 0) (j := 0) (k := 1) (T := TX10) hx hb ht tb_iX10 hown hX hP.1 rfl rfl rfl (by decide) tb_301 rfl dX10_takeTest_162 ?_
    refine xget (i := 3) (j := 0) (k := 4) (T := TX9) hx hb ht tb_iX9 hown hX hP.1 rfl rfl rfl (by decide) tb_125 rfl dX10_takeTest_165 ?_
    refine lv_iload_n hx hb dX10_takeTest_168 rfl (lv_at hl 1 rfl) ?_
    refine lv_aload_n hx hb dX10_takeTest_169 rfl (lv_at hl 0 rfl) ?_
    refine xget (i := 0) (j := 0) (k := 0) (T := TX10) hx hb ht tb_iX10 hown hX hP.1 rfl rfl rfl (by decide) tb_300 rfl dX10_takeTest_170 ?_
    refine lv_iconst (v := 0) hx hb dX10_takeTest_173 (by decide) ?_
    refine lv_sipush (v := 999) hx hb dX10_takeTest_174 (by decide) ?_
    obtain ⟨z_27, e_z_27, h⟩ := bi h
    refine efVi (rest := [.int x1, .ref (A_w 5)]) ⟨hx, hb, hml, hown, ht⟩ (c_X6_takeNumber l D cy fu A_r r_fault r_place A_t t_bytes t_wordCodes t_length z_26.1 z_26.2.1 z_26.2.2.1 z_26.2.2.2.1 z_26.2.2.2.2.1 t_end z_26.2.2.2.2.2 0 999 z_27 e_z_27 _ rfl _ rfl) (cV ht mv_X6_takeNumber tb_736 rfl rfl ⟨Nat.le_of_ble_eq_true rfl, Nat.le_of_ble_eq_true rfl⟩) hP hS hX [1, 2] rfl rfl rfl rfl rfl rfl hl.1 rfl (Nat.le_of_ble_eq_true rfl) dX10_takeTest_177 ⟨Nat.le_of_ble_eq_true rfl, Nat.le_of_ble_eq_true rfl⟩ (fun H locs hP hS => ?_)
    have hP : PD D A [bl_X10 cy A_k (A_r 0) (A_w 0) (A_a 0) k_open k_depth, bl_X6 cy A_r (A_t 0) z_27.2.1 z_27.2.2.1, bl_X7 cy A_t t_bytes t_wordCodes t_length z_27.2.2.2.1 z_27.2.2.2.2.1 z_27.2.2.2.2.2.1 z_27.2.2.2.2.2.2.1 z_27.2.2.2.2.2.2.2.1 t_end z_27.2.2.2.2.2.2.2.2, bl_X9 cy A_w w_deed w_man w_other w_sign_25 w_number w_mate w_there w_rows w_steps, bl_X0 cy A_a a_name a_courage a_weight a_medals a_stood a_fled a_liked a_votes a_count a_living a_pride a_quota a_melted a_lost] H := hP
    obtain ⟨w_number_28, e_w_number_28, h⟩ := bi h
    refine xiast (i0 := 3) (j0 := 5) hx hb hX hP hS rfl rfl e_w_number_28 dX10_takeTest_180 (fun H locs hP hS => ?_)
    have hP : PD D A [bl_X10 cy A_k (A_r 0) (A_w 0) (A_a 0) k_open k_depth, bl_X6 cy A_r (A_t 0) z_27.2.1 z_27.2.2.1, bl_X7 cy A_t t_bytes t_wordCodes t_length z_27.2.2.2.1 z_27.2.2.2.2.1 z_27.2.2.2.2.2.1 z_27.2.2.2.2.2.2.1 z_27.2.2.2.2.2.2.2.1 t_end z_27.2.2.2.2.2.2.2.2, bl_X9 cy A_w w_deed w_man w_other w_sign_25 w_number_28 w_mate w_there w_rows w_steps, bl_X0 cy A_a a_name a_courage a_weight a_medals a_stood a_fled a_liked a_votes a_count a_living a_pride a_quota a_melted a_lost] H := hP
    refine lv_aload_n hx hb dX10_takeTest_181 rfl (lv_at hl 0 rfl) ?_
    refine xget (i := 0) (j := 0) (k := 1) (T := TX10) hx hb ht tb_iX10 hown hX hP.1 rfl rfl rfl (by decide) tb_301 rfl dX10_takeTest_182 ?_
    refine xget (i := 3) (j := 0) (k := 4) (T := TX9) hx hb ht tb_iX9 hown hX hP.1 rfl rfl rfl (by decide) tb_125 rfl dX10_takeTest_185 ?_
    refine lv_iload_n hx hb dX10_takeTest_188 rfl (lv_at hl 1 rfl) ?_
    obtain ⟨y_29, e_y_29, h⟩ := bi h
    refine xiald (i0 := 3) (j0 := 5) hx hb hX hP.1 rfl rfl e_y_29 dX10_takeTest_189 ?_
    refine lv_iconst (v := (-1)) hx hb dX10_takeTest_190 (by decide) ?_
    refine lv_icmp_eq (tgt := 198) hx hb dX10_takeTest_191 (by decide) (fun c_30 => ?_) (fun c_30 => ?_)
    · have h := it c_30 h
      refine lv_iconst (v := 0) hx hb dX10_takeTest_198 (by decide) ?_
      cases h
      subst hW1
      exact W.zret hx hb hr rfl (fun _ ht9 _ => ⟨⟨_, (), rfl, rfl, hPt ht9 hP.1⟩, hS.F ht9⟩) hS.2.2 dX10_takeTest_199
    · have h := ie c_30 h
      refine lv_iconst (v := 1) hx hb dX10_takeTest_194 (by decide) ?_
      refine lv_goto (tgt := 199) hx hb dX10_takeTest_195 (by decide) ?_
      cases h
      subst hW1
      exact W.zret hx hb hr rfl (fun _ ht9 _ => ⟨⟨_, (), rfl, rfl, hPt ht9 hP.1⟩, hS.F ht9⟩) hS.2.2 dX10_takeTest_199
  unfold f_X10_takeTest at h
  refine lv_aload_n hx hb dX10_takeTest_0 rfl (lv_at hl 0 rfl) ?_
  refine xget (i := 0) (j := 0) (k := 0) (T := TX10) hx hb ht tb_iX10 hown hX hP.1 rfl rfl rfl (by decide) tb_300 rfl dX10_takeTest_1 ?_
  refine xget (i := 1) (j := 0) (k := 0) (T := TX6) hx hb ht tb_iX6 hown hX hP.1 rfl rfl rfl (by decide) tb_262 rfl dX10_takeTest_4 ?_
  refine xget (i := 2) (j := 0) (k := 6) (T := TX7) hx hb ht tb_iX7 hown hX hP.1 rfl rfl rfl (by decide) tb_231 rfl dX10_takeTest_7 ?_
  refine lv_istore_n (lv' := [(2, .int t_word), (0, .ref (A_k 0)), (1, .int x1)]) hx hb dX10_takeTest_10 rfl hl (by decide) rfl (fun ls hl => ?_)
  refine lv_iload_n hx hb dX10_takeTest_11 rfl (lv_at hl 0 rfl) ?_
  refine lv_bipush (v := 13) hx hb dX10_takeTest_12 (by decide) ?_
  refine lv_bipush (v := 15) hx hb dX10_takeTest_14 (by decide) ?_
  obtain ⟨z_31, e_z_31, h⟩ := bi h
  refine roNi (rest := []) ⟨hx, hb, hml, hown, ht⟩ (c_X11_within l D cy fu  t_word 13 15 z_31 e_z_31) (cN ht hX ms_X11_within (List.mem_of_getElem? (i := 8) rfl) rfl rfl ⟨Nat.le_of_ble_eq_true rfl, Nat.le_of_ble_eq_true rfl⟩) (P_sub hP.1 [] rfl) hX rfl hl.1 rfl (Nat.le_of_ble_eq_true rfl) dX10_takeTest_16 ⟨Nat.le_of_ble_eq_true rfl, Nat.le_of_ble_eq_true rfl⟩ ?_
  refine lv_if_ne (tgt := 31) hx hb dX10_takeTest_19 (by decide) (fun c_32 => ?_) (fun c_32 => ?_)
  · have h := ie c_32 h
    refine lv_aload_n hx hb dX10_takeTest_31 rfl (lv_at hl 1 rfl) ?_
    refine xget (i := 0) (j := 0) (k := 1) (T := TX10) hx hb ht tb_iX10 hown hX hP.1 rfl rfl rfl (by decide) tb_301 rfl dX10_takeTest_32 ?_
    refine xget (i := 3) (j := 0) (k := 2) (T := TX9) hx hb ht tb_iX9 hown hX hP.1 rfl rfl rfl (by decide) tb_119 rfl dX10_takeTest_35 ?_
    refine lv_iload_n hx hb dX10_takeTest_38 rfl (lv_at hl 2 rfl) ?_
    refine lv_iload_n hx hb dX10_takeTest_39 rfl (lv_at hl 0 rfl) ?_
    obtain ⟨w_other_33, e_w_other_33, h⟩ := bi h
    refine xiast (i0 := 3) (j0 := 3) hx hb hX hP hS rfl rfl e_w_other_33 dX10_takeTest_40 (fun H locs hP hS => ?_)
    have hP : PD D A [bl_X10 cy A_k (A_r 0) (A_w 0) (A_a 0) k_open k_depth, bl_X6 cy A_r (A_t 0) r_fault r_place, bl_X7 cy A_t t_bytes t_wordCodes t_length t_kind t_start t_value t_word t_name t_end t_at, bl_X9 cy A_w w_deed w_man w_other_33 w_sign w_number w_mate w_there w_rows w_steps, bl_X0 cy A_a a_name a_courage a_weight a_medals a_stood a_fled a_liked a_votes a_count a_living a_pride a_quota a_melted a_lost] H := hP
    refine lv_aload_n hx hb dX10_takeTest_41 rfl (lv_at hl 1 rfl) ?_
    refine xget (i := 0) (j := 0) (k := 0) (T := TX10) hx hb ht tb_iX10 hown hX hP.1 rfl rfl rfl (by decide) tb_300 rfl dX10_takeTest_42 ?_
    refine xget (i := 1) (j := 0) (k := 0) (T := TX6) hx hb ht tb_iX6 hown hX hP.1 rfl rfl rfl (by decide) tb_262 rfl dX10_takeTest_45 ?_
    obtain ⟨z_34, e_z_34, h⟩ := bi h
    refine efVv (rest := []) ⟨hx, hb, hml, hown, ht⟩ (c_X7_next l D cy fu A_t t_bytes t_wordCodes t_length t_kind t_start t_value t_word t_name t_end t_at z_34 e_z_34 _ rfl _ rfl) (cV ht mv_X7_next tb_717 rfl rfl ⟨Nat.le_of_ble_eq_true rfl, Nat.le_of_ble_eq_true rfl⟩) hP hS hX [2] rfl rfl rfl rfl rfl rfl hl.1 rfl (Nat.le_of_ble_eq_true rfl) dX10_takeTest_48 ⟨Nat.le_of_ble_eq_true rfl, Nat.le_of_ble_eq_true rfl⟩ (fun H locs hP hS => ?_)
    have hP : PD D A [bl_X10 cy A_k (A_r 0) (A_w 0) (A_a 0) k_open k_depth, bl_X6 cy A_r (A_t 0) r_fault r_place, bl_X7 cy A_t t_bytes t_wordCodes t_length z_34.1 z_34.2.1 z_34.2.2.1 z_34.2.2.2.1 z_34.2.2.2.2.1 t_end z_34.2.2.2.2.2, bl_X9 cy A_w w_deed w_man w_other_33 w_sign w_number w_mate w_there w_rows w_steps, bl_X0 cy A_a a_name a_courage a_weight a_medals a_stood a_fled a_liked a_votes a_count a_living a_pride a_quota a_melted a_lost] H := hP
    refine lv_aload_n hx hb dX10_takeTest_51 rfl (lv_at hl 1 rfl) ?_
    refine xget (i := 0) (j := 0) (k := 1) (T := TX10) hx hb ht tb_iX10 hown hX hP.1 rfl rfl rfl (by decide) tb_301 rfl dX10_takeTest_52 ?_
    refine xget (i := 3) (j := 0) (k := 1) (T := TX9) hx hb ht tb_iX9 hown hX hP.1 rfl rfl rfl (by decide) tb_116 rfl dX10_takeTest_55 ?_
    refine lv_iload_n hx hb dX10_takeTest_58 rfl (lv_at hl 2 rfl) ?_
    refine lv_aload_n hx hb dX10_takeTest_59 rfl (lv_at hl 1 rfl) ?_
    refine xget (i := 0) (j := 0) (k := 0) (T := TX10) hx hb ht tb_iX10 hown hX hP.1 rfl rfl rfl (by decide) tb_300 rfl dX10_takeTest_60 ?_
    refine lv_aload_n hx hb dX10_takeTest_63 rfl (lv_at hl 1 rfl) ?_
    refine xget (i := 0) (j := 0) (k := 2) (T := TX10) hx hb ht tb_iX10 hown hX hP.1 rfl rfl rfl (by decide) tb_302 rfl dX10_takeTest_64 ?_
    refine lv_iconst (v := (-1)) hx hb dX10_takeTest_67 (by decide) ?_
    obtain ⟨z_35, e_z_35, h⟩ := bi h
    refine efVi (rest := [.int x1, .ref (A_w 2)]) ⟨hx, hb, hml, hown, ht⟩ (c_X6_takeMan l D cy fu A_r r_fault r_place A_t t_bytes t_wordCodes t_length z_34.1 z_34.2.1 z_34.2.2.1 z_34.2.2.2.1 z_34.2.2.2.2.1 t_end z_34.2.2.2.2.2 A_a a_name a_courage a_weight a_medals a_stood a_fled a_liked a_votes a_count a_living a_pride a_quota a_melted a_lost (-1) z_35 e_z_35 _ rfl _ rfl) (cV ht mv_X6_takeMan tb_735 rfl rfl ⟨Nat.le_of_ble_eq_true rfl, Nat.le_of_ble_eq_true rfl⟩) hP hS hX [1, 2, 4] rfl rfl rfl rfl rfl rfl hl.1 rfl (Nat.le_of_ble_eq_true rfl) dX10_takeTest_68 ⟨Nat.le_of_ble_eq_true rfl, Nat.le_of_ble_eq_true rfl⟩ (fun H locs hP hS => ?_)
    have hP : PD D A [bl_X10 cy A_k (A_r 0) (A_w 0) (A_a 0) k_open k_depth, bl_X6 cy A_r (A_t 0) z_35.2.1 z_35.2.2.1, bl_X7 cy A_t t_bytes t_wordCodes t_length z_35.2.2.2.1 z_35.2.2.2.2.1 z_35.2.2.2.2.2.1 z_35.2.2.2.2.2.2.1 z_35.2.2.2.2.2.2.2.1 t_end z_35.2.2.2.2.2.2.2.2, bl_X9 cy A_w w_deed w_man w_other_33 w_sign w_number w_mate w_there w_rows w_steps, bl_X0 cy A_a a_name a_courage a_weight a_medals a_stood a_fled a_liked a_votes a_count a_living a_pride a_quota a_melted a_lost] H := hP
    obtain ⟨w_man_36, e_w_man_36, h⟩ := bi h
    refine xiast (i0 := 3) (j0 := 2) hx hb hX hP hS rfl rfl e_w_man_36 dX10_takeTest_71 (fun H locs hP hS => ?_)
    have hP : PD D A [bl_X10 cy A_k (A_r 0) (A_w 0) (A_a 0) k_open k_depth, bl_X6 cy A_r (A_t 0) z_35.2.1 z_35.2.2.1, bl_X7 cy A_t t_bytes t_wordCodes t_length z_35.2.2.2.1 z_35.2.2.2.2.1 z_35.2.2.2.2.2.1 z_35.2.2.2.2.2.2.1 z_35.2.2.2.2.2.2.2.1 t_end z_35.2.2.2.2.2.2.2.2, bl_X9 cy A_w w_deed w_man_36 w_other_33 w_sign w_number w_mate w_there w_rows w_steps, bl_X0 cy A_a a_name a_courage a_weight a_medals a_stood a_fled a_liked a_votes a_count a_living a_pride a_quota a_melted a_lost] H := hP
    refine lv_aload_n hx hb dX10_takeTest_72 rfl (lv_at hl 1 rfl) ?_
    refine xget (i := 0) (j := 0) (k := 1) (T := TX10) hx hb ht tb_iX10 hown hX hP.1 rfl rfl rfl (by decide) tb_301 rfl dX10_takeTest_73 ?_
    refine xget (i := 3) (j := 0) (k := 1) (T := TX9) hx hb ht tb_iX9 hown hX hP.1 rfl rfl rfl (by decide) tb_116 rfl dX10_takeTest_76 ?_
    refine lv_iload_n hx hb dX10_takeTest_79 rfl (lv_at hl 2 rfl) ?_
    obtain ⟨y_37, e_y_37, h⟩ := bi h
    refine xiald (i0 := 3) (j0 := 2) hx hb hX hP.1 rfl rfl e_y_37 dX10_takeTest_80 ?_
    refine lv_iconst (v := (-1)) hx hb dX10_takeTest_81 (by decide) ?_
    refine lv_icmp_ne (tgt := 87) hx hb dX10_takeTest_82 (by decide) (fun c_38 => ?_) (fun c_38 => ?_)
    · have h := ie c_38 h
      refine lv_aload_n hx hb dX10_takeTest_87 rfl (lv_at hl 1 rfl) ?_
      refine xget (i := 0) (j := 0) (k := 0) (T := TX10) hx hb ht tb_iX10 hown hX hP.1 rfl rfl rfl (by decide) tb_300 rfl dX10_takeTest_88 ?_
      refine lv_bipush (v := 60) hx hb dX10_takeTest_91 (by decide) ?_
      obtain ⟨z_39, e_z_39, h⟩ := bi h
      refine roVi (rest := []) ⟨hx, hb, hml, hown, ht⟩ (c_X6_isSign l D cy fu A_r z_35.2.1 z_35.2.2.1 A_t t_bytes t_wordCodes t_length z_35.2.2.2.1 z_35.2.2.2.2.1 z_35.2.2.2.2.2.1 z_35.2.2.2.2.2.2.1 z_35.2.2.2.2.2.2.2.1 t_end z_35.2.2.2.2.2.2.2.2 60 z_39 e_z_39) (cV ht mv_X6_isSign tb_741 rfl rfl ⟨Nat.le_of_ble_eq_true rfl, Nat.le_of_ble_eq_true rfl⟩) (P_sub hP.1 [1, 2] rfl) hX rfl rfl rfl hl.1 rfl (Nat.le_of_ble_eq_true rfl) dX10_takeTest_93 ⟨Nat.le_of_ble_eq_true rfl, Nat.le_of_ble_eq_true rfl⟩ ?_
      refine lv_if_ne (tgt := 132) hx hb dX10_takeTest_96 (by decide) (fun c_40 => ?_) (fun c_40 => ?_)
      · have h := ie c_40 h
        exact j132 z_35.2.1 z_35.2.2.1 z_35.2.2.2.1 z_35.2.2.2.2.1 z_35.2.2.2.2.2.1 z_35.2.2.2.2.2.2.1 z_35.2.2.2.2.2.2.2.1 z_35.2.2.2.2.2.2.2.2 w_man_36 w_other_33 w_sign w_number _ _ hP hS ls (lv_sub hl [1, 2] rfl) h
      · have h := it c_40 h
        refine lv_aload_n hx hb dX10_takeTest_99 rfl (lv_at hl 1 rfl) ?_
        refine xget (i := 0) (j := 0) (k := 0) (T := TX10) hx hb ht tb_iX10 hown hX hP.1 rfl rfl rfl (by decide) tb_300 rfl dX10_takeTest_100 ?_
        refine lv_bipush (v := 62) hx hb dX10_takeTest_103 (by decide) ?_
        obtain ⟨z_41, e_z_41, h⟩ := bi h
        refine roVi (rest := []) ⟨hx, hb, hml, hown, ht⟩ (c_X6_isSign l D cy fu A_r z_35.2.1 z_35.2.2.1 A_t t_bytes t_wordCodes t_length z_35.2.2.2.1 z_35.2.2.2.2.1 z_35.2.2.2.2.2.1 z_35.2.2.2.2.2.2.1 z_35.2.2.2.2.2.2.2.1 t_end z_35.2.2.2.2.2.2.2.2 62 z_41 e_z_41) (cV ht mv_X6_isSign tb_741 rfl rfl ⟨Nat.le_of_ble_eq_true rfl, Nat.le_of_ble_eq_true rfl⟩) (P_sub hP.1 [1, 2] rfl) hX rfl rfl rfl hl.1 rfl (Nat.le_of_ble_eq_true rfl) dX10_takeTest_105 ⟨Nat.le_of_ble_eq_true rfl, Nat.le_of_ble_eq_true rfl⟩ ?_
        refine lv_if_ne (tgt := 132) hx hb dX10_takeTest_108 (by decide) (fun c_42 => ?_) (fun c_42 => ?_)
        · have h := ie c_42 h
          exact j132 z_35.2.1 z_35.2.2.1 z_35.2.2.2.1 z_35.2.2.2.2.1 z_35.2.2.2.2.2.1 z_35.2.2.2.2.2.2.1 z_35.2.2.2.2.2.2.2.1 z_35.2.2.2.2.2.2.2.2 w_man_36 w_other_33 w_sign w_number _ _ hP hS ls (lv_sub hl [1, 2] rfl) h
        · have h := it c_42 h
          refine lv_aload_n hx hb dX10_takeTest_111 rfl (lv_at hl 1 rfl) ?_
          refine xget (i := 0) (j := 0) (k := 0) (T := TX10) hx hb ht tb_iX10 hown hX hP.1 rfl rfl rfl (by decide) tb_300 rfl dX10_takeTest_112 ?_
          refine lv_bipush (v := 61) hx hb dX10_takeTest_115 (by decide) ?_
          obtain ⟨z_43, e_z_43, h⟩ := bi h
          refine roVi (rest := []) ⟨hx, hb, hml, hown, ht⟩ (c_X6_isSign l D cy fu A_r z_35.2.1 z_35.2.2.1 A_t t_bytes t_wordCodes t_length z_35.2.2.2.1 z_35.2.2.2.2.1 z_35.2.2.2.2.2.1 z_35.2.2.2.2.2.2.1 z_35.2.2.2.2.2.2.2.1 t_end z_35.2.2.2.2.2.2.2.2 61 z_43 e_z_43) (cV ht mv_X6_isSign tb_741 rfl rfl ⟨Nat.le_of_ble_eq_true rfl, Nat.le_of_ble_eq_true rfl⟩) (P_sub hP.1 [1, 2] rfl) hX rfl rfl rfl hl.1 rfl (Nat.le_of_ble_eq_true rfl) dX10_takeTest_117 ⟨Nat.le_of_ble_eq_true rfl, Nat.le_of_ble_eq_true rfl⟩ ?_
          refine lv_if_ne (tgt := 132) hx hb dX10_takeTest_120 (by decide) (fun c_44 => ?_) (fun c_44 => ?_)
          · have h := ie c_44 h
            exact j132 z_35.2.1 z_35.2.2.1 z_35.2.2.2.1 z_35.2.2.2.2.1 z_35.2.2.2.2.2.1 z_35.2.2.2.2.2.2.1 z_35.2.2.2.2.2.2.2.1 z_35.2.2.2.2.2.2.2.2 w_man_36 w_other_33 w_sign w_number _ _ hP hS ls (lv_sub hl [1, 2] rfl) h
          · have h := it c_44 h
            refine lv_aload_n hx hb dX10_takeTest_123 rfl (lv_at hl 1 rfl) ?_
            refine xget (i := 0) (j := 0) (k := 0) (T := TX10) hx hb ht tb_iX10 hown hX hP.1 rfl rfl rfl (by decide) tb_300 rfl dX10_takeTest_124 ?_
            refine lv_iconst (v := 2) hx hb dX10_takeTest_127 (by decide) ?_
            obtain ⟨z_45, e_z_45, h⟩ := bi h
            refine efVi (rest := []) ⟨hx, hb, hml, hown, ht⟩ (c_X6_fail l D cy fu A_r z_35.2.1 z_35.2.2.1 A_t t_bytes t_wordCodes t_length z_35.2.2.2.1 z_35.2.2.2.2.1 z_35.2.2.2.2.2.1 z_35.2.2.2.2.2.2.1 z_35.2.2.2.2.2.2.2.1 t_end z_35.2.2.2.2.2.2.2.2 2 z_45 e_z_45 _ rfl _ rfl) (cV ht mv_X6_fail tb_716 rfl rfl ⟨Nat.le_of_ble_eq_true rfl, Nat.le_of_ble_eq_true rfl⟩) hP hS hX [1, 2] rfl rfl rfl rfl rfl rfl hl.1 rfl (Nat.le_of_ble_eq_true rfl) dX10_takeTest_128 ⟨Nat.le_of_ble_eq_true rfl, Nat.le_of_ble_eq_true rfl⟩ (fun H locs hP hS => ?_)
            have hP : PD D A [bl_X10 cy A_k (A_r 0) (A_w 0) (A_a 0) k_open k_depth, bl_X6 cy A_r (A_t 0) z_45.2.1 z_45.2.2, bl_X7 cy A_t t_bytes t_wordCodes t_length z_35.2.2.2.1 z_35.2.2.2.2.1 z_35.2.2.2.2.2.1 z_35.2.2.2.2.2.2.1 z_35.2.2.2.2.2.2.2.1 t_end z_35.2.2.2.2.2.2.2.2, bl_X9 cy A_w w_deed w_man_36 w_other_33 w_sign w_number w_mate w_there w_rows w_steps, bl_X0 cy A_a a_name a_courage a_weight a_medals a_stood a_fled a_liked a_votes a_count a_living a_pride a_quota a_melted a_lost] H := hP
            obtain ⟨b_46, e_b_46, h⟩ := bi h
            obtain ⟨-, n_b_46, -⟩ := bz_ok e_b_46
            cases h
            subst hW1
            exact W.zret hx hb hr n_b_46 (fun _ ht9 _ => ⟨⟨_, (), rfl, rfl, hPt ht9 hP.1⟩, hS.F ht9⟩) hS.2.2 dX10_takeTest_131
    · have h := it c_38 h
      refine lv_iconst (v := 0) hx hb dX10_takeTest_85 (by decide) ?_
      cases h
      subst hW1
      exact W.zret hx hb hr rfl (fun _ ht9 _ => ⟨⟨_, (), rfl, rfl, hPt ht9 hP.1⟩, hS.F ht9⟩) hS.2.2 dX10_takeTest_86
  · have h := it c_32 h
    refine lv_aload_n hx hb dX10_takeTest_22 rfl (lv_at hl 1 rfl) ?_
    refine xget (i := 0) (j := 0) (k := 0) (T := TX10) hx hb ht tb_iX10 hown hX hP.1 rfl rfl rfl (by decide) tb_300 rfl dX10_takeTest_23 ?_
    refine lv_iconst (v := 2) hx hb dX10_takeTest_26 (by decide) ?_
    obtain ⟨z_47, e_z_47, h⟩ := bi h
    refine efVi (rest := []) ⟨hx, hb, hml, hown, ht⟩ (c_X6_fail l D cy fu A_r r_fault r_place A_t t_bytes t_wordCodes t_length t_kind t_start t_value t_word t_name t_end t_at 2 z_47 e_z_47 _ rfl _ rfl) (cV ht mv_X6_fail tb_716 rfl rfl ⟨Nat.le_of_ble_eq_true rfl, Nat.le_of_ble_eq_true rfl⟩) hP hS hX [1, 2] rfl rfl rfl rfl rfl rfl hl.1 rfl (Nat.le_of_ble_eq_true rfl) dX10_takeTest_27 ⟨Nat.le_of_ble_eq_true rfl, Nat.le_of_ble_eq_true rfl⟩ (fun H locs hP hS => ?_)
    have hP : PD D A [bl_X10 cy A_k (A_r 0) (A_w 0) (A_a 0) k_open k_depth, bl_X6 cy A_r (A_t 0) z_47.2.1 z_47.2.2, bl_X7 cy A_t t_bytes t_wordCodes t_length t_kind t_start t_value t_word t_name t_end t_at, bl_X9 cy A_w w_deed w_man w_other w_sign w_number w_mate w_there w_rows w_steps, bl_X0 cy A_a a_name a_courage a_weight a_medals a_stood a_fled a_liked a_votes a_count a_living a_pride a_quota a_melted a_lost] H := hP
    obtain ⟨b_48, e_b_48, h⟩ := bi h
    obtain ⟨-, n_b_48, -⟩ := bz_ok e_b_48
    cases h
    subst hW1
    exact W.zret hx hb hr n_b_48 (fun _ ht9 _ => ⟨⟨_, (), rfl, rfl, hPt ht9 hP.1⟩, hS.F ht9⟩) hS.2.2 dX10_takeTest_30
theorem dX10_takeRest_0 : decode cX10_takeRest 0 = .ok (.aload_n 0, 1) := by decide +kernel
theorem dX10_takeRest_1 : decode cX10_takeRest 1 = .ok (.getfield 23, 3) := by decide +kernel
theorem dX10_takeRest_4 : decode cX10_takeRest 4 = .ok (.getfield 91, 3) := by decide +kernel
theorem dX10_takeRest_7 : decode cX10_takeRest 7 = .ok (.istore_n 2, 1) := by decide +kernel
theorem dX10_takeRest_8 : decode cX10_takeRest 8 = .ok (.iload_n 2, 1) := by decide +kernel
theorem dX10_takeRest_9 : decode cX10_takeRest 9 = .ok (.iconst 0, 1) := by decide +kernel
theorem dX10_takeRest_10 : decode cX10_takeRest 10 = .ok (.bipush 59, 2) := by decide +kernel
theorem dX10_takeRest_12 : decode cX10_takeRest 12 = .ok (.invokestatic 71, 3) := by decide +kernel
theorem dX10_takeRest_15 : decode cX10_takeRest 15 = .ok (.ifCond .ne 13, 3) := by decide +kernel
theorem dX10_takeRest_18 : decode cX10_takeRest 18 = .ok (.aload_n 0, 1) := by decide +kernel
theorem dX10_takeRest_19 : decode cX10_takeRest 19 = .ok (.getfield 19, 3) := by decide +kernel
theorem dX10_takeRest_22 : decode cX10_takeRest 22 = .ok (.bipush 6, 2) := by decide +kernel
theorem dX10_takeRest_24 : decode cX10_takeRest 24 = .ok (.invokevirtual 68, 3) := by decide +kernel
theorem dX10_takeRest_27 : decode cX10_takeRest 27 = .ok (.ireturn, 1) := by decide +kernel
theorem dX10_takeRest_28 : decode cX10_takeRest 28 = .ok (.iload_n 1, 1) := by decide +kernel
theorem dX10_takeRest_29 : decode cX10_takeRest 29 = .ok (.tableswitch 293 7 16 #[55, 131, 209, 209, 293, 249, 293, 293, 293, 255], 55) := by decide +kernel
theorem dX10_takeRest_84 : decode cX10_takeRest 84 = .ok (.aload_n 0, 1) := by decide +kernel
theorem dX10_takeRest_85 : decode cX10_takeRest 85 = .ok (.getfield 23, 3) := by decide +kernel
theorem dX10_takeRest_88 : decode cX10_takeRest 88 = .ok (.getfield 97, 3) := by decide +kernel
theorem dX10_takeRest_91 : decode cX10_takeRest 91 = .ok (.iload_n 2, 1) := by decide +kernel
theorem dX10_takeRest_92 : decode cX10_takeRest 92 = .ok (.aload_n 0, 1) := by decide +kernel
theorem dX10_takeRest_93 : decode cX10_takeRest 93 = .ok (.getfield 19, 3) := by decide +kernel
theorem dX10_takeRest_96 : decode cX10_takeRest 96 = .ok (.aload_n 0, 1) := by decide +kernel
theorem dX10_takeRest_97 : decode cX10_takeRest 97 = .ok (.getfield 27, 3) := by decide +kernel
theorem dX10_takeRest_100 : decode cX10_takeRest 100 = .ok (.iconst (-1), 1) := by decide +kernel
theorem dX10_takeRest_101 : decode cX10_takeRest 101 = .ok (.invokevirtual 100, 3) := by decide +kernel
theorem dX10_takeRest_104 : decode cX10_takeRest 104 = .ok (.iastore, 1) := by decide +kernel
theorem dX10_takeRest_105 : decode cX10_takeRest 105 = .ok (.aload_n 0, 1) := by decide +kernel
theorem dX10_takeRest_106 : decode cX10_takeRest 106 = .ok (.getfield 23, 3) := by decide +kernel
theorem dX10_takeRest_109 : decode cX10_takeRest 109 = .ok (.getfield 104, 3) := by decide +kernel
theorem dX10_takeRest_112 : decode cX10_takeRest 112 = .ok (.iload_n 2, 1) := by decide +kernel
theorem dX10_takeRest_113 : decode cX10_takeRest 113 = .ok (.aload_n 0, 1) := by decide +kernel
theorem dX10_takeRest_114 : decode cX10_takeRest 114 = .ok (.getfield 23, 3) := by decide +kernel
theorem dX10_takeRest_117 : decode cX10_takeRest 117 = .ok (.getfield 97, 3) := by decide +kernel
theorem dX10_takeRest_120 : decode cX10_takeRest 120 = .ok (.iload_n 2, 1) := by decide +kernel
theorem dX10_takeRest_121 : decode cX10_takeRest 121 = .ok (.iaload, 1) := by decide +kernel
theorem dX10_takeRest_122 : decode cX10_takeRest 122 = .ok (.iconst (-1), 1) := by decide +kernel
theorem dX10_takeRest_123 : decode cX10_takeRest 123 = .ok (.if_icmp .ne 7, 3) := by decide +kernel
theorem dX10_takeRest_126 : decode cX10_takeRest 126 = .ok (.iconst (-1), 1) := by decide +kernel
theorem dX10_takeRest_127 : decode cX10_takeRest 127 = .ok (.goto 13, 3) := by decide +kernel
theorem dX10_takeRest_130 : decode cX10_takeRest 130 = .ok (.aload_n 0, 1) := by decide +kernel
theorem dX10_takeRest_131 : decode cX10_takeRest 131 = .ok (.getfield 19, 3) := by decide +kernel
theorem dX10_takeRest_134 : decode cX10_takeRest 134 = .ok (.iconst 1, 1) := by decide +kernel
theorem dX10_takeRest_135 : decode cX10_takeRest 135 = .ok (.bipush 99, 2) := by decide +kernel
theorem dX10_takeRest_137 : decode cX10_takeRest 137 = .ok (.invokevirtual 107, 3) := by decide +kernel
theorem dX10_takeRest_140 : decode cX10_takeRest 140 = .ok (.iastore, 1) := by decide +kernel
theorem dX10_takeRest_141 : decode cX10_takeRest 141 = .ok (.aload_n 0, 1) := by decide +kernel
theorem dX10_takeRest_142 : decode cX10_takeRest 142 = .ok (.getfield 23, 3) := by decide +kernel
theorem dX10_takeRest_145 : decode cX10_takeRest 145 = .ok (.getfield 104, 3) := by decide +kernel
theorem dX10_takeRest_148 : decode cX10_takeRest 148 = .ok (.iload_n 2, 1) := by decide +kernel
theorem dX10_takeRest_149 : decode cX10_takeRest 149 = .ok (.iaload, 1) := by decide +kernel
theorem dX10_takeRest_150 : decode cX10_takeRest 150 = .ok (.iconst (-1), 1) := by decide +kernel
theorem dX10_takeRest_151 : decode cX10_takeRest 151 = .ok (.if_icmp .eq 7, 3) := by decide +kernel
theorem dX10_takeRest_154 : decode cX10_takeRest 154 = .ok (.iconst 1, 1) := by decide +kernel
theorem dX10_takeRest_155 : decode cX10_takeRest 155 = .ok (.goto 4, 3) := by decide +kernel
theorem dX10_takeRest_158 : decode cX10_takeRest 158 = .ok (.iconst 0, 1) := by decide +kernel
theorem dX10_takeRest_159 : decode cX10_takeRest 159 = .ok (.ireturn, 1) := by decide +kernel
theorem dX10_takeRest_160 : decode cX10_takeRest 160 = .ok (.aload_n 0, 1) := by decide +kernel
theorem dX10_takeRest_161 : decode cX10_takeRest 161 = .ok (.getfield 23, 3) := by decide +kernel
theorem dX10_takeRest_164 : decode cX10_takeRest 164 = .ok (.getfield 97, 3) := by decide +kernel
theorem dX10_takeRest_167 : decode cX10_takeRest 167 = .ok (.iload_n 2, 1) := by decide +kernel
theorem dX10_takeRest_168 : decode cX10_takeRest 168 = .ok (.aload_n 0, 1) := by decide +kernel
theorem dX10_takeRest_169 : decode cX10_takeRest 169 = .ok (.getfield 19, 3) := by decide +kernel
theorem dX10_takeRest_172 : decode cX10_takeRest 172 = .ok (.aload_n 0, 1) := by decide +kernel
theorem dX10_takeRest_173 : decode cX10_takeRest 173 = .ok (.getfield 27, 3) := by decide +kernel
theorem dX10_takeRest_176 : decode cX10_takeRest 176 = .ok (.iconst (-1), 1) := by decide +kernel
theorem dX10_takeRest_177 : decode cX10_takeRest 177 = .ok (.invokevirtual 100, 3) := by decide +kernel
theorem dX10_takeRest_180 : decode cX10_takeRest 180 = .ok (.iastore, 1) := by decide +kernel
theorem dX10_takeRest_181 : decode cX10_takeRest 181 = .ok (.aload_n 0, 1) := by decide +kernel
theorem dX10_takeRest_182 : decode cX10_takeRest 182 = .ok (.getfield 23, 3) := by decide +kernel
theorem dX10_takeRest_185 : decode cX10_takeRest 185 = .ok (.getfield 111, 3) := by decide +kernel
theorem dX10_takeRest_188 : decode cX10_takeRest 188 = .ok (.iload_n 2, 1) := by decide +kernel
theorem dX10_takeRest_189 : decode cX10_takeRest 189 = .ok (.aload_n 0, 1) := by decide +kernel
theorem dX10_takeRest_190 : decode cX10_takeRest 190 = .ok (.getfield 23, 3) := by decide +kernel
theorem dX10_takeRest_193 : decode cX10_takeRest 193 = .ok (.getfield 97, 3) := by decide +kernel
theorem dX10_takeRest_196 : decode cX10_takeRest 196 = .ok (.iload_n 2, 1) := by decide +kernel
theorem dX10_takeRest_197 : decode cX10_takeRest 197 = .ok (.iaload, 1) := by decide +kernel
theorem dX10_takeRest_198 : decode cX10_takeRest 198 = .ok (.iconst (-1), 1) := by decide +kernel
theorem dX10_takeRest_199 : decode cX10_takeRest 199 = .ok (.if_icmp .ne 7, 3) := by decide +kernel
theorem dX10_takeRest_202 : decode cX10_takeRest 202 = .ok (.iconst (-1), 1) := by decide +kernel
theorem dX10_takeRest_203 : decode cX10_takeRest 203 = .ok (.goto 15, 3) := by decide +kernel
theorem dX10_takeRest_206 : decode cX10_takeRest 206 = .ok (.aload_n 0, 1) := by decide +kernel
theorem dX10_takeRest_207 : decode cX10_takeRest 207 = .ok (.getfield 19, 3) := by decide +kernel
theorem dX10_takeRest_210 : decode cX10_takeRest 210 = .ok (.aload_n 0, 1) := by decide +kernel
theorem dX10_takeRest_211 : decode cX10_takeRest 211 = .ok (.getfield 27, 3) := by decide +kernel
theorem dX10_takeRest_214 : decode cX10_takeRest 214 = .ok (.iconst (-1), 1) := by decide +kernel
theorem dX10_takeRest_215 : decode cX10_takeRest 215 = .ok (.invokevirtual 100, 3) := by decide +kernel
theorem dX10_takeRest_218 : decode cX10_takeRest 218 = .ok (.iastore, 1) := by decide +kernel
theorem dX10_takeRest_219 : decode cX10_takeRest 219 = .ok (.aload_n 0, 1) := by decide +kernel
theorem dX10_takeRest_220 : decode cX10_takeRest 220 = .ok (.getfield 23, 3) := by decide +kernel
theorem dX10_takeRest_223 : decode cX10_takeRest 223 = .ok (.getfield 111, 3) := by decide +kernel
theorem dX10_takeRest_226 : decode cX10_takeRest 226 = .ok (.iload_n 2, 1) := by decide +kernel
theorem dX10_takeRest_227 : decode cX10_takeRest 227 = .ok (.iaload, 1) := by decide +kernel
theorem dX10_takeRest_228 : decode cX10_takeRest 228 = .ok (.iconst (-1), 1) := by decide +kernel
theorem dX10_takeRest_229 : decode cX10_takeRest 229 = .ok (.if_icmp .eq 7, 3) := by decide +kernel
theorem dX10_takeRest_232 : decode cX10_takeRest 232 = .ok (.iconst 1, 1) := by decide +kernel
theorem dX10_takeRest_233 : decode cX10_takeRest 233 = .ok (.goto 4, 3) := by decide +kernel
theorem dX10_takeRest_236 : decode cX10_takeRest 236 = .ok (.iconst 0, 1) := by decide +kernel
theorem dX10_takeRest_237 : decode cX10_takeRest 237 = .ok (.ireturn, 1) := by decide +kernel
theorem dX10_takeRest_238 : decode cX10_takeRest 238 = .ok (.aload_n 0, 1) := by decide +kernel
theorem dX10_takeRest_239 : decode cX10_takeRest 239 = .ok (.getfield 23, 3) := by decide +kernel
theorem dX10_takeRest_242 : decode cX10_takeRest 242 = .ok (.getfield 97, 3) := by decide +kernel
theorem dX10_takeRest_245 : decode cX10_takeRest 245 = .ok (.iload_n 2, 1) := by decide +kernel
theorem dX10_takeRest_246 : decode cX10_takeRest 246 = .ok (.aload_n 0, 1) := by decide +kernel
theorem dX10_takeRest_247 : decode cX10_takeRest 247 = .ok (.getfield 19, 3) := by decide +kernel
theorem dX10_takeRest_250 : decode cX10_takeRest 250 = .ok (.aload_n 0, 1) := by decide +kernel
theorem dX10_takeRest_251 : decode cX10_takeRest 251 = .ok (.getfield 27, 3) := by decide +kernel
theorem dX10_takeRest_254 : decode cX10_takeRest 254 = .ok (.iconst (-1), 1) := by decide +kernel
theorem dX10_takeRest_255 : decode cX10_takeRest 255 = .ok (.invokevirtual 100, 3) := by decide +kernel
theorem dX10_takeRest_258 : decode cX10_takeRest 258 = .ok (.iastore, 1) := by decide +kernel
theorem dX10_takeRest_259 : decode cX10_takeRest 259 = .ok (.aload_n 0, 1) := by decide +kernel
theorem dX10_takeRest_260 : decode cX10_takeRest 260 = .ok (.getfield 23, 3) := by decide +kernel
theorem dX10_takeRest_263 : decode cX10_takeRest 263 = .ok (.getfield 97, 3) := by decide +kernel
theorem dX10_takeRest_266 : decode cX10_takeRest 266 = .ok (.iload_n 2, 1) := by decide +kernel
theorem dX10_takeRest_267 : decode cX10_takeRest 267 = .ok (.iaload, 1) := by decide +kernel
theorem dX10_takeRest_268 : decode cX10_takeRest 268 = .ok (.iconst (-1), 1) := by decide +kernel
theorem dX10_takeRest_269 : decode cX10_takeRest 269 = .ok (.if_icmp .eq 7, 3) := by decide +kernel
theorem dX10_takeRest_272 : decode cX10_takeRest 272 = .ok (.iconst 1, 1) := by decide +kernel
theorem dX10_takeRest_273 : decode cX10_takeRest 273 = .ok (.goto 4, 3) := by decide +kernel
theorem dX10_takeRest_276 : decode cX10_takeRest 276 = .ok (.iconst 0, 1) := by decide +kernel
theorem dX10_takeRest_277 : decode cX10_takeRest 277 = .ok (.ireturn, 1) := by decide +kernel
theorem dX10_takeRest_278 : decode cX10_takeRest 278 = .ok (.aload_n 0, 1) := by decide +kernel
theorem dX10_takeRest_279 : decode cX10_takeRest 279 = .ok (.iload_n 2, 1) := by decide +kernel
theorem dX10_takeRest_280 : decode cX10_takeRest 280 = .ok (.invokevirtual 114, 3) := by decide +kernel
theorem dX10_takeRest_283 : decode cX10_takeRest 283 = .ok (.ireturn, 1) := by decide +kernel
theorem dX10_takeRest_284 : decode cX10_takeRest 284 = .ok (.aload_n 0, 1) := by decide +kernel
theorem dX10_takeRest_285 : decode cX10_takeRest 285 = .ok (.getfield 23, 3) := by decide +kernel
theorem dX10_takeRest_288 : decode cX10_takeRest 288 = .ok (.getfield 104, 3) := by decide +kernel
theorem dX10_takeRest_291 : decode cX10_takeRest 291 = .ok (.iload_n 2, 1) := by decide +kernel
theorem dX10_takeRest_292 : decode cX10_takeRest 292 = .ok (.aload_n 0, 1) := by decide +kernel
theorem dX10_takeRest_293 : decode cX10_takeRest 293 = .ok (.getfield 19, 3) := by decide +kernel
theorem dX10_takeRest_296 : decode cX10_takeRest 296 = .ok (.iconst 1, 1) := by decide +kernel
theorem dX10_takeRest_297 : decode cX10_takeRest 297 = .ok (.bipush 99, 2) := by decide +kernel
theorem dX10_takeRest_299 : decode cX10_takeRest 299 = .ok (.invokevirtual 107, 3) := by decide +kernel
theorem dX10_takeRest_302 : decode cX10_takeRest 302 = .ok (.iastore, 1) := by decide +kernel
theorem dX10_takeRest_303 : decode cX10_takeRest 303 = .ok (.aload_n 0, 1) := by decide +kernel
theorem dX10_takeRest_304 : decode cX10_takeRest 304 = .ok (.getfield 23, 3) := by decide +kernel
theorem dX10_takeRest_307 : decode cX10_takeRest 307 = .ok (.getfield 104, 3) := by decide +kernel
theorem dX10_takeRest_310 : decode cX10_takeRest 310 = .ok (.iload_n 2, 1) := by decide +kernel
theorem dX10_takeRest_311 : decode cX10_takeRest 311 = .ok (.iaload, 1) := by decide +kernel
theorem dX10_takeRest_312 : decode cX10_takeRest 312 = .ok (.iconst (-1), 1) := by decide +kernel
theorem dX10_takeRest_313 : decode cX10_takeRest 313 = .ok (.if_icmp .eq 7, 3) := by decide +kernel
theorem dX10_takeRest_316 : decode cX10_takeRest 316 = .ok (.iconst 1, 1) := by decide +kernel
theorem dX10_takeRest_317 : decode cX10_takeRest 317 = .ok (.goto 4, 3) := by decide +kernel
theorem dX10_takeRest_320 : decode cX10_takeRest 320 = .ok (.iconst 0, 1) := by decide +kernel
theorem dX10_takeRest_321 : decode cX10_takeRest 321 = .ok (.ireturn, 1) := by decide +kernel
theorem dX10_takeRest_322 : decode cX10_takeRest 322 = .ok (.iconst 1, 1) := by decide +kernel
theorem dX10_takeRest_323 : decode cX10_takeRest 323 = .ok (.ireturn, 1) := by decide +kernel
theorem mv_X10_takeRest : MV yX10_takeRest RX10 cX10_takeRest 3 (some .boolean) 1 := ⟨tb_734, tb_733, ts_16, tb_11, by decide +kernel, by decide +kernel, by decide +kernel⟩
def f_X10_takeRest_j140 (fu : Nat) (t_bytes : Nat → Int32) (t_wordCodes : Nat → Int64) (t_end : Int32) (w_rows : Int32) (a_name : Nat → Int64) (a_count : Int32) (x1 : Int32) (r_fault : Int32) (r_place : Int32) (t_kind : Int32) (t_start : Int32) (t_value : Int32) (t_word : Int32) (t_name : Int64) (t_at : Int32) (w_man : Nat → Int32) (w_other : Nat → Int32) (w_sign : Nat → Int32) (w_number : Nat → Int32) (x2 : Int32) (s1 : Int32) (s2 : Int32) : Option (Int32 × Int32 × Int32 × Int32 × Int32 × Int32 × Int32 × Int64 × Int32 × (Nat → Int32) × (Nat → Int32) × (Nat → Int32) × (Nat → Int32)) := (wrI w_number 60 s1 s2).bind fun w_number_41 => (rdI w_number_41 60 x2).bind fun y_42 => (if y_42 = (-1) then some (0, r_fault, r_place, t_kind, t_start, t_value, t_word, t_name, t_at, w_man, w_other, w_sign, w_number_41) else some (1, r_fault, r_place, t_kind, t_start, t_value, t_word, t_name, t_at, w_man, w_other, w_sign, w_number_41))
def f_X10_takeRest_j218 (fu : Nat) (t_bytes : Nat → Int32) (t_wordCodes : Nat → Int64) (t_end : Int32) (w_rows : Int32) (a_name : Nat → Int64) (a_count : Int32) (x1 : Int32) (r_fault : Int32) (r_place : Int32) (t_kind : Int32) (t_start : Int32) (t_value : Int32) (t_word : Int32) (t_name : Int64) (t_at : Int32) (w_man : Nat → Int32) (w_other : Nat → Int32) (w_sign : Nat → Int32) (w_number : Nat → Int32) (x2 : Int32) (s1 : Int32) (s2 : Int32) : Option (Int32 × Int32 × Int32 × Int32 × Int32 × Int32 × Int32 × Int64 × Int32 × (Nat → Int32) × (Nat → Int32) × (Nat → Int32) × (Nat → Int32)) := (wrI w_other 60 s1 s2).bind fun w_other_44 => (rdI w_other_44 60 x2).bind fun y_45 => (if y_45 = (-1) then some (0, r_fault, r_place, t_kind, t_start, t_value, t_word, t_name, t_at, w_man, w_other_44, w_sign, w_number) else some (1, r_fault, r_place, t_kind, t_start, t_value, t_word, t_name, t_at, w_man, w_other_44, w_sign, w_number))
def f_X10_takeRest_j238 (fu : Nat) (t_bytes : Nat → Int32) (t_wordCodes : Nat → Int64) (t_end : Int32) (w_rows : Int32) (a_name : Nat → Int64) (a_count : Int32) (x1 : Int32) (r_fault : Int32) (r_place : Int32) (t_kind : Int32) (t_start : Int32) (t_value : Int32) (t_word : Int32) (t_name : Int64) (t_at : Int32) (w_man : Nat → Int32) (w_other : Nat → Int32) (w_sign : Nat → Int32) (w_number : Nat → Int32) (x2 : Int32) : Option (Int32 × Int32 × Int32 × Int32 × Int32 × Int32 × Int32 × Int64 × Int32 × (Nat → Int32) × (Nat → Int32) × (Nat → Int32) × (Nat → Int32)) := (f_X6_takeMan fu r_fault r_place t_bytes t_wordCodes t_kind t_start t_value t_word t_name t_end t_at a_name a_count (-1)).bind fun z_47 => (wrI w_man 60 x2 z_47.1).bind fun w_man_48 => (rdI w_man_48 60 x2).bind fun y_49 => (if y_49 = (-1) then some (0, z_47.2.1, z_47.2.2.1, z_47.2.2.2.1, z_47.2.2.2.2.1, z_47.2.2.2.2.2.1, z_47.2.2.2.2.2.2.1, z_47.2.2.2.2.2.2.2.1, z_47.2.2.2.2.2.2.2.2, w_man_48, w_other, w_sign, w_number) else some (1, z_47.2.1, z_47.2.2.1, z_47.2.2.2.1, z_47.2.2.2.2.1, z_47.2.2.2.2.2.1, z_47.2.2.2.2.2.2.1, z_47.2.2.2.2.2.2.2.1, z_47.2.2.2.2.2.2.2.2, w_man_48, w_other, w_sign, w_number))
def f_X10_takeRest (fu : Nat) (r_fault : Int32) (r_place : Int32) (t_bytes : Nat → Int32) (t_wordCodes : Nat → Int64) (t_kind : Int32) (t_start : Int32) (t_value : Int32) (t_word : Int32) (t_name : Int64) (t_end : Int32) (t_at : Int32) (w_man : Nat → Int32) (w_other : Nat → Int32) (w_sign : Nat → Int32) (w_number : Nat → Int32) (w_rows : Int32) (a_name : Nat → Int64) (a_count : Int32) (x1 : Int32) : Option (Int32 × Int32 × Int32 × Int32 × Int32 × Int32 × Int32 × Int64 × Int32 × (Nat → Int32) × (Nat → Int32) × (Nat → Int32) × (Nat → Int32)) := (f_X11_within fu w_rows 0 59).bind fun z_51 => (if z_51 = 0 then (f_X6_fail fu r_fault r_place t_kind t_start 6).bind fun z_79 => (bz z_79.1).bind fun _ => some (z_79.1, z_79.2.1, z_79.2.2, t_kind, t_start, t_value, t_word, t_name, t_at, w_man, w_other, w_sign, w_number) else (if x1 = 7 then (f_X6_takeMan fu r_fault r_place t_bytes t_wordCodes t_kind t_start t_value t_word t_name t_end t_at a_name a_count (-1)).bind fun z_54 => (wrI w_man 60 w_rows z_54.1).bind fun w_man_55 => (rdI w_man_55 60 w_rows).bind fun y_56 => (if y_56 = (-1) then f_X10_takeRest_j140 fu t_bytes t_wordCodes t_end w_rows a_name a_count x1 z_54.2.1 z_54.2.2.1 z_54.2.2.2.1 z_54.2.2.2.2.1 z_54.2.2.2.2.2.1 z_54.2.2.2.2.2.2.1 z_54.2.2.2.2.2.2.2.1 z_54.2.2.2.2.2.2.2.2 w_man_55 w_other w_sign w_number w_rows w_rows (-1) else (f_X6_takeNumber fu z_54.2.1 z_54.2.2.1 t_bytes t_wordCodes z_54.2.2.2.1 z_54.2.2.2.2.1 z_54.2.2.2.2.2.1 z_54.2.2.2.2.2.2.1 z_54.2.2.2.2.2.2.2.1 t_end z_54.2.2.2.2.2.2.2.2 1 99).bind fun z_58 => f_X10_takeRest_j140 fu t_bytes t_wordCodes t_end w_rows a_name a_count x1 z_58.2.1 z_58.2.2.1 z_58.2.2.2.1 z_58.2.2.2.2.1 z_58.2.2.2.2.2.1 z_58.2.2.2.2.2.2.1 z_58.2.2.2.2.2.2.2.1 z_58.2.2.2.2.2.2.2.2 w_man_55 w_other w_sign w_number w_rows w_rows z_58.1) else (if x1 = 8 then (f_X6_takeMan fu r_fault r_place t_bytes t_wordCodes t_kind t_start t_value t_word t_name t_end t_at a_name a_count (-1)).bind fun z_60 => (wrI w_man 60 w_rows z_60.1).bind fun w_man_61 => (rdI w_man_61 60 w_rows).bind fun y_62 => (if y_62 = (-1) then f_X10_takeRest_j218 fu t_bytes t_wordCodes t_end w_rows a_name a_count x1 z_60.2.1 z_60.2.2.1 z_60.2.2.2.1 z_60.2.2.2.2.1 z_60.2.2.2.2.2.1 z_60.2.2.2.2.2.2.1 z_60.2.2.2.2.2.2.2.1 z_60.2.2.2.2.2.2.2.2 w_man_61 w_other w_sign w_number w_rows w_rows (-1) else (f_X6_takeMan fu z_60.2.1 z_60.2.2.1 t_bytes t_wordCodes z_60.2.2.2.1 z_60.2.2.2.2.1 z_60.2.2.2.2.2.1 z_60.2.2.2.2.2.2.1 z_60.2.2.2.2.2.2.2.1 t_end z_60.2.2.2.2.2.2.2.2 a_name a_count (-1)).bind fun z_64 => f_X10_takeRest_j218 fu t_bytes t_wordCodes t_end w_rows a_name a_count x1 z_64.2.1 z_64.2.2.1 z_64.2.2.2.1 z_64.2.2.2.2.1 z_64.2.2.2.2.2.1 z_64.2.2.2.2.2.2.1 z_64.2.2.2.2.2.2.2.1 z_64.2.2.2.2.2.2.2.2 w_man_61 w_other w_sign w_number w_rows w_rows z_64.1) else (if x1 = 9 then f_X10_takeRest_j238 fu t_bytes t_wordCodes t_end w_rows a_name a_count x1 r_fault r_place t_kind t_start t_value t_word t_name t_at w_man w_other w_sign w_number w_rows else (if x1 = 10 then f_X10_takeRest_j238 fu t_bytes t_wordCodes t_end w_rows a_name a_count x1 r_fault r_place t_kind t_start t_value t_word t_name t_at w_man w_other w_sign w_number w_rows else (if x1 = 11 then some (1, r_fault, r_place, t_kind, t_start, t_value, t_word, t_name, t_at, w_man, w_other, w_sign, w_number) else (if x1 = 12 then (f_X10_takeTest fu r_fault r_place t_bytes t_wordCodes t_kind t_start t_value t_word t_name t_end t_at w_man w_other w_sign w_number a_name a_count w_rows).bind fun z_69 => (bz z_69.1).bind fun _ => some (z_69.1, z_69.2.1, z_69.2.2.1, z_69.2.2.2.1, z_69.2.2.2.2.1, z_69.2.2.2.2.2.1, z_69.2.2.2.2.2.2.1, z_69.2.2.2.2.2.2.2.1, z_69.2.2.2.2.2.2.2.2.1, z_69.2.2.2.2.2.2.2.2.2.1, z_69.2.2.2.2.2.2.2.2.2.2.1, z_69.2.2.2.2.2.2.2.2.2.2.2.1, z_69.2.2.2.2.2.2.2.2.2.2.2.2) else (if x1 = 13 then some (1, r_fault, r_place, t_kind, t_start, t_value, t_word, t_name, t_at, w_man, w_other, w_sign, w_number) else (if x1 = 14 then some (1, r_fault, r_place, t_kind, t_start, t_value, t_word, t_name, t_at, w_man, w_other, w_sign, w_number) else (if x1 = 15 then some (1, r_fault, r_place, t_kind, t_start, t_value, t_word, t_name, t_at, w_man, w_other, w_sign, w_number) else (if x1 = 16 then (f_X6_takeNumber fu r_fault r_place t_bytes t_wordCodes t_kind t_start t_value t_word t_name t_end t_at 1 99).bind fun z_75 => (wrI w_number 60 w_rows z_75.1).bind fun w_number_76 => (rdI w_number_76 60 w_rows).bind fun y_77 => (if y_77 = (-1) then some (0, z_75.2.1, z_75.2.2.1, z_75.2.2.2.1, z_75.2.2.2.2.1, z_75.2.2.2.2.2.1, z_75.2.2.2.2.2.2.1, z_75.2.2.2.2.2.2.2.1, z_75.2.2.2.2.2.2.2.2, w_man, w_other, w_sign, w_number_76) else some (1, z_75.2.1, z_75.2.2.1, z_75.2.2.2.1, z_75.2.2.2.2.1, z_75.2.2.2.2.2.1, z_75.2.2.2.2.2.2.1, z_75.2.2.2.2.2.2.2.1, z_75.2.2.2.2.2.2.2.2, w_man, w_other, w_sign, w_number_76)) else some (1, r_fault, r_place, t_kind, t_start, t_value, t_word, t_name, t_at, w_man, w_other, w_sign, w_number))))))))))))
abbrev rm_X10_takeRest : Room := { frames := 4, cells := 0, slots := 0, locals := 88 }
set_option maxHeartbeats 4000000 in
set_option maxRecDepth 100000 in
theorem c_X10_takeRest (l : Launch) (D : va_G) (cy : Nat → ClassId) (fu : Nat) (A_k : Nat → Nat) (k_open : Nat → Int32) (k_depth : Int32) (A_r : Nat → Nat) (r_fault : Int32) (r_place : Int32) (A_t : Nat → Nat) (t_bytes : Nat → Int32) (t_wordCodes : Nat → Int64) (t_length : Int32) (t_kind : Int32) (t_start : Int32) (t_value : Int32) (t_word : Int32) (t_name : Int64) (t_end : Int32) (t_at : Int32) (A_w : Nat → Nat) (w_deed : Nat → Int32) (w_man : Nat → Int32) (w_other : Nat → Int32) (w_sign : Nat → Int32) (w_number : Nat → Int32) (w_mate : Nat → Int32) (w_there : Int32) (w_rows : Int32) (w_steps : Int32) (A_a : Nat → Nat) (a_name : Nat → Int64) (a_courage : Nat → Int32) (a_weight : Nat → Int32) (a_medals : Nat → Int32) (a_stood : Nat → Int32) (a_fled : Nat → Int32) (a_liked : Nat → Int32) (a_votes : Nat → Int32) (a_count : Int32) (a_living : Int32) (a_pride : Int32) (a_quota : Int32) (a_melted : Int32) (a_lost : Int32) (x1 : Int32) (res : Int32 × Int32 × Int32 × Int32 × Int32 × Int32 × Int32 × Int64 × Int32 × (Nat → Int32) × (Nat → Int32) × (Nat → Int32) × (Nat → Int32)) (h : f_X10_takeRest fu r_fault r_place t_bytes t_wordCodes t_kind t_start t_value t_word t_name t_end t_at w_man w_other w_sign w_number w_rows a_name a_count x1 = some res) (A : Nat → Prop) (hA : A = adr [bl_X10 cy A_k (A_r 0) (A_w 0) (A_a 0) k_open k_depth, bl_X6 cy A_r (A_t 0) r_fault r_place, bl_X7 cy A_t t_bytes t_wordCodes t_length t_kind t_start t_value t_word t_name t_end t_at, bl_X9 cy A_w w_deed w_man w_other w_sign w_number w_mate w_there w_rows w_steps, bl_X0 cy A_a a_name a_courage a_weight a_medals a_stood a_fled a_liked a_votes a_count a_living a_pride a_quota a_melted a_lost]) (W1 : List va_W) (hW1 : W1 = [bl_X10 cy A_k (A_r 0) (A_w 0) (A_a 0) k_open k_depth, bl_X6 cy A_r (A_t 0) res.2.1 res.2.2.1, bl_X7 cy A_t t_bytes t_wordCodes t_length res.2.2.2.1 res.2.2.2.2.1 res.2.2.2.2.2.1 res.2.2.2.2.2.2.1 res.2.2.2.2.2.2.2.1 t_end res.2.2.2.2.2.2.2.2.1, bl_X9 cy A_w w_deed res.2.2.2.2.2.2.2.2.2.1 res.2.2.2.2.2.2.2.2.2.2.1 res.2.2.2.2.2.2.2.2.2.2.2.1 res.2.2.2.2.2.2.2.2.2.2.2.2 w_mate w_there w_rows w_steps, bl_X0 cy A_a a_name a_courage a_weight a_medals a_stood a_fled a_liked a_votes a_count a_living a_pride a_quota a_melted a_lost]) : Met l yX10_takeRest (WW yX10_takeRest cX10_takeRest 3 (some .boolean)) rm_X10_takeRest (Ed D cy [.ref (A_k 0), .int x1] [bl_X10 cy A_k (A_r 0) (A_w 0) (A_a 0) k_open k_depth, bl_X6 cy A_r (A_t 0) r_fault r_place, bl_X7 cy A_t t_bytes t_wordCodes t_length t_kind t_start t_value t_word t_name t_end t_at, bl_X9 cy A_w w_deed w_man w_other w_sign w_number w_mate w_there w_rows w_steps, bl_X0 cy A_a a_name a_courage a_weight a_medals a_stood a_fled a_liked a_votes a_count a_living a_pride a_quota a_melted a_lost]) (Qei D res.1 A W1) 0 0 A := by
  refine Met.ofW (cc := cX10_takeRest) (maxL := 3) (ret := (some .boolean)) (by decide) rfl ?_
  intro p e s m args below meth c s₁ B hml hv
  obtain ⟨hargs, hP, hX, hD0⟩ := hv
  have hx := B.exec
  have hb := B.bytes
  have hr := B.returns
  have ht : ∀ w ∈ lw_gd, w.before args s = true := fun w hw => atoms_spec (ws := WW yX10_takeRest cX10_takeRest 3 (some .boolean)) B.pre w (List.mem_cons_of_mem _ hw)
  have hown : s.vm.findClass RX10 = some m.cls := findClass_of_methodNamed B.named
  have hlocks := B.notSynchronized
  have hP : PD D A [bl_X10 cy A_k (A_r 0) (A_w 0) (A_a 0) k_open k_depth, bl_X6 cy A_r (A_t 0) r_fault r_place, bl_X7 cy A_t t_bytes t_wordCodes t_length t_kind t_start t_value t_word t_name t_end t_at, bl_X9 cy A_w w_deed w_man w_other w_sign w_number w_mate w_there w_rows w_steps, bl_X0 cy A_a a_name a_courage a_weight a_medals a_stood a_fled a_liked a_votes a_count a_living a_pride a_quota a_melted a_lost] s.heap := ⟨hP, by rw [hA]; exact hD0.own⟩
  have hS : va_S A s.heap s.heap [] := va_S.rf
  obtain ⟨ls, hl, hent⟩ := ent (m := m) (n := 3) hargs (Nat.le_of_ble_eq_true rfl) (lv := [(0, .ref (A_k 0)), (1, .int x1)]) rfl
  rw [hent]
  clear hent
  have j140 : ∀ (r_fault : Int32) (r_place : Int32) (t_kind : Int32) (t_start : Int32) (t_value : Int32) (t_word : Int32) (t_name : Int64) (t_at : Int32) (w_man : Nat → Int32) (w_other : Nat → Int32) (w_sign : Nat → Int32) (w_number : Nat → Int32) (x2 : Int32) (s1 : Int32) (s2 : Int32) (H : Heap) (locs : List Loc) (_ : PD D A [bl_X10 cy A_k (A_r 0) (A_w 0) (A_a 0) k_open k_depth, bl_X6 cy A_r (A_t 0) r_fault r_place, bl_X7 cy A_t t_bytes t_wordCodes t_length t_kind t_start t_value t_word t_name t_end t_at, bl_X9 cy A_w w_deed w_man w_other w_sign w_number w_mate w_there w_rows w_steps, bl_X0 cy A_a a_name a_courage a_weight a_medals a_stood a_fled a_liked a_votes a_count a_living a_pride a_quota a_melted a_lost] H) (_ : va_S A s.heap H locs) (ls : Array Slot), lv_has ls 3 [(0, .ref (A_k 0)), (2, .int x2)] → f_X10_takeRest_j140 fu t_bytes t_wordCodes t_end w_rows a_name a_count x1 r_fault r_place t_kind t_start t_value t_word t_name t_at w_man w_other w_sign w_number x2 s1 s2 = some res → W p l e (headSpec (WW yX10_takeRest cX10_takeRest 3 (some .boolean)) rm_X10_takeRest).room s m args below meth c H locs 0 0 (MQ below (Qei D res.1 A W1) args s 0 0 A) (F0 m 140 ls [.int s2, .int s1, .ref (A_w 5)]) := by
    intro r_fault r_place t_kind t_start t_value t_word t_name t_at w_man w_other w_sign w_number x2 s1 s2 H locs hP hS ls hl h
    unfold f_X10_takeRest_j140 at h
    obtain ⟨w_number_41, e_w_number_41, h⟩ := bi h
    refine xiast (i0 := 3) (j0 := 5) hx hb hX hP hS rfl rfl e_w_number_41 dX10_takeRest_140 (fun H locs hP hS => ?_)
    have hP : PD D A [bl_X10 cy A_k (A_r 0) (A_w 0) (A_a 0) k_open k_depth, bl_X6 cy A_r (A_t 0) r_fault r_place, bl_X7 cy A_t t_bytes t_wordCodes t_length t_kind t_start t_value t_word t_name t_end t_at, bl_X9 cy A_w w_deed w_man w_other w_sign w_number_41 w_mate w_there w_rows w_steps, bl_X0 cy A_a a_name a_courage a_weight a_medals a_stood a_fled a_liked a_votes a_count a_living a_pride a_quota a_melted a_lost] H := hP
    refine lv_aload_n hx hb dX10_takeRest_141 rfl (lv_at hl 0 rfl) ?_
    refine xget (i := 0) (j := 0) (k := 1) (T := TX10) hx hb ht tb_iX10 hown hX hP.1 rfl rfl rfl (by decide) tb_301 rfl dX10_takeRest_142 ?_
    refine xget (i := 3) (j := 0) (k := 4) (T := TX9) hx hb ht tb_iX9 hown hX hP.1 rfl rfl rfl (by decide) tb_125 rfl dX10_takeRest_145 ?_
    refine lv_iload_n hx hb dX10_takeRest_148 rfl (lv_at hl 1 rfl) ?_
    obtain ⟨y_42, e_y_42, h⟩ := bi h
    refine xiald (i0 := 3) (j0 := 5) hx hb hX hP.1 rfl rfl e_y_42 dX10_takeRest_149 ?_
    refine lv_iconst (v := (-1)) hx hb dX10_takeRest_150 (by decide) ?_
    refine lv_icmp_eq (tgt := 158) hx hb dX10_takeRest_151 (by decide) (fun c_43 => ?_) (fun c_43 => ?_)
    · have h := it c_43 h
      refine lv_iconst (v := 0) hx hb dX10_takeRest_158 (by decide) ?_
      cases h
      subst hW1
      exact W.zret hx hb hr rfl (fun _ ht9 _ => ⟨⟨_, (), rfl, rfl, hPt ht9 hP.1⟩, hS.F ht9⟩) hS.2.2 dX10_takeRest_159
    · have h := ie c_43 h
      refine lv_iconst (v := 1) hx hb dX10_takeRest_154 (by decide) ?_
      refine lv_goto (tgt := 159) hx hb dX10_takeRest_155 (by decide) ?_
      cases h
      subst hW1
      exact W.zret hx hb hr rfl (fun _ ht9 _ => ⟨⟨_, (), rfl, rfl, hPt ht9 hP.1⟩, hS.F ht9⟩) hS.2.2 dX10_takeRest_159
  have j218 : ∀ (r_fault : Int32) (r_place : Int32) (t_kind : Int32) (t_start : Int32) (t_value : Int32) (t_word : Int32) (t_name : Int64) (t_at : Int32) (w_man : Nat → Int32) (w_other : Nat → Int32) (w_sign : Nat → Int32) (w_number : Nat → Int32) (x2 : Int32) (s1 : Int32) (s2 : Int32) (H : Heap) (locs : List Loc) (_ : PD D A [bl_X10 cy A_k (A_r 0) (A_w 0) (A_a 0) k_open k_depth, bl_X6 cy A_r (A_t 0) r_fault r_place, bl_X7 cy A_t t_bytes t_wordCodes t_length t_kind t_start t_value t_word t_name t_end t_at, bl_X9 cy A_w w_deed w_man w_other w_sign w_number w_mate w_there w_rows w_steps, bl_X0 cy A_a a_name a_courage a_weight a_medals a_stood a_fled a_liked a_votes a_count a_living a_pride a_quota a_melted a_lost] H) (_ : va_S A s.heap H locs) (ls : Array Slot), lv_has ls 3 [(0, .ref (A_k 0)), (2, .int x2)] → f_X10_takeRest_j218 fu t_bytes t_wordCodes t_end w_rows a_name a_count x1 r_fault r_place t_kind t_start t_value t_word t_name t_at w_man w_other w_sign w_number x2 s1 s2 = some res → W p l e (headSpec (WW yX10_takeRest cX10_takeRest 3 (some .boolean)) rm_X10_takeRest).room s m args below meth c H locs 0 0 (MQ below (Qei D res.1 A W1) args s 0 0 A) (F0 m 218 ls [.int s2, .int s1, .ref (A_w 3)]) := by
    intro r_fault r_place t_kind t_start t_value t_word t_name t_at w_man w_other w_sign w_number x2 s1 s2 H locs hP hS ls hl h
    unfold f_X10_takeRest_j218 at h
    obtain ⟨w_other_44, e_w_other_44, h⟩ := bi h
    refine xiast (i0 := 3) (j0 := 3) hx hb hX hP hS rfl rfl e_w_other_44 dX10_takeRest_218 (fun H locs hP hS => ?_)
    have hP : PD D A [bl_X10 cy A_k (A_r 0) (A_w 0) (A_a 0) k_open k_depth, bl_X6 cy A_r (A_t 0) r_fault r_place, bl_X7 cy A_t t_bytes t_wordCodes t_length t_kind t_start t_value t_word t_name t_end t_at, bl_X9 cy A_w w_deed w_man w_other_44 w_sign w_number w_mate w_there w_rows w_steps, bl_X0 cy A_a a_name a_courage a_weight a_medals a_stood a_fled a_liked a_votes a_count a_living a_pride a_quota a_melted a_lost] H := hP
    refine lv_aload_n hx hb dX10_takeRest_219 rfl (lv_at hl 0 rfl) ?_
    refine xget (i := 0) (j := 0) (k := 1) (T := TX10) hx hb ht tb_iX10 hown hX hP.1 rfl rfl rfl (by decide) tb_301 rfl dX10_takeRest_220 ?_
    refine xget (i := 3) (j := 0) (k := 2) (T := TX9) hx hb ht tb_iX9 hown hX hP.1 rfl rfl rfl (by decide) tb_119 rfl dX10_takeRest_223 ?_
    refine lv_iload_n hx hb dX10_takeRest_226 rfl (lv_at hl 1 rfl) ?_
    obtain ⟨y_45, e_y_45, h⟩ := bi h
    refine xiald (i0 := 3) (j0 := 3) hx hb hX hP.1 rfl rfl e_y_45 dX10_takeRest_227 ?_
    refine lv_iconst (v := (-1)) hx hb dX10_takeRest_228 (by decide) ?_
    refine lv_icmp_eq (tgt := 236) hx hb dX10_takeRest_229 (by decide) (fun c_46 => ?_) (fun c_46 => ?_)
    · have h := it c_46 h
      refine lv_iconst (v := 0) hx hb dX10_takeRest_236 (by decide) ?_
      cases h
      subst hW1
      exact W.zret hx hb hr rfl (fun _ ht9 _ => ⟨⟨_, (), rfl, rfl, hPt ht9 hP.1⟩, hS.F ht9⟩) hS.2.2 dX10_takeRest_237
    · have h := ie c_46 h
      refine lv_iconst (v := 1) hx hb dX10_takeRest_232 (by decide) ?_
      refine lv_goto (tgt := 237) hx hb dX10_takeRest_233 (by decide) ?_
      cases h
      subst hW1
      exact W.zret hx hb hr rfl (fun _ ht9 _ => ⟨⟨_, (), rfl, rfl, hPt ht9 hP.1⟩, hS.F ht9⟩) hS.2.2 dX10_takeRest_237
  have j238 : ∀ (r_fault : Int32) (r_place : Int32) (t_kind : Int32) (t_start : Int32) (t_value : Int32) (t_word : Int32) (t_name : Int64) (t_at : Int32) (w_man : Nat → Int32) (w_other : Nat → Int32) (w_sign : Nat → Int32) (w_number : Nat → Int32) (x2 : Int32) (H : Heap) (locs : List Loc) (_ : PD D A [bl_X10 cy A_k (A_r 0) (A_w 0) (A_a 0) k_open k_depth, bl_X6 cy A_r (A_t 0) r_fault r_place, bl_X7 cy A_t t_bytes t_wordCodes t_length t_kind t_start t_value t_word t_name t_end t_at, bl_X9 cy A_w w_deed w_man w_other w_sign w_number w_mate w_there w_rows w_steps, bl_X0 cy A_a a_name a_courage a_weight a_medals a_stood a_fled a_liked a_votes a_count a_living a_pride a_quota a_melted a_lost] H) (_ : va_S A s.heap H locs) (ls : Array Slot), lv_has ls 3 [(0, .ref (A_k 0)), (2, .int x2)] → f_X10_takeRest_j238 fu t_bytes t_wordCodes t_end w_rows a_name a_count x1 r_fault r_place t_kind t_start t_value t_word t_name t_at w_man w_other w_sign w_number x2 = some res → W p l e (headSpec (WW yX10_takeRest cX10_takeRest 3 (some .boolean)) rm_X10_takeRest).room s m args below meth c H locs 0 0 (MQ below (Qei D res.1 A W1) args s 0 0 A) (F0 m 238 ls []) := by
    intro r_fault r_place t_kind t_start t_value t_word t_name t_at w_man w_other w_sign w_number x2 H locs hP hS ls hl h
    unfold f_X10_takeRest_j238 at h
    refine lv_aload_n hx hb dX10_takeRest_238 rfl (lv_at hl 0 rfl) ?_
    refine xget (i := 0) (j := 0) (k := 1) (T := TX10) hx hb ht tb_iX10 hown hX hP.1 rfl rfl rfl (by decide) tb_301 rfl dX10_takeRest_239 ?_
    refine xget (i := 3) (j := 0) (k := 1) (T := TX9) hx hb ht tb_iX9 hown hX hP.1 rfl rfl rfl (by decide) tb_116 rfl dX10_takeRest_242 ?_
    refine lv_iload_n hx hb dX10_takeRest_245 rfl (lv_at hl 1 rfl) ?_
    refine lv_aload_n hx hb dX10_takeRest_246 rfl (lv_at hl 0 rfl) ?_
    refine xget (i := 0) (j := 0) (k := 0) (T := TX10) hx hb ht tb_iX10 hown hX hP.1 rfl rfl rfl (by decide) tb_300 rfl dX10_takeRest_247 ?_
    refine lv_aload_n hx hb dX10_takeRest_250 rfl (lv_at hl 0 rfl) ?_
    refine xget (i := 0) (j := 0) (k := 2) (T := TX10) hx hb ht tb_iX10 hown hX hP.1 rfl rfl rfl (by decide) tb_302 rfl dX10_takeRest_251 ?_
    refine lv_iconst (v := (-1)) hx hb dX10_takeRest_254 (by decide) ?_
    obtain ⟨z_47, e_z_47, h⟩ := bi h
    refine efVi (rest := [.int x2, .ref (A_w 2)]) ⟨hx, hb, hml, hown, ht⟩ (c_X6_takeMan l D cy fu A_r r_fault r_place A_t t_bytes t_wordCodes t_length t_kind t_start t_value t_word t_name t_end t_at A_a a_name a_courage a_weight a_medals a_stood a_fled a_liked a_votes a_count a_living a_pride a_quota a_melted a_lost (-1) z_47 e_z_47 _ rfl _ rfl) (cV ht mv_X6_takeMan tb_735 rfl rfl ⟨Nat.le_of_ble_eq_true rfl, Nat.le_of_ble_eq_true rfl⟩) hP hS hX [1, 2, 4] rfl rfl rfl rfl rfl rfl hl.1 rfl (Nat.le_of_ble_eq_true rfl) dX10_takeRest_255 ⟨Nat.le_of_ble_eq_true rfl, Nat.le_of_ble_eq_true rfl⟩ (fun H locs hP hS => ?_)
    have hP : PD D A [bl_X10 cy A_k (A_r 0) (A_w 0) (A_a 0) k_open k_depth, bl_X6 cy A_r (A_t 0) z_47.2.1 z_47.2.2.1, bl_X7 cy A_t t_bytes t_wordCodes t_length z_47.2.2.2.1 z_47.2.2.2.2.1 z_47.2.2.2.2.2.1 z_47.2.2.2.2.2.2.1 z_47.2.2.2.2.2.2.2.1 t_end z_47.2.2.2.2.2.2.2.2, bl_X9 cy A_w w_deed w_man w_other w_sign w_number w_mate w_there w_rows w_steps, bl_X0 cy A_a a_name a_courage a_weight a_medals a_stood a_fled a_liked a_votes a_count a_living a_pride a_quota a_melted a_lost] H := hP
    obtain ⟨w_man_48, e_w_man_48, h⟩ := bi h
    refine xiast (i0 := 3) (j0 := 2) hx hb hX hP hS rfl rfl e_w_man_48 dX10_takeRest_258 (fun H locs hP hS => ?_)
    have hP : PD D A [bl_X10 cy A_k (A_r 0) (A_w 0) (A_a 0) k_open k_depth, bl_X6 cy A_r (A_t 0) z_47.2.1 z_47.2.2.1, bl_X7 cy A_t t_bytes t_wordCodes t_length z_47.2.2.2.1 z_47.2.2.2.2.1 z_47.2.2.2.2.2.1 z_47.2.2.2.2.2.2.1 z_47.2.2.2.2.2.2.2.1 t_end z_47.2.2.2.2.2.2.2.2, bl_X9 cy A_w w_deed w_man_48 w_other w_sign w_number w_mate w_there w_rows w_steps, bl_X0 cy A_a a_name a_courage a_weight a_medals a_stood a_fled a_liked a_votes a_count a_living a_pride a_quota a_melted a_lost] H := hP
    refine lv_aload_n hx hb dX10_takeRest_259 rfl (lv_at hl 0 rfl) ?_
    refine xget (i := 0) (j := 0) (k := 1) (T := TX10) hx hb ht tb_iX10 hown hX hP.1 rfl rfl rfl (by decide) tb_301 rfl dX10_takeRest_260 ?_
    refine xget (i := 3) (j := 0) (k := 1) (T := TX9) hx hb ht tb_iX9 hown hX hP.1 rfl rfl rfl (by decide) tb_116 rfl dX10_takeRest_263 ?_
    refine lv_iload_n hx hb dX10_takeRest_266 rfl (lv_at hl 1 rfl) ?_
    obtain ⟨y_49, e_y_49, h⟩ := bi h
    refine xiald (i0 := 3) (j0 := 2) hx hb hX hP.1 rfl rfl e_y_49 dX10_takeRest_267 ?_
    refine lv_iconst (v := (-1)) hx hb dX10_takeRest_268 (by decide) ?_
    refine lv_icmp_eq (tgt := 276) hx hb dX10_takeRest_269 (by decide) (fun c_50 => ?_) (fun c_50 => ?_)
    · have h := it c_50 h
      refine lv_iconst (v := 0) hx hb dX10_takeRest_276 (by decide) ?_
      cases h
      subst hW1
      exact W.zret hx hb hr rfl (fun _ ht9 _ => ⟨⟨_, (), rfl, rfl, hPt ht9 hP.1⟩, hS.F ht9⟩) hS.2.2 dX10_takeRest_277
    · have h := ie c_50 h
      refine lv_iconst (v := 1) hx hb dX10_takeRest_272 (by decide) ?_
      refine lv_goto (tgt := 277) hx hb dX10_takeRest_273 (by decide) ?_
      cases h
      subst hW1
      exact W.zret hx hb hr rfl (fun _ ht9 _ => ⟨⟨_, (), rfl, rfl, hPt ht9 hP.1⟩, hS.F ht9⟩) hS.2.2 dX10_takeRest_277
  unfold f_X10_takeRest at h
  refine lv_aload_n hx hb dX10_takeRest_0 rfl (lv_at hl 0 rfl) ?_
  refine xget (i := 0) (j := 0) (k := 1) (T := TX10) hx hb ht tb_iX10 hown hX hP.1 rfl rfl rfl (by decide) tb_301 rfl dX10_takeRest_1 ?_
  refine xget (i := 3) (j := 0) (k := 7) (T := TX9) hx hb ht tb_iX9 hown hX hP.1 rfl rfl rfl (by decide) tb_133 rfl dX10_takeRest_4 ?_
  refine lv_istore_n (lv' := [(2, .int w_rows), (0, .ref (A_k 0)), (1, .int x1)]) hx hb dX10_takeRest_7 rfl hl (by decide) rfl (fun ls hl => ?_)
  refine lv_iload_n hx hb dX10_takeRest_8 rfl (lv_at hl 0 rfl) ?_
  refine lv_iconst (v := 0) hx hb dX10_takeRest_9 (by decide) ?_
  refine lv_bipush (v := 59) hx hb dX10_takeRest_10 (by decide) ?_
  obtain ⟨z_51, e_z_51, h⟩ := bi h
  refine roNi (rest := []) ⟨hx, hb, hml, hown, ht⟩ (c_X11_within l D cy fu  w_rows 0 59 z_51 e_z_51) (cN ht hX ms_X11_within (List.mem_of_getElem? (i := 8) rfl) rfl rfl ⟨Nat.le_of_ble_eq_true rfl, Nat.le_of_ble_eq_true rfl⟩) (P_sub hP.1 [] rfl) hX rfl hl.1 rfl (Nat.le_of_ble_eq_true rfl) dX10_takeRest_12 ⟨Nat.le_of_ble_eq_true rfl, Nat.le_of_ble_eq_true rfl⟩ ?_
  refine lv_if_ne (tgt := 28) hx hb dX10_takeRest_15 (by decide) (fun c_52 => ?_) (fun c_52 => ?_)
  · have h := ie c_52 h
    refine lv_iload_n hx hb dX10_takeRest_28 rfl (lv_at hl 2 rfl) ?_
    by_cases c_53 : x1 = 7
    · have h := it c_53 h
      refine lv_tableIn (tgt := 84) hx hb dX10_takeRest_29 (by rw [c_53]; decide) (by rw [c_53]; decide) (by rw [c_53]; rfl) (by decide) ?_
      refine lv_aload_n hx hb dX10_takeRest_84 rfl (lv_at hl 1 rfl) ?_
      refine xget (i := 0) (j := 0) (k := 1) (T := TX10) hx hb ht tb_iX10 hown hX hP.1 rfl rfl rfl (by decide) tb_301 rfl dX10_takeRest_85 ?_
      refine xget (i := 3) (j := 0) (k := 1) (T := TX9) hx hb ht tb_iX9 hown hX hP.1 rfl rfl rfl (by decide) tb_116 rfl dX10_takeRest_88 ?_
      refine lv_iload_n hx hb dX10_takeRest_91 rfl (lv_at hl 0 rfl) ?_
      refine lv_aload_n hx hb dX10_takeRest_92 rfl (lv_at hl 1 rfl) ?_
      refine xget (i := 0) (j := 0) (k := 0) (T := TX10) hx hb ht tb_iX10 hown hX hP.1 rfl rfl rfl (by decide) tb_300 rfl dX10_takeRest_93 ?_
      refine lv_aload_n hx hb dX10_takeRest_96 rfl (lv_at hl 1 rfl) ?_
      refine xget (i := 0) (j := 0) (k := 2) (T := TX10) hx hb ht tb_iX10 hown hX hP.1 rfl rfl rfl (by decide) tb_302 rfl dX10_takeRest_97 ?_
      refine lv_iconst (v := (-1)) hx hb dX10_takeRest_100 (by decide) ?_
      obtain ⟨z_54, e_z_54, h⟩ := bi h
      refine efVi (rest := [.int w_rows, .ref (A_w 2)]) ⟨hx, hb, hml, hown, ht⟩ (c_X6_takeMan l D cy fu A_r r_fault r_place A_t t_bytes t_wordCodes t_length t_kind t_start t_value t_word t_name t_end t_at A_a a_name a_courage a_weight a_medals a_stood a_fled a_liked a_votes a_count a_living a_pride a_quota a_melted a_lost (-1) z_54 e_z_54 _ rfl _ rfl) (cV ht mv_X6_takeMan tb_735 rfl rfl ⟨Nat.le_of_ble_eq_true rfl, Nat.le_of_ble_eq_true rfl⟩) hP hS hX [1, 2, 4] rfl rfl rfl rfl rfl rfl hl.1 rfl (Nat.le_of_ble_eq_true rfl) dX10_takeRest_101 ⟨Nat.le_of_ble_eq_true rfl, Nat.le_of_ble_eq_true rfl⟩ (fun H locs hP hS => ?_)
      have hP : PD D A [bl_X10 cy A_k (A_r 0) (A_w 0) (A_a 0) k_open k_depth, bl_X6 cy A_r (A_t 0) z_54.2.1 z_54.2.2.1, bl_X7 cy A_t t_bytes t_wordCodes t_length z_54.2.2.2.1 z_54.2.2.2.2.1 z_54.2.2.2.2.2.1 z_54.2.2.2.2.2.2.1 z_54.2.2.2.2.2.2.2.1 t_end z_54.2.2.2.2.2.2.2.2, bl_X9 cy A_w w_deed w_man w_other w_sign w_number w_mate w_there w_rows w_steps, bl_X0 cy A_a a_name a_courage a_weight a_medals a_stood a_fled a_liked a_votes a_count a_living a_pride a_quota a_melted a_lost] H := hP
      obtain ⟨w_man_55, e_w_man_55, h⟩ := bi h
      refine xiast (i0 := 3) (j0 := 2) hx hb hX hP hS rfl rfl e_w_man_55 dX10_takeRest_104 (fun H locs hP hS => ?_)
      have hP : PD D A [bl_X10 cy A_k (A_r 0) (A_w 0) (A_a 0) k_open k_depth, bl_X6 cy A_r (A_t 0) z_54.2.1 z_54.2.2.1, bl_X7 cy A_t t_bytes t_wordCodes t_length z_54.2.2.2.1 z_54.2.2.2.2.1 z_54.2.2.2.2.2.1 z_54.2.2.2.2.2.2.1 z_54.2.2.2.2.2.2.2.1 t_end z_54.2.2.2.2.2.2.2.2, bl_X9 cy A_w w_deed w_man_55 w_other w_sign w_number w_mate w_there w_rows w_steps, bl_X0 cy A_a a_name a_courage a_weight a_medals a_stood a_fled a_liked a_votes a_count a_living a_pride a_quota a_melted a_lost] H := hP
      refine lv_aload_n hx hb dX10_takeRest_105 rfl (lv_at hl 1 rfl) ?_
      refine xget (i := 0) (j := 0) (k := 1) (T := TX10) hx hb ht tb_iX10 hown hX hP.1 rfl rfl rfl (by decide) tb_301 rfl dX10_takeRest_106 ?_
      refine xget (i := 3) (j := 0) (k := 4) (T := TX9) hx hb ht tb_iX9 hown hX hP.1 rfl rfl rfl (by decide) tb_125 rfl dX10_takeRest_109 ?_
      refine lv_iload_n hx hb dX10_takeRest_112 rfl (lv_at hl 0 rfl) ?_
      refine lv_aload_n hx hb dX10_takeRest_113 rfl (lv_at hl 1 rfl) ?_
      refine xget (i := 0) (j := 0) (k := 1) (T := TX10) hx hb ht tb_iX10 hown hX hP.1 rfl rfl rfl (by decide) tb_301 rfl dX10_takeRest_114 ?_
      refine xget (i := 3) (j := 0) (k := 1) (T := TX9) hx hb ht tb_iX9 hown hX hP.1 rfl rfl rfl (by decide) tb_116 rfl dX10_takeRest_117 ?_
      refine lv_iload_n hx hb dX10_takeRest_120 rfl (lv_at hl 0 rfl) ?_
      obtain ⟨y_56, e_y_56, h⟩ := bi h
      refine xiald (i0 := 3) (j0 := 2) hx hb hX hP.1 rfl rfl e_y_56 dX10_takeRest_121 ?_
      refine lv_iconst (v := (-1)) hx hb dX10_takeRest_122 (by decide) ?_
      refine lv_icmp_ne (tgt := 130) hx hb dX10_takeRest_123 (by decide) (fun c_57 => ?_) (fun c_57 => ?_)
      · have h := ie c_57 h
        refine lv_aload_n hx hb dX10_takeRest_130 rfl (lv_at hl 1 rfl) ?_
        refine xget (i := 0) (j := 0) (k := 0) (T := TX10) hx hb ht tb_iX10 hown hX hP.1 rfl rfl rfl (by decide) tb_300 rfl dX10_takeRest_131 ?_
        refine lv_iconst (v := 1) hx hb dX10_takeRest_134 (by decide) ?_
        refine lv_bipush (v := 99) hx hb dX10_takeRest_135 (by decide) ?_
        obtain ⟨z_58, e_z_58, h⟩ := bi h
        refine efVi (rest := [.int w_rows, .ref (A_w 5)]) ⟨hx, hb, hml, hown, ht⟩ (c_X6_takeNumber l D cy fu A_r z_54.2.1 z_54.2.2.1 A_t t_bytes t_wordCodes t_length z_54.2.2.2.1 z_54.2.2.2.2.1 z_54.2.2.2.2.2.1 z_54.2.2.2.2.2.2.1 z_54.2.2.2.2.2.2.2.1 t_end z_54.2.2.2.2.2.2.2.2 1 99 z_58 e_z_58 _ rfl _ rfl) (cV ht mv_X6_takeNumber tb_736 rfl rfl ⟨Nat.le_of_ble_eq_true rfl, Nat.le_of_ble_eq_true rfl⟩) hP hS hX [1, 2] rfl rfl rfl rfl rfl rfl hl.1 rfl (Nat.le_of_ble_eq_true rfl) dX10_takeRest_137 ⟨Nat.le_of_ble_eq_true rfl, Nat.le_of_ble_eq_true rfl⟩ (fun H locs hP hS => ?_)
        have hP : PD D A [bl_X10 cy A_k (A_r 0) (A_w 0) (A_a 0) k_open k_depth, bl_X6 cy A_r (A_t 0) z_58.2.1 z_58.2.2.1, bl_X7 cy A_t t_bytes t_wordCodes t_length z_58.2.2.2.1 z_58.2.2.2.2.1 z_58.2.2.2.2.2.1 z_58.2.2.2.2.2.2.1 z_58.2.2.2.2.2.2.2.1 t_end z_58.2.2.2.2.2.2.2.2, bl_X9 cy A_w w_deed w_man_55 w_other w_sign w_number w_mate w_there w_rows w_steps, bl_X0 cy A_a a_name a_courage a_weight a_medals a_stood a_fled a_liked a_votes a_count a_living a_pride a_quota a_melted a_lost] H := hP
        exact j140 z_58.2.1 z_58.2.2.1 z_58.2.2.2.1 z_58.2.2.2.2.1 z_58.2.2.2.2.2.1 z_58.2.2.2.2.2.2.1 z_58.2.2.2.2.2.2.2.1 z_58.2.2.2.2.2.2.2.2 w_man_55 w_other w_sign w_number w_rows w_rows z_58.1 _ _ hP hS ls (lv_sub hl [1, 0] rfl) h
      · have h := it c_57 h
        refine lv_iconst (v := (-1)) hx hb dX10_takeRest_126 (by decide) ?_
        refine lv_goto (tgt := 140) hx hb dX10_takeRest_127 (by decide) ?_
        exact j140 z_54.2.1 z_54.2.2.1 z_54.2.2.2.1 z_54.2.2.2.2.1 z_54.2.2.2.2.2.1 z_54.2.2.2.2.2.2.1 z_54.2.2.2.2.2.2.2.1 z_54.2.2.2.2.2.2.2.2 w_man_55 w_other w_sign w_number w_rows w_rows (-1) _ _ hP hS ls (lv_sub hl [1, 0] rfl) h
    have h := ie c_53 h
    by_cases c_59 : x1 = 8
    · have h := it c_59 h
      refine lv_tableIn (tgt := 160) hx hb dX10_takeRest_29 (by rw [c_59]; decide) (by rw [c_59]; decide) (by rw [c_59]; rfl) (by decide) ?_
      refine lv_aload_n hx hb dX10_takeRest_160 rfl (lv_at hl 1 rfl) ?_
      refine xget (i := 0) (j := 0) (k := 1) (T := TX10) hx hb ht tb_iX10 hown hX hP.1 rfl rfl rfl (by decide) tb_301 rfl dX10_takeRest_161 ?_
      refine xget (i := 3) (j := 0) (k := 1) (T := TX9) hx hb ht tb_iX9 hown hX hP.1 rfl rfl rfl (by decide) tb_116 rfl dX10_takeRest_164 ?_
      refine lv_iload_n hx hb dX10_takeRest_167 rfl (lv_at hl 0 rfl) ?_
      refine lv_aload_n hx hb dX10_takeRest_168 rfl (lv_at hl 1 rfl) ?_
      refine xget (i := 0) (j := 0) (k := 0) (T := TX10) hx hb ht tb_iX10 hown hX hP.1 rfl rfl rfl (by decide) tb_300 rfl dX10_takeRest_169 ?_
      refine lv_aload_n hx hb dX10_takeRest_172 rfl (lv_at hl 1 rfl) ?_
      refine xget (i := 0) (j := 0) (k := 2) (T := TX10) hx hb ht tb_iX10 hown hX hP.1 rfl rfl rfl (by decide) tb_302 rfl dX10_takeRest_173 ?_
      refine lv_iconst (v := (-1)) hx hb dX10_takeRest_176 (by decide) ?_
      obtain ⟨z_60, e_z_60, h⟩ := bi h
      refine efVi (rest := [.int w_rows, .ref (A_w 2)]) ⟨hx, hb, hml, hown, ht⟩ (c_X6_takeMan l D cy fu A_r r_fault r_place A_t t_bytes t_wordCodes t_length t_kind t_start t_value t_word t_name t_end t_at A_a a_name a_courage a_weight a_medals a_stood a_fled a_liked a_votes a_count a_living a_pride a_quota a_melted a_lost (-1) z_60 e_z_60 _ rfl _ rfl) (cV ht mv_X6_takeMan tb_735 rfl rfl ⟨Nat.le_of_ble_eq_true rfl, Nat.le_of_ble_eq_true rfl⟩) hP hS hX [1, 2, 4] rfl rfl rfl rfl rfl rfl hl.1 rfl (Nat.le_of_ble_eq_true rfl) dX10_takeRest_177 ⟨Nat.le_of_ble_eq_true rfl, Nat.le_of_ble_eq_true rfl⟩ (fun H locs hP hS => ?_)
      have hP : PD D A [bl_X10 cy A_k (A_r 0) (A_w 0) (A_a 0) k_open k_depth, bl_X6 cy A_r (A_t 0) z_60.2.1 z_60.2.2.1, bl_X7 cy A_t t_bytes t_wordCodes t_length z_60.2.2.2.1 z_60.2.2.2.2.1 z_60.2.2.2.2.2.1 z_60.2.2.2.2.2.2.1 z_60.2.2.2.2.2.2.2.1 t_end z_60.2.2.2.2.2.2.2.2, bl_X9 cy A_w w_deed w_man w_other w_sign w_number w_mate w_there w_rows w_steps, bl_X0 cy A_a a_name a_courage a_weight a_medals a_stood a_fled a_liked a_votes a_count a_living a_pride a_quota a_melted a_lost] H := hP
      obtain ⟨w_man_61, e_w_man_61, h⟩ := bi h
      refine xiast (i0 := 3) (j0 := 2) hx hb hX hP hS rfl rfl e_w_man_61 dX10_takeRest_180 (fun H locs hP hS => ?_)
      have hP : PD D A [bl_X10 cy A_k (A_r 0) (A_w 0) (A_a 0) k_open k_depth, bl_X6 cy A_r (A_t 0) z_60.2.1 z_60.2.2.1, bl_X7 cy A_t t_bytes t_wordCodes t_length z_60.2.2.2.1 z_60.2.2.2.2.1 z_60.2.2.2.2.2.1 z_60.2.2.2.2.2.2.1 z_60.2.2.2.2.2.2.2.1 t_end z_60.2.2.2.2.2.2.2.2, bl_X9 cy A_w w_deed w_man_61 w_other w_sign w_number w_mate w_there w_rows w_steps, bl_X0 cy A_a a_name a_courage a_weight a_medals a_stood a_fled a_liked a_votes a_count a_living a_pride a_quota a_melted a_lost] H := hP
      refine lv_aload_n hx hb dX10_takeRest_181 rfl (lv_at hl 1 rfl) ?_
      refine xget (i := 0) (j := 0) (k := 1) (T := TX10) hx hb ht tb_iX10 hown hX hP.1 rfl rfl rfl (by decide) tb_301 rfl dX10_takeRest_182 ?_
      refine xget (i := 3) (j := 0) (k := 2) (T := TX9) hx hb ht tb_iX9 hown hX hP.1 rfl rfl rfl (by decide) tb_119 rfl dX10_takeRest_185 ?_
      refine lv_iload_n hx hb dX10_takeRest_188 rfl (lv_at hl 0 rfl) ?_
      refine lv_aload_n hx hb dX10_takeRest_189 rfl (lv_at hl 1 rfl) ?_
      refine xget (i := 0) (j := 0) (k := 1) (T := TX10) hx hb ht tb_iX10 hown hX hP.1 rfl rfl rfl (by decide) tb_301 rfl dX10_takeRest_190 ?_
      refine xget (i := 3) (j := 0) (k := 1) (T := TX9) hx hb ht tb_iX9 hown hX hP.1 rfl rfl rfl (by decide) tb_116 rfl dX10_takeRest_193 ?_
      refine lv_iload_n hx hb dX10_takeRest_196 rfl (lv_at hl 0 rfl) ?_
      obtain ⟨y_62, e_y_62, h⟩ := bi h
      refine xiald (i0 := 3) (j0 := 2) hx hb hX hP.1 rfl rfl e_y_62 dX10_takeRest_197 ?_
      refine lv_iconst (v := (-1)) hx hb dX10_takeRest_198 (by decide) ?_
      refine lv_icmp_ne (tgt := 206) hx hb dX10_takeRest_199 (by decide) (fun c_63 => ?_) (fun c_63 => ?_)
      · have h := ie c_63 h
        refine lv_aload_n hx hb dX10_takeRest_206 rfl (lv_at hl 1 rfl) ?_
        refine xget (i := 0) (j := 0) (k := 0) (T := TX10) hx hb ht tb_iX10 hown hX hP.1 rfl rfl rfl (by decide) tb_300 rfl dX10_takeRest_207 ?_
        refine lv_aload_n hx hb dX10_takeRest_210 rfl (lv_at hl 1 rfl) ?_
        refine xget (i := 0) (j := 0) (k := 2) (T := TX10) hx hb ht tb_iX10 hown hX hP.1 rfl rfl rfl (by decide) tb_302 rfl dX10_takeRest_211 ?_
        refine lv_iconst (v := (-1)) hx hb dX10_takeRest_214 (by decide) ?_
        obtain ⟨z_64, e_z_64, h⟩ := bi h
        refine efVi (rest := [.int w_rows, .ref (A_w 3)]) ⟨hx, hb, hml, hown, ht⟩ (c_X6_takeMan l D cy fu A_r z_60.2.1 z_60.2.2.1 A_t t_bytes t_wordCodes t_length z_60.2.2.2.1 z_60.2.2.2.2.1 z_60.2.2.2.2.2.1 z_60.2.2.2.2.2.2.1 z_60.2.2.2.2.2.2.2.1 t_end z_60.2.2.2.2.2.2.2.2 A_a a_name a_courage a_weight a_medals a_stood a_fled a_liked a_votes a_count a_living a_pride a_quota a_melted a_lost (-1) z_64 e_z_64 _ rfl _ rfl) (cV ht mv_X6_takeMan tb_735 rfl rfl ⟨Nat.le_of_ble_eq_true rfl, Nat.le_of_ble_eq_true rfl⟩) hP hS hX [1, 2, 4] rfl rfl rfl rfl rfl rfl hl.1 rfl (Nat.le_of_ble_eq_true rfl) dX10_takeRest_215 ⟨Nat.le_of_ble_eq_true rfl, Nat.le_of_ble_eq_true rfl⟩ (fun H locs hP hS => ?_)
        have hP : PD D A [bl_X10 cy A_k (A_r 0) (A_w 0) (A_a 0) k_open k_depth, bl_X6 cy A_r (A_t 0) z_64.2.1 z_64.2.2.1, bl_X7 cy A_t t_bytes t_wordCodes t_length z_64.2.2.2.1 z_64.2.2.2.2.1 z_64.2.2.2.2.2.1 z_64.2.2.2.2.2.2.1 z_64.2.2.2.2.2.2.2.1 t_end z_64.2.2.2.2.2.2.2.2, bl_X9 cy A_w w_deed w_man_61 w_other w_sign w_number w_mate w_there w_rows w_steps, bl_X0 cy A_a a_name a_courage a_weight a_medals a_stood a_fled a_liked a_votes a_count a_living a_pride a_quota a_melted a_lost] H := hP
        exact j218 z_64.2.1 z_64.2.2.1 z_64.2.2.2.1 z_64.2.2.2.2.1 z_64.2.2.2.2.2.1 z_64.2.2.2.2.2.2.1 z_64.2.2.2.2.2.2.2.1 z_64.2.2.2.2.2.2.2.2 w_man_61 w_other w_sign w_number w_rows w_rows z_64.1 _ _ hP hS ls (lv_sub hl [1, 0] rfl) h
      · have h := it c_63 h
        refine lv_iconst (v := (-1)) hx hb dX10_takeRest_202 (by decide) ?_
        refine lv_goto (tgt := 218) hx hb dX10_takeRest_203 (by decide) ?_
        exact j218 z_60.2.1 z_60.2.2.1 z_60.2.2.2.1 z_60.2.2.2.2.1 z_60.2.2.2.2.2.1 z_60.2.2.2.2.2.2.1 z_60.2.2.2.2.2.2.2.1 z_60.2.2.2.2.2.2.2.2 w_man_61 w_other w_sign w_number w_rows w_rows (-1) _ _ hP hS ls (lv_sub hl [1, 0] rfl) h
    have h := ie c_59 h
    by_cases c_65 : x1 = 9
    · have h := it c_65 h
      refine lv_tableIn (tgt := 238) hx hb dX10_takeRest_29 (by rw [c_65]; decide) (by rw [c_65]; decide) (by rw [c_65]; rfl) (by decide) ?_
      exact j238 r_fault r_place t_kind t_start t_value t_word t_name t_at w_man w_other w_sign w_number w_rows _ _ hP hS ls (lv_sub hl [1, 0] rfl) h
    have h := ie c_65 h
    by_cases c_66 : x1 = 10
    · have h := it c_66 h
      refine lv_tableIn (tgt := 238) hx hb dX10_takeRest_29 (by rw [c_66]; decide) (by rw [c_66]; decide) (by rw [c_66]; rfl) (by decide) ?_
      exact j238 r_fault r_place t_kind t_start t_value t_word t_name t_at w_man w_other w_sign w_number w_rows _ _ hP hS ls (lv_sub hl [1, 0] rfl) h
    have h := ie c_66 h
    by_cases c_67 : x1 = 11
    · have h := it c_67 h
      refine lv_tableIn (tgt := 322) hx hb dX10_takeRest_29 (by rw [c_67]; decide) (by rw [c_67]; decide) (by rw [c_67]; rfl) (by decide) ?_
      refine lv_iconst (v := 1) hx hb dX10_takeRest_322 (by decide) ?_
      cases h
      subst hW1
      exact W.zret hx hb hr rfl (fun _ ht9 _ => ⟨⟨_, (), rfl, rfl, hPt ht9 hP.1⟩, hS.F ht9⟩) hS.2.2 dX10_takeRest_323
    have h := ie c_67 h
    by_cases c_68 : x1 = 12
    · have h := it c_68 h
      refine lv_tableIn (tgt := 278) hx hb dX10_takeRest_29 (by rw [c_68]; decide) (by rw [c_68]; decide) (by rw [c_68]; rfl) (by decide) ?_
      refine lv_aload_n hx hb dX10_takeRest_278 rfl (lv_at hl 1 rfl) ?_
      refine lv_iload_n hx hb dX10_takeRest_279 rfl (lv_at hl 0 rfl) ?_
      obtain ⟨z_69, e_z_69, h⟩ := bi h
      refine efVi (rest := []) ⟨hx, hb, hml, hown, ht⟩ (c_X10_takeTest l D cy fu A_k k_open k_depth A_r r_fault r_place A_t t_bytes t_wordCodes t_length t_kind t_start t_value t_word t_name t_end t_at A_w w_deed w_man w_other w_sign w_number w_mate w_there w_rows w_steps A_a a_name a_courage a_weight a_medals a_stood a_fled a_liked a_votes a_count a_living a_pride a_quota a_melted a_lost w_rows z_69 e_z_69 _ rfl _ rfl) (cV ht mv_X10_takeTest tb_737 rfl rfl ⟨Nat.le_of_ble_eq_true rfl, Nat.le_of_ble_eq_true rfl⟩) hP hS hX [0, 1, 2, 3, 4] rfl rfl rfl rfl rfl rfl hl.1 rfl (Nat.le_of_ble_eq_true rfl) dX10_takeRest_280 ⟨Nat.le_of_ble_eq_true rfl, Nat.le_of_ble_eq_true rfl⟩ (fun H locs hP hS => ?_)
      have hP : PD D A [bl_X10 cy A_k (A_r 0) (A_w 0) (A_a 0) k_open k_depth, bl_X6 cy A_r (A_t 0) z_69.2.1 z_69.2.2.1, bl_X7 cy A_t t_bytes t_wordCodes t_length z_69.2.2.2.1 z_69.2.2.2.2.1 z_69.2.2.2.2.2.1 z_69.2.2.2.2.2.2.1 z_69.2.2.2.2.2.2.2.1 t_end z_69.2.2.2.2.2.2.2.2.1, bl_X9 cy A_w w_deed z_69.2.2.2.2.2.2.2.2.2.1 z_69.2.2.2.2.2.2.2.2.2.2.1 z_69.2.2.2.2.2.2.2.2.2.2.2.1 z_69.2.2.2.2.2.2.2.2.2.2.2.2 w_mate w_there w_rows w_steps, bl_X0 cy A_a a_name a_courage a_weight a_medals a_stood a_fled a_liked a_votes a_count a_living a_pride a_quota a_melted a_lost] H := hP
      obtain ⟨b_70, e_b_70, h⟩ := bi h
      obtain ⟨-, n_b_70, -⟩ := bz_ok e_b_70
      cases h
      subst hW1
      exact W.zret hx hb hr n_b_70 (fun _ ht9 _ => ⟨⟨_, (), rfl, rfl, hPt ht9 hP.1⟩, hS.F ht9⟩) hS.2.2 dX10_takeRest_283
    have h := ie c_68 h
    by_cases c_71 : x1 = 13
    · have h := it c_71 h
      refine lv_tableIn (tgt := 322) hx hb dX10_takeRest_29 (by rw [c_71]; decide) (by rw [c_71]; decide) (by rw [c_71]; rfl) (by decide) ?_
      refine lv_iconst (v := 1) hx hb dX10_takeRest_322 (by decide) ?_
      cases h
      subst hW1
      exact W.zret hx hb hr rfl (fun _ ht9 _ => ⟨⟨_, (), rfl, rfl, hPt ht9 hP.1⟩, hS.F ht9⟩) hS.2.2 dX10_takeRest_323
    have h := ie c_71 h
    by_cases c_72 : x1 = 14
    · have h := it c_72 h
      refine lv_tableIn (tgt := 322) hx hb dX10_takeRest_29 (by rw [c_72]; decide) (by rw [c_72]; decide) (by rw [c_72]; rfl) (by decide) ?_
      refine lv_iconst (v := 1) hx hb dX10_takeRest_322 (by decide) ?_
      cases h
      subst hW1
      exact W.zret hx hb hr rfl (fun _ ht9 _ => ⟨⟨_, (), rfl, rfl, hPt ht9 hP.1⟩, hS.F ht9⟩) hS.2.2 dX10_takeRest_323
    have h := ie c_72 h
    by_cases c_73 : x1 = 15
    · have h := it c_73 h
      refine lv_tableIn (tgt := 322) hx hb dX10_takeRest_29 (by rw [c_73]; decide) (by rw [c_73]; decide) (by rw [c_73]; rfl) (by decide) ?_
      refine lv_iconst (v := 1) hx hb dX10_takeRest_322 (by decide) ?_
      cases h
      subst hW1
      exact W.zret hx hb hr rfl (fun _ ht9 _ => ⟨⟨_, (), rfl, rfl, hPt ht9 hP.1⟩, hS.F ht9⟩) hS.2.2 dX10_takeRest_323
    have h := ie c_73 h
    by_cases c_74 : x1 = 16
    · have h := it c_74 h
      refine lv_tableIn (tgt := 284) hx hb dX10_takeRest_29 (by rw [c_74]; decide) (by rw [c_74]; decide) (by rw [c_74]; rfl) (by decide) ?_
      refine lv_aload_n hx hb dX10_takeRest_284 rfl (lv_at hl 1 rfl) ?_
      refine xget (i := 0) (j := 0) (k := 1) (T := TX10) hx hb ht tb_iX10 hown hX hP.1 rfl rfl rfl (by decide) tb_301 rfl dX10_takeRest_285 ?_
      refine xget (i := 3) (j := 0) (k := 4) (T := TX9) hx hb ht tb_iX9 hown hX hP.1 rfl rfl rfl (by decide) tb_125 rfl dX10_takeRest_288 ?_
      refine lv_iload_n hx hb dX10_takeRest_291 rfl (lv_at hl 0 rfl) ?_
      refine lv_aload_n hx hb dX10_takeRest_292 rfl (lv_at hl 1 rfl) ?_
      refine xget (i := 0) (j := 0) (k := 0) (T := TX10) hx hb ht tb_iX10 hown hX hP.1 rfl rfl rfl (by decide) tb_300 rfl dX10_takeRest_293 ?_
      refine lv_iconst (v := 1) hx hb dX10_takeRest_296 (by decide) ?_
      refine lv_bipush (v := 99) hx hb dX10_takeRest_297 (by decide) ?_
      obtain ⟨z_75, e_z_75, h⟩ := bi h
      refine efVi (rest := [.int w_rows, .ref (A_w 5)]) ⟨hx, hb, hml, hown, ht⟩ (c_X6_takeNumber l D cy fu A_r r_fault r_place A_t t_bytes t_wordCodes t_length t_kind t_start t_value t_word t_name t_end t_at 1 99 z_75 e_z_75 _ rfl _ rfl) (cV ht mv_X6_takeNumber tb_736 rfl rfl ⟨Nat.le_of_ble_eq_true rfl, Nat.le_of_ble_eq_true rfl⟩) hP hS hX [1, 2] rfl rfl rfl rfl rfl rfl hl.1 rfl (Nat.le_of_ble_eq_true rfl) dX10_takeRest_299 ⟨Nat.le_of_ble_eq_true rfl, Nat.le_of_ble_eq_true rfl⟩ (fun H locs hP hS => ?_)
      have hP : PD D A [bl_X10 cy A_k (A_r 0) (A_w 0) (A_a 0) k_open k_depth, bl_X6 cy A_r (A_t 0) z_75.2.1 z_75.2.2.1, bl_X7 cy A_t t_bytes t_wordCodes t_length z_75.2.2.2.1 z_75.2.2.2.2.1 z_75.2.2.2.2.2.1 z_75.2.2.2.2.2.2.1 z_75.2.2.2.2.2.2.2.1 t_end z_75.2.2.2.2.2.2.2.2, bl_X9 cy A_w w_deed w_man w_other w_sign w_number w_mate w_there w_rows w_steps, bl_X0 cy A_a a_name a_courage a_weight a_medals a_stood a_fled a_liked a_votes a_count a_living a_pride a_quota a_melted a_lost] H := hP
      obtain ⟨w_number_76, e_w_number_76, h⟩ := bi h
      refine xiast (i0 := 3) (j0 := 5) hx hb hX hP hS rfl rfl e_w_number_76 dX10_takeRest_302 (fun H locs hP hS => ?_)
      have hP : PD D A [bl_X10 cy A_k (A_r 0) (A_w 0) (A_a 0) k_open k_depth, bl_X6 cy A_r (A_t 0) z_75.2.1 z_75.2.2.1, bl_X7 cy A_t t_bytes t_wordCodes t_length z_75.2.2.2.1 z_75.2.2.2.2.1 z_75.2.2.2.2.2.1 z_75.2.2.2.2.2.2.1 z_75.2.2.2.2.2.2.2.1 t_end z_75.2.2.2.2.2.2.2.2, bl_X9 cy A_w w_deed w_man w_other w_sign w_number_76 w_mate w_there w_rows w_steps, bl_X0 cy A_a a_name a_courage a_weight a_medals a_stood a_fled a_liked a_votes a_count a_living a_pride a_quota a_melted a_lost] H := hP
      refine lv_aload_n hx hb dX10_takeRest_303 rfl (lv_at hl 1 rfl) ?_
      refine xget (i := 0) (j := 0) (k := 1) (T := TX10) hx hb ht tb_iX10 hown hX hP.1 rfl rfl rfl (by decide) tb_301 rfl dX10_takeRest_304 ?_
      refine xget (i := 3) (j := 0) (k := 4) (T := TX9) hx hb ht tb_iX9 hown hX hP.1 rfl rfl rfl (by decide) tb_125 rfl dX10_takeRest_307 ?_
      refine lv_iload_n hx hb dX10_takeRest_310 rfl (lv_at hl 0 rfl) ?_
      obtain ⟨y_77, e_y_77, h⟩ := bi h
      refine xiald (i0 := 3) (j0 := 5) hx hb hX hP.1 rfl rfl e_y_77 dX10_takeRest_311 ?_
      refine lv_iconst (v := (-1)) hx hb dX10_takeRest_312 (by decide) ?_
      refine lv_icmp_eq (tgt := 320) hx hb dX10_takeRest_313 (by decide) (fun c_78 => ?_) (fun c_78 => ?_)
      · have h := it c_78 h
        refine lv_iconst (v := 0) hx hb dX10_takeRest_320 (by decide) ?_
        cases h
        subst hW1
        exact W.zret hx hb hr rfl (fun _ ht9 _ => ⟨⟨_, (), rfl, rfl, hPt ht9 hP.1⟩, hS.F ht9⟩) hS.2.2 dX10_takeRest_321
      · have h := ie c_78 h
        refine lv_iconst (v := 1) hx hb dX10_takeRest_316 (by decide) ?_
        refine lv_goto (tgt := 321) hx hb dX10_takeRest_317 (by decide) ?_
        cases h
        subst hW1
        exact W.zret hx hb hr rfl (fun _ ht9 _ => ⟨⟨_, (), rfl, rfl, hPt ht9 hP.1⟩, hS.F ht9⟩) hS.2.2 dX10_takeRest_321
    have h := ie c_74 h
    refine lv_tableOut (tgt := 322) hx hb dX10_takeRest_29 (by have n_c_53 := lv_neT (a := 7) c_53 rfl; have n_c_59 := lv_neT (a := 8) c_59 rfl; have n_c_65 := lv_neT (a := 9) c_65 rfl; have n_c_66 := lv_neT (a := 10) c_66 rfl; have n_c_67 := lv_neT (a := 11) c_67 rfl; have n_c_68 := lv_neT (a := 12) c_68 rfl; have n_c_71 := lv_neT (a := 13) c_71 rfl; have n_c_72 := lv_neT (a := 14) c_72 rfl; have n_c_73 := lv_neT (a := 15) c_73 rfl; have n_c_74 := lv_neT (a := 16) c_74 rfl; omega) (by decide) ?_
    refine lv_iconst (v := 1) hx hb dX10_takeRest_322 (by decide) ?_
    cases h
    subst hW1
    exact W.zret hx hb hr rfl (fun _ ht9 _ => ⟨⟨_, (), rfl, rfl, hPt ht9 hP.1⟩, hS.F ht9⟩) hS.2.2 dX10_takeRest_323
  · have h := it c_52 h
    refine lv_aload_n hx hb dX10_takeRest_18 rfl (lv_at hl 1 rfl) ?_
    refine xget (i := 0) (j := 0) (k := 0) (T := TX10) hx hb ht tb_iX10 hown hX hP.1 rfl rfl rfl (by decide) tb_300 rfl dX10_takeRest_19 ?_
    refine lv_bipush (v := 6) hx hb dX10_takeRest_22 (by decide) ?_
    obtain ⟨z_79, e_z_79, h⟩ := bi h
    refine efVi (rest := []) ⟨hx, hb, hml, hown, ht⟩ (c_X6_fail l D cy fu A_r r_fault r_place A_t t_bytes t_wordCodes t_length t_kind t_start t_value t_word t_name t_end t_at 6 z_79 e_z_79 _ rfl _ rfl) (cV ht mv_X6_fail tb_716 rfl rfl ⟨Nat.le_of_ble_eq_true rfl, Nat.le_of_ble_eq_true rfl⟩) hP hS hX [1, 2] rfl rfl rfl rfl rfl rfl hl.1 rfl (Nat.le_of_ble_eq_true rfl) dX10_takeRest_24 ⟨Nat.le_of_ble_eq_true rfl, Nat.le_of_ble_eq_true rfl⟩ (fun H locs hP hS => ?_)
    have hP : PD D A [bl_X10 cy A_k (A_r 0) (A_w 0) (A_a 0) k_open k_depth, bl_X6 cy A_r (A_t 0) z_79.2.1 z_79.2.2, bl_X7 cy A_t t_bytes t_wordCodes t_length t_kind t_start t_value t_word t_name t_end t_at, bl_X9 cy A_w w_deed w_man w_other w_sign w_number w_mate w_there w_rows w_steps, bl_X0 cy A_a a_name a_courage a_weight a_medals a_stood a_fled a_liked a_votes a_count a_living a_pride a_quota a_melted a_lost] H := hP
    obtain ⟨b_80, e_b_80, h⟩ := bi h
    obtain ⟨-, n_b_80, -⟩ := bz_ok e_b_80
    cases h
    subst hW1
    exact W.zret hx hb hr n_b_80 (fun _ ht9 _ => ⟨⟨_, (), rfl, rfl, hPt ht9 hP.1⟩, hS.F ht9⟩) hS.2.2 dX10_takeRest_27
theorem dX10_takeLast_0 : decode cX10_takeLast 0 = .ok (.aload_n 0, 1) := by decide +kernel
theorem dX10_takeLast_1 : decode cX10_takeLast 1 = .ok (.getfield 19, 3) := by decide +kernel
theorem dX10_takeLast_4 : decode cX10_takeLast 4 = .ok (.bipush 59, 2) := by decide +kernel
theorem dX10_takeLast_6 : decode cX10_takeLast 6 = .ok (.invokevirtual 78, 3) := by decide +kernel
theorem dX10_takeLast_9 : decode cX10_takeLast 9 = .ok (.ifCond .ne 5, 3) := by decide +kernel
theorem dX10_takeLast_12 : decode cX10_takeLast 12 = .ok (.iconst 0, 1) := by decide +kernel
theorem dX10_takeLast_13 : decode cX10_takeLast 13 = .ok (.ireturn, 1) := by decide +kernel
theorem dX10_takeLast_14 : decode cX10_takeLast 14 = .ok (.iload_n 1, 1) := by decide +kernel
theorem dX10_takeLast_15 : decode cX10_takeLast 15 = .ok (.invokestatic 85, 3) := by decide +kernel
theorem dX10_takeLast_18 : decode cX10_takeLast 18 = .ok (.ifCond .eq 41, 3) := by decide +kernel
theorem dX10_takeLast_21 : decode cX10_takeLast 21 = .ok (.aload_n 0, 1) := by decide +kernel
theorem dX10_takeLast_22 : decode cX10_takeLast 22 = .ok (.getfield 15, 3) := by decide +kernel
theorem dX10_takeLast_25 : decode cX10_takeLast 25 = .ok (.iconst 0, 1) := by decide +kernel
theorem dX10_takeLast_26 : decode cX10_takeLast 26 = .ok (.iconst 2, 1) := by decide +kernel
theorem dX10_takeLast_27 : decode cX10_takeLast 27 = .ok (.invokestatic 71, 3) := by decide +kernel
theorem dX10_takeLast_30 : decode cX10_takeLast 30 = .ok (.ifCond .eq 29, 3) := by decide +kernel
theorem dX10_takeLast_33 : decode cX10_takeLast 33 = .ok (.aload_n 0, 1) := by decide +kernel
theorem dX10_takeLast_34 : decode cX10_takeLast 34 = .ok (.getfield 9, 3) := by decide +kernel
theorem dX10_takeLast_37 : decode cX10_takeLast 37 = .ok (.aload_n 0, 1) := by decide +kernel
theorem dX10_takeLast_38 : decode cX10_takeLast 38 = .ok (.getfield 15, 3) := by decide +kernel
theorem dX10_takeLast_41 : decode cX10_takeLast 41 = .ok (.aload_n 0, 1) := by decide +kernel
theorem dX10_takeLast_42 : decode cX10_takeLast 42 = .ok (.getfield 23, 3) := by decide +kernel
theorem dX10_takeLast_45 : decode cX10_takeLast 45 = .ok (.getfield 91, 3) := by decide +kernel
theorem dX10_takeLast_48 : decode cX10_takeLast 48 = .ok (.iastore, 1) := by decide +kernel
theorem dX10_takeLast_49 : decode cX10_takeLast 49 = .ok (.aload_n 0, 1) := by decide +kernel
theorem dX10_takeLast_50 : decode cX10_takeLast 50 = .ok (.dup, 1) := by decide +kernel
theorem dX10_takeLast_51 : decode cX10_takeLast 51 = .ok (.getfield 15, 3) := by decide +kernel
theorem dX10_takeLast_54 : decode cX10_takeLast 54 = .ok (.iconst 1, 1) := by decide +kernel
theorem dX10_takeLast_55 : decode cX10_takeLast 55 = .ok (.iadd, 1) := by decide +kernel
theorem dX10_takeLast_56 : decode cX10_takeLast 56 = .ok (.putfield 15, 3) := by decide +kernel
theorem dX10_takeLast_59 : decode cX10_takeLast 59 = .ok (.aload_n 0, 1) := by decide +kernel
theorem dX10_takeLast_60 : decode cX10_takeLast 60 = .ok (.getfield 23, 3) := by decide +kernel
theorem dX10_takeLast_63 : decode cX10_takeLast 63 = .ok (.iload_n 1, 1) := by decide +kernel
theorem dX10_takeLast_64 : decode cX10_takeLast 64 = .ok (.invokevirtual 94, 3) := by decide +kernel
theorem dX10_takeLast_67 : decode cX10_takeLast 67 = .ok (.iconst 1, 1) := by decide +kernel
theorem dX10_takeLast_68 : decode cX10_takeLast 68 = .ok (.ireturn, 1) := by decide +kernel
theorem mv_X10_takeLast : MV yX10_takeLast RX10 cX10_takeLast 2 (some .boolean) 1 := ⟨tb_745, tb_744, ts_18, tb_11, by decide +kernel, by decide +kernel, by decide +kernel⟩
def f_X10_takeLast (fu : Nat) (k_open : Nat → Int32) (k_depth : Int32) (r_fault : Int32) (r_place : Int32) (t_bytes : Nat → Int32) (t_wordCodes : Nat → Int64) (t_kind : Int32) (t_start : Int32) (t_value : Int32) (t_word : Int32) (t_name : Int64) (t_end : Int32) (t_at : Int32) (w_deed : Nat → Int32) (w_rows : Int32) (w_steps : Int32) (x1 : Int32) : Option (Int32 × (Nat → Int32) × Int32 × Int32 × Int32 × Int32 × Int32 × Int32 × Int32 × Int64 × Int32 × (Nat → Int32) × Int32 × Int32) := (f_X6_takeSign fu r_fault r_place t_bytes t_wordCodes t_kind t_start t_value t_word t_name t_end t_at 59).bind fun z_12 => (if z_12.1 = 0 then some (0, k_open, k_depth, z_12.2.1, z_12.2.2.1, z_12.2.2.2.1, z_12.2.2.2.2.1, z_12.2.2.2.2.2.1, z_12.2.2.2.2.2.2.1, z_12.2.2.2.2.2.2.2.1, z_12.2.2.2.2.2.2.2.2, w_deed, w_rows, w_steps) else (f_X10_holdsOthers fu x1).bind fun z_14 => (if z_14 = 0 then (f_X9_step fu w_deed w_rows w_steps x1).bind fun z_16 => some (1, k_open, k_depth, z_12.2.1, z_12.2.2.1, z_12.2.2.2.1, z_12.2.2.2.2.1, z_12.2.2.2.2.2.1, z_12.2.2.2.2.2.2.1, z_12.2.2.2.2.2.2.2.1, z_12.2.2.2.2.2.2.2.2, z_16.1, z_16.2.1, z_16.2.2) else (f_X11_within fu k_depth 0 2).bind fun z_17 => (if z_17 = 0 then (f_X9_step fu w_deed w_rows w_steps x1).bind fun z_19 => some (1, k_open, k_depth, z_12.2.1, z_12.2.2.1, z_12.2.2.2.1, z_12.2.2.2.2.1, z_12.2.2.2.2.2.1, z_12.2.2.2.2.2.2.1, z_12.2.2.2.2.2.2.2.1, z_12.2.2.2.2.2.2.2.2, z_19.1, z_19.2.1, z_19.2.2) else (wrI k_open 3 k_depth w_rows).bind fun k_open_20 => bnd (k_depth + 1) fun k_depth_21 => (f_X9_step fu w_deed w_rows w_steps x1).bind fun z_22 => some (1, k_open_20, k_depth_21, z_12.2.1, z_12.2.2.1, z_12.2.2.2.1, z_12.2.2.2.2.1, z_12.2.2.2.2.2.1, z_12.2.2.2.2.2.2.1, z_12.2.2.2.2.2.2.2.1, z_12.2.2.2.2.2.2.2.2, z_22.1, z_22.2.1, z_22.2.2))))
abbrev rm_X10_takeLast : Room := { frames := 3, cells := 0, slots := 0, locals := 64 }
set_option maxHeartbeats 4000000 in
set_option maxRecDepth 100000 in
theorem c_X10_takeLast (l : Launch) (D : va_G) (cy : Nat → ClassId) (fu : Nat) (A_k : Nat → Nat) (k_open : Nat → Int32) (k_depth : Int32) (A_r : Nat → Nat) (r_fault : Int32) (r_place : Int32) (A_t : Nat → Nat) (t_bytes : Nat → Int32) (t_wordCodes : Nat → Int64) (t_length : Int32) (t_kind : Int32) (t_start : Int32) (t_value : Int32) (t_word : Int32) (t_name : Int64) (t_end : Int32) (t_at : Int32) (A_w : Nat → Nat) (w_deed : Nat → Int32) (w_man : Nat → Int32) (w_other : Nat → Int32) (w_sign : Nat → Int32) (w_number : Nat → Int32) (w_mate : Nat → Int32) (w_there : Int32) (w_rows : Int32) (w_steps : Int32) (A_a : Nat → Nat) (a_name : Nat → Int64) (a_courage : Nat → Int32) (a_weight : Nat → Int32) (a_medals : Nat → Int32) (a_stood : Nat → Int32) (a_fled : Nat → Int32) (a_liked : Nat → Int32) (a_votes : Nat → Int32) (a_count : Int32) (a_living : Int32) (a_pride : Int32) (a_quota : Int32) (a_melted : Int32) (a_lost : Int32) (x1 : Int32) (res : Int32 × (Nat → Int32) × Int32 × Int32 × Int32 × Int32 × Int32 × Int32 × Int32 × Int64 × Int32 × (Nat → Int32) × Int32 × Int32) (h : f_X10_takeLast fu k_open k_depth r_fault r_place t_bytes t_wordCodes t_kind t_start t_value t_word t_name t_end t_at w_deed w_rows w_steps x1 = some res) (A : Nat → Prop) (hA : A = adr [bl_X10 cy A_k (A_r 0) (A_w 0) (A_a 0) k_open k_depth, bl_X6 cy A_r (A_t 0) r_fault r_place, bl_X7 cy A_t t_bytes t_wordCodes t_length t_kind t_start t_value t_word t_name t_end t_at, bl_X9 cy A_w w_deed w_man w_other w_sign w_number w_mate w_there w_rows w_steps, bl_X0 cy A_a a_name a_courage a_weight a_medals a_stood a_fled a_liked a_votes a_count a_living a_pride a_quota a_melted a_lost]) (W1 : List va_W) (hW1 : W1 = [bl_X10 cy A_k (A_r 0) (A_w 0) (A_a 0) res.2.1 res.2.2.1, bl_X6 cy A_r (A_t 0) res.2.2.2.1 res.2.2.2.2.1, bl_X7 cy A_t t_bytes t_wordCodes t_length res.2.2.2.2.2.1 res.2.2.2.2.2.2.1 res.2.2.2.2.2.2.2.1 res.2.2.2.2.2.2.2.2.1 res.2.2.2.2.2.2.2.2.2.1 t_end res.2.2.2.2.2.2.2.2.2.2.1, bl_X9 cy A_w res.2.2.2.2.2.2.2.2.2.2.2.1 w_man w_other w_sign w_number w_mate w_there res.2.2.2.2.2.2.2.2.2.2.2.2.1 res.2.2.2.2.2.2.2.2.2.2.2.2.2, bl_X0 cy A_a a_name a_courage a_weight a_medals a_stood a_fled a_liked a_votes a_count a_living a_pride a_quota a_melted a_lost]) : Met l yX10_takeLast (WW yX10_takeLast cX10_takeLast 2 (some .boolean)) rm_X10_takeLast (Ed D cy [.ref (A_k 0), .int x1] [bl_X10 cy A_k (A_r 0) (A_w 0) (A_a 0) k_open k_depth, bl_X6 cy A_r (A_t 0) r_fault r_place, bl_X7 cy A_t t_bytes t_wordCodes t_length t_kind t_start t_value t_word t_name t_end t_at, bl_X9 cy A_w w_deed w_man w_other w_sign w_number w_mate w_there w_rows w_steps, bl_X0 cy A_a a_name a_courage a_weight a_medals a_stood a_fled a_liked a_votes a_count a_living a_pride a_quota a_melted a_lost]) (Qei D res.1 A W1) 0 0 A := by
  refine Met.ofW (cc := cX10_takeLast) (maxL := 2) (ret := (some .boolean)) (by decide) rfl ?_
  intro p e s m args below meth c s₁ B hml hv
  obtain ⟨hargs, hP, hX, hD0⟩ := hv
  have hx := B.exec
  have hb := B.bytes
  have hr := B.returns
  have ht : ∀ w ∈ lw_gd, w.before args s = true := fun w hw => atoms_spec (ws := WW yX10_takeLast cX10_takeLast 2 (some .boolean)) B.pre w (List.mem_cons_of_mem _ hw)
  have hown : s.vm.findClass RX10 = some m.cls := findClass_of_methodNamed B.named
  have hlocks := B.notSynchronized
  have hP : PD D A [bl_X10 cy A_k (A_r 0) (A_w 0) (A_a 0) k_open k_depth, bl_X6 cy A_r (A_t 0) r_fault r_place, bl_X7 cy A_t t_bytes t_wordCodes t_length t_kind t_start t_value t_word t_name t_end t_at, bl_X9 cy A_w w_deed w_man w_other w_sign w_number w_mate w_there w_rows w_steps, bl_X0 cy A_a a_name a_courage a_weight a_medals a_stood a_fled a_liked a_votes a_count a_living a_pride a_quota a_melted a_lost] s.heap := ⟨hP, by rw [hA]; exact hD0.own⟩
  have hS : va_S A s.heap s.heap [] := va_S.rf
  obtain ⟨ls, hl, hent⟩ := ent (m := m) (n := 2) hargs (Nat.le_of_ble_eq_true rfl) (lv := [(0, .ref (A_k 0)), (1, .int x1)]) rfl
  rw [hent]
  clear hent
  unfold f_X10_takeLast at h
  refine lv_aload_n hx hb dX10_takeLast_0 rfl (lv_at hl 0 rfl) ?_
  refine xget (i := 0) (j := 0) (k := 0) (T := TX10) hx hb ht tb_iX10 hown hX hP.1 rfl rfl rfl (by decide) tb_300 rfl dX10_takeLast_1 ?_
  refine lv_bipush (v := 59) hx hb dX10_takeLast_4 (by decide) ?_
  obtain ⟨z_12, e_z_12, h⟩ := bi h
  refine efVi (rest := []) ⟨hx, hb, hml, hown, ht⟩ (c_X6_takeSign l D cy fu A_r r_fault r_place A_t t_bytes t_wordCodes t_length t_kind t_start t_value t_word t_name t_end t_at 59 z_12 e_z_12 _ rfl _ rfl) (cV ht mv_X6_takeSign tb_718 rfl rfl ⟨Nat.le_of_ble_eq_true rfl, Nat.le_of_ble_eq_true rfl⟩) hP hS hX [1, 2] rfl rfl rfl rfl rfl rfl hl.1 rfl (Nat.le_of_ble_eq_true rfl) dX10_takeLast_6 ⟨Nat.le_of_ble_eq_true rfl, Nat.le_of_ble_eq_true rfl⟩ (fun H locs hP hS => ?_)
  have hP : PD D A [bl_X10 cy A_k (A_r 0) (A_w 0) (A_a 0) k_open k_depth, bl_X6 cy A_r (A_t 0) z_12.2.1 z_12.2.2.1, bl_X7 cy A_t t_bytes t_wordCodes t_length z_12.2.2.2.1 z_12.2.2.2.2.1 z_12.2.2.2.2.2.1 z_12.2.2.2.2.2.2.1 z_12.2.2.2.2.2.2.2.1 t_end z_12.2.2.2.2.2.2.2.2, bl_X9 cy A_w w_deed w_man w_other w_sign w_number w_mate w_there w_rows w_steps, bl_X0 cy A_a a_name a_courage a_weight a_medals a_stood a_fled a_liked a_votes a_count a_living a_pride a_quota a_melted a_lost] H := hP
  refine lv_if_ne (tgt := 14) hx hb dX10_takeLast_9 (by decide) (fun c_13 => ?_) (fun c_13 => ?_)
  · have h := ie c_13 h
    refine lv_iload_n hx hb dX10_takeLast_14 rfl (lv_at hl 1 rfl) ?_
    obtain ⟨z_14, e_z_14, h⟩ := bi h
    refine roSi (rest := []) ⟨hx, hb, hml, hown, ht⟩ (c_X10_holdsOthers l D cy fu  x1 z_14 e_z_14) (cS ht ms_X10_holdsOthers tb_728 rfl rfl ⟨Nat.le_of_ble_eq_true rfl, Nat.le_of_ble_eq_true rfl⟩) (P_sub hP.1 [] rfl) hX rfl hl.1 rfl (Nat.le_of_ble_eq_true rfl) dX10_takeLast_15 ⟨Nat.le_of_ble_eq_true rfl, Nat.le_of_ble_eq_true rfl⟩ ?_
    refine lv_if_eq (tgt := 59) hx hb dX10_takeLast_18 (by decide) (fun c_15 => ?_) (fun c_15 => ?_)
    · have h := it c_15 h
      refine lv_aload_n hx hb dX10_takeLast_59 rfl (lv_at hl 0 rfl) ?_
      refine xget (i := 0) (j := 0) (k := 1) (T := TX10) hx hb ht tb_iX10 hown hX hP.1 rfl rfl rfl (by decide) tb_301 rfl dX10_takeLast_60 ?_
      refine lv_iload_n hx hb dX10_takeLast_63 rfl (lv_at hl 1 rfl) ?_
      obtain ⟨z_16, e_z_16, h⟩ := bi h
      refine efVv (rest := []) ⟨hx, hb, hml, hown, ht⟩ (c_X9_step l D cy fu A_w w_deed w_man w_other w_sign w_number w_mate w_there w_rows w_steps x1 z_16 e_z_16 _ rfl _ rfl) (cV ht mv_X9_step tb_746 rfl rfl ⟨Nat.le_of_ble_eq_true rfl, Nat.le_of_ble_eq_true rfl⟩) hP hS hX [3] rfl rfl rfl rfl rfl rfl hl.1 rfl (Nat.le_of_ble_eq_true rfl) dX10_takeLast_64 ⟨Nat.le_of_ble_eq_true rfl, Nat.le_of_ble_eq_true rfl⟩ (fun H locs hP hS => ?_)
      have hP : PD D A [bl_X10 cy A_k (A_r 0) (A_w 0) (A_a 0) k_open k_depth, bl_X6 cy A_r (A_t 0) z_12.2.1 z_12.2.2.1, bl_X7 cy A_t t_bytes t_wordCodes t_length z_12.2.2.2.1 z_12.2.2.2.2.1 z_12.2.2.2.2.2.1 z_12.2.2.2.2.2.2.1 z_12.2.2.2.2.2.2.2.1 t_end z_12.2.2.2.2.2.2.2.2, bl_X9 cy A_w z_16.1 w_man w_other w_sign w_number w_mate w_there z_16.2.1 z_16.2.2, bl_X0 cy A_a a_name a_courage a_weight a_medals a_stood a_fled a_liked a_votes a_count a_living a_pride a_quota a_melted a_lost] H := hP
      refine lv_iconst (v := 1) hx hb dX10_takeLast_67 (by decide) ?_
      cases h
      subst hW1
      exact W.zret hx hb hr rfl (fun _ ht9 _ => ⟨⟨_, (), rfl, rfl, hPt ht9 hP.1⟩, hS.F ht9⟩) hS.2.2 dX10_takeLast_68
    · have h := ie c_15 h
      refine lv_aload_n hx hb dX10_takeLast_21 rfl (lv_at hl 0 rfl) ?_
      refine xget (i := 0) (j := 0) (k := 4) (T := TX10) hx hb ht tb_iX10 hown hX hP.1 rfl rfl rfl (by decide) tb_304 rfl dX10_takeLast_22 ?_
      refine lv_iconst (v := 0) hx hb dX10_takeLast_25 (by decide) ?_
      refine lv_iconst (v := 2) hx hb dX10_takeLast_26 (by decide) ?_
      obtain ⟨z_17, e_z_17, h⟩ := bi h
      refine roNi (rest := []) ⟨hx, hb, hml, hown, ht⟩ (c_X11_within l D cy fu  k_depth 0 2 z_17 e_z_17) (cN ht hX ms_X11_within (List.mem_of_getElem? (i := 8) rfl) rfl rfl ⟨Nat.le_of_ble_eq_true rfl, Nat.le_of_ble_eq_true rfl⟩) (P_sub hP.1 [] rfl) hX rfl hl.1 rfl (Nat.le_of_ble_eq_true rfl) dX10_takeLast_27 ⟨Nat.le_of_ble_eq_true rfl, Nat.le_of_ble_eq_true rfl⟩ ?_
      refine lv_if_eq (tgt := 59) hx hb dX10_takeLast_30 (by decide) (fun c_18 => ?_) (fun c_18 => ?_)
      · have h := it c_18 h
        refine lv_aload_n hx hb dX10_takeLast_59 rfl (lv_at hl 0 rfl) ?_
        refine xget (i := 0) (j := 0) (k := 1) (T := TX10) hx hb ht tb_iX10 hown hX hP.1 rfl rfl rfl (by decide) tb_301 rfl dX10_takeLast_60 ?_
        refine lv_iload_n hx hb dX10_takeLast_63 rfl (lv_at hl 1 rfl) ?_
        obtain ⟨z_19, e_z_19, h⟩ := bi h
        refine efVv (rest := []) ⟨hx, hb, hml, hown, ht⟩ (c_X9_step l D cy fu A_w w_deed w_man w_other w_sign w_number w_mate w_there w_rows w_steps x1 z_19 e_z_19 _ rfl _ rfl) (cV ht mv_X9_step tb_746 rfl rfl ⟨Nat.le_of_ble_eq_true rfl, Nat.le_of_ble_eq_true rfl⟩) hP hS hX [3] rfl rfl rfl rfl rfl rfl hl.1 rfl (Nat.le_of_ble_eq_true rfl) dX10_takeLast_64 ⟨Nat.le_of_ble_eq_true rfl, Nat.le_of_ble_eq_true rfl⟩ (fun H locs hP hS => ?_)
        have hP : PD D A [bl_X10 cy A_k (A_r 0) (A_w 0) (A_a 0) k_open k_depth, bl_X6 cy A_r (A_t 0) z_12.2.1 z_12.2.2.1, bl_X7 cy A_t t_bytes t_wordCodes t_length z_12.2.2.2.1 z_12.2.2.2.2.1 z_12.2.2.2.2.2.1 z_12.2.2.2.2.2.2.1 z_12.2.2.2.2.2.2.2.1 t_end z_12.2.2.2.2.2.2.2.2, bl_X9 cy A_w z_19.1 w_man w_other w_sign w_number w_mate w_there z_19.2.1 z_19.2.2, bl_X0 cy A_a a_name a_courage a_weight a_medals a_stood a_fled a_liked a_votes a_count a_living a_pride a_quota a_melted a_lost] H := hP
        refine lv_iconst (v := 1) hx hb dX10_takeLast_67 (by decide) ?_
        cases h
        subst hW1
        exact W.zret hx hb hr rfl (fun _ ht9 _ => ⟨⟨_, (), rfl, rfl, hPt ht9 hP.1⟩, hS.F ht9⟩) hS.2.2 dX10_takeLast_68
      · have h := ie c_18 h
        refine lv_aload_n hx hb dX10_takeLast_33 rfl (lv_at hl 0 rfl) ?_
        refine xget (i := 0) (j := 0) (k := 3) (T := TX10) hx hb ht tb_iX10 hown hX hP.1 rfl rfl rfl (by decide) tb_303 rfl dX10_takeLast_34 ?_
        refine lv_aload_n hx hb dX10_takeLast_37 rfl (lv_at hl 0 rfl) ?_
        refine xget (i := 0) (j := 0) (k := 4) (T := TX10) hx hb ht tb_iX10 hown hX hP.1 rfl rfl rfl (by decide) tb_304 rfl dX10_takeLast_38 ?_
        refine lv_aload_n hx hb dX10_takeLast_41 rfl (lv_at hl 0 rfl) ?_
        refine xget (i := 0) (j := 0) (k := 1) (T := TX10) hx hb ht tb_iX10 hown hX hP.1 rfl rfl rfl (by decide) tb_301 rfl dX10_takeLast_42 ?_
        refine xget (i := 3) (j := 0) (k := 7) (T := TX9) hx hb ht tb_iX9 hown hX hP.1 rfl rfl rfl (by decide) tb_133 rfl dX10_takeLast_45 ?_
        obtain ⟨k_open_20, e_k_open_20, h⟩ := bi h
        refine xiast (i0 := 0) (j0 := 1) hx hb hX hP hS rfl rfl e_k_open_20 dX10_takeLast_48 (fun H locs hP hS => ?_)
        have hP : PD D A [bl_X10 cy A_k (A_r 0) (A_w 0) (A_a 0) k_open_20 k_depth, bl_X6 cy A_r (A_t 0) z_12.2.1 z_12.2.2.1, bl_X7 cy A_t t_bytes t_wordCodes t_length z_12.2.2.2.1 z_12.2.2.2.2.1 z_12.2.2.2.2.2.1 z_12.2.2.2.2.2.2.1 z_12.2.2.2.2.2.2.2.1 t_end z_12.2.2.2.2.2.2.2.2, bl_X9 cy A_w w_deed w_man w_other w_sign w_number w_mate w_there w_rows w_steps, bl_X0 cy A_a a_name a_courage a_weight a_medals a_stood a_fled a_liked a_votes a_count a_living a_pride a_quota a_melted a_lost] H := hP
        refine lv_aload_n hx hb dX10_takeLast_49 rfl (lv_at hl 0 rfl) ?_
        refine lv_dup hx hb dX10_takeLast_50 rfl ?_
        refine xget (i := 0) (j := 0) (k := 4) (T := TX10) hx hb ht tb_iX10 hown hX hP.1 rfl rfl rfl (by decide) tb_304 rfl dX10_takeLast_51 ?_
        refine lv_iconst (v := 1) hx hb dX10_takeLast_54 (by decide) ?_
        refine lv_iadd hx hb dX10_takeLast_55 ?_
        refine lv_topi (fun k_depth_21 e_k_depth_21 => ?_)
        have h := bn e_k_depth_21 h
        refine xput (i := 0) (j := 0) (k := 4) (T := TX10) tyX10 tyX10_ok nmX10 hx hb ht tb_iX10 hown hX hP hS rfl rfl rfl (by decide) tb_304 rfl rfl rfl (Nat.le_of_ble_eq_true rfl) dX10_takeLast_56 (fun H locs hP hS => ?_)
        have hP : PD D A [bl_X10 cy A_k (A_r 0) (A_w 0) (A_a 0) k_open_20 k_depth_21, bl_X6 cy A_r (A_t 0) z_12.2.1 z_12.2.2.1, bl_X7 cy A_t t_bytes t_wordCodes t_length z_12.2.2.2.1 z_12.2.2.2.2.1 z_12.2.2.2.2.2.1 z_12.2.2.2.2.2.2.1 z_12.2.2.2.2.2.2.2.1 t_end z_12.2.2.2.2.2.2.2.2, bl_X9 cy A_w w_deed w_man w_other w_sign w_number w_mate w_there w_rows w_steps, bl_X0 cy A_a a_name a_courage a_weight a_medals a_stood a_fled a_liked a_votes a_count a_living a_pride a_quota a_melted a_lost] H := hP
        refine lv_aload_n hx hb dX10_takeLast_59 rfl (lv_at hl 0 rfl) ?_
        refine xget (i := 0) (j := 0) (k := 1) (T := TX10) hx hb ht tb_iX10 hown hX hP.1 rfl rfl rfl (by decide) tb_301 rfl dX10_takeLast_60 ?_
        refine lv_iload_n hx hb dX10_takeLast_63 rfl (lv_at hl 1 rfl) ?_
        obtain ⟨z_22, e_z_22, h⟩ := bi h
        refine efVv (rest := []) ⟨hx, hb, hml, hown, ht⟩ (c_X9_step l D cy fu A_w w_deed w_man w_other w_sign w_number w_mate w_there w_rows w_steps x1 z_22 e_z_22 _ rfl _ rfl) (cV ht mv_X9_step tb_746 rfl rfl ⟨Nat.le_of_ble_eq_true rfl, Nat.le_of_ble_eq_true rfl⟩) hP hS hX [3] rfl rfl rfl rfl rfl rfl hl.1 rfl (Nat.le_of_ble_eq_true rfl) dX10_takeLast_64 ⟨Nat.le_of_ble_eq_true rfl, Nat.le_of_ble_eq_true rfl⟩ (fun H locs hP hS => ?_)
        have hP : PD D A [bl_X10 cy A_k (A_r 0) (A_w 0) (A_a 0) k_open_20 k_depth_21, bl_X6 cy A_r (A_t 0) z_12.2.1 z_12.2.2.1, bl_X7 cy A_t t_bytes t_wordCodes t_length z_12.2.2.2.1 z_12.2.2.2.2.1 z_12.2.2.2.2.2.1 z_12.2.2.2.2.2.2.1 z_12.2.2.2.2.2.2.2.1 t_end z_12.2.2.2.2.2.2.2.2, bl_X9 cy A_w z_22.1 w_man w_other w_sign w_number w_mate w_there z_22.2.1 z_22.2.2, bl_X0 cy A_a a_name a_courage a_weight a_medals a_stood a_fled a_liked a_votes a_count a_living a_pride a_quota a_melted a_lost] H := hP
        refine lv_iconst (v := 1) hx hb dX10_takeLast_67 (by decide) ?_
        cases h
        subst hW1
        exact W.zret hx hb hr rfl (fun _ ht9 _ => ⟨⟨_, (), rfl, rfl, hPt ht9 hP.1⟩, hS.F ht9⟩) hS.2.2 dX10_takeLast_68
  · have h := it c_13 h
    refine lv_iconst (v := 0) hx hb dX10_takeLast_12 (by decide) ?_
    cases h
    subst hW1
    exact W.zret hx hb hr rfl (fun _ ht9 _ => ⟨⟨_, (), rfl, rfl, hPt ht9 hP.1⟩, hS.F ht9⟩) hS.2.2 dX10_takeLast_13
theorem dX10_readDraft_0 : decode cX10_readDraft 0 = .ok (.aload_n 0, 1) := by decide +kernel
theorem dX10_readDraft_1 : decode cX10_readDraft 1 = .ok (.getfield 23, 3) := by decide +kernel
theorem dX10_readDraft_4 : decode cX10_readDraft 4 = .ok (.invokevirtual 31, 3) := by decide +kernel
theorem dX10_readDraft_7 : decode cX10_readDraft 7 = .ok (.aload_n 0, 1) := by decide +kernel
theorem dX10_readDraft_8 : decode cX10_readDraft 8 = .ok (.getfield 23, 3) := by decide +kernel
theorem dX10_readDraft_11 : decode cX10_readDraft 11 = .ok (.iconst 1, 1) := by decide +kernel
theorem dX10_readDraft_12 : decode cX10_readDraft 12 = .ok (.putfield 36, 3) := by decide +kernel
theorem dX10_readDraft_15 : decode cX10_readDraft 15 = .ok (.aload_n 0, 1) := by decide +kernel
theorem dX10_readDraft_16 : decode cX10_readDraft 16 = .ok (.iconst 0, 1) := by decide +kernel
theorem dX10_readDraft_17 : decode cX10_readDraft 17 = .ok (.putfield 15, 3) := by decide +kernel
theorem dX10_readDraft_20 : decode cX10_readDraft 20 = .ok (.iconst 1, 1) := by decide +kernel
theorem dX10_readDraft_21 : decode cX10_readDraft 21 = .ok (.istore_n 1, 1) := by decide +kernel
theorem dX10_readDraft_22 : decode cX10_readDraft 22 = .ok (.iconst 0, 1) := by decide +kernel
theorem dX10_readDraft_23 : decode cX10_readDraft 23 = .ok (.istore_n 2, 1) := by decide +kernel
theorem dX10_readDraft_24 : decode cX10_readDraft 24 = .ok (.iload_n 2, 1) := by decide +kernel
theorem dX10_readDraft_25 : decode cX10_readDraft 25 = .ok (.sipush 300, 3) := by decide +kernel
theorem dX10_readDraft_28 : decode cX10_readDraft 28 = .ok (.if_icmp .gt 77, 3) := by decide +kernel
theorem dX10_readDraft_31 : decode cX10_readDraft 31 = .ok (.iload_n 1, 1) := by decide +kernel
theorem dX10_readDraft_32 : decode cX10_readDraft 32 = .ok (.ifCond .eq 73, 3) := by decide +kernel
theorem dX10_readDraft_35 : decode cX10_readDraft 35 = .ok (.aload_n 0, 1) := by decide +kernel
theorem dX10_readDraft_36 : decode cX10_readDraft 36 = .ok (.getfield 19, 3) := by decide +kernel
theorem dX10_readDraft_39 : decode cX10_readDraft 39 = .ok (.invokevirtual 40, 3) := by decide +kernel
theorem dX10_readDraft_42 : decode cX10_readDraft 42 = .ok (.ifCond .ne 63, 3) := by decide +kernel
theorem dX10_readDraft_45 : decode cX10_readDraft 45 = .ok (.aload_n 0, 1) := by decide +kernel
theorem dX10_readDraft_46 : decode cX10_readDraft 46 = .ok (.getfield 19, 3) := by decide +kernel
theorem dX10_readDraft_49 : decode cX10_readDraft 49 = .ok (.getfield 46, 3) := by decide +kernel
theorem dX10_readDraft_52 : decode cX10_readDraft 52 = .ok (.getfield 50, 3) := by decide +kernel
theorem dX10_readDraft_55 : decode cX10_readDraft 55 = .ok (.istore_n 3, 1) := by decide +kernel
theorem dX10_readDraft_56 : decode cX10_readDraft 56 = .ok (.iload_n 3, 1) := by decide +kernel
theorem dX10_readDraft_57 : decode cX10_readDraft 57 = .ok (.bipush 17, 2) := by decide +kernel
theorem dX10_readDraft_59 : decode cX10_readDraft 59 = .ok (.if_icmp .ne 10, 3) := by decide +kernel
theorem dX10_readDraft_62 : decode cX10_readDraft 62 = .ok (.aload_n 0, 1) := by decide +kernel
theorem dX10_readDraft_63 : decode cX10_readDraft 63 = .ok (.invokevirtual 55, 3) := by decide +kernel
theorem dX10_readDraft_66 : decode cX10_readDraft 66 = .ok (.goto 32, 3) := by decide +kernel
theorem dX10_readDraft_69 : decode cX10_readDraft 69 = .ok (.aload_n 0, 1) := by decide +kernel
theorem dX10_readDraft_70 : decode cX10_readDraft 70 = .ok (.iload_n 3, 1) := by decide +kernel
theorem dX10_readDraft_71 : decode cX10_readDraft 71 = .ok (.invokevirtual 58, 3) := by decide +kernel
theorem dX10_readDraft_74 : decode cX10_readDraft 74 = .ok (.ifCond .eq 23, 3) := by decide +kernel
theorem dX10_readDraft_77 : decode cX10_readDraft 77 = .ok (.aload_n 0, 1) := by decide +kernel
theorem dX10_readDraft_78 : decode cX10_readDraft 78 = .ok (.iload_n 3, 1) := by decide +kernel
theorem dX10_readDraft_79 : decode cX10_readDraft 79 = .ok (.invokevirtual 62, 3) := by decide +kernel
theorem dX10_readDraft_82 : decode cX10_readDraft 82 = .ok (.ifCond .eq 15, 3) := by decide +kernel
theorem dX10_readDraft_85 : decode cX10_readDraft 85 = .ok (.aload_n 0, 1) := by decide +kernel
theorem dX10_readDraft_86 : decode cX10_readDraft 86 = .ok (.iload_n 3, 1) := by decide +kernel
theorem dX10_readDraft_87 : decode cX10_readDraft 87 = .ok (.invokevirtual 65, 3) := by decide +kernel
theorem dX10_readDraft_90 : decode cX10_readDraft 90 = .ok (.ifCond .eq 7, 3) := by decide +kernel
theorem dX10_readDraft_93 : decode cX10_readDraft 93 = .ok (.iconst 1, 1) := by decide +kernel
theorem dX10_readDraft_94 : decode cX10_readDraft 94 = .ok (.goto 4, 3) := by decide +kernel
theorem dX10_readDraft_97 : decode cX10_readDraft 97 = .ok (.iconst 0, 1) := by decide +kernel
theorem dX10_readDraft_98 : decode cX10_readDraft 98 = .ok (.istore_n 1, 1) := by decide +kernel
theorem dX10_readDraft_99 : decode cX10_readDraft 99 = .ok (.iinc 2 1, 3) := by decide +kernel
theorem dX10_readDraft_102 : decode cX10_readDraft 102 = .ok (.goto (-78), 3) := by decide +kernel
theorem dX10_readDraft_105 : decode cX10_readDraft 105 = .ok (.iload_n 1, 1) := by decide +kernel
theorem dX10_readDraft_106 : decode cX10_readDraft 106 = .ok (.ifCond .eq 19, 3) := by decide +kernel
theorem dX10_readDraft_109 : decode cX10_readDraft 109 = .ok (.aload_n 0, 1) := by decide +kernel
theorem dX10_readDraft_110 : decode cX10_readDraft 110 = .ok (.getfield 15, 3) := by decide +kernel
theorem dX10_readDraft_113 : decode cX10_readDraft 113 = .ok (.ifCond .le 12, 3) := by decide +kernel
theorem dX10_readDraft_116 : decode cX10_readDraft 116 = .ok (.aload_n 0, 1) := by decide +kernel
theorem dX10_readDraft_117 : decode cX10_readDraft 117 = .ok (.getfield 19, 3) := by decide +kernel
theorem dX10_readDraft_120 : decode cX10_readDraft 120 = .ok (.iconst 2, 1) := by decide +kernel
theorem dX10_readDraft_121 : decode cX10_readDraft 121 = .ok (.invokevirtual 68, 3) := by decide +kernel
theorem dX10_readDraft_124 : decode cX10_readDraft 124 = .ok (.istore_n 1, 1) := by decide +kernel
theorem dX10_readDraft_125 : decode cX10_readDraft 125 = .ok (.iload_n 1, 1) := by decide +kernel
theorem dX10_readDraft_126 : decode cX10_readDraft 126 = .ok (.ireturn, 1) := by decide +kernel
theorem mv_X10_readDraft : MV yX10_readDraft RX10 cX10_readDraft 4 (some .boolean) 0 := ⟨tb_708, tb_706, tb_707, tb_11, by decide +kernel, by decide +kernel, by decide +kernel⟩
def f_X10_readDraft_j105 (fu : Nat) (t_bytes : Nat → Int32) (t_wordCodes : Nat → Int64) (t_end : Int32) (a_name : Nat → Int64) (a_count : Int32) (k_open : Nat → Int32) (k_depth : Int32) (r_fault : Int32) (r_place : Int32) (t_kind : Int32) (t_start : Int32) (t_value : Int32) (t_word : Int32) (t_name : Int64) (t_at : Int32) (w_deed : Nat → Int32) (w_man : Nat → Int32) (w_other : Nat → Int32) (w_sign : Nat → Int32) (w_number : Nat → Int32) (w_mate : Nat → Int32) (w_there : Int32) (w_rows : Int32) (w_steps : Int32) (x1 : Int32) : Option (Int32 × (Nat → Int32) × Int32 × Int32 × Int32 × Int32 × Int32 × Int32 × Int32 × Int64 × Int32 × (Nat → Int32) × (Nat → Int32) × (Nat → Int32) × (Nat → Int32) × (Nat → Int32) × (Nat → Int32) × Int32 × Int32 × Int32) := (if x1 = 0 then (bz x1).bind fun _ => some (x1, k_open, k_depth, r_fault, r_place, t_kind, t_start, t_value, t_word, t_name, t_at, w_deed, w_man, w_other, w_sign, w_number, w_mate, w_there, w_rows, w_steps) else (if k_depth ≤ 0 then (bz x1).bind fun _ => some (x1, k_open, k_depth, r_fault, r_place, t_kind, t_start, t_value, t_word, t_name, t_at, w_deed, w_man, w_other, w_sign, w_number, w_mate, w_there, w_rows, w_steps) else (f_X6_fail fu r_fault r_place t_kind t_start 2).bind fun z_29 => (bz z_29.1).bind fun _ => some (z_29.1, k_open, k_depth, z_29.2.1, z_29.2.2, t_kind, t_start, t_value, t_word, t_name, t_at, w_deed, w_man, w_other, w_sign, w_number, w_mate, w_there, w_rows, w_steps)))
def f_X10_readDraft_b24 (fu : Nat) (t_bytes : Nat → Int32) (t_wordCodes : Nat → Int64) (t_end : Int32) (a_name : Nat → Int64) (a_count : Int32) (k24 : (Nat → Int32) → Int32 → Int32 → Int32 → Int32 → Int32 → Int32 → Int32 → Int64 → Int32 → (Nat → Int32) → (Nat → Int32) → (Nat → Int32) → (Nat → Int32) → (Nat → Int32) → (Nat → Int32) → Int32 → Int32 → Int32 → Int32 → Int32 → (Option (Int32 × (Nat → Int32) × Int32 × Int32 × Int32 × Int32 × Int32 × Int32 × Int32 × Int64 × Int32 × (Nat → Int32) × (Nat → Int32) × (Nat → Int32) × (Nat → Int32) × (Nat → Int32) × (Nat → Int32) × Int32 × Int32 × Int32))) (k_open : Nat → Int32) (k_depth : Int32) (r_fault : Int32) (r_place : Int32) (t_kind : Int32) (t_start : Int32) (t_value : Int32) (t_word : Int32) (t_name : Int64) (t_at : Int32) (w_deed : Nat → Int32) (w_man : Nat → Int32) (w_other : Nat → Int32) (w_sign : Nat → Int32) (w_number : Nat → Int32) (w_mate : Nat → Int32) (w_there : Int32) (w_rows : Int32) (w_steps : Int32) (x1 : Int32) (x2 : Int32) : Option (Int32 × (Nat → Int32) × Int32 × Int32 × Int32 × Int32 × Int32 × Int32 × Int32 × Int64 × Int32 × (Nat → Int32) × (Nat → Int32) × (Nat → Int32) × (Nat → Int32) × (Nat → Int32) × (Nat → Int32) × Int32 × Int32 × Int32) := (if 300 < x2 then f_X10_readDraft_j105 fu t_bytes t_wordCodes t_end a_name a_count k_open k_depth r_fault r_place t_kind t_start t_value t_word t_name t_at w_deed w_man w_other w_sign w_number w_mate w_there w_rows w_steps x1 else (if x1 = 0 then f_X10_readDraft_j105 fu t_bytes t_wordCodes t_end a_name a_count k_open k_depth r_fault r_place t_kind t_start t_value t_word t_name t_at w_deed w_man w_other w_sign w_number w_mate w_there w_rows w_steps x1 else (f_X6_atEnd fu t_kind).bind fun z_33 => (if z_33 = 0 then (if t_word = 17 then (f_X10_takeEnd fu k_open k_depth r_fault r_place t_bytes t_wordCodes t_kind t_start t_value t_word t_name t_end t_at w_deed w_mate w_rows).bind fun z_46 => bnd (x2 + 1) fun x2_47 => k24 k_open z_46.2.1 z_46.2.2.1 z_46.2.2.2.1 z_46.2.2.2.2.1 z_46.2.2.2.2.2.1 z_46.2.2.2.2.2.2.1 z_46.2.2.2.2.2.2.2.1 z_46.2.2.2.2.2.2.2.2.1 z_46.2.2.2.2.2.2.2.2.2.1 z_46.2.2.2.2.2.2.2.2.2.2.1 w_man w_other w_sign w_number z_46.2.2.2.2.2.2.2.2.2.2.2.1 w_there z_46.2.2.2.2.2.2.2.2.2.2.2.2 w_steps z_46.1 x2_47 else (f_X10_takeBegin fu k_depth r_fault r_place t_bytes t_wordCodes t_kind t_start t_value t_word t_name t_end t_at w_rows w_steps t_word).bind fun z_36 => (if z_36.1 = 0 then bnd (x2 + 1) fun x2_38 => k24 k_open k_depth z_36.2.1 z_36.2.2.1 z_36.2.2.2.1 z_36.2.2.2.2.1 z_36.2.2.2.2.2.1 z_36.2.2.2.2.2.2.1 z_36.2.2.2.2.2.2.2.1 z_36.2.2.2.2.2.2.2.2 w_deed w_man w_other w_sign w_number w_mate w_there w_rows w_steps 0 x2_38 else (f_X10_takeRest fu z_36.2.1 z_36.2.2.1 t_bytes t_wordCodes z_36.2.2.2.1 z_36.2.2.2.2.1 z_36.2.2.2.2.2.1 z_36.2.2.2.2.2.2.1 z_36.2.2.2.2.2.2.2.1 t_end z_36.2.2.2.2.2.2.2.2 w_man w_other w_sign w_number w_rows a_name a_count t_word).bind fun z_39 => (if z_39.1 = 0 then bnd (x2 + 1) fun x2_41 => k24 k_open k_depth z_39.2.1 z_39.2.2.1 z_39.2.2.2.1 z_39.2.2.2.2.1 z_39.2.2.2.2.2.1 z_39.2.2.2.2.2.2.1 z_39.2.2.2.2.2.2.2.1 z_39.2.2.2.2.2.2.2.2.1 w_deed z_39.2.2.2.2.2.2.2.2.2.1 z_39.2.2.2.2.2.2.2.2.2.2.1 z_39.2.2.2.2.2.2.2.2.2.2.2.1 z_39.2.2.2.2.2.2.2.2.2.2.2.2 w_mate w_there w_rows w_steps 0 x2_41 else (f_X10_takeLast fu k_open k_depth z_39.2.1 z_39.2.2.1 t_bytes t_wordCodes z_39.2.2.2.1 z_39.2.2.2.2.1 z_39.2.2.2.2.2.1 z_39.2.2.2.2.2.2.1 z_39.2.2.2.2.2.2.2.1 t_end z_39.2.2.2.2.2.2.2.2.1 w_deed w_rows w_steps t_word).bind fun z_42 => (if z_42.1 = 0 then bnd (x2 + 1) fun x2_44 => k24 z_42.2.1 z_42.2.2.1 z_42.2.2.2.1 z_42.2.2.2.2.1 z_42.2.2.2.2.2.1 z_42.2.2.2.2.2.2.1 z_42.2.2.2.2.2.2.2.1 z_42.2.2.2.2.2.2.2.2.1 z_42.2.2.2.2.2.2.2.2.2.1 z_42.2.2.2.2.2.2.2.2.2.2.1 z_42.2.2.2.2.2.2.2.2.2.2.2.1 z_39.2.2.2.2.2.2.2.2.2.1 z_39.2.2.2.2.2.2.2.2.2.2.1 z_39.2.2.2.2.2.2.2.2.2.2.2.1 z_39.2.2.2.2.2.2.2.2.2.2.2.2 w_mate w_there z_42.2.2.2.2.2.2.2.2.2.2.2.2.1 z_42.2.2.2.2.2.2.2.2.2.2.2.2.2 0 x2_44 else bnd (x2 + 1) fun x2_45 => k24 z_42.2.1 z_42.2.2.1 z_42.2.2.2.1 z_42.2.2.2.2.1 z_42.2.2.2.2.2.1 z_42.2.2.2.2.2.2.1 z_42.2.2.2.2.2.2.2.1 z_42.2.2.2.2.2.2.2.2.1 z_42.2.2.2.2.2.2.2.2.2.1 z_42.2.2.2.2.2.2.2.2.2.2.1 z_42.2.2.2.2.2.2.2.2.2.2.2.1 z_39.2.2.2.2.2.2.2.2.2.1 z_39.2.2.2.2.2.2.2.2.2.2.1 z_39.2.2.2.2.2.2.2.2.2.2.2.1 z_39.2.2.2.2.2.2.2.2.2.2.2.2 w_mate w_there z_42.2.2.2.2.2.2.2.2.2.2.2.2.1 z_42.2.2.2.2.2.2.2.2.2.2.2.2.2 1 x2_45)))) else f_X10_readDraft_j105 fu t_bytes t_wordCodes t_end a_name a_count k_open k_depth r_fault r_place t_kind t_start t_value t_word t_name t_at w_deed w_man w_other w_sign w_number w_mate w_there w_rows w_steps x1)))
def f_X10_readDraft_l24 (fu : Nat) (t_bytes : Nat → Int32) (t_wordCodes : Nat → Int64) (t_end : Int32) (a_name : Nat → Int64) (a_count : Int32) : Nat → (Nat → Int32) → Int32 → Int32 → Int32 → Int32 → Int32 → Int32 → Int32 → Int64 → Int32 → (Nat → Int32) → (Nat → Int32) → (Nat → Int32) → (Nat → Int32) → (Nat → Int32) → (Nat → Int32) → Int32 → Int32 → Int32 → Int32 → Int32 → (Option (Int32 × (Nat → Int32) × Int32 × Int32 × Int32 × Int32 × Int32 × Int32 × Int32 × Int64 × Int32 × (Nat → Int32) × (Nat → Int32) × (Nat → Int32) × (Nat → Int32) × (Nat → Int32) × (Nat → Int32) × Int32 × Int32 × Int32))
  | 0, _, _, _, _, _, _, _, _, _, _, _, _, _, _, _, _, _, _, _, _, _ => none
  | n + 1, k_open, k_depth, r_fault, r_place, t_kind, t_start, t_value, t_word, t_name, t_at, w_deed, w_man, w_other, w_sign, w_number, w_mate, w_there, w_rows, w_steps, x1, x2 => f_X10_readDraft_b24 fu t_bytes t_wordCodes t_end a_name a_count (f_X10_readDraft_l24 fu t_bytes t_wordCodes t_end a_name a_count n) k_open k_depth r_fault r_place t_kind t_start t_value t_word t_name t_at w_deed w_man w_other w_sign w_number w_mate w_there w_rows w_steps x1 x2
def f_X10_readDraft (fu : Nat) (k_open : Nat → Int32) (k_depth : Int32) (r_fault : Int32) (r_place : Int32) (t_bytes : Nat → Int32) (t_wordCodes : Nat → Int64) (t_kind : Int32) (t_start : Int32) (t_value : Int32) (t_word : Int32) (t_name : Int64) (t_end : Int32) (t_at : Int32) (w_deed : Nat → Int32) (w_man : Nat → Int32) (w_other : Nat → Int32) (w_sign : Nat → Int32) (w_number : Nat → Int32) (w_mate : Nat → Int32) (w_there : Int32) (w_rows : Int32) (w_steps : Int32) (a_name : Nat → Int64) (a_count : Int32) : Option (Int32 × (Nat → Int32) × Int32 × Int32 × Int32 × Int32 × Int32 × Int32 × Int32 × Int64 × Int32 × (Nat → Int32) × (Nat → Int32) × (Nat → Int32) × (Nat → Int32) × (Nat → Int32) × (Nat → Int32) × Int32 × Int32 × Int32) := (f_X9_clear fu w_there w_rows w_steps).bind fun z_48 => f_X10_readDraft_l24 fu t_bytes t_wordCodes t_end a_name a_count fu k_open 0 r_fault r_place t_kind t_start t_value t_word t_name t_at w_deed w_man w_other w_sign w_number w_mate 1 z_48.2.1 z_48.2.2 1 0
abbrev rm_X10_readDraft : Room := { frames := 5, cells := 0, slots := 0, locals := 110 }
set_option maxHeartbeats 4000000 in
set_option maxRecDepth 100000 in
theorem c_X10_readDraft (l : Launch) (D : va_G) (cy : Nat → ClassId) (fu : Nat) (A_k : Nat → Nat) (k_open : Nat → Int32) (k_depth : Int32) (A_r : Nat → Nat) (r_fault : Int32) (r_place : Int32) (A_t : Nat → Nat) (t_bytes : Nat → Int32) (t_wordCodes : Nat → Int64) (t_length : Int32) (t_kind : Int32) (t_start : Int32) (t_value : Int32) (t_word : Int32) (t_name : Int64) (t_end : Int32) (t_at : Int32) (A_w : Nat → Nat) (w_deed : Nat → Int32) (w_man : Nat → Int32) (w_other : Nat → Int32) (w_sign : Nat → Int32) (w_number : Nat → Int32) (w_mate : Nat → Int32) (w_there : Int32) (w_rows : Int32) (w_steps : Int32) (A_a : Nat → Nat) (a_name : Nat → Int64) (a_courage : Nat → Int32) (a_weight : Nat → Int32) (a_medals : Nat → Int32) (a_stood : Nat → Int32) (a_fled : Nat → Int32) (a_liked : Nat → Int32) (a_votes : Nat → Int32) (a_count : Int32) (a_living : Int32) (a_pride : Int32) (a_quota : Int32) (a_melted : Int32) (a_lost : Int32) (res : Int32 × (Nat → Int32) × Int32 × Int32 × Int32 × Int32 × Int32 × Int32 × Int32 × Int64 × Int32 × (Nat → Int32) × (Nat → Int32) × (Nat → Int32) × (Nat → Int32) × (Nat → Int32) × (Nat → Int32) × Int32 × Int32 × Int32) (h : f_X10_readDraft fu k_open k_depth r_fault r_place t_bytes t_wordCodes t_kind t_start t_value t_word t_name t_end t_at w_deed w_man w_other w_sign w_number w_mate w_there w_rows w_steps a_name a_count = some res) (A : Nat → Prop) (hA : A = adr [bl_X10 cy A_k (A_r 0) (A_w 0) (A_a 0) k_open k_depth, bl_X6 cy A_r (A_t 0) r_fault r_place, bl_X7 cy A_t t_bytes t_wordCodes t_length t_kind t_start t_value t_word t_name t_end t_at, bl_X9 cy A_w w_deed w_man w_other w_sign w_number w_mate w_there w_rows w_steps, bl_X0 cy A_a a_name a_courage a_weight a_medals a_stood a_fled a_liked a_votes a_count a_living a_pride a_quota a_melted a_lost]) (W1 : List va_W) (hW1 : W1 = [bl_X10 cy A_k (A_r 0) (A_w 0) (A_a 0) res.2.1 res.2.2.1, bl_X6 cy A_r (A_t 0) res.2.2.2.1 res.2.2.2.2.1, bl_X7 cy A_t t_bytes t_wordCodes t_length res.2.2.2.2.2.1 res.2.2.2.2.2.2.1 res.2.2.2.2.2.2.2.1 res.2.2.2.2.2.2.2.2.1 res.2.2.2.2.2.2.2.2.2.1 t_end res.2.2.2.2.2.2.2.2.2.2.1, bl_X9 cy A_w res.2.2.2.2.2.2.2.2.2.2.2.1 res.2.2.2.2.2.2.2.2.2.2.2.2.1 res.2.2.2.2.2.2.2.2.2.2.2.2.2.1 res.2.2.2.2.2.2.2.2.2.2.2.2.2.2.1 res.2.2.2.2.2.2.2.2.2.2.2.2.2.2.2.1 res.2.2.2.2.2.2.2.2.2.2.2.2.2.2.2.2.1 res.2.2.2.2.2.2.2.2.2.2.2.2.2.2.2.2.2.1 res.2.2.2.2.2.2.2.2.2.2.2.2.2.2.2.2.2.2.1 res.2.2.2.2.2.2.2.2.2.2.2.2.2.2.2.2.2.2.2, bl_X0 cy A_a a_name a_courage a_weight a_medals a_stood a_fled a_liked a_votes a_count a_living a_pride a_quota a_melted a_lost]) : Met l yX10_readDraft (WW yX10_readDraft cX10_readDraft 4 (some .boolean)) rm_X10_readDraft (Ed D cy [.ref (A_k 0)] [bl_X10 cy A_k (A_r 0) (A_w 0) (A_a 0) k_open k_depth, bl_X6 cy A_r (A_t 0) r_fault r_place, bl_X7 cy A_t t_bytes t_wordCodes t_length t_kind t_start t_value t_word t_name t_end t_at, bl_X9 cy A_w w_deed w_man w_other w_sign w_number w_mate w_there w_rows w_steps, bl_X0 cy A_a a_name a_courage a_weight a_medals a_stood a_fled a_liked a_votes a_count a_living a_pride a_quota a_melted a_lost]) (Qei D res.1 A W1) 0 0 A := by
  refine Met.ofW (cc := cX10_readDraft) (maxL := 4) (ret := (some .boolean)) (by decide) rfl ?_
  intro p e s m args below meth c s₁ B hml hv
  obtain ⟨hargs, hP, hX, hD0⟩ := hv
  have hx := B.exec
  have hb := B.bytes
  have hr := B.returns
  have ht : ∀ w ∈ lw_gd, w.before args s = true := fun w hw => atoms_spec (ws := WW yX10_readDraft cX10_readDraft 4 (some .boolean)) B.pre w (List.mem_cons_of_mem _ hw)
  have hown : s.vm.findClass RX10 = some m.cls := findClass_of_methodNamed B.named
  have hlocks := B.notSynchronized
  have hP : PD D A [bl_X10 cy A_k (A_r 0) (A_w 0) (A_a 0) k_open k_depth, bl_X6 cy A_r (A_t 0) r_fault r_place, bl_X7 cy A_t t_bytes t_wordCodes t_length t_kind t_start t_value t_word t_name t_end t_at, bl_X9 cy A_w w_deed w_man w_other w_sign w_number w_mate w_there w_rows w_steps, bl_X0 cy A_a a_name a_courage a_weight a_medals a_stood a_fled a_liked a_votes a_count a_living a_pride a_quota a_melted a_lost] s.heap := ⟨hP, by rw [hA]; exact hD0.own⟩
  have hS : va_S A s.heap s.heap [] := va_S.rf
  obtain ⟨ls, hl, hent⟩ := ent (m := m) (n := 4) hargs (Nat.le_of_ble_eq_true rfl) (lv := [(0, .ref (A_k 0))]) rfl
  rw [hent]
  clear hent
  have j105 : ∀ (k_open : Nat → Int32) (k_depth : Int32) (r_fault : Int32) (r_place : Int32) (t_kind : Int32) (t_start : Int32) (t_value : Int32) (t_word : Int32) (t_name : Int64) (t_at : Int32) (w_deed : Nat → Int32) (w_man : Nat → Int32) (w_other : Nat → Int32) (w_sign : Nat → Int32) (w_number : Nat → Int32) (w_mate : Nat → Int32) (w_there : Int32) (w_rows : Int32) (w_steps : Int32) (x1 : Int32) (H : Heap) (locs : List Loc) (_ : PD D A [bl_X10 cy A_k (A_r 0) (A_w 0) (A_a 0) k_open k_depth, bl_X6 cy A_r (A_t 0) r_fault r_place, bl_X7 cy A_t t_bytes t_wordCodes t_length t_kind t_start t_value t_word t_name t_end t_at, bl_X9 cy A_w w_deed w_man w_other w_sign w_number w_mate w_there w_rows w_steps, bl_X0 cy A_a a_name a_courage a_weight a_medals a_stood a_fled a_liked a_votes a_count a_living a_pride a_quota a_melted a_lost] H) (_ : va_S A s.heap H locs) (ls : Array Slot), lv_has ls 4 [(0, .ref (A_k 0)), (1, .int x1)] → f_X10_readDraft_j105 fu t_bytes t_wordCodes t_end a_name a_count k_open k_depth r_fault r_place t_kind t_start t_value t_word t_name t_at w_deed w_man w_other w_sign w_number w_mate w_there w_rows w_steps x1 = some res → W p l e (headSpec (WW yX10_readDraft cX10_readDraft 4 (some .boolean)) rm_X10_readDraft).room s m args below meth c H locs 0 0 (MQ below (Qei D res.1 A W1) args s 0 0 A) (F0 m 105 ls []) := by
    intro k_open k_depth r_fault r_place t_kind t_start t_value t_word t_name t_at w_deed w_man w_other w_sign w_number w_mate w_there w_rows w_steps x1 H locs hP hS ls hl h
    unfold f_X10_readDraft_j105 at h
    refine lv_iload_n hx hb dX10_readDraft_105 rfl (lv_at hl 1 rfl) ?_
    refine lv_if_eq (tgt := 125) hx hb dX10_readDraft_106 (by decide) (fun c_25 => ?_) (fun c_25 => ?_)
    · have h := it c_25 h
      refine lv_iload_n hx hb dX10_readDraft_125 rfl (lv_at hl 1 rfl) ?_
      obtain ⟨b_26, e_b_26, h⟩ := bi h
      obtain ⟨-, n_b_26, -⟩ := bz_ok e_b_26
      cases h
      subst hW1
      exact W.zret hx hb hr n_b_26 (fun _ ht9 _ => ⟨⟨_, (), rfl, rfl, hPt ht9 hP.1⟩, hS.F ht9⟩) hS.2.2 dX10_readDraft_126
    · have h := ie c_25 h
      refine lv_aload_n hx hb dX10_readDraft_109 rfl (lv_at hl 0 rfl) ?_
      refine xget (i := 0) (j := 0) (k := 4) (T := TX10) hx hb ht tb_iX10 hown hX hP.1 rfl rfl rfl (by decide) tb_304 rfl dX10_readDraft_110 ?_
      refine lv_if_le (tgt := 125) hx hb dX10_readDraft_113 (by decide) (fun c_27 => ?_) (fun c_27 => ?_)
      · have h := it c_27 h
        refine lv_iload_n hx hb dX10_readDraft_125 rfl (lv_at hl 1 rfl) ?_
        obtain ⟨b_28, e_b_28, h⟩ := bi h
        obtain ⟨-, n_b_28, -⟩ := bz_ok e_b_28
        cases h
        subst hW1
        exact W.zret hx hb hr n_b_28 (fun _ ht9 _ => ⟨⟨_, (), rfl, rfl, hPt ht9 hP.1⟩, hS.F ht9⟩) hS.2.2 dX10_readDraft_126
      · have h := ie c_27 h
        refine lv_aload_n hx hb dX10_readDraft_116 rfl (lv_at hl 0 rfl) ?_
        refine xget (i := 0) (j := 0) (k := 0) (T := TX10) hx hb ht tb_iX10 hown hX hP.1 rfl rfl rfl (by decide) tb_300 rfl dX10_readDraft_117 ?_
        refine lv_iconst (v := 2) hx hb dX10_readDraft_120 (by decide) ?_
        obtain ⟨z_29, e_z_29, h⟩ := bi h
        refine efVi (rest := []) ⟨hx, hb, hml, hown, ht⟩ (c_X6_fail l D cy fu A_r r_fault r_place A_t t_bytes t_wordCodes t_length t_kind t_start t_value t_word t_name t_end t_at 2 z_29 e_z_29 _ rfl _ rfl) (cV ht mv_X6_fail tb_716 rfl rfl ⟨Nat.le_of_ble_eq_true rfl, Nat.le_of_ble_eq_true rfl⟩) hP hS hX [1, 2] rfl rfl rfl rfl rfl rfl hl.1 rfl (Nat.le_of_ble_eq_true rfl) dX10_readDraft_121 ⟨Nat.le_of_ble_eq_true rfl, Nat.le_of_ble_eq_true rfl⟩ (fun H locs hP hS => ?_)
        have hP : PD D A [bl_X10 cy A_k (A_r 0) (A_w 0) (A_a 0) k_open k_depth, bl_X6 cy A_r (A_t 0) z_29.2.1 z_29.2.2, bl_X7 cy A_t t_bytes t_wordCodes t_length t_kind t_start t_value t_word t_name t_end t_at, bl_X9 cy A_w w_deed w_man w_other w_sign w_number w_mate w_there w_rows w_steps, bl_X0 cy A_a a_name a_courage a_weight a_medals a_stood a_fled a_liked a_votes a_count a_living a_pride a_quota a_melted a_lost] H := hP
        refine lv_istore_n (lv' := [(1, .int z_29.1), (0, .ref (A_k 0))]) hx hb dX10_readDraft_124 rfl hl (by decide) rfl (fun ls hl => ?_)
        refine lv_iload_n hx hb dX10_readDraft_125 rfl (lv_at hl 0 rfl) ?_
        obtain ⟨b_30, e_b_30, h⟩ := bi h
        obtain ⟨-, n_b_30, -⟩ := bz_ok e_b_30
        cases h
        subst hW1
        exact W.zret hx hb hr n_b_30 (fun _ ht9 _ => ⟨⟨_, (), rfl, rfl, hPt ht9 hP.1⟩, hS.F ht9⟩) hS.2.2 dX10_readDraft_126
  have l24 : ∀ (n24 : Nat) (k_open : Nat → Int32) (k_depth : Int32) (r_fault : Int32) (r_place : Int32) (t_kind : Int32) (t_start : Int32) (t_value : Int32) (t_word : Int32) (t_name : Int64) (t_at : Int32) (w_deed : Nat → Int32) (w_man : Nat → Int32) (w_other : Nat → Int32) (w_sign : Nat → Int32) (w_number : Nat → Int32) (w_mate : Nat → Int32) (w_there : Int32) (w_rows : Int32) (w_steps : Int32) (x1 : Int32) (x2 : Int32) (H : Heap) (locs : List Loc) (_ : PD D A [bl_X10 cy A_k (A_r 0) (A_w 0) (A_a 0) k_open k_depth, bl_X6 cy A_r (A_t 0) r_fault r_place, bl_X7 cy A_t t_bytes t_wordCodes t_length t_kind t_start t_value t_word t_name t_end t_at, bl_X9 cy A_w w_deed w_man w_other w_sign w_number w_mate w_there w_rows w_steps, bl_X0 cy A_a a_name a_courage a_weight a_medals a_stood a_fled a_liked a_votes a_count a_living a_pride a_quota a_melted a_lost] H) (_ : va_S A s.heap H locs) (ls : Array Slot), lv_has ls 4 [(0, .ref (A_k 0)), (1, .int x1), (2, .int x2)] → f_X10_readDraft_l24 fu t_bytes t_wordCodes t_end a_name a_count n24 k_open k_depth r_fault r_place t_kind t_start t_value t_word t_name t_at w_deed w_man w_other w_sign w_number w_mate w_there w_rows w_steps x1 x2 = some res → W p l e (headSpec (WW yX10_readDraft cX10_readDraft 4 (some .boolean)) rm_X10_readDraft).room s m args below meth c H locs 0 0 (MQ below (Qei D res.1 A W1) args s 0 0 A) (F0 m 24 ls []) := by
    intro n24
    induction n24 with
    | zero => intro k_open k_depth r_fault r_place t_kind t_start t_value t_word t_name t_at w_deed w_man w_other w_sign w_number w_mate w_there w_rows w_steps x1 x2 H locs hP hS ls hl h; cases h
    | succ n24 ih24 =>
      intro k_open k_depth r_fault r_place t_kind t_start t_value t_word t_name t_at w_deed w_man w_other w_sign w_number w_mate w_there w_rows w_steps x1 x2 H locs hP hS ls hl h
      have h : f_X10_readDraft_b24 fu t_bytes t_wordCodes t_end a_name a_count (f_X10_readDraft_l24 fu t_bytes t_wordCodes t_end a_name a_count n24) k_open k_depth r_fault r_place t_kind t_start t_value t_word t_name t_at w_deed w_man w_other w_sign w_number w_mate w_there w_rows w_steps x1 x2 = some res := h
      unfold f_X10_readDraft_b24 at h
      refine lv_iload_n hx hb dX10_readDraft_24 rfl (lv_at hl 2 rfl) ?_
      refine lv_sipush (v := 300) hx hb dX10_readDraft_25 (by decide) ?_
      refine lv_icmp_gt (tgt := 105) hx hb dX10_readDraft_28 (by decide) (fun c_31 => ?_) (fun c_31 => ?_)
      · have h := it c_31 h
        exact j105 k_open k_depth r_fault r_place t_kind t_start t_value t_word t_name t_at w_deed w_man w_other w_sign w_number w_mate w_there w_rows w_steps x1 _ _ hP hS ls (lv_sub hl [0, 1] rfl) h
      · have h := ie c_31 h
        refine lv_iload_n hx hb dX10_readDraft_31 rfl (lv_at hl 1 rfl) ?_
        refine lv_if_eq (tgt := 105) hx hb dX10_readDraft_32 (by decide) (fun c_32 => ?_) (fun c_32 => ?_)
        · have h := it c_32 h
          exact j105 k_open k_depth r_fault r_place t_kind t_start t_value t_word t_name t_at w_deed w_man w_other w_sign w_number w_mate w_there w_rows w_steps x1 _ _ hP hS ls (lv_sub hl [0, 1] rfl) h
        · have h := ie c_32 h
          refine lv_aload_n hx hb dX10_readDraft_35 rfl (lv_at hl 0 rfl) ?_
          refine xget (i := 0) (j := 0) (k := 0) (T := TX10) hx hb ht tb_iX10 hown hX hP.1 rfl rfl rfl (by decide) tb_300 rfl dX10_readDraft_36 ?_
          obtain ⟨z_33, e_z_33, h⟩ := bi h
          refine roVi (rest := []) ⟨hx, hb, hml, hown, ht⟩ (c_X6_atEnd l D cy fu A_r r_fault r_place A_t t_bytes t_wordCodes t_length t_kind t_start t_value t_word t_name t_end t_at z_33 e_z_33) (cV ht mv_X6_atEnd tb_710 rfl rfl ⟨Nat.le_of_ble_eq_true rfl, Nat.le_of_ble_eq_true rfl⟩) (P_sub hP.1 [1, 2] rfl) hX rfl rfl rfl hl.1 rfl (Nat.le_of_ble_eq_true rfl) dX10_readDraft_39 ⟨Nat.le_of_ble_eq_true rfl, Nat.le_of_ble_eq_true rfl⟩ ?_
          refine lv_if_ne (tgt := 105) hx hb dX10_readDraft_42 (by decide) (fun c_34 => ?_) (fun c_34 => ?_)
          · have h := ie c_34 h
            exact j105 k_open k_depth r_fault r_place t_kind t_start t_value t_word t_name t_at w_deed w_man w_other w_sign w_number w_mate w_there w_rows w_steps x1 _ _ hP hS ls (lv_sub hl [0, 1] rfl) h
          · have h := it c_34 h
            refine lv_aload_n hx hb dX10_readDraft_45 rfl (lv_at hl 0 rfl) ?_
            refine xget (i := 0) (j := 0) (k := 0) (T := TX10) hx hb ht tb_iX10 hown hX hP.1 rfl rfl rfl (by decide) tb_300 rfl dX10_readDraft_46 ?_
            refine xget (i := 1) (j := 0) (k := 0) (T := TX6) hx hb ht tb_iX6 hown hX hP.1 rfl rfl rfl (by decide) tb_262 rfl dX10_readDraft_49 ?_
            refine xget (i := 2) (j := 0) (k := 6) (T := TX7) hx hb ht tb_iX7 hown hX hP.1 rfl rfl rfl (by decide) tb_231 rfl dX10_readDraft_52 ?_
            refine lv_istore_n (lv' := [(3, .int t_word), (0, .ref (A_k 0)), (1, .int x1), (2, .int x2)]) hx hb dX10_readDraft_55 rfl hl (by decide) rfl (fun ls hl => ?_)
            refine lv_iload_n hx hb dX10_readDraft_56 rfl (lv_at hl 0 rfl) ?_
            refine lv_bipush (v := 17) hx hb dX10_readDraft_57 (by decide) ?_
            refine lv_icmp_ne (tgt := 69) hx hb dX10_readDraft_59 (by decide) (fun c_35 => ?_) (fun c_35 => ?_)
            · have h := ie c_35 h
              refine lv_aload_n hx hb dX10_readDraft_69 rfl (lv_at hl 1 rfl) ?_
              refine lv_iload_n hx hb dX10_readDraft_70 rfl (lv_at hl 0 rfl) ?_
              obtain ⟨z_36, e_z_36, h⟩ := bi h
              refine efVi (rest := []) ⟨hx, hb, hml, hown, ht⟩ (c_X10_takeBegin l D cy fu A_k k_open k_depth A_r r_fault r_place A_t t_bytes t_wordCodes t_length t_kind t_start t_value t_word t_name t_end t_at A_w w_deed w_man w_other w_sign w_number w_mate w_there w_rows w_steps A_a a_name a_courage a_weight a_medals a_stood a_fled a_liked a_votes a_count a_living a_pride a_quota a_melted a_lost t_word z_36 e_z_36 _ rfl _ rfl) (cV ht mv_X10_takeBegin tb_724 rfl rfl ⟨Nat.le_of_ble_eq_true rfl, Nat.le_of_ble_eq_true rfl⟩) hP hS hX [0, 1, 2, 3, 4] rfl rfl rfl rfl rfl rfl hl.1 rfl (Nat.le_of_ble_eq_true rfl) dX10_readDraft_71 ⟨Nat.le_of_ble_eq_true rfl, Nat.le_of_ble_eq_true rfl⟩ (fun H locs hP hS => ?_)
              have hP : PD D A [bl_X10 cy A_k (A_r 0) (A_w 0) (A_a 0) k_open k_depth, bl_X6 cy A_r (A_t 0) z_36.2.1 z_36.2.2.1, bl_X7 cy A_t t_bytes t_wordCodes t_length z_36.2.2.2.1 z_36.2.2.2.2.1 z_36.2.2.2.2.2.1 z_36.2.2.2.2.2.2.1 z_36.2.2.2.2.2.2.2.1 t_end z_36.2.2.2.2.2.2.2.2, bl_X9 cy A_w w_deed w_man w_other w_sign w_number w_mate w_there w_rows w_steps, bl_X0 cy A_a a_name a_courage a_weight a_medals a_stood a_fled a_liked a_votes a_count a_living a_pride a_quota a_melted a_lost] H := hP
              refine lv_if_eq (tgt := 97) hx hb dX10_readDraft_74 (by decide) (fun c_37 => ?_) (fun c_37 => ?_)
              · have h := it c_37 h
                refine lv_iconst (v := 0) hx hb dX10_readDraft_97 (by decide) ?_
                refine lv_istore_n (lv' := [(1, .int 0), (3, .int t_word), (0, .ref (A_k 0)), (2, .int x2)]) hx hb dX10_readDraft_98 rfl hl (by decide) rfl (fun ls hl => ?_)
                obtain ⟨x2_38, e_x2_38⟩ : ∃ y : Int32, y = x2 + 1 := ⟨_, rfl⟩
                have h := bn e_x2_38 h
                refine lv_iinc (v := x2_38) (lv' := [(2, .int x2_38), (1, .int 0), (3, .int t_word), (0, .ref (A_k 0))]) hx hb dX10_readDraft_99 hl (k := 3) rfl (by rw [e_x2_38]; rfl) (by decide) rfl (fun ls hl => ?_)
                refine lv_goto (tgt := 24) hx hb dX10_readDraft_102 (by decide) ?_
                exact ih24 k_open k_depth z_36.2.1 z_36.2.2.1 z_36.2.2.2.1 z_36.2.2.2.2.1 z_36.2.2.2.2.2.1 z_36.2.2.2.2.2.2.1 z_36.2.2.2.2.2.2.2.1 z_36.2.2.2.2.2.2.2.2 w_deed w_man w_other w_sign w_number w_mate w_there w_rows w_steps 0 x2_38 _ _ hP hS ls (lv_sub hl [3, 1, 0] rfl) h
              · have h := ie c_37 h
                refine lv_aload_n hx hb dX10_readDraft_77 rfl (lv_at hl 1 rfl) ?_
                refine lv_iload_n hx hb dX10_readDraft_78 rfl (lv_at hl 0 rfl) ?_
                obtain ⟨z_39, e_z_39, h⟩ := bi h
                refine efVi (rest := []) ⟨hx, hb, hml, hown, ht⟩ (c_X10_takeRest l D cy fu A_k k_open k_depth A_r z_36.2.1 z_36.2.2.1 A_t t_bytes t_wordCodes t_length z_36.2.2.2.1 z_36.2.2.2.2.1 z_36.2.2.2.2.2.1 z_36.2.2.2.2.2.2.1 z_36.2.2.2.2.2.2.2.1 t_end z_36.2.2.2.2.2.2.2.2 A_w w_deed w_man w_other w_sign w_number w_mate w_there w_rows w_steps A_a a_name a_courage a_weight a_medals a_stood a_fled a_liked a_votes a_count a_living a_pride a_quota a_melted a_lost t_word z_39 e_z_39 _ rfl _ rfl) (cV ht mv_X10_takeRest tb_731 rfl rfl ⟨Nat.le_of_ble_eq_true rfl, Nat.le_of_ble_eq_true rfl⟩) hP hS hX [0, 1, 2, 3, 4] rfl rfl rfl rfl rfl rfl hl.1 rfl (Nat.le_of_ble_eq_true rfl) dX10_readDraft_79 ⟨Nat.le_of_ble_eq_true rfl, Nat.le_of_ble_eq_true rfl⟩ (fun H locs hP hS => ?_)
                have hP : PD D A [bl_X10 cy A_k (A_r 0) (A_w 0) (A_a 0) k_open k_depth, bl_X6 cy A_r (A_t 0) z_39.2.1 z_39.2.2.1, bl_X7 cy A_t t_bytes t_wordCodes t_length z_39.2.2.2.1 z_39.2.2.2.2.1 z_39.2.2.2.2.2.1 z_39.2.2.2.2.2.2.1 z_39.2.2.2.2.2.2.2.1 t_end z_39.2.2.2.2.2.2.2.2.1, bl_X9 cy A_w w_deed z_39.2.2.2.2.2.2.2.2.2.1 z_39.2.2.2.2.2.2.2.2.2.2.1 z_39.2.2.2.2.2.2.2.2.2.2.2.1 z_39.2.2.2.2.2.2.2.2.2.2.2.2 w_mate w_there w_rows w_steps, bl_X0 cy A_a a_name a_courage a_weight a_medals a_stood a_fled a_liked a_votes a_count a_living a_pride a_quota a_melted a_lost] H := hP
                refine lv_if_eq (tgt := 97) hx hb dX10_readDraft_82 (by decide) (fun c_40 => ?_) (fun c_40 => ?_)
                · have h := it c_40 h
                  refine lv_iconst (v := 0) hx hb dX10_readDraft_97 (by decide) ?_
                  refine lv_istore_n (lv' := [(1, .int 0), (3, .int t_word), (0, .ref (A_k 0)), (2, .int x2)]) hx hb dX10_readDraft_98 rfl hl (by decide) rfl (fun ls hl => ?_)
                  obtain ⟨x2_41, e_x2_41⟩ : ∃ y : Int32, y = x2 + 1 := ⟨_, rfl⟩
                  have h := bn e_x2_41 h
                  refine lv_iinc (v := x2_41) (lv' := [(2, .int x2_41), (1, .int 0), (3, .int t_word), (0, .ref (A_k 0))]) hx hb dX10_readDraft_99 hl (k := 3) rfl (by rw [e_x2_41]; rfl) (by decide) rfl (fun ls hl => ?_)
                  refine lv_goto (tgt := 24) hx hb dX10_readDraft_102 (by decide) ?_
                  exact ih24 k_open k_depth z_39.2.1 z_39.2.2.1 z_39.2.2.2.1 z_39.2.2.2.2.1 z_39.2.2.2.2.2.1 z_39.2.2.2.2.2.2.1 z_39.2.2.2.2.2.2.2.1 z_39.2.2.2.2.2.2.2.2.1 w_deed z_39.2.2.2.2.2.2.2.2.2.1 z_39.2.2.2.2.2.2.2.2.2.2.1 z_39.2.2.2.2.2.2.2.2.2.2.2.1 z_39.2.2.2.2.2.2.2.2.2.2.2.2 w_mate w_there w_rows w_steps 0 x2_41 _ _ hP hS ls (lv_sub hl [3, 1, 0] rfl) h
                · have h := ie c_40 h
                  refine lv_aload_n hx hb dX10_readDraft_85 rfl (lv_at hl 1 rfl) ?_
                  refine lv_iload_n hx hb dX10_readDraft_86 rfl (lv_at hl 0 rfl) ?_
                  obtain ⟨z_42, e_z_42, h⟩ := bi h
                  refine efVi (rest := []) ⟨hx, hb, hml, hown, ht⟩ (c_X10_takeLast l D cy fu A_k k_open k_depth A_r z_39.2.1 z_39.2.2.1 A_t t_bytes t_wordCodes t_length z_39.2.2.2.1 z_39.2.2.2.2.1 z_39.2.2.2.2.2.1 z_39.2.2.2.2.2.2.1 z_39.2.2.2.2.2.2.2.1 t_end z_39.2.2.2.2.2.2.2.2.1 A_w w_deed z_39.2.2.2.2.2.2.2.2.2.1 z_39.2.2.2.2.2.2.2.2.2.2.1 z_39.2.2.2.2.2.2.2.2.2.2.2.1 z_39.2.2.2.2.2.2.2.2.2.2.2.2 w_mate w_there w_rows w_steps A_a a_name a_courage a_weight a_medals a_stood a_fled a_liked a_votes a_count a_living a_pride a_quota a_melted a_lost t_word z_42 e_z_42 _ rfl _ rfl) (cV ht mv_X10_takeLast tb_742 rfl rfl ⟨Nat.le_of_ble_eq_true rfl, Nat.le_of_ble_eq_true rfl⟩) hP hS hX [0, 1, 2, 3, 4] rfl rfl rfl rfl rfl rfl hl.1 rfl (Nat.le_of_ble_eq_true rfl) dX10_readDraft_87 ⟨Nat.le_of_ble_eq_true rfl, Nat.le_of_ble_eq_true rfl⟩ (fun H locs hP hS => ?_)
                  have hP : PD D A [bl_X10 cy A_k (A_r 0) (A_w 0) (A_a 0) z_42.2.1 z_42.2.2.1, bl_X6 cy A_r (A_t 0) z_42.2.2.2.1 z_42.2.2.2.2.1, bl_X7 cy A_t t_bytes t_wordCodes t_length z_42.2.2.2.2.2.1 z_42.2.2.2.2.2.2.1 z_42.2.2.2.2.2.2.2.1 z_42.2.2.2.2.2.2.2.2.1 z_42.2.2.2.2.2.2.2.2.2.1 t_end z_42.2.2.2.2.2.2.2.2.2.2.1, bl_X9 cy A_w z_42.2.2.2.2.2.2.2.2.2.2.2.1 z_39.2.2.2.2.2.2.2.2.2.1 z_39.2.2.2.2.2.2.2.2.2.2.1 z_39.2.2.2.2.2.2.2.2.2.2.2.1 z_39.2.2.2.2.2.2.2.2.2.2.2.2 w_mate w_there z_42.2.2.2.2.2.2.2.2.2.2.2.2.1 z_42.2.2.2.2.2.2.2.2.2.2.2.2.2, bl_X0 cy A_a a_name a_courage a_weight a_medals a_stood a_fled a_liked a_votes a_count a_living a_pride a_quota a_melted a_lost] H := hP
                  refine lv_if_eq (tgt := 97) hx hb dX10_readDraft_90 (by decide) (fun c_43 => ?_) (fun c_43 => ?_)
                  · have h := it c_43 h
                    refine lv_iconst (v := 0) hx hb dX10_readDraft_97 (by decide) ?_
                    refine lv_istore_n (lv' := [(1, .int 0), (3, .int t_word), (0, .ref (A_k 0)), (2, .int x2)]) hx hb dX10_readDraft_98 rfl hl (by decide) rfl (fun ls hl => ?_)
                    obtain ⟨x2_44, e_x2_44⟩ : ∃ y : Int32, y = x2 + 1 := ⟨_, rfl⟩
                    have h := bn e_x2_44 h
                    refine lv_iinc (v := x2_44) (lv' := [(2, .int x2_44), (1, .int 0), (3, .int t_word), (0, .ref (A_k 0))]) hx hb dX10_readDraft_99 hl (k := 3) rfl (by rw [e_x2_44]; rfl) (by decide) rfl (fun ls hl => ?_)
                    refine lv_goto (tgt := 24) hx hb dX10_readDraft_102 (by decide) ?_
                    exact ih24 z_42.2.1 z_42.2.2.1 z_42.2.2.2.1 z_42.2.2.2.2.1 z_42.2.2.2.2.2.1 z_42.2.2.2.2.2.2.1 z_42.2.2.2.2.2.2.2.1 z_42.2.2.2.2.2.2.2.2.1 z_42.2.2.2.2.2.2.2.2.2.1 z_42.2.2.2.2.2.2.2.2.2.2.1 z_42.2.2.2.2.2.2.2.2.2.2.2.1 z_39.2.2.2.2.2.2.2.2.2.1 z_39.2.2.2.2.2.2.2.2.2.2.1 z_39.2.2.2.2.2.2.2.2.2.2.2.1 z_39.2.2.2.2.2.2.2.2.2.2.2.2 w_mate w_there z_42.2.2.2.2.2.2.2.2.2.2.2.2.1 z_42.2.2.2.2.2.2.2.2.2.2.2.2.2 0 x2_44 _ _ hP hS ls (lv_sub hl [3, 1, 0] rfl) h
                  · have h := ie c_43 h
                    refine lv_iconst (v := 1) hx hb dX10_readDraft_93 (by decide) ?_
                    refine lv_goto (tgt := 98) hx hb dX10_readDraft_94 (by decide) ?_
                    refine lv_istore_n (lv' := [(1, .int 1), (3, .int t_word), (0, .ref (A_k 0)), (2, .int x2)]) hx hb dX10_readDraft_98 rfl hl (by decide) rfl (fun ls hl => ?_)
                    obtain ⟨x2_45, e_x2_45⟩ : ∃ y : Int32, y = x2 + 1 := ⟨_, rfl⟩
                    have h := bn e_x2_45 h
                    refine lv_iinc (v := x2_45) (lv' := [(2, .int x2_45), (1, .int 1), (3, .int t_word), (0, .ref (A_k 0))]) hx hb dX10_readDraft_99 hl (k := 3) rfl (by rw [e_x2_45]; rfl) (by decide) rfl (fun ls hl => ?_)
                    refine lv_goto (tgt := 24) hx hb dX10_readDraft_102 (by decide) ?_
                    exact ih24 z_42.2.1 z_42.2.2.1 z_42.2.2.2.1 z_42.2.2.2.2.1 z_42.2.2.2.2.2.1 z_42.2.2.2.2.2.2.1 z_42.2.2.2.2.2.2.2.1 z_42.2.2.2.2.2.2.2.2.1 z_42.2.2.2.2.2.2.2.2.2.1 z_42.2.2.2.2.2.2.2.2.2.2.1 z_42.2.2.2.2.2.2.2.2.2.2.2.1 z_39.2.2.2.2.2.2.2.2.2.1 z_39.2.2.2.2.2.2.2.2.2.2.1 z_39.2.2.2.2.2.2.2.2.2.2.2.1 z_39.2.2.2.2.2.2.2.2.2.2.2.2 w_mate w_there z_42.2.2.2.2.2.2.2.2.2.2.2.2.1 z_42.2.2.2.2.2.2.2.2.2.2.2.2.2 1 x2_45 _ _ hP hS ls (lv_sub hl [3, 1, 0] rfl) h
            · have h := it c_35 h
              refine lv_aload_n hx hb dX10_readDraft_62 rfl (lv_at hl 1 rfl) ?_
              obtain ⟨z_46, e_z_46, h⟩ := bi h
              refine efVi (rest := []) ⟨hx, hb, hml, hown, ht⟩ (c_X10_takeEnd l D cy fu A_k k_open k_depth A_r r_fault r_place A_t t_bytes t_wordCodes t_length t_kind t_start t_value t_word t_name t_end t_at A_w w_deed w_man w_other w_sign w_number w_mate w_there w_rows w_steps A_a a_name a_courage a_weight a_medals a_stood a_fled a_liked a_votes a_count a_living a_pride a_quota a_melted a_lost z_46 e_z_46 _ rfl _ rfl) (cV ht mv_X10_takeEnd tb_711 rfl rfl ⟨Nat.le_of_ble_eq_true rfl, Nat.le_of_ble_eq_true rfl⟩) hP hS hX [0, 1, 2, 3, 4] rfl rfl rfl rfl rfl rfl hl.1 rfl (Nat.le_of_ble_eq_true rfl) dX10_readDraft_63 ⟨Nat.le_of_ble_eq_true rfl, Nat.le_of_ble_eq_true rfl⟩ (fun H locs hP hS => ?_)
              have hP : PD D A [bl_X10 cy A_k (A_r 0) (A_w 0) (A_a 0) k_open z_46.2.1, bl_X6 cy A_r (A_t 0) z_46.2.2.1 z_46.2.2.2.1, bl_X7 cy A_t t_bytes t_wordCodes t_length z_46.2.2.2.2.1 z_46.2.2.2.2.2.1 z_46.2.2.2.2.2.2.1 z_46.2.2.2.2.2.2.2.1 z_46.2.2.2.2.2.2.2.2.1 t_end z_46.2.2.2.2.2.2.2.2.2.1, bl_X9 cy A_w z_46.2.2.2.2.2.2.2.2.2.2.1 w_man w_other w_sign w_number z_46.2.2.2.2.2.2.2.2.2.2.2.1 w_there z_46.2.2.2.2.2.2.2.2.2.2.2.2 w_steps, bl_X0 cy A_a a_name a_courage a_weight a_medals a_stood a_fled a_liked a_votes a_count a_living a_pride a_quota a_melted a_lost] H := hP
              refine lv_goto (tgt := 98) hx hb dX10_readDraft_66 (by decide) ?_
              refine lv_istore_n (lv' := [(1, .int z_46.1), (3, .int t_word), (0, .ref (A_k 0)), (2, .int x2)]) hx hb dX10_readDraft_98 rfl hl (by decide) rfl (fun ls hl => ?_)
              obtain ⟨x2_47, e_x2_47⟩ : ∃ y : Int32, y = x2 + 1 := ⟨_, rfl⟩
              have h := bn e_x2_47 h
              refine lv_iinc (v := x2_47) (lv' := [(2, .int x2_47), (1, .int z_46.1), (3, .int t_word), (0, .ref (A_k 0))]) hx hb dX10_readDraft_99 hl (k := 3) rfl (by rw [e_x2_47]; rfl) (by decide) rfl (fun ls hl => ?_)
              refine lv_goto (tgt := 24) hx hb dX10_readDraft_102 (by decide) ?_
              exact ih24 k_open z_46.2.1 z_46.2.2.1 z_46.2.2.2.1 z_46.2.2.2.2.1 z_46.2.2.2.2.2.1 z_46.2.2.2.2.2.2.1 z_46.2.2.2.2.2.2.2.1 z_46.2.2.2.2.2.2.2.2.1 z_46.2.2.2.2.2.2.2.2.2.1 z_46.2.2.2.2.2.2.2.2.2.2.1 w_man w_other w_sign w_number z_46.2.2.2.2.2.2.2.2.2.2.2.1 w_there z_46.2.2.2.2.2.2.2.2.2.2.2.2 w_steps z_46.1 x2_47 _ _ hP hS ls (lv_sub hl [3, 1, 0] rfl) h
  unfold f_X10_readDraft at h
  refine lv_aload_n hx hb dX10_readDraft_0 rfl (lv_at hl 0 rfl) ?_
  refine xget (i := 0) (j := 0) (k := 1) (T := TX10) hx hb ht tb_iX10 hown hX hP.1 rfl rfl rfl (by decide) tb_301 rfl dX10_readDraft_1 ?_
  obtain ⟨z_48, e_z_48, h⟩ := bi h
  refine efVv (rest := []) ⟨hx, hb, hml, hown, ht⟩ (c_X9_clear l D cy fu A_w w_deed w_man w_other w_sign w_number w_mate w_there w_rows w_steps z_48 e_z_48 _ rfl _ rfl) (cV ht mv_X9_clear tb_709 rfl rfl ⟨Nat.le_of_ble_eq_true rfl, Nat.le_of_ble_eq_true rfl⟩) hP hS hX [3] rfl rfl rfl rfl rfl rfl hl.1 rfl (Nat.le_of_ble_eq_true rfl) dX10_readDraft_4 ⟨Nat.le_of_ble_eq_true rfl, Nat.le_of_ble_eq_true rfl⟩ (fun H locs hP hS => ?_)
  have hP : PD D A [bl_X10 cy A_k (A_r 0) (A_w 0) (A_a 0) k_open k_depth, bl_X6 cy A_r (A_t 0) r_fault r_place, bl_X7 cy A_t t_bytes t_wordCodes t_length t_kind t_start t_value t_word t_name t_end t_at, bl_X9 cy A_w w_deed w_man w_other w_sign w_number w_mate z_48.1 z_48.2.1 z_48.2.2, bl_X0 cy A_a a_name a_courage a_weight a_medals a_stood a_fled a_liked a_votes a_count a_living a_pride a_quota a_melted a_lost] H := hP
  refine lv_aload_n hx hb dX10_readDraft_7 rfl (lv_at hl 0 rfl) ?_
  refine xget (i := 0) (j := 0) (k := 1) (T := TX10) hx hb ht tb_iX10 hown hX hP.1 rfl rfl rfl (by decide) tb_301 rfl dX10_readDraft_8 ?_
  refine lv_iconst (v := 1) hx hb dX10_readDraft_11 (by decide) ?_
  refine xput (i := 3) (j := 0) (k := 6) (T := TX9) tyX9 tyX9_ok nmX9 hx hb ht tb_iX9 hown hX hP hS rfl rfl rfl (by decide) tb_129 rfl rfl rfl (Nat.le_of_ble_eq_true rfl) dX10_readDraft_12 (fun H locs hP hS => ?_)
  have hP : PD D A [bl_X10 cy A_k (A_r 0) (A_w 0) (A_a 0) k_open k_depth, bl_X6 cy A_r (A_t 0) r_fault r_place, bl_X7 cy A_t t_bytes t_wordCodes t_length t_kind t_start t_value t_word t_name t_end t_at, bl_X9 cy A_w w_deed w_man w_other w_sign w_number w_mate 1 z_48.2.1 z_48.2.2, bl_X0 cy A_a a_name a_courage a_weight a_medals a_stood a_fled a_liked a_votes a_count a_living a_pride a_quota a_melted a_lost] H := hP
  refine lv_aload_n hx hb dX10_readDraft_15 rfl (lv_at hl 0 rfl) ?_
  refine lv_iconst (v := 0) hx hb dX10_readDraft_16 (by decide) ?_
  refine xput (i := 0) (j := 0) (k := 4) (T := TX10) tyX10 tyX10_ok nmX10 hx hb ht tb_iX10 hown hX hP hS rfl rfl rfl (by decide) tb_304 rfl rfl rfl (Nat.le_of_ble_eq_true rfl) dX10_readDraft_17 (fun H locs hP hS => ?_)
  have hP : PD D A [bl_X10 cy A_k (A_r 0) (A_w 0) (A_a 0) k_open 0, bl_X6 cy A_r (A_t 0) r_fault r_place, bl_X7 cy A_t t_bytes t_wordCodes t_length t_kind t_start t_value t_word t_name t_end t_at, bl_X9 cy A_w w_deed w_man w_other w_sign w_number w_mate 1 z_48.2.1 z_48.2.2, bl_X0 cy A_a a_name a_courage a_weight a_medals a_stood a_fled a_liked a_votes a_count a_living a_pride a_quota a_melted a_lost] H := hP
  refine lv_iconst (v := 1) hx hb dX10_readDraft_20 (by decide) ?_
  refine lv_istore_n (lv' := [(1, .int 1), (0, .ref (A_k 0))]) hx hb dX10_readDraft_21 rfl hl (by decide) rfl (fun ls hl => ?_)
  refine lv_iconst (v := 0) hx hb dX10_readDraft_22 (by decide) ?_
  refine lv_istore_n (lv' := [(2, .int 0), (1, .int 1), (0, .ref (A_k 0))]) hx hb dX10_readDraft_23 rfl hl (by decide) rfl (fun ls hl => ?_)
  exact l24 fu k_open 0 r_fault r_place t_kind t_start t_value t_word t_name t_at w_deed w_man w_other w_sign w_number w_mate 1 z_48.2.1 z_48.2.2 1 0 _ _ hP hS ls (lv_sub hl [2, 1, 0] rfl) h
